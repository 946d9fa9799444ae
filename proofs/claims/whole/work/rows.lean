section
-- ===== PART A: goes FIRST, ahead of the names: the tables' words, and 'selects' of the private methods out of them =====
/-- a private method of a class that the tables say can be made, by its rows of tables_1 -/
def lw_okq (q : MethodName × Nat) : Prop := (q.1.cls ≠ "java/lang/invoke/MethodHandle" ∧ q.1.cls ≠ "java/lang/invoke/VarHandle") ∧ Cond.instantiable q.1.cls q.2 ∈ tables_1 ∧ Cond.privateMethod q.1 ∈ tables_1 ∧ Cond.instanceMethod q.1 ∈ tables_1
theorem lw_p0 : lw_okq (⟨"QuarterMasks", "become", "(I)I"⟩, 9) := ⟨⟨by decide +kernel, by decide +kernel⟩, List.mem_of_getElem? (i := 13) (by decide +kernel), List.mem_of_getElem? (i := 195) (by decide +kernel), List.mem_of_getElem? (i := 196) (by decide +kernel)⟩
theorem lw_p1 : lw_okq (⟨"QuarterMasks$Parts", "gather", "(I)V"⟩, 5) := ⟨⟨by decide +kernel, by decide +kernel⟩, List.mem_of_getElem? (i := 55) (by decide +kernel), List.mem_of_getElem? (i := 288) (by decide +kernel), List.mem_of_getElem? (i := 289) (by decide +kernel)⟩
theorem lw_p2 : lw_okq (⟨"QuarterMasks$Parts", "beginFigures", "(II)V"⟩, 5) := ⟨⟨by decide +kernel, by decide +kernel⟩, List.mem_of_getElem? (i := 55) (by decide +kernel), List.mem_of_getElem? (i := 292) (by decide +kernel), List.mem_of_getElem? (i := 293) (by decide +kernel)⟩
theorem lw_p3 : lw_okq (⟨"QuarterMasks$Parts", "reach", "(III)I"⟩, 5) := ⟨⟨by decide +kernel, by decide +kernel⟩, List.mem_of_getElem? (i := 55) (by decide +kernel), List.mem_of_getElem? (i := 296) (by decide +kernel), List.mem_of_getElem? (i := 297) (by decide +kernel)⟩
theorem lw_p4 : lw_okq (⟨"QuarterMasks$Parts", "noteFigures", "(II)V"⟩, 5) := ⟨⟨by decide +kernel, by decide +kernel⟩, List.mem_of_getElem? (i := 55) (by decide +kernel), List.mem_of_getElem? (i := 304) (by decide +kernel), List.mem_of_getElem? (i := 305) (by decide +kernel)⟩
theorem lw_p5 : lw_okq (⟨"QuarterMasks", "found", "(I)I"⟩, 9) := ⟨⟨by decide +kernel, by decide +kernel⟩, List.mem_of_getElem? (i := 13) (by decide +kernel), List.mem_of_getElem? (i := 324) (by decide +kernel), List.mem_of_getElem? (i := 325) (by decide +kernel)⟩
theorem lw_p6 : lw_okq (⟨"QuarterMasks$Signs", "addSign", "(I)V"⟩, 6) := ⟨⟨by decide +kernel, by decide +kernel⟩, List.mem_of_getElem? (i := 83) (by decide +kernel), List.mem_of_getElem? (i := 376) (by decide +kernel), List.mem_of_getElem? (i := 377) (by decide +kernel)⟩
theorem lw_p7 : lw_okq (⟨"QuarterMasks$Sheet", "narrowed", "(I)I"⟩, 4) := ⟨⟨by decide +kernel, by decide +kernel⟩, List.mem_of_getElem? (i := 113) (by decide +kernel), List.mem_of_getElem? (i := 468) (by decide +kernel), List.mem_of_getElem? (i := 469) (by decide +kernel)⟩
theorem lw_p8 : lw_okq (⟨"QuarterMasks", "blocksOfAll", "()I"⟩, 9) := ⟨⟨by decide +kernel, by decide +kernel⟩, List.mem_of_getElem? (i := 13) (by decide +kernel), List.mem_of_getElem? (i := 498) (by decide +kernel), List.mem_of_getElem? (i := 499) (by decide +kernel)⟩
theorem lw_p9 : lw_okq (⟨"QuarterMasks", "partsOfAll", "()I"⟩, 9) := ⟨⟨by decide +kernel, by decide +kernel⟩, List.mem_of_getElem? (i := 13) (by decide +kernel), List.mem_of_getElem? (i := 502) (by decide +kernel), List.mem_of_getElem? (i := 503) (by decide +kernel)⟩
theorem lw_p10 : lw_okq (⟨"QuarterMasks", "cellsDarkInAll", "()I"⟩, 9) := ⟨⟨by decide +kernel, by decide +kernel⟩, List.mem_of_getElem? (i := 13) (by decide +kernel), List.mem_of_getElem? (i := 506) (by decide +kernel), List.mem_of_getElem? (i := 507) (by decide +kernel)⟩
theorem lw_p11 : lw_okq (⟨"QuarterMasks", "digestOfBlocks", "(JI)J"⟩, 9) := ⟨⟨by decide +kernel, by decide +kernel⟩, List.mem_of_getElem? (i := 13) (by decide +kernel), List.mem_of_getElem? (i := 518) (by decide +kernel), List.mem_of_getElem? (i := 519) (by decide +kernel)⟩
theorem lw_p12 : lw_okq (⟨"QuarterMasks", "digestOfCells", "(JI)J"⟩, 9) := ⟨⟨by decide +kernel, by decide +kernel⟩, List.mem_of_getElem? (i := 13) (by decide +kernel), List.mem_of_getElem? (i := 525) (by decide +kernel), List.mem_of_getElem? (i := 526) (by decide +kernel)⟩
theorem lw_p13 : lw_okq (⟨"QuarterMasks", "digestOfParts", "(JI)J"⟩, 9) := ⟨⟨by decide +kernel, by decide +kernel⟩, List.mem_of_getElem? (i := 13) (by decide +kernel), List.mem_of_getElem? (i := 533) (by decide +kernel), List.mem_of_getElem? (i := 534) (by decide +kernel)⟩
theorem lw_p14 : lw_okq (⟨"QuarterMasks", "digestOfPairs", "(JI)J"⟩, 9) := ⟨⟨by decide +kernel, by decide +kernel⟩, List.mem_of_getElem? (i := 13) (by decide +kernel), List.mem_of_getElem? (i := 538) (by decide +kernel), List.mem_of_getElem? (i := 539) (by decide +kernel)⟩
theorem lw_p15 : lw_okq (⟨"QuarterMasksModel", "finds", "(I)I"⟩, 21) := ⟨⟨by decide +kernel, by decide +kernel⟩, List.mem_of_getElem? (i := 543) (by decide +kernel), List.mem_of_getElem? (i := 625) (by decide +kernel), List.mem_of_getElem? (i := 626) (by decide +kernel)⟩
def lw_privs_1 : List (MethodName × Nat) := [(⟨"QuarterMasks", "become", "(I)I"⟩, 9), (⟨"QuarterMasks$Parts", "gather", "(I)V"⟩, 5), (⟨"QuarterMasks$Parts", "beginFigures", "(II)V"⟩, 5), (⟨"QuarterMasks$Parts", "reach", "(III)I"⟩, 5), (⟨"QuarterMasks$Parts", "noteFigures", "(II)V"⟩, 5), (⟨"QuarterMasks", "found", "(I)I"⟩, 9), (⟨"QuarterMasks$Signs", "addSign", "(I)V"⟩, 6), (⟨"QuarterMasks$Sheet", "narrowed", "(I)I"⟩, 4), (⟨"QuarterMasks", "blocksOfAll", "()I"⟩, 9), (⟨"QuarterMasks", "partsOfAll", "()I"⟩, 9), (⟨"QuarterMasks", "cellsDarkInAll", "()I"⟩, 9), (⟨"QuarterMasks", "digestOfBlocks", "(JI)J"⟩, 9), (⟨"QuarterMasks", "digestOfCells", "(JI)J"⟩, 9), (⟨"QuarterMasks", "digestOfParts", "(JI)J"⟩, 9), (⟨"QuarterMasks", "digestOfPairs", "(JI)J"⟩, 9), (⟨"QuarterMasksModel", "finds", "(I)I"⟩, 21)]
theorem lw_r1 : ∀ q ∈ lw_privs_1, lw_okq q := List.forall_mem_cons.mpr ⟨lw_p0, List.forall_mem_cons.mpr ⟨lw_p1, List.forall_mem_cons.mpr ⟨lw_p2, List.forall_mem_cons.mpr ⟨lw_p3, List.forall_mem_cons.mpr ⟨lw_p4, List.forall_mem_cons.mpr ⟨lw_p5, List.forall_mem_cons.mpr ⟨lw_p6, List.forall_mem_cons.mpr ⟨lw_p7, List.forall_mem_cons.mpr ⟨lw_p8, List.forall_mem_cons.mpr ⟨lw_p9, List.forall_mem_cons.mpr ⟨lw_p10, List.forall_mem_cons.mpr ⟨lw_p11, List.forall_mem_cons.mpr ⟨lw_p12, List.forall_mem_cons.mpr ⟨lw_p13, List.forall_mem_cons.mpr ⟨lw_p14, List.forall_mem_cons.mpr ⟨lw_p15, fun _ h => absurd h List.not_mem_nil⟩⟩⟩⟩⟩⟩⟩⟩⟩⟩⟩⟩⟩⟩⟩⟩
theorem lw_p16 : lw_okq (⟨"QuarterMasksModel", "lacks", "(III)I"⟩, 21) := ⟨⟨by decide +kernel, by decide +kernel⟩, List.mem_of_getElem? (i := 543) (by decide +kernel), List.mem_of_getElem? (i := 637) (by decide +kernel), List.mem_of_getElem? (i := 638) (by decide +kernel)⟩
theorem lw_p17 : lw_okq (⟨"QuarterMasksModel", "starts", "(I)V"⟩, 21) := ⟨⟨by decide +kernel, by decide +kernel⟩, List.mem_of_getElem? (i := 543) (by decide +kernel), List.mem_of_getElem? (i := 668) (by decide +kernel), List.mem_of_getElem? (i := 669) (by decide +kernel)⟩
theorem lw_p18 : lw_okq (⟨"QuarterMasksModel", "sets", "(III)V"⟩, 21) := ⟨⟨by decide +kernel, by decide +kernel⟩, List.mem_of_getElem? (i := 543) (by decide +kernel), List.mem_of_getElem? (i := 672) (by decide +kernel), List.mem_of_getElem? (i := 673) (by decide +kernel)⟩
theorem lw_p19 : lw_okq (⟨"QuarterMasksModel", "become", "(I)I"⟩, 21) := ⟨⟨by decide +kernel, by decide +kernel⟩, List.mem_of_getElem? (i := 543) (by decide +kernel), List.mem_of_getElem? (i := 676) (by decide +kernel), List.mem_of_getElem? (i := 677) (by decide +kernel)⟩
theorem lw_p20 : lw_okq (⟨"QuarterMasksModel", "becomes", "(I)V"⟩, 21) := ⟨⟨by decide +kernel, by decide +kernel⟩, List.mem_of_getElem? (i := 543) (by decide +kernel), List.mem_of_getElem? (i := 680) (by decide +kernel), List.mem_of_getElem? (i := 681) (by decide +kernel)⟩
theorem lw_p21 : lw_okq (⟨"QuarterMasksModel", "darkOf", "(I)I"⟩, 21) := ⟨⟨by decide +kernel, by decide +kernel⟩, List.mem_of_getElem? (i := 543) (by decide +kernel), List.mem_of_getElem? (i := 684) (by decide +kernel), List.mem_of_getElem? (i := 685) (by decide +kernel)⟩
theorem lw_p22 : lw_okq (⟨"QuarterMasksModel", "dark", "(III)I"⟩, 21) := ⟨⟨by decide +kernel, by decide +kernel⟩, List.mem_of_getElem? (i := 543) (by decide +kernel), List.mem_of_getElem? (i := 688) (by decide +kernel), List.mem_of_getElem? (i := 689) (by decide +kernel)⟩
theorem lw_p23 : lw_okq (⟨"QuarterMasksModel", "lot", "(I)I"⟩, 21) := ⟨⟨by decide +kernel, by decide +kernel⟩, List.mem_of_getElem? (i := 543) (by decide +kernel), List.mem_of_getElem? (i := 697) (by decide +kernel), List.mem_of_getElem? (i := 698) (by decide +kernel)⟩
theorem lw_p24 : lw_okq (⟨"QuarterMasksModel", "clears", "()V"⟩, 21) := ⟨⟨by decide +kernel, by decide +kernel⟩, List.mem_of_getElem? (i := 543) (by decide +kernel), List.mem_of_getElem? (i := 716) (by decide +kernel), List.mem_of_getElem? (i := 717) (by decide +kernel)⟩
theorem lw_p25 : lw_okq (⟨"QuarterMasksModel", "nearOf", "(III)I"⟩, 21) := ⟨⟨by decide +kernel, by decide +kernel⟩, List.mem_of_getElem? (i := 543) (by decide +kernel), List.mem_of_getElem? (i := 729) (by decide +kernel), List.mem_of_getElem? (i := 730) (by decide +kernel)⟩
theorem lw_p26 : lw_okq (⟨"QuarterMasksModel", "labels", "(II)V"⟩, 21) := ⟨⟨by decide +kernel, by decide +kernel⟩, List.mem_of_getElem? (i := 543) (by decide +kernel), List.mem_of_getElem? (i := 740) (by decide +kernel), List.mem_of_getElem? (i := 741) (by decide +kernel)⟩
theorem lw_p27 : lw_okq (⟨"QuarterMasksModel", "floods", "(III)V"⟩, 21) := ⟨⟨by decide +kernel, by decide +kernel⟩, List.mem_of_getElem? (i := 543) (by decide +kernel), List.mem_of_getElem? (i := 744) (by decide +kernel), List.mem_of_getElem? (i := 745) (by decide +kernel)⟩
theorem lw_p28 : lw_okq (⟨"QuarterMasksModel", "takes", "(I)I"⟩, 21) := ⟨⟨by decide +kernel, by decide +kernel⟩, List.mem_of_getElem? (i := 543) (by decide +kernel), List.mem_of_getElem? (i := 752) (by decide +kernel), List.mem_of_getElem? (i := 753) (by decide +kernel)⟩
theorem lw_p29 : lw_okq (⟨"QuarterMasksModel", "later", "(III)V"⟩, 21) := ⟨⟨by decide +kernel, by decide +kernel⟩, List.mem_of_getElem? (i := 543) (by decide +kernel), List.mem_of_getElem? (i := 756) (by decide +kernel), List.mem_of_getElem? (i := 757) (by decide +kernel)⟩
theorem lw_p30 : lw_okq (⟨"QuarterMasksModel", "quarters", "(III)V"⟩, 21) := ⟨⟨by decide +kernel, by decide +kernel⟩, List.mem_of_getElem? (i := 543) (by decide +kernel), List.mem_of_getElem? (i := 760) (by decide +kernel), List.mem_of_getElem? (i := 761) (by decide +kernel)⟩
theorem lw_p31 : lw_okq (⟨"QuarterMasksModel", "blockBy", "(IIII)I"⟩, 21) := ⟨⟨by decide +kernel, by decide +kernel⟩, List.mem_of_getElem? (i := 543) (by decide +kernel), List.mem_of_getElem? (i := 776) (by decide +kernel), List.mem_of_getElem? (i := 777) (by decide +kernel)⟩
def lw_privs_2 : List (MethodName × Nat) := [(⟨"QuarterMasksModel", "lacks", "(III)I"⟩, 21), (⟨"QuarterMasksModel", "starts", "(I)V"⟩, 21), (⟨"QuarterMasksModel", "sets", "(III)V"⟩, 21), (⟨"QuarterMasksModel", "become", "(I)I"⟩, 21), (⟨"QuarterMasksModel", "becomes", "(I)V"⟩, 21), (⟨"QuarterMasksModel", "darkOf", "(I)I"⟩, 21), (⟨"QuarterMasksModel", "dark", "(III)I"⟩, 21), (⟨"QuarterMasksModel", "lot", "(I)I"⟩, 21), (⟨"QuarterMasksModel", "clears", "()V"⟩, 21), (⟨"QuarterMasksModel", "nearOf", "(III)I"⟩, 21), (⟨"QuarterMasksModel", "labels", "(II)V"⟩, 21), (⟨"QuarterMasksModel", "floods", "(III)V"⟩, 21), (⟨"QuarterMasksModel", "takes", "(I)I"⟩, 21), (⟨"QuarterMasksModel", "later", "(III)V"⟩, 21), (⟨"QuarterMasksModel", "quarters", "(III)V"⟩, 21), (⟨"QuarterMasksModel", "blockBy", "(IIII)I"⟩, 21)]
theorem lw_r2 : ∀ q ∈ lw_privs_2, lw_okq q := List.forall_mem_cons.mpr ⟨lw_p16, List.forall_mem_cons.mpr ⟨lw_p17, List.forall_mem_cons.mpr ⟨lw_p18, List.forall_mem_cons.mpr ⟨lw_p19, List.forall_mem_cons.mpr ⟨lw_p20, List.forall_mem_cons.mpr ⟨lw_p21, List.forall_mem_cons.mpr ⟨lw_p22, List.forall_mem_cons.mpr ⟨lw_p23, List.forall_mem_cons.mpr ⟨lw_p24, List.forall_mem_cons.mpr ⟨lw_p25, List.forall_mem_cons.mpr ⟨lw_p26, List.forall_mem_cons.mpr ⟨lw_p27, List.forall_mem_cons.mpr ⟨lw_p28, List.forall_mem_cons.mpr ⟨lw_p29, List.forall_mem_cons.mpr ⟨lw_p30, List.forall_mem_cons.mpr ⟨lw_p31, fun _ h => absurd h List.not_mem_nil⟩⟩⟩⟩⟩⟩⟩⟩⟩⟩⟩⟩⟩⟩⟩⟩
theorem lw_p32 : lw_okq (⟨"QuarterMasksModel", "isBlock", "(IIII)Z"⟩, 21) := ⟨⟨by decide +kernel, by decide +kernel⟩, List.mem_of_getElem? (i := 543) (by decide +kernel), List.mem_of_getElem? (i := 780) (by decide +kernel), List.mem_of_getElem? (i := 781) (by decide +kernel)⟩
theorem lw_p33 : lw_okq (⟨"QuarterMasksModel", "blocksBy", "(II)I"⟩, 21) := ⟨⟨by decide +kernel, by decide +kernel⟩, List.mem_of_getElem? (i := 543) (by decide +kernel), List.mem_of_getElem? (i := 788) (by decide +kernel), List.mem_of_getElem? (i := 789) (by decide +kernel)⟩
theorem lw_p34 : lw_okq (⟨"QuarterMasksModel", "shows", "(I)V"⟩, 21) := ⟨⟨by decide +kernel, by decide +kernel⟩, List.mem_of_getElem? (i := 543) (by decide +kernel), List.mem_of_getElem? (i := 792) (by decide +kernel), List.mem_of_getElem? (i := 793) (by decide +kernel)⟩
theorem lw_p35 : lw_okq (⟨"QuarterMasksModel", "shownBy", "(II)I"⟩, 21) := ⟨⟨by decide +kernel, by decide +kernel⟩, List.mem_of_getElem? (i := 543) (by decide +kernel), List.mem_of_getElem? (i := 808) (by decide +kernel), List.mem_of_getElem? (i := 809) (by decide +kernel)⟩
theorem lw_p36 : lw_okq (⟨"QuarterMasksModel", "signBy", "(I)I"⟩, 21) := ⟨⟨by decide +kernel, by decide +kernel⟩, List.mem_of_getElem? (i := 543) (by decide +kernel), List.mem_of_getElem? (i := 812) (by decide +kernel), List.mem_of_getElem? (i := 813) (by decide +kernel)⟩
theorem lw_p37 : lw_okq (⟨"QuarterMasksModel", "allBy", "(II)I"⟩, 21) := ⟨⟨by decide +kernel, by decide +kernel⟩, List.mem_of_getElem? (i := 543) (by decide +kernel), List.mem_of_getElem? (i := 820) (by decide +kernel), List.mem_of_getElem? (i := 821) (by decide +kernel)⟩
theorem lw_p38 : lw_okq (⟨"QuarterMasksModel", "partsOf", "(I)I"⟩, 21) := ⟨⟨by decide +kernel, by decide +kernel⟩, List.mem_of_getElem? (i := 543) (by decide +kernel), List.mem_of_getElem? (i := 824) (by decide +kernel), List.mem_of_getElem? (i := 825) (by decide +kernel)⟩
theorem lw_p39 : lw_okq (⟨"QuarterMasksModel", "borderOf", "(I)I"⟩, 21) := ⟨⟨by decide +kernel, by decide +kernel⟩, List.mem_of_getElem? (i := 543) (by decide +kernel), List.mem_of_getElem? (i := 828) (by decide +kernel), List.mem_of_getElem? (i := 829) (by decide +kernel)⟩
theorem lw_p40 : lw_okq (⟨"QuarterMasksModel", "borderAt", "(II)I"⟩, 21) := ⟨⟨by decide +kernel, by decide +kernel⟩, List.mem_of_getElem? (i := 543) (by decide +kernel), List.mem_of_getElem? (i := 832) (by decide +kernel), List.mem_of_getElem? (i := 833) (by decide +kernel)⟩
theorem lw_p41 : lw_okq (⟨"QuarterMasksModel", "holesOf", "(I)I"⟩, 21) := ⟨⟨by decide +kernel, by decide +kernel⟩, List.mem_of_getElem? (i := 543) (by decide +kernel), List.mem_of_getElem? (i := 836) (by decide +kernel), List.mem_of_getElem? (i := 837) (by decide +kernel)⟩
theorem lw_p42 : lw_okq (⟨"QuarterMasksModel", "partOr", "(III)I"⟩, 21) := ⟨⟨by decide +kernel, by decide +kernel⟩, List.mem_of_getElem? (i := 543) (by decide +kernel), List.mem_of_getElem? (i := 848) (by decide +kernel), List.mem_of_getElem? (i := 849) (by decide +kernel)⟩
theorem lw_p43 : lw_okq (⟨"QuarterMasksModel", "partBy", "(III)I"⟩, 21) := ⟨⟨by decide +kernel, by decide +kernel⟩, List.mem_of_getElem? (i := 543) (by decide +kernel), List.mem_of_getElem? (i := 853) (by decide +kernel), List.mem_of_getElem? (i := 854) (by decide +kernel)⟩
theorem lw_p44 : lw_okq (⟨"QuarterMasksModel", "bothBy", "(III)I"⟩, 21) := ⟨⟨by decide +kernel, by decide +kernel⟩, List.mem_of_getElem? (i := 543) (by decide +kernel), List.mem_of_getElem? (i := 868) (by decide +kernel), List.mem_of_getElem? (i := 869) (by decide +kernel)⟩
theorem lw_p45 : lw_okq (⟨"QuarterMasksModel", "allBlocks", "()I"⟩, 21) := ⟨⟨by decide +kernel, by decide +kernel⟩, List.mem_of_getElem? (i := 543) (by decide +kernel), List.mem_of_getElem? (i := 880) (by decide +kernel), List.mem_of_getElem? (i := 881) (by decide +kernel)⟩
theorem lw_p46 : lw_okq (⟨"QuarterMasksModel", "allParts", "()I"⟩, 21) := ⟨⟨by decide +kernel, by decide +kernel⟩, List.mem_of_getElem? (i := 543) (by decide +kernel), List.mem_of_getElem? (i := 884) (by decide +kernel), List.mem_of_getElem? (i := 885) (by decide +kernel)⟩
theorem lw_p47 : lw_okq (⟨"QuarterMasksModel", "inAll", "()I"⟩, 21) := ⟨⟨by decide +kernel, by decide +kernel⟩, List.mem_of_getElem? (i := 543) (by decide +kernel), List.mem_of_getElem? (i := 888) (by decide +kernel), List.mem_of_getElem? (i := 889) (by decide +kernel)⟩
def lw_privs_3 : List (MethodName × Nat) := [(⟨"QuarterMasksModel", "isBlock", "(IIII)Z"⟩, 21), (⟨"QuarterMasksModel", "blocksBy", "(II)I"⟩, 21), (⟨"QuarterMasksModel", "shows", "(I)V"⟩, 21), (⟨"QuarterMasksModel", "shownBy", "(II)I"⟩, 21), (⟨"QuarterMasksModel", "signBy", "(I)I"⟩, 21), (⟨"QuarterMasksModel", "allBy", "(II)I"⟩, 21), (⟨"QuarterMasksModel", "partsOf", "(I)I"⟩, 21), (⟨"QuarterMasksModel", "borderOf", "(I)I"⟩, 21), (⟨"QuarterMasksModel", "borderAt", "(II)I"⟩, 21), (⟨"QuarterMasksModel", "holesOf", "(I)I"⟩, 21), (⟨"QuarterMasksModel", "partOr", "(III)I"⟩, 21), (⟨"QuarterMasksModel", "partBy", "(III)I"⟩, 21), (⟨"QuarterMasksModel", "bothBy", "(III)I"⟩, 21), (⟨"QuarterMasksModel", "allBlocks", "()I"⟩, 21), (⟨"QuarterMasksModel", "allParts", "()I"⟩, 21), (⟨"QuarterMasksModel", "inAll", "()I"⟩, 21)]
theorem lw_r3 : ∀ q ∈ lw_privs_3, lw_okq q := List.forall_mem_cons.mpr ⟨lw_p32, List.forall_mem_cons.mpr ⟨lw_p33, List.forall_mem_cons.mpr ⟨lw_p34, List.forall_mem_cons.mpr ⟨lw_p35, List.forall_mem_cons.mpr ⟨lw_p36, List.forall_mem_cons.mpr ⟨lw_p37, List.forall_mem_cons.mpr ⟨lw_p38, List.forall_mem_cons.mpr ⟨lw_p39, List.forall_mem_cons.mpr ⟨lw_p40, List.forall_mem_cons.mpr ⟨lw_p41, List.forall_mem_cons.mpr ⟨lw_p42, List.forall_mem_cons.mpr ⟨lw_p43, List.forall_mem_cons.mpr ⟨lw_p44, List.forall_mem_cons.mpr ⟨lw_p45, List.forall_mem_cons.mpr ⟨lw_p46, List.forall_mem_cons.mpr ⟨lw_p47, fun _ h => absurd h List.not_mem_nil⟩⟩⟩⟩⟩⟩⟩⟩⟩⟩⟩⟩⟩⟩⟩⟩
theorem lw_p48 : lw_okq (⟨"QuarterMasksModel", "tellsMask", "(JI)J"⟩, 21) := ⟨⟨by decide +kernel, by decide +kernel⟩, List.mem_of_getElem? (i := 543) (by decide +kernel), List.mem_of_getElem? (i := 899) (by decide +kernel), List.mem_of_getElem? (i := 900) (by decide +kernel)⟩
def lw_privs_4 : List (MethodName × Nat) := [(⟨"QuarterMasksModel", "tellsMask", "(JI)J"⟩, 21)]
theorem lw_r4 : ∀ q ∈ lw_privs_4, lw_okq q := List.forall_mem_cons.mpr ⟨lw_p48, fun _ h => absurd h List.not_mem_nil⟩
def lw_privs : List (MethodName × Nat) := lw_privs_1 ++ (lw_privs_2 ++ (lw_privs_3 ++ (lw_privs_4)))
def lw_tbl : List Cond := k2_sels lw_privs ++ tables_1
theorem lw_privs_ok : ∀ q ∈ lw_privs, lw_okq q := by
  show ∀ q ∈ lw_privs_1 ++ (lw_privs_2 ++ (lw_privs_3 ++ (lw_privs_4))), lw_okq q
  exact List.forall_mem_append.mpr ⟨lw_r1, List.forall_mem_append.mpr ⟨lw_r2, List.forall_mem_append.mpr ⟨lw_r3, lw_r4⟩⟩⟩
end
section
/-! ===== BEGIN words of one list among another's, by their places ===== -/
theorem goodIn_r {big : List Cond} (ws : List Cond) (ps : List Nat) (hp : ws = ps.filterMap (fun i => big[i]?)) (h : ws.all goodWord = true) : GoodIn big ws := by
  intro w hw
  have h1 := List.all_eq_true.mp h w hw
  rw [hp] at hw
  obtain ⟨i, -, hi⟩ := List.mem_filterMap.mp hw
  have hm : w ∈ big := by first | exact List.mem_of_getElem? hi | exact List.getElem?_mem hi
  exact ⟨hm, good_of_word h1⟩
theorem goodIn_app {big a b : List Cond} (ha : GoodIn big a) (hb : GoodIn big b) : GoodIn big (a ++ b) := fun w h => (List.mem_append.mp h).elim (ha w) (hb w)
theorem goodIn_ca {big a b : List Cond} {c : Cond} (ha : GoodIn big (c :: a)) (hb : GoodIn big b) : GoodIn big (c :: (a ++ b)) := fun w h => (List.mem_cons.mp h).elim (fun e => ha w (List.mem_cons.mpr (Or.inl e))) (fun h => (List.mem_append.mp h).elim (fun h => ha w (List.mem_cons.mpr (Or.inr h))) (hb w))
theorem goodIn_sub {big ws : List Cond} (hm : ∀ w ∈ ws, w ∈ big) (h : ws.all goodWord = true) : GoodIn big ws := fun w hw => ⟨hm w hw, good_of_word (List.all_eq_true.mp h w hw)⟩
/-! ===== END ===== -/

/-! ===== BEGIN printed: names, fields, word lists, decode rows ===== -/
def RX0 : String := "QuarterMasks$Changes"
def TX0 : u_T := fun k => match k with
  | 0 => ("QuarterMasks$Changes", "masks", "[I", true)
  | 1 => ("QuarterMasks$Changes", "rows", "[I", true)
  | 2 => ("QuarterMasks$Changes", "next", "I", false)
  | _ => ("QuarterMasks$Changes", "known", "I", false)
def tyX0 : Nat → FieldType := fun k => match k with
  | 0 => .array .int
  | 1 => .array .int
  | 2 => .int
  | _ => .int
abbrev wsX00 : List Cond := u_ws RX0 TX0 4
theorem nmX0 : ∀ a, a < 4 → ∀ b, b < 4 → a ≠ b → (TX0 a).2.1 ≠ (TX0 b).2.1 := by decide +kernel
theorem tyX0_ok : ∀ k, k < 4 → parseFieldDescriptor (TX0 k).2.2.1 = some (tyX0 k) := by decide +kernel
abbrev cX0_init : ByteArray := prog_2_method_1_code
def yX0_init : MethodName := ⟨RX0, "<init>", "()V"⟩
abbrev cX0_keep : ByteArray := prog_2_method_2_code
def yX0_keep : MethodName := ⟨RX0, "keep", "(ILQuarterMasks$Grid;)V"⟩
abbrev cX0_undo : ByteArray := prog_2_method_3_code
def yX0_undo : MethodName := ⟨RX0, "undo", "(LQuarterMasks$Grid;)I"⟩
def RX1 : String := "QuarterMasks$Grid"
def TX1 : u_T := fun k => match k with
  | _ => ("QuarterMasks$Grid", "rows", "[I", true)
def tyX1 : Nat → FieldType := fun k => match k with
  | _ => .array .int
abbrev wsX10 : List Cond := u_ws RX1 TX1 1
theorem nmX1 : ∀ a, a < 1 → ∀ b, b < 1 → a ≠ b → (TX1 a).2.1 ≠ (TX1 b).2.1 := by decide +kernel
theorem tyX1_ok : ∀ k, k < 1 → parseFieldDescriptor (TX1 k).2.2.1 = some (tyX1 k) := by decide +kernel
abbrev cX1_init : ByteArray := prog_3_method_1_code
def yX1_init : MethodName := ⟨RX1, "<init>", "()V"⟩
abbrev cX1_row : ByteArray := prog_3_method_2_code
def yX1_row : MethodName := ⟨RX1, "row", "(I)I"⟩
abbrev cX1_setRow : ByteArray := prog_3_method_3_code
def yX1_setRow : MethodName := ⟨RX1, "setRow", "(II)V"⟩
abbrev cX1_isDark : ByteArray := prog_3_method_4_code
def yX1_isDark : MethodName := ⟨RX1, "isDark", "(II)Z"⟩
abbrev cX1_flip : ByteArray := prog_3_method_5_code
def yX1_flip : MethodName := ⟨RX1, "flip", "(II)V"⟩
abbrev cX1_paint : ByteArray := prog_3_method_6_code
def yX1_paint : MethodName := ⟨RX1, "paint", "(IIIII)V"⟩
abbrev cX1_take : ByteArray := prog_3_method_7_code
def yX1_take : MethodName := ⟨RX1, "take", "(LQuarterMasks$Grid;)V"⟩
abbrev cX1_takeTurnedOver : ByteArray := prog_3_method_8_code
def yX1_takeTurnedOver : MethodName := ⟨RX1, "takeTurnedOver", "(LQuarterMasks$Grid;)V"⟩
abbrev cX1_takeTurnedRight : ByteArray := prog_3_method_9_code
def yX1_takeTurnedRight : MethodName := ⟨RX1, "takeTurnedRight", "(LQuarterMasks$Grid;)V"⟩
abbrev cX1_takeWidened : ByteArray := prog_3_method_10_code
def yX1_takeWidened : MethodName := ⟨RX1, "takeWidened", "(LQuarterMasks$Grid;)V"⟩
abbrev cX1_neighboursInRow : ByteArray := prog_3_method_11_code
def yX1_neighboursInRow : MethodName := ⟨RX1, "neighboursInRow", "(I)I"⟩
abbrev cX1_darkCells : ByteArray := prog_3_method_12_code
def yX1_darkCells : MethodName := ⟨RX1, "darkCells", "()I"⟩
abbrev cX1_darkCellsIn : ByteArray := prog_3_method_13_code
def yX1_darkCellsIn : MethodName := ⟨RX1, "darkCellsIn", "(LQuarterMasks$Grid;)I"⟩
abbrev cX1_sameAs : ByteArray := prog_3_method_14_code
def yX1_sameAs : MethodName := ⟨RX1, "sameAs", "(LQuarterMasks$Grid;)Z"⟩
abbrev cX1_touches : ByteArray := prog_3_method_15_code
def yX1_touches : MethodName := ⟨RX1, "touches", "(LQuarterMasks$Grid;)Z"⟩
abbrev cX1_border : ByteArray := prog_3_method_16_code
def yX1_border : MethodName := ⟨RX1, "border", "()I"⟩
abbrev cX1_signOfSquare : ByteArray := prog_3_method_17_code
def yX1_signOfSquare : MethodName := ⟨RX1, "signOfSquare", "(III)I"⟩
abbrev cX1_sideOfBlock : ByteArray := prog_3_method_18_code
def yX1_sideOfBlock : MethodName := ⟨RX1, "sideOfBlock", "(II)I"⟩
abbrev cX1_distanceFrom : ByteArray := prog_3_method_19_code
def yX1_distanceFrom : MethodName := ⟨RX1, "distanceFrom", "(II)I"⟩
abbrev cX1_gapInRow : ByteArray := prog_3_method_20_code
def yX1_gapInRow : MethodName := ⟨RX1, "gapInRow", "(II)I"⟩
def RX2 : String := "QuarterMasks$Parts"
def TX2 : u_T := fun k => match k with
  | 0 => ("QuarterMasks$Parts", "seen", "LQuarterMasks$Grid;", true)
  | 1 => ("QuarterMasks$Parts", "labels", "[I", true)
  | 2 => ("QuarterMasks$Parts", "reached", "[I", true)
  | 3 => ("QuarterMasks$Parts", "figures", "[I", true)
  | _ => ("QuarterMasks$Parts", "parts", "I", false)
def tyX2 : Nat → FieldType := fun k => match k with
  | 0 => .object "QuarterMasks$Grid"
  | 1 => .array .int
  | 2 => .array .int
  | 3 => .array .int
  | _ => .int
abbrev wsX20 : List Cond := u_ws RX2 TX2 5
theorem nmX2 : ∀ a, a < 5 → ∀ b, b < 5 → a ≠ b → (TX2 a).2.1 ≠ (TX2 b).2.1 := by decide +kernel
theorem tyX2_ok : ∀ k, k < 5 → parseFieldDescriptor (TX2 k).2.2.1 = some (tyX2 k) := by decide +kernel
abbrev cX2_init : ByteArray := prog_4_method_1_code
def yX2_init : MethodName := ⟨RX2, "<init>", "()V"⟩
abbrev cX2_look : ByteArray := prog_4_method_2_code
def yX2_look : MethodName := ⟨RX2, "look", "(LQuarterMasks$Grid;)V"⟩
abbrev cX2_gather : ByteArray := prog_4_method_3_code
def yX2_gather : MethodName := ⟨RX2, "gather", "(I)V"⟩
abbrev cX2_reach : ByteArray := prog_4_method_4_code
def yX2_reach : MethodName := ⟨RX2, "reach", "(III)I"⟩
abbrev cX2_beginFigures : ByteArray := prog_4_method_5_code
def yX2_beginFigures : MethodName := ⟨RX2, "beginFigures", "(II)V"⟩
abbrev cX2_noteFigures : ByteArray := prog_4_method_6_code
def yX2_noteFigures : MethodName := ⟨RX2, "noteFigures", "(II)V"⟩
abbrev cX2_labelAt : ByteArray := prog_4_method_7_code
def yX2_labelAt : MethodName := ⟨RX2, "labelAt", "(II)I"⟩
abbrev cX2_rowOfPart : ByteArray := prog_4_method_8_code
def yX2_rowOfPart : MethodName := ⟨RX2, "rowOfPart", "(II)I"⟩
abbrev cX2_figure : ByteArray := prog_4_method_9_code
def yX2_figure : MethodName := ⟨RX2, "figure", "(II)I"⟩
abbrev cX2_partsOffTheEdge : ByteArray := prog_4_method_10_code
def yX2_partsOffTheEdge : MethodName := ⟨RX2, "partsOffTheEdge", "()I"⟩
def RX3 : String := "QuarterMasks$Sheet"
def TX3 : u_T := fun k => match k with
  | 0 => ("QuarterMasks$Sheet", "items", "[I", true)
  | 1 => ("QuarterMasks$Sheet", "lost", "Z", false)
  | 2 => ("QuarterMasks$Sheet", "form", "I", false)
  | _ => ("QuarterMasks$Sheet", "size", "I", false)
def tyX3 : Nat → FieldType := fun k => match k with
  | 0 => .array .int
  | 1 => .boolean
  | 2 => .int
  | _ => .int
abbrev wsX30 : List Cond := u_ws RX3 TX3 4
theorem nmX3 : ∀ a, a < 4 → ∀ b, b < 4 → a ≠ b → (TX3 a).2.1 ≠ (TX3 b).2.1 := by decide +kernel
theorem tyX3_ok : ∀ k, k < 4 → parseFieldDescriptor (TX3 k).2.2.1 = some (tyX3 k) := by decide +kernel
abbrev cX3_init : ByteArray := prog_5_method_1_code
def yX3_init : MethodName := ⟨RX3, "<init>", "()V"⟩
abbrev cX3_begin : ByteArray := prog_5_method_2_code
def yX3_begin : MethodName := ⟨RX3, "begin", "(II)V"⟩
abbrev cX3_item : ByteArray := prog_5_method_3_code
def yX3_item : MethodName := ⟨RX3, "item", "(I)I"⟩
abbrev cX3_setItem : ByteArray := prog_5_method_4_code
def yX3_setItem : MethodName := ⟨RX3, "setItem", "(II)V"⟩
abbrev cX3_narrowed : ByteArray := prog_5_method_5_code
def yX3_narrowed : MethodName := ⟨RX3, "narrowed", "(I)I"⟩
abbrev cX3_hasItems : ByteArray := prog_5_method_6_code
def yX3_hasItems : MethodName := ⟨RX3, "hasItems", "(II)Z"⟩
def RX4 : String := "QuarterMasks$Signs"
def TX4 : u_T := fun k => match k with
  | 0 => ("QuarterMasks$Signs", "seen", "LQuarterMasks$Grid;", true)
  | 1 => ("QuarterMasks$Signs", "list", "[I", true)
  | 2 => ("QuarterMasks$Signs", "told", "I", false)
  | 3 => ("QuarterMasks$Signs", "darkBlocks", "I", false)
  | 4 => ("QuarterMasks$Signs", "mixed", "I", false)
  | _ => ("QuarterMasks$Signs", "deepest", "I", false)
def tyX4 : Nat → FieldType := fun k => match k with
  | 0 => .object "QuarterMasks$Grid"
  | 1 => .array .int
  | 2 => .int
  | 3 => .int
  | 4 => .int
  | _ => .int
abbrev wsX40 : List Cond := u_ws RX4 TX4 6
theorem nmX4 : ∀ a, a < 6 → ∀ b, b < 6 → a ≠ b → (TX4 a).2.1 ≠ (TX4 b).2.1 := by decide +kernel
theorem tyX4_ok : ∀ k, k < 6 → parseFieldDescriptor (TX4 k).2.2.1 = some (tyX4 k) := by decide +kernel
abbrev cX4_init : ByteArray := prog_6_method_1_code
def yX4_init : MethodName := ⟨RX4, "<init>", "()V"⟩
abbrev cX4_look : ByteArray := prog_6_method_2_code
def yX4_look : MethodName := ⟨RX4, "look", "(LQuarterMasks$Grid;)V"⟩
abbrev cX4_tellSquare : ByteArray := prog_6_method_3_code
def yX4_tellSquare : MethodName := ⟨RX4, "tellSquare", "(LQuarterMasks$Signs;IIII)V"⟩
abbrev cX4_addSign : ByteArray := prog_6_method_4_code
def yX4_addSign : MethodName := ⟨RX4, "addSign", "(I)V"⟩
abbrev cX4_sign : ByteArray := prog_6_method_5_code
def yX4_sign : MethodName := ⟨RX4, "sign", "(I)I"⟩
def RX5 : String := "QuarterMasks"
def TX5 : u_T := fun k => match k with
  | 0 => ("QuarterMasks", "masks", "[LQuarterMasks$Grid;", true)
  | 1 => ("QuarterMasks", "sheets", "[LQuarterMasks$Sheet;", true)
  | 2 => ("QuarterMasks", "changes", "LQuarterMasks$Changes;", true)
  | 3 => ("QuarterMasks", "made", "LQuarterMasks$Grid;", true)
  | 4 => ("QuarterMasks", "spare", "LQuarterMasks$Grid;", true)
  | 5 => ("QuarterMasks", "darkParts", "LQuarterMasks$Parts;", true)
  | 6 => ("QuarterMasks", "lightParts", "LQuarterMasks$Parts;", true)
  | 7 => ("QuarterMasks", "signs", "LQuarterMasks$Signs;", true)
  | _ => ("QuarterMasks", "latestFinding", "I", false)
def tyX5 : Nat → FieldType := fun k => match k with
  | 0 => .array (.object "QuarterMasks$Grid")
  | 1 => .array (.object "QuarterMasks$Sheet")
  | 2 => .object "QuarterMasks$Changes"
  | 3 => .object "QuarterMasks$Grid"
  | 4 => .object "QuarterMasks$Grid"
  | 5 => .object "QuarterMasks$Parts"
  | 6 => .object "QuarterMasks$Parts"
  | 7 => .object "QuarterMasks$Signs"
  | _ => .int
abbrev wsX50 : List Cond := u_ws RX5 TX5 9
theorem nmX5 : ∀ a, a < 9 → ∀ b, b < 9 → a ≠ b → (TX5 a).2.1 ≠ (TX5 b).2.1 := by decide +kernel
theorem tyX5_ok : ∀ k, k < 9 → parseFieldDescriptor (TX5 k).2.2.1 = some (tyX5 k) := by decide +kernel
abbrev cX5_init : ByteArray := prog_1_method_1_code
def yX5_init : MethodName := ⟨RX5, "<init>", "()V"⟩
abbrev cX5_fill : ByteArray := prog_1_method_2_code
def yX5_fill : MethodName := ⟨RX5, "fill", "(IIIIII)I"⟩
abbrev cX5_dots : ByteArray := prog_1_method_3_code
def yX5_dots : MethodName := ⟨RX5, "dots", "(III)I"⟩
abbrev cX5_join : ByteArray := prog_1_method_4_code
def yX5_join : MethodName := ⟨RX5, "join", "(IIII)I"⟩
abbrev cX5_joinedRow : ByteArray := prog_1_method_5_code
def yX5_joinedRow : MethodName := ⟨RX5, "joinedRow", "(III)I"⟩
abbrev cX5_over : ByteArray := prog_1_method_6_code
def yX5_over : MethodName := ⟨RX5, "over", "(II)I"⟩
abbrev cX5_move : ByteArray := prog_1_method_7_code
def yX5_move : MethodName := ⟨RX5, "move", "(IIII)I"⟩
abbrev cX5_turn : ByteArray := prog_1_method_8_code
def yX5_turn : MethodName := ⟨RX5, "turn", "(III)I"⟩
abbrev cX5_band : ByteArray := prog_1_method_9_code
def yX5_band : MethodName := ⟨RX5, "band", "(III)I"⟩
abbrev cX5_pick : ByteArray := prog_1_method_10_code
def yX5_pick : MethodName := ⟨RX5, "pick", "(IIII)I"⟩
abbrev cX5_read : ByteArray := prog_1_method_11_code
def yX5_read : MethodName := ⟨RX5, "read", "(II)I"⟩
abbrev cX5_readSquare : ByteArray := prog_1_method_12_code
def yX5_readSquare : MethodName := ⟨RX5, "readSquare", "(LQuarterMasks$Sheet;ILQuarterMasks$Grid;III)I"⟩
abbrev cX5_back : ByteArray := prog_1_method_13_code
def yX5_back : MethodName := ⟨RX5, "back", "()I"⟩
abbrev cX5_become : ByteArray := prog_1_method_14_code
def yX5_become : MethodName := ⟨RX5, "become", "(I)I"⟩
abbrev cX5_cell : ByteArray := prog_1_method_15_code
def yX5_cell : MethodName := ⟨RX5, "cell", "(III)I"⟩
abbrev cX5_block : ByteArray := prog_1_method_16_code
def yX5_block : MethodName := ⟨RX5, "block", "(IIII)I"⟩
abbrev cX5_blocks : ByteArray := prog_1_method_17_code
def yX5_blocks : MethodName := ⟨RX5, "blocks", "(II)I"⟩
abbrev cX5_shown : ByteArray := prog_1_method_18_code
def yX5_shown : MethodName := ⟨RX5, "shown", "(II)I"⟩
abbrev cX5_all : ByteArray := prog_1_method_19_code
def yX5_all : MethodName := ⟨RX5, "all", "(II)I"⟩
abbrev cX5_label : ByteArray := prog_1_method_20_code
def yX5_label : MethodName := ⟨RX5, "label", "(III)I"⟩
abbrev cX5_part : ByteArray := prog_1_method_21_code
def yX5_part : MethodName := ⟨RX5, "part", "(III)I"⟩
abbrev cX5_near : ByteArray := prog_1_method_22_code
def yX5_near : MethodName := ⟨RX5, "near", "(III)I"⟩
abbrev cX5_both : ByteArray := prog_1_method_23_code
def yX5_both : MethodName := ⟨RX5, "both", "(III)I"⟩
abbrev cX5_sheet : ByteArray := prog_1_method_24_code
def yX5_sheet : MethodName := ⟨RX5, "sheet", "(III)I"⟩
abbrev cX5_lose : ByteArray := prog_1_method_25_code
def yX5_lose : MethodName := ⟨RX5, "lose", "(I)I"⟩
abbrev cX5_lay : ByteArray := prog_1_method_26_code
def yX5_lay : MethodName := ⟨RX5, "lay", "(IIII)I"⟩
abbrev cX5_get : ByteArray := prog_1_method_27_code
def yX5_get : MethodName := ⟨RX5, "get", "(III)I"⟩
abbrev cX5_findingAt : ByteArray := prog_1_method_28_code
def yX5_findingAt : MethodName := ⟨RX5, "findingAt", "(LQuarterMasks$Sheet;II)I"⟩
abbrev cX5_copy : ByteArray := prog_1_method_29_code
def yX5_copy : MethodName := ⟨RX5, "copy", "(IIIII)I"⟩
abbrev cX5_write : ByteArray := prog_1_method_30_code
def yX5_write : MethodName := ⟨RX5, "write", "(III)I"⟩
abbrev cX5_count : ByteArray := prog_1_method_31_code
def yX5_count : MethodName := ⟨RX5, "count", "(I)I"⟩
abbrev cX5_blocksOfAll : ByteArray := prog_1_method_32_code
def yX5_blocksOfAll : MethodName := ⟨RX5, "blocksOfAll", "()I"⟩
abbrev cX5_partsOfAll : ByteArray := prog_1_method_33_code
def yX5_partsOfAll : MethodName := ⟨RX5, "partsOfAll", "()I"⟩
abbrev cX5_cellsDarkInAll : ByteArray := prog_1_method_34_code
def yX5_cellsDarkInAll : MethodName := ⟨RX5, "cellsDarkInAll", "()I"⟩
abbrev cX5_digest : ByteArray := prog_1_method_35_code
def yX5_digest : MethodName := ⟨RX5, "digest", "()J"⟩
abbrev cX5_digestOfBlocks : ByteArray := prog_1_method_36_code
def yX5_digestOfBlocks : MethodName := ⟨RX5, "digestOfBlocks", "(JI)J"⟩
abbrev cX5_digestOfCells : ByteArray := prog_1_method_37_code
def yX5_digestOfCells : MethodName := ⟨RX5, "digestOfCells", "(JI)J"⟩
abbrev cX5_digestOfParts : ByteArray := prog_1_method_38_code
def yX5_digestOfParts : MethodName := ⟨RX5, "digestOfParts", "(JI)J"⟩
abbrev cX5_digestOfPairs : ByteArray := prog_1_method_39_code
def yX5_digestOfPairs : MethodName := ⟨RX5, "digestOfPairs", "(JI)J"⟩
abbrev cX5_within : ByteArray := prog_1_method_40_code
def yX5_within : MethodName := ⟨RX5, "within", "(II)Z"⟩
abbrev cX5_isMask : ByteArray := prog_1_method_41_code
def yX5_isMask : MethodName := ⟨RX5, "isMask", "(I)Z"⟩
abbrev cX5_isCell : ByteArray := prog_1_method_42_code
def yX5_isCell : MethodName := ⟨RX5, "isCell", "(II)Z"⟩
abbrev cX5_isMove : ByteArray := prog_1_method_43_code
def yX5_isMove : MethodName := ⟨RX5, "isMove", "(I)Z"⟩
abbrev cX5_isSheet : ByteArray := prog_1_method_44_code
def yX5_isSheet : MethodName := ⟨RX5, "isSheet", "(I)Z"⟩
abbrev cX5_found : ByteArray := prog_1_method_45_code
def yX5_found : MethodName := ⟨RX5, "found", "(I)I"⟩
def RX6 : String := "QuarterMasksModel"
def TX6 : u_T := fun k => match k with
  | 0 => ("QuarterMasksModel", "forms", "[I", true)
  | 1 => ("QuarterMasksModel", "sizes", "[I", true)
  | 2 => ("QuarterMasksModel", "items", "[I", true)
  | 3 => ("QuarterMasksModel", "moved", "[I", true)
  | 4 => ("QuarterMasksModel", "latest", "I", false)
  | 5 => ("QuarterMasksModel", "rows", "[I", true)
  | 6 => ("QuarterMasksModel", "fresh", "[I", true)
  | 7 => ("QuarterMasksModel", "oldMask", "[I", true)
  | 8 => ("QuarterMasksModel", "oldRows", "[I", true)
  | 9 => ("QuarterMasksModel", "known", "I", false)
  | 10 => ("QuarterMasksModel", "drawn", "I", false)
  | 11 => ("QuarterMasksModel", "label", "[I", true)
  | 12 => ("QuarterMasksModel", "pile", "[I", true)
  | 13 => ("QuarterMasksModel", "parts", "I", false)
  | 14 => ("QuarterMasksModel", "waitX", "[I", true)
  | 15 => ("QuarterMasksModel", "waitY", "[I", true)
  | 16 => ("QuarterMasksModel", "waitSide", "[I", true)
  | 17 => ("QuarterMasksModel", "waits", "I", false)
  | 18 => ("QuarterMasksModel", "sign", "[I", true)
  | 19 => ("QuarterMasksModel", "signs", "I", false)
  | _ => ("QuarterMasksModel", "many", "[I", true)
def tyX6 : Nat → FieldType := fun k => match k with
  | 0 => .array .int
  | 1 => .array .int
  | 2 => .array .int
  | 3 => .array .int
  | 4 => .int
  | 5 => .array .int
  | 6 => .array .int
  | 7 => .array .int
  | 8 => .array .int
  | 9 => .int
  | 10 => .int
  | 11 => .array .int
  | 12 => .array .int
  | 13 => .int
  | 14 => .array .int
  | 15 => .array .int
  | 16 => .array .int
  | 17 => .int
  | 18 => .array .int
  | 19 => .int
  | _ => .array .int
abbrev wsX60 : List Cond := u_ws RX6 TX6 21
theorem nmX6 : ∀ a, a < 21 → ∀ b, b < 21 → a ≠ b → (TX6 a).2.1 ≠ (TX6 b).2.1 := by decide +kernel
theorem tyX6_ok : ∀ k, k < 21 → parseFieldDescriptor (TX6 k).2.2.1 = some (tyX6 k) := by decide +kernel
abbrev cX6_init : ByteArray := prog_8_method_1_code
def yX6_init : MethodName := ⟨RX6, "<init>", "()V"⟩
abbrev cX6_in : ByteArray := prog_8_method_3_code
def yX6_in : MethodName := ⟨RX6, "in", "(JJJ)Z"⟩
abbrev cX6_isTwo : ByteArray := prog_8_method_4_code
def yX6_isTwo : MethodName := ⟨RX6, "isTwo", "(I)Z"⟩
abbrev cX6_lesser : ByteArray := prog_8_method_6_code
def yX6_lesser : MethodName := ⟨RX6, "lesser", "(II)I"⟩
abbrev cX6_greater : ByteArray := prog_8_method_7_code
def yX6_greater : MethodName := ⟨RX6, "greater", "(II)I"⟩
abbrev cX6_finds : ByteArray := prog_8_method_8_code
def yX6_finds : MethodName := ⟨RX6, "finds", "(I)I"⟩
abbrev cX6_isSheet : ByteArray := prog_8_method_9_code
def yX6_isSheet : MethodName := ⟨RX6, "isSheet", "(I)Z"⟩
abbrev cX6_sheet : ByteArray := prog_8_method_10_code
def yX6_sheet : MethodName := ⟨RX6, "sheet", "(III)I"⟩
abbrev cX6_lose : ByteArray := prog_8_method_11_code
def yX6_lose : MethodName := ⟨RX6, "lose", "(I)I"⟩
abbrev cX6_lacks : ByteArray := prog_8_method_12_code
def yX6_lacks : MethodName := ⟨RX6, "lacks", "(III)I"⟩
abbrev cX6_cut : ByteArray := prog_8_method_13_code
def yX6_cut : MethodName := ⟨RX6, "cut", "(II)I"⟩
abbrev cX6_lay : ByteArray := prog_8_method_14_code
def yX6_lay : MethodName := ⟨RX6, "lay", "(IIII)I"⟩
abbrev cX6_get : ByteArray := prog_8_method_15_code
def yX6_get : MethodName := ⟨RX6, "get", "(III)I"⟩
abbrev cX6_copy : ByteArray := prog_8_method_16_code
def yX6_copy : MethodName := ⟨RX6, "copy", "(IIIII)I"⟩
abbrev cX6_isMask : ByteArray := prog_8_method_17_code
def yX6_isMask : MethodName := ⟨RX6, "isMask", "(I)Z"⟩
abbrev cX6_isCell : ByteArray := prog_8_method_18_code
def yX6_isCell : MethodName := ⟨RX6, "isCell", "(II)Z"⟩
abbrev cX6_dark : ByteArray := prog_8_method_19_code
def yX6_dark : MethodName := ⟨RX6, "dark", "(III)I"⟩
abbrev cX6_darkOf : ByteArray := prog_8_method_20_code
def yX6_darkOf : MethodName := ⟨RX6, "darkOf", "(I)I"⟩
abbrev cX6_clears : ByteArray := prog_8_method_21_code
def yX6_clears : MethodName := ⟨RX6, "clears", "()V"⟩
abbrev cX6_starts : ByteArray := prog_8_method_22_code
def yX6_starts : MethodName := ⟨RX6, "starts", "(I)V"⟩
abbrev cX6_sets : ByteArray := prog_8_method_23_code
def yX6_sets : MethodName := ⟨RX6, "sets", "(III)V"⟩
abbrev cX6_becomes : ByteArray := prog_8_method_24_code
def yX6_becomes : MethodName := ⟨RX6, "becomes", "(I)V"⟩
abbrev cX6_become : ByteArray := prog_8_method_25_code
def yX6_become : MethodName := ⟨RX6, "become", "(I)I"⟩
abbrev cX6_fill : ByteArray := prog_8_method_26_code
def yX6_fill : MethodName := ⟨RX6, "fill", "(IIIIII)I"⟩
abbrev cX6_lot : ByteArray := prog_8_method_27_code
def yX6_lot : MethodName := ⟨RX6, "lot", "(I)I"⟩
abbrev cX6_dots : ByteArray := prog_8_method_28_code
def yX6_dots : MethodName := ⟨RX6, "dots", "(III)I"⟩
abbrev cX6_join : ByteArray := prog_8_method_29_code
def yX6_join : MethodName := ⟨RX6, "join", "(IIII)I"⟩
abbrev cX6_over : ByteArray := prog_8_method_30_code
def yX6_over : MethodName := ⟨RX6, "over", "(II)I"⟩
abbrev cX6_move : ByteArray := prog_8_method_31_code
def yX6_move : MethodName := ⟨RX6, "move", "(IIII)I"⟩
abbrev cX6_turn : ByteArray := prog_8_method_32_code
def yX6_turn : MethodName := ⟨RX6, "turn", "(III)I"⟩
abbrev cX6_apart : ByteArray := prog_8_method_33_code
def yX6_apart : MethodName := ⟨RX6, "apart", "(II)I"⟩
abbrev cX6_nearOf : ByteArray := prog_8_method_34_code
def yX6_nearOf : MethodName := ⟨RX6, "nearOf", "(III)I"⟩
abbrev cX6_band : ByteArray := prog_8_method_35_code
def yX6_band : MethodName := ⟨RX6, "band", "(III)I"⟩
abbrev cX6_floods : ByteArray := prog_8_method_36_code
def yX6_floods : MethodName := ⟨RX6, "floods", "(III)V"⟩
abbrev cX6_labels : ByteArray := prog_8_method_37_code
def yX6_labels : MethodName := ⟨RX6, "labels", "(II)V"⟩
abbrev cX6_pick : ByteArray := prog_8_method_38_code
def yX6_pick : MethodName := ⟨RX6, "pick", "(IIII)I"⟩
abbrev cX6_later : ByteArray := prog_8_method_39_code
def yX6_later : MethodName := ⟨RX6, "later", "(III)V"⟩
abbrev cX6_quarters : ByteArray := prog_8_method_40_code
def yX6_quarters : MethodName := ⟨RX6, "quarters", "(III)V"⟩
abbrev cX6_takes : ByteArray := prog_8_method_41_code
def yX6_takes : MethodName := ⟨RX6, "takes", "(I)I"⟩
abbrev cX6_read : ByteArray := prog_8_method_42_code
def yX6_read : MethodName := ⟨RX6, "read", "(II)I"⟩
abbrev cX6_back : ByteArray := prog_8_method_43_code
def yX6_back : MethodName := ⟨RX6, "back", "()I"⟩
abbrev cX6_cell : ByteArray := prog_8_method_44_code
def yX6_cell : MethodName := ⟨RX6, "cell", "(III)I"⟩
abbrev cX6_isBlock : ByteArray := prog_8_method_45_code
def yX6_isBlock : MethodName := ⟨RX6, "isBlock", "(IIII)Z"⟩
abbrev cX6_blockBy : ByteArray := prog_8_method_46_code
def yX6_blockBy : MethodName := ⟨RX6, "blockBy", "(IIII)I"⟩
abbrev cX6_block : ByteArray := prog_8_method_47_code
def yX6_block : MethodName := ⟨RX6, "block", "(IIII)I"⟩
abbrev cX6_deepOf : ByteArray := prog_8_method_48_code
def yX6_deepOf : MethodName := ⟨RX6, "deepOf", "(I)I"⟩
abbrev cX6_shows : ByteArray := prog_8_method_49_code
def yX6_shows : MethodName := ⟨RX6, "shows", "(I)V"⟩
abbrev cX6_blocksBy : ByteArray := prog_8_method_50_code
def yX6_blocksBy : MethodName := ⟨RX6, "blocksBy", "(II)I"⟩
abbrev cX6_blocks : ByteArray := prog_8_method_51_code
def yX6_blocks : MethodName := ⟨RX6, "blocks", "(II)I"⟩
abbrev cX6_signBy : ByteArray := prog_8_method_52_code
def yX6_signBy : MethodName := ⟨RX6, "signBy", "(I)I"⟩
abbrev cX6_shownBy : ByteArray := prog_8_method_53_code
def yX6_shownBy : MethodName := ⟨RX6, "shownBy", "(II)I"⟩
abbrev cX6_shown : ByteArray := prog_8_method_54_code
def yX6_shown : MethodName := ⟨RX6, "shown", "(II)I"⟩
abbrev cX6_borderAt : ByteArray := prog_8_method_55_code
def yX6_borderAt : MethodName := ⟨RX6, "borderAt", "(II)I"⟩
abbrev cX6_holesOf : ByteArray := prog_8_method_56_code
def yX6_holesOf : MethodName := ⟨RX6, "holesOf", "(I)I"⟩
abbrev cX6_partsOf : ByteArray := prog_8_method_57_code
def yX6_partsOf : MethodName := ⟨RX6, "partsOf", "(I)I"⟩
abbrev cX6_borderOf : ByteArray := prog_8_method_58_code
def yX6_borderOf : MethodName := ⟨RX6, "borderOf", "(I)I"⟩
abbrev cX6_allBy : ByteArray := prog_8_method_59_code
def yX6_allBy : MethodName := ⟨RX6, "allBy", "(II)I"⟩
abbrev cX6_all : ByteArray := prog_8_method_60_code
def yX6_all : MethodName := ⟨RX6, "all", "(II)I"⟩
abbrev cX6_label : ByteArray := prog_8_method_61_code
def yX6_label : MethodName := ⟨RX6, "label", "(III)I"⟩
abbrev cX6_partBy : ByteArray := prog_8_method_62_code
def yX6_partBy : MethodName := ⟨RX6, "partBy", "(III)I"⟩
abbrev cX6_partOr : ByteArray := prog_8_method_63_code
def yX6_partOr : MethodName := ⟨RX6, "partOr", "(III)I"⟩
abbrev cX6_part : ByteArray := prog_8_method_64_code
def yX6_part : MethodName := ⟨RX6, "part", "(III)I"⟩
abbrev cX6_near : ByteArray := prog_8_method_65_code
def yX6_near : MethodName := ⟨RX6, "near", "(III)I"⟩
abbrev cX6_bothBy : ByteArray := prog_8_method_66_code
def yX6_bothBy : MethodName := ⟨RX6, "bothBy", "(III)I"⟩
abbrev cX6_both : ByteArray := prog_8_method_67_code
def yX6_both : MethodName := ⟨RX6, "both", "(III)I"⟩
abbrev cX6_write : ByteArray := prog_8_method_68_code
def yX6_write : MethodName := ⟨RX6, "write", "(III)I"⟩
abbrev cX6_allBlocks : ByteArray := prog_8_method_69_code
def yX6_allBlocks : MethodName := ⟨RX6, "allBlocks", "()I"⟩
abbrev cX6_allParts : ByteArray := prog_8_method_70_code
def yX6_allParts : MethodName := ⟨RX6, "allParts", "()I"⟩
abbrev cX6_inAll : ByteArray := prog_8_method_71_code
def yX6_inAll : MethodName := ⟨RX6, "inAll", "()I"⟩
abbrev cX6_count : ByteArray := prog_8_method_72_code
def yX6_count : MethodName := ⟨RX6, "count", "(I)I"⟩
abbrev cX6_tellsMask : ByteArray := prog_8_method_73_code
def yX6_tellsMask : MethodName := ⟨RX6, "tellsMask", "(JI)J"⟩
abbrev cX6_digest : ByteArray := prog_8_method_74_code
def yX6_digest : MethodName := ⟨RX6, "digest", "()J"⟩
def RJ6 : String := "java/lang/Integer"
def TJ6 : u_T := fun k => match k with
  | _ => ("", "", "", false)
def tyJ6 : Nat → FieldType := fun k => match k with
  | _ => .int
abbrev wsJ60 : List Cond := u_ws RJ6 TJ6 0
theorem nmJ6 : ∀ a, a < 0 → ∀ b, b < 0 → a ≠ b → (TJ6 a).2.1 ≠ (TJ6 b).2.1 := by decide +kernel
theorem tyJ6_ok : ∀ k, k < 0 → parseFieldDescriptor (TJ6 k).2.2.1 = some (tyJ6 k) := by decide +kernel
abbrev cJ6_bitCount_0f7a4 : ByteArray := prog_9_method_49_code
def yJ6_bitCount_0f7a4 : MethodName := ⟨RJ6, "bitCount", "(I)I"⟩
def RJ9 : String := "java/lang/Math"
def TJ9 : u_T := fun k => match k with
  | _ => ("", "", "", false)
def tyJ9 : Nat → FieldType := fun k => match k with
  | _ => .int
abbrev wsJ90 : List Cond := u_ws RJ9 TJ9 0
theorem nmJ9 : ∀ a, a < 0 → ∀ b, b < 0 → a ≠ b → (TJ9 a).2.1 ≠ (TJ9 b).2.1 := by decide +kernel
theorem tyJ9_ok : ∀ k, k < 0 → parseFieldDescriptor (TJ9 k).2.2.1 = some (tyJ9 k) := by decide +kernel
abbrev cJ9_abs_0f7a4 : ByteArray := prog_10_method_59_code
def yJ9_abs_0f7a4 : MethodName := ⟨RJ9, "abs", "(I)I"⟩
abbrev cJ9_max_7cf53 : ByteArray := prog_10_method_65_code
def yJ9_max_7cf53 : MethodName := ⟨RJ9, "max", "(II)I"⟩
abbrev cJ9_min_7cf53 : ByteArray := prog_10_method_69_code
def yJ9_min_7cf53 : MethodName := ⟨RJ9, "min", "(II)I"⟩
def RJ10 : String := "java/lang/System"
def TJ10 : u_T := fun k => match k with
  | _ => ("", "", "", false)
def tyJ10 : Nat → FieldType := fun k => match k with
  | _ => .int
abbrev wsJ100 : List Cond := u_ws RJ10 TJ10 0
theorem nmJ10 : ∀ a, a < 0 → ∀ b, b < 0 → a ≠ b → (TJ10 a).2.1 ≠ (TJ10 b).2.1 := by decide +kernel
theorem tyJ10_ok : ∀ k, k < 0 → parseFieldDescriptor (TJ10 k).2.2.1 = some (tyJ10 k) := by decide +kernel
def RJ7 : String := "java/util/Arrays"
def TJ7 : u_T := fun k => match k with
  | _ => ("", "", "", false)
def tyJ7 : Nat → FieldType := fun k => match k with
  | _ => .int
abbrev wsJ70 : List Cond := u_ws RJ7 TJ7 0
theorem nmJ7 : ∀ a, a < 0 → ∀ b, b < 0 → a ≠ b → (TJ7 a).2.1 ≠ (TJ7 b).2.1 := by decide +kernel
theorem tyJ7_ok : ∀ k, k < 0 → parseFieldDescriptor (TJ7 k).2.2.1 = some (tyJ7 k) := by decide +kernel
abbrev cJ7_fill_53178 : ByteArray := prog_12_method_103_code
def yJ7_fill_53178 : MethodName := ⟨RJ7, "fill", "([II)V"⟩
def RL : String := "QuarterMasksLaw"
abbrev cL_law : ByteArray := code
def yL_law : MethodName := ⟨RL, "law", "([I)Z"⟩
def wsX0_init : List Cond := .code yX0_init cX0_init 1 none :: ([.methodLink RX0 3 objectInit, .instanceMethod objectInit, .code objectInit ⟨#[0xb1]⟩ 1 none, .arrayClass .int, .fieldLink RX0 9 "QuarterMasks$Changes" "masks" "[I", .fieldLink RX0 15 "QuarterMasks$Changes" "rows" "[I", .fieldLink RX0 18 "QuarterMasks$Changes" "next" "I", .fieldLink RX0 22 "QuarterMasks$Changes" "known" "I"] ++ wsX00)
def wsX1_row : List Cond := .code yX1_row cX1_row 2 (some .int) :: ([.fieldLink RX1 9 "QuarterMasks$Grid" "rows" "[I"] ++ wsX10)
def wsX0_keep : List Cond := .code yX0_keep cX0_keep 4 none :: ([.fieldLink RX0 9 "QuarterMasks$Changes" "masks" "[I", .fieldLink RX0 18 "QuarterMasks$Changes" "next" "I", .fieldLink RX0 15 "QuarterMasks$Changes" "rows" "[I", .fieldLink RX0 22 "QuarterMasks$Changes" "known" "I", .methodLink RX0 31 Lib.Math.min.name, .static Lib.Math.min.name, .initialized "java/lang/Math", .code Lib.Math.min.name Lib.Math.min.code 2 (some .int), .methodLink RX0 25 yX1_row, .instanceMethod yX1_row, .selects RX1 yX1_row yX1_row, .initialized RX1, .code yX1_row cX1_row 2 (some .int), .fieldLink RX1 9 "QuarterMasks$Grid" "rows" "[I"] ++ wsX00 ++ wsX10)
def wsX5_within : List Cond := .code yX5_within cX5_within 2 (some .boolean) :: ([])
def wsX1_setRow : List Cond := .code yX1_setRow cX1_setRow 3 none :: ([.fieldLink RX1 9 "QuarterMasks$Grid" "rows" "[I", .constant RX1 19 (65535), .static yX5_within, .initialized RX5, .code yX5_within cX5_within 2 (some .boolean)] ++ wsX10)
def wsX0_undo : List Cond := .code yX0_undo cX0_undo 3 (some .int) :: ([.fieldLink RX0 22 "QuarterMasks$Changes" "known" "I", .fieldLink RX0 18 "QuarterMasks$Changes" "next" "I", .fieldLink RX0 15 "QuarterMasks$Changes" "rows" "[I", .fieldLink RX0 9 "QuarterMasks$Changes" "masks" "[I", .methodLink RX0 37 yX1_setRow, .instanceMethod yX1_setRow, .selects RX1 yX1_setRow yX1_setRow, .initialized RX1, .code yX1_setRow cX1_setRow 3 none, .fieldLink RX1 9 "QuarterMasks$Grid" "rows" "[I", .constant RX1 19 (65535), .static yX5_within, .initialized RX5, .code yX5_within cX5_within 2 (some .boolean)] ++ wsX00 ++ wsX10)
def wsX1_init : List Cond := .code yX1_init cX1_init 1 none :: ([.methodLink RX1 3 objectInit, .instanceMethod objectInit, .code objectInit ⟨#[0xb1]⟩ 1 none, .arrayClass .int, .fieldLink RX1 9 "QuarterMasks$Grid" "rows" "[I"] ++ wsX10)
def wsX1_isDark : List Cond := .code yX1_isDark cX1_isDark 3 (some .boolean) :: ([.fieldLink RX1 9 "QuarterMasks$Grid" "rows" "[I"] ++ wsX10)
def wsX1_flip : List Cond := .code yX1_flip cX1_flip 3 none :: ([.methodLink RX1 20 yX1_row, .instanceMethod yX1_row, .selects RX1 yX1_row yX1_row, .initialized RX1, .code yX1_row cX1_row 2 (some .int), .fieldLink RX1 9 "QuarterMasks$Grid" "rows" "[I", .methodLink RX1 24 yX1_setRow, .instanceMethod yX1_setRow, .selects RX1 yX1_setRow yX1_setRow, .code yX1_setRow cX1_setRow 3 none, .constant RX1 19 (65535), .static yX5_within, .initialized RX5, .code yX5_within cX5_within 2 (some .boolean)] ++ wsX10)
def wsX1_paint : List Cond := .code yX1_paint cX1_paint 8 none :: ([.methodLink RX1 20 yX1_row, .instanceMethod yX1_row, .selects RX1 yX1_row yX1_row, .initialized RX1, .code yX1_row cX1_row 2 (some .int), .fieldLink RX1 9 "QuarterMasks$Grid" "rows" "[I", .methodLink RX1 24 yX1_setRow, .instanceMethod yX1_setRow, .selects RX1 yX1_setRow yX1_setRow, .code yX1_setRow cX1_setRow 3 none, .constant RX1 19 (65535), .static yX5_within, .initialized RX5, .code yX5_within cX5_within 2 (some .boolean)] ++ wsX10)
def wsX1_take : List Cond := .code yX1_take cX1_take 3 none :: ([.fieldLink RX1 9 "QuarterMasks$Grid" "rows" "[I"] ++ wsX10)
def wsX1_takeTurnedOver : List Cond := .code yX1_takeTurnedOver cX1_takeTurnedOver 3 none :: ([.fieldLink RX1 9 "QuarterMasks$Grid" "rows" "[I", .constant RX1 19 (65535)] ++ wsX10)
def wsX1_takeTurnedRight : List Cond := .code yX1_takeTurnedRight cX1_takeTurnedRight 5 none :: ([.fieldLink RX1 9 "QuarterMasks$Grid" "rows" "[I", .methodLink RX1 28 yX1_isDark, .instanceMethod yX1_isDark, .selects RX1 yX1_isDark yX1_isDark, .initialized RX1, .code yX1_isDark cX1_isDark 3 (some .boolean)] ++ wsX10)
def wsX1_neighboursInRow : List Cond := .code yX1_neighboursInRow cX1_neighboursInRow 2 (some .int) :: ([.constant RX1 19 (65535), .methodLink RX1 20 yX1_row, .instanceMethod yX1_row, .selects RX1 yX1_row yX1_row, .initialized RX1, .code yX1_row cX1_row 2 (some .int), .fieldLink RX1 9 "QuarterMasks$Grid" "rows" "[I"] ++ wsX10)
def wsX1_takeWidened : List Cond := .code yX1_takeWidened cX1_takeWidened 3 none :: ([.fieldLink RX1 9 "QuarterMasks$Grid" "rows" "[I", .methodLink RX1 31 yX1_neighboursInRow, .instanceMethod yX1_neighboursInRow, .selects RX1 yX1_neighboursInRow yX1_neighboursInRow, .initialized RX1, .code yX1_neighboursInRow cX1_neighboursInRow 2 (some .int), .constant RX1 19 (65535), .methodLink RX1 20 yX1_row, .instanceMethod yX1_row, .selects RX1 yX1_row yX1_row, .code yX1_row cX1_row 2 (some .int)] ++ wsX10)
def wsJ6_bitCount_0f7a4 : List Cond := .code yJ6_bitCount_0f7a4 cJ6_bitCount_0f7a4 1 (some .int) :: ([.constant RJ6 265 (1431655765), .constant RJ6 266 (858993459), .constant RJ6 267 (252645135)])
def wsX1_darkCells : List Cond := .code yX1_darkCells cX1_darkCells 3 (some .int) :: ([.fieldLink RX1 9 "QuarterMasks$Grid" "rows" "[I", .methodLink RX1 34 yJ6_bitCount_0f7a4, .static yJ6_bitCount_0f7a4, .initialized RJ6, .code yJ6_bitCount_0f7a4 cJ6_bitCount_0f7a4 1 (some .int), .constant RJ6 265 (1431655765), .constant RJ6 266 (858993459), .constant RJ6 267 (252645135)] ++ wsX10)
def wsX1_darkCellsIn : List Cond := .code yX1_darkCellsIn cX1_darkCellsIn 4 (some .int) :: ([.fieldLink RX1 9 "QuarterMasks$Grid" "rows" "[I", .methodLink RX1 34 yJ6_bitCount_0f7a4, .static yJ6_bitCount_0f7a4, .initialized RJ6, .code yJ6_bitCount_0f7a4 cJ6_bitCount_0f7a4 1 (some .int), .constant RJ6 265 (1431655765), .constant RJ6 266 (858993459), .constant RJ6 267 (252645135)] ++ wsX10)
def wsX1_sameAs : List Cond := .code yX1_sameAs cX1_sameAs 3 (some .boolean) :: ([.fieldLink RX1 9 "QuarterMasks$Grid" "rows" "[I"] ++ wsX10)
def wsX1_touches : List Cond := .code yX1_touches cX1_touches 3 (some .boolean) :: ([.fieldLink RX1 9 "QuarterMasks$Grid" "rows" "[I", .methodLink RX1 31 yX1_neighboursInRow, .instanceMethod yX1_neighboursInRow, .selects RX1 yX1_neighboursInRow yX1_neighboursInRow, .initialized RX1, .code yX1_neighboursInRow cX1_neighboursInRow 2 (some .int), .constant RX1 19 (65535), .methodLink RX1 20 yX1_row, .instanceMethod yX1_row, .selects RX1 yX1_row yX1_row, .code yX1_row cX1_row 2 (some .int)] ++ wsX10)
def wsX1_border : List Cond := .code yX1_border cX1_border 3 (some .int) :: ([.fieldLink RX1 9 "QuarterMasks$Grid" "rows" "[I", .methodLink RX1 34 yJ6_bitCount_0f7a4, .static yJ6_bitCount_0f7a4, .initialized RJ6, .code yJ6_bitCount_0f7a4 cJ6_bitCount_0f7a4 1 (some .int), .constant RJ6 265 (1431655765), .constant RJ6 266 (858993459), .constant RJ6 267 (252645135), .methodLink RX1 20 yX1_row, .instanceMethod yX1_row, .selects RX1 yX1_row yX1_row, .initialized RX1, .code yX1_row cX1_row 2 (some .int), .methodLink RX1 39 yX1_darkCells, .instanceMethod yX1_darkCells, .selects RX1 yX1_darkCells yX1_darkCells, .code yX1_darkCells cX1_darkCells 3 (some .int)] ++ wsX10)
def wsX1_signOfSquare : List Cond := .code yX1_signOfSquare cX1_signOfSquare 7 (some .int) :: ([.methodLink RX1 20 yX1_row, .instanceMethod yX1_row, .selects RX1 yX1_row yX1_row, .initialized RX1, .code yX1_row cX1_row 2 (some .int), .fieldLink RX1 9 "QuarterMasks$Grid" "rows" "[I"] ++ wsX10)
def wsX1_sideOfBlock : List Cond := .code yX1_sideOfBlock cX1_sideOfBlock 4 (some .int) :: ([.methodLink RX1 43 yX1_signOfSquare, .instanceMethod yX1_signOfSquare, .selects RX1 yX1_signOfSquare yX1_signOfSquare, .initialized RX1, .code yX1_signOfSquare cX1_signOfSquare 7 (some .int), .methodLink RX1 20 yX1_row, .instanceMethod yX1_row, .selects RX1 yX1_row yX1_row, .code yX1_row cX1_row 2 (some .int), .fieldLink RX1 9 "QuarterMasks$Grid" "rows" "[I"] ++ wsX10)
def wsX1_gapInRow : List Cond := .code yX1_gapInRow cX1_gapInRow 4 (some .int) :: ([])
def wsX1_distanceFrom : List Cond := .code yX1_distanceFrom cX1_distanceFrom 7 (some .int) :: ([.fieldLink RX1 9 "QuarterMasks$Grid" "rows" "[I", .methodLink RX1 51 Lib.Math.abs.name, .static Lib.Math.abs.name, .initialized "java/lang/Math", .code Lib.Math.abs.name Lib.Math.abs.code 1 (some .int), .methodLink RX1 47 yX1_gapInRow, .static yX1_gapInRow, .initialized RX1, .code yX1_gapInRow cX1_gapInRow 4 (some .int)] ++ wsX10)
def wsJ7_fill_53178 : List Cond := .code yJ7_fill_53178 cJ7_fill_53178 4 none :: ([])
def wsX2_init : List Cond := .code yX2_init cX2_init 1 none :: ([.methodLink RX2 3 objectInit, .instanceMethod objectInit, .code objectInit ⟨#[0xb1]⟩ 1 none, .classLink RX2 9 RX1, .instantiable RX1 1, .initialized RX1, .fieldLink RX2 12 "QuarterMasks$Parts" "seen" "LQuarterMasks$Grid;", .arrayClass .int, .fieldLink RX2 18 "QuarterMasks$Parts" "labels" "[I", .fieldLink RX2 22 "QuarterMasks$Parts" "reached" "[I", .fieldLink RX2 25 "QuarterMasks$Parts" "figures" "[I", .fieldLink RX2 28 "QuarterMasks$Parts" "parts" "I", .instanceMethod yX1_init, .code yX1_init cX1_init 1 none, .methodLink RX1 3 objectInit, .fieldLink RX1 9 "QuarterMasks$Grid" "rows" "[I", .methodLink RX2 32 yJ7_fill_53178, .static yJ7_fill_53178, .initialized RJ7, .code yJ7_fill_53178 cJ7_fill_53178 4 none] ++ wsX10 ++ wsX20)
def wsX2_beginFigures : List Cond := .code yX2_beginFigures cX2_beginFigures 4 none :: ([.fieldLink RX2 28 "QuarterMasks$Parts" "parts" "I", .fieldLink RX2 25 "QuarterMasks$Parts" "figures" "[I"] ++ wsX20)
def wsX2_labelAt : List Cond := .code yX2_labelAt cX2_labelAt 3 (some .int) :: ([.fieldLink RX2 18 "QuarterMasks$Parts" "labels" "[I"] ++ wsX20)
def wsX2_reach : List Cond := .code yX2_reach cX2_reach 4 (some .int) :: ([.fieldLink RX2 12 "QuarterMasks$Parts" "seen" "LQuarterMasks$Grid;", .fieldLink RX2 25 "QuarterMasks$Parts" "figures" "[I", .fieldLink RX2 28 "QuarterMasks$Parts" "parts" "I", .fieldLink RX2 18 "QuarterMasks$Parts" "labels" "[I", .fieldLink RX2 22 "QuarterMasks$Parts" "reached" "[I", .methodLink RX2 46 yX1_isDark, .instanceMethod yX1_isDark, .selects RX1 yX1_isDark yX1_isDark, .initialized RX1, .code yX1_isDark cX1_isDark 3 (some .boolean), .fieldLink RX1 9 "QuarterMasks$Grid" "rows" "[I", .methodLink RX2 65 yX2_labelAt, .instanceMethod yX2_labelAt, .selects RX2 yX2_labelAt yX2_labelAt, .initialized RX2, .code yX2_labelAt cX2_labelAt 3 (some .int)] ++ wsX20 ++ wsX10)
def wsX2_noteFigures : List Cond := .code yX2_noteFigures cX2_noteFigures 4 none :: ([.fieldLink RX2 28 "QuarterMasks$Parts" "parts" "I", .fieldLink RX2 25 "QuarterMasks$Parts" "figures" "[I", .methodLink RX2 69 Lib.Math.min.name, .static Lib.Math.min.name, .initialized "java/lang/Math", .code Lib.Math.min.name Lib.Math.min.code 2 (some .int), .methodLink RX2 74 Lib.Math.max.name, .static Lib.Math.max.name, .code Lib.Math.max.name Lib.Math.max.code 2 (some .int)] ++ wsX20)
def wsX2_gather_r1 : List Cond := [Cond.fieldLink RX2 22 "QuarterMasks$Parts" "reached" "[I", Cond.methodLink RX2 54 yX2_beginFigures, Cond.instanceMethod yX2_beginFigures, Cond.selects RX2 yX2_beginFigures yX2_beginFigures, Cond.initialized RX2, Cond.code yX2_beginFigures cX2_beginFigures 4 none, Cond.fieldLink RX2 28 "QuarterMasks$Parts" "parts" "I", Cond.fieldLink RX2 25 "QuarterMasks$Parts" "figures" "[I", Cond.methodLink RX2 58 yX2_reach, Cond.instanceMethod yX2_reach, Cond.selects RX2 yX2_reach yX2_reach, Cond.code yX2_reach cX2_reach 4 (some .int), Cond.fieldLink RX2 12 "QuarterMasks$Parts" "seen" "LQuarterMasks$Grid;", Cond.fieldLink RX2 18 "QuarterMasks$Parts" "labels" "[I", Cond.methodLink RX2 46 yX1_isDark, Cond.instanceMethod yX1_isDark, Cond.selects RX1 yX1_isDark yX1_isDark, Cond.initialized RX1, Cond.code yX1_isDark cX1_isDark 3 (some .boolean), Cond.fieldLink RX1 9 "QuarterMasks$Grid" "rows" "[I", Cond.methodLink RX2 65 yX2_labelAt, Cond.instanceMethod yX2_labelAt, Cond.selects RX2 yX2_labelAt yX2_labelAt, Cond.code yX2_labelAt cX2_labelAt 3 (some .int)]
def wsX2_gather_r2 : List Cond := [Cond.methodLink RX2 62 yX2_noteFigures, Cond.instanceMethod yX2_noteFigures, Cond.selects RX2 yX2_noteFigures yX2_noteFigures, Cond.code yX2_noteFigures cX2_noteFigures 4 none, Cond.methodLink RX2 69 Lib.Math.min.name, Cond.static Lib.Math.min.name, Cond.initialized "java/lang/Math", Cond.code Lib.Math.min.name Lib.Math.min.code 2 (some .int), Cond.methodLink RX2 74 Lib.Math.max.name, Cond.static Lib.Math.max.name, Cond.code Lib.Math.max.name Lib.Math.max.code 2 (some .int)]
def wsX2_gather : List Cond := .code yX2_gather cX2_gather 6 none :: ((wsX2_gather_r1 ++ wsX2_gather_r2) ++ wsX20 ++ wsX10)
def wsX2_look_r1 : List Cond := [Cond.fieldLink RX2 12 "QuarterMasks$Parts" "seen" "LQuarterMasks$Grid;", Cond.fieldLink RX2 18 "QuarterMasks$Parts" "labels" "[I", Cond.fieldLink RX2 28 "QuarterMasks$Parts" "parts" "I", Cond.methodLink RX2 38 yX1_sameAs, Cond.instanceMethod yX1_sameAs, Cond.selects RX1 yX1_sameAs yX1_sameAs, Cond.initialized RX1, Cond.code yX1_sameAs cX1_sameAs 3 (some .boolean), Cond.fieldLink RX1 9 "QuarterMasks$Grid" "rows" "[I", Cond.methodLink RX2 42 yX1_take, Cond.instanceMethod yX1_take, Cond.selects RX1 yX1_take yX1_take, Cond.code yX1_take cX1_take 3 none, Cond.methodLink RX2 32 yJ7_fill_53178, Cond.static yJ7_fill_53178, Cond.initialized RJ7, Cond.code yJ7_fill_53178 cJ7_fill_53178 4 none, Cond.methodLink RX2 46 yX1_isDark, Cond.instanceMethod yX1_isDark, Cond.selects RX1 yX1_isDark yX1_isDark, Cond.code yX1_isDark cX1_isDark 3 (some .boolean), Cond.methodLink RX2 50 yX2_gather, Cond.instanceMethod yX2_gather, Cond.selects RX2 yX2_gather yX2_gather]
def wsX2_look_r2 : List Cond := [Cond.initialized RX2, Cond.code yX2_gather cX2_gather 6 none, Cond.fieldLink RX2 22 "QuarterMasks$Parts" "reached" "[I", Cond.methodLink RX2 54 yX2_beginFigures, Cond.instanceMethod yX2_beginFigures, Cond.selects RX2 yX2_beginFigures yX2_beginFigures, Cond.code yX2_beginFigures cX2_beginFigures 4 none, Cond.fieldLink RX2 25 "QuarterMasks$Parts" "figures" "[I", Cond.methodLink RX2 58 yX2_reach, Cond.instanceMethod yX2_reach, Cond.selects RX2 yX2_reach yX2_reach, Cond.code yX2_reach cX2_reach 4 (some .int), Cond.methodLink RX2 65 yX2_labelAt, Cond.instanceMethod yX2_labelAt, Cond.selects RX2 yX2_labelAt yX2_labelAt, Cond.code yX2_labelAt cX2_labelAt 3 (some .int), Cond.methodLink RX2 62 yX2_noteFigures, Cond.instanceMethod yX2_noteFigures, Cond.selects RX2 yX2_noteFigures yX2_noteFigures, Cond.code yX2_noteFigures cX2_noteFigures 4 none, Cond.methodLink RX2 69 Lib.Math.min.name, Cond.static Lib.Math.min.name, Cond.initialized "java/lang/Math", Cond.code Lib.Math.min.name Lib.Math.min.code 2 (some .int)]
def wsX2_look_r3 : List Cond := [Cond.methodLink RX2 74 Lib.Math.max.name, Cond.static Lib.Math.max.name, Cond.code Lib.Math.max.name Lib.Math.max.code 2 (some .int)]
def wsX2_look : List Cond := .code yX2_look cX2_look 3 none :: ((wsX2_look_r1 ++ (wsX2_look_r2 ++ wsX2_look_r3)) ++ wsX20 ++ wsX10)
def wsX2_rowOfPart : List Cond := .code yX2_rowOfPart cX2_rowOfPart 5 (some .int) :: ([.methodLink RX2 65 yX2_labelAt, .instanceMethod yX2_labelAt, .selects RX2 yX2_labelAt yX2_labelAt, .initialized RX2, .code yX2_labelAt cX2_labelAt 3 (some .int), .fieldLink RX2 18 "QuarterMasks$Parts" "labels" "[I"] ++ wsX20)
def wsX2_figure : List Cond := .code yX2_figure cX2_figure 3 (some .int) :: ([.fieldLink RX2 28 "QuarterMasks$Parts" "parts" "I", .fieldLink RX2 25 "QuarterMasks$Parts" "figures" "[I", .static yX5_within, .initialized RX5, .code yX5_within cX5_within 2 (some .boolean)] ++ wsX20)
def wsX2_partsOffTheEdge : List Cond := .code yX2_partsOffTheEdge cX2_partsOffTheEdge 5 (some .int) :: ([.fieldLink RX2 28 "QuarterMasks$Parts" "parts" "I", .methodLink RX2 80 yX2_figure, .instanceMethod yX2_figure, .selects RX2 yX2_figure yX2_figure, .initialized RX2, .code yX2_figure cX2_figure 3 (some .int), .fieldLink RX2 25 "QuarterMasks$Parts" "figures" "[I", .static yX5_within, .initialized RX5, .code yX5_within cX5_within 2 (some .boolean)] ++ wsX20)
def wsX3_init : List Cond := .code yX3_init cX3_init 1 none :: ([.methodLink RX3 3 objectInit, .instanceMethod objectInit, .code objectInit ⟨#[0xb1]⟩ 1 none, .arrayClass .int, .fieldLink RX3 9 "QuarterMasks$Sheet" "items" "[I", .fieldLink RX3 15 "QuarterMasks$Sheet" "lost" "Z", .fieldLink RX3 19 "QuarterMasks$Sheet" "form" "I", .fieldLink RX3 23 "QuarterMasks$Sheet" "size" "I"] ++ wsX30)
def wsX3_begin : List Cond := .code yX3_begin cX3_begin 3 none :: ([.fieldLink RX3 15 "QuarterMasks$Sheet" "lost" "Z", .fieldLink RX3 19 "QuarterMasks$Sheet" "form" "I", .fieldLink RX3 23 "QuarterMasks$Sheet" "size" "I", .fieldLink RX3 9 "QuarterMasks$Sheet" "items" "[I", .methodLink RX3 26 yJ7_fill_53178, .static yJ7_fill_53178, .initialized RJ7, .code yJ7_fill_53178 cJ7_fill_53178 4 none] ++ wsX30)
def wsX3_item : List Cond := .code yX3_item cX3_item 2 (some .int) :: ([.fieldLink RX3 23 "QuarterMasks$Sheet" "size" "I", .fieldLink RX3 9 "QuarterMasks$Sheet" "items" "[I", .static yX5_within, .initialized RX5, .code yX5_within cX5_within 2 (some .boolean)] ++ wsX30)
def wsX3_narrowed : List Cond := .code yX3_narrowed cX3_narrowed 2 (some .int) :: ([.fieldLink RX3 19 "QuarterMasks$Sheet" "form" "I"] ++ wsX30)
def wsX3_setItem : List Cond := .code yX3_setItem cX3_setItem 3 none :: ([.fieldLink RX3 23 "QuarterMasks$Sheet" "size" "I", .fieldLink RX3 9 "QuarterMasks$Sheet" "items" "[I", .static yX5_within, .initialized RX5, .code yX5_within cX5_within 2 (some .boolean), .methodLink RX3 36 yX3_narrowed, .instanceMethod yX3_narrowed, .selects RX3 yX3_narrowed yX3_narrowed, .initialized RX3, .code yX3_narrowed cX3_narrowed 2 (some .int), .fieldLink RX3 19 "QuarterMasks$Sheet" "form" "I"] ++ wsX30)
def wsX3_hasItems : List Cond := .code yX3_hasItems cX3_hasItems 3 (some .boolean) :: ([.fieldLink RX3 23 "QuarterMasks$Sheet" "size" "I"] ++ wsX30)
def wsX4_init : List Cond := .code yX4_init cX4_init 1 none :: ([.methodLink RX4 3 objectInit, .instanceMethod objectInit, .code objectInit ⟨#[0xb1]⟩ 1 none, .classLink RX4 9 RX1, .instantiable RX1 1, .initialized RX1, .fieldLink RX4 12 "QuarterMasks$Signs" "seen" "LQuarterMasks$Grid;", .arrayClass .int, .fieldLink RX4 18 "QuarterMasks$Signs" "list" "[I", .fieldLink RX4 22 "QuarterMasks$Signs" "told" "I", .fieldLink RX4 26 "QuarterMasks$Signs" "darkBlocks" "I", .fieldLink RX4 29 "QuarterMasks$Signs" "mixed" "I", .fieldLink RX4 32 "QuarterMasks$Signs" "deepest" "I", .instanceMethod yX1_init, .code yX1_init cX1_init 1 none, .methodLink RX1 3 objectInit, .fieldLink RX1 9 "QuarterMasks$Grid" "rows" "[I"] ++ wsX10 ++ wsX40)
def wsX4_addSign : List Cond := .code yX4_addSign cX4_addSign 2 none :: ([.fieldLink RX4 22 "QuarterMasks$Signs" "told" "I", .fieldLink RX4 18 "QuarterMasks$Signs" "list" "[I", .fieldLink RX4 26 "QuarterMasks$Signs" "darkBlocks" "I", .static yX5_within, .initialized RX5, .code yX5_within cX5_within 2 (some .boolean)] ++ wsX40)
def wsX4_tellSquare_r1 : List Cond := [Cond.fieldLink RX4 12 "QuarterMasks$Signs" "seen" "LQuarterMasks$Grid;", Cond.fieldLink RX4 29 "QuarterMasks$Signs" "mixed" "I", Cond.fieldLink RX4 32 "QuarterMasks$Signs" "deepest" "I", Cond.methodLink RX4 55 Lib.Math.max.name, Cond.static Lib.Math.max.name, Cond.initialized "java/lang/Math", Cond.code Lib.Math.max.name Lib.Math.max.code 2 (some .int), Cond.methodLink RX4 47 yX1_signOfSquare, Cond.instanceMethod yX1_signOfSquare, Cond.selects RX1 yX1_signOfSquare yX1_signOfSquare, Cond.initialized RX1, Cond.code yX1_signOfSquare cX1_signOfSquare 7 (some .int), Cond.methodLink RX1 20 yX1_row, Cond.instanceMethod yX1_row, Cond.selects RX1 yX1_row yX1_row, Cond.code yX1_row cX1_row 2 (some .int), Cond.fieldLink RX1 9 "QuarterMasks$Grid" "rows" "[I", Cond.methodLink RX4 51 yX4_addSign, Cond.instanceMethod yX4_addSign, Cond.selects RX4 yX4_addSign yX4_addSign, Cond.initialized RX4, Cond.code yX4_addSign cX4_addSign 2 none, Cond.fieldLink RX4 22 "QuarterMasks$Signs" "told" "I", Cond.fieldLink RX4 18 "QuarterMasks$Signs" "list" "[I"]
def wsX4_tellSquare_r2 : List Cond := [Cond.fieldLink RX4 26 "QuarterMasks$Signs" "darkBlocks" "I", Cond.static yX5_within, Cond.initialized RX5, Cond.code yX5_within cX5_within 2 (some .boolean), Cond.methodLink RX4 43 yX4_tellSquare, Cond.static yX4_tellSquare]
def wsX4_tellSquare : List Cond := .code yX4_tellSquare cX4_tellSquare 8 none :: ((wsX4_tellSquare_r1 ++ wsX4_tellSquare_r2) ++ wsX40 ++ wsX10)
def wsX4_look_r1 : List Cond := [Cond.fieldLink RX4 12 "QuarterMasks$Signs" "seen" "LQuarterMasks$Grid;", Cond.fieldLink RX4 22 "QuarterMasks$Signs" "told" "I", Cond.fieldLink RX4 26 "QuarterMasks$Signs" "darkBlocks" "I", Cond.fieldLink RX4 29 "QuarterMasks$Signs" "mixed" "I", Cond.fieldLink RX4 32 "QuarterMasks$Signs" "deepest" "I", Cond.methodLink RX4 35 yX1_sameAs, Cond.instanceMethod yX1_sameAs, Cond.selects RX1 yX1_sameAs yX1_sameAs, Cond.initialized RX1, Cond.code yX1_sameAs cX1_sameAs 3 (some .boolean), Cond.fieldLink RX1 9 "QuarterMasks$Grid" "rows" "[I", Cond.methodLink RX4 39 yX1_take, Cond.instanceMethod yX1_take, Cond.selects RX1 yX1_take yX1_take, Cond.code yX1_take cX1_take 3 none, Cond.methodLink RX4 43 yX4_tellSquare, Cond.static yX4_tellSquare, Cond.initialized RX4, Cond.code yX4_tellSquare cX4_tellSquare 8 none, Cond.methodLink RX4 55 Lib.Math.max.name, Cond.static Lib.Math.max.name, Cond.initialized "java/lang/Math", Cond.code Lib.Math.max.name Lib.Math.max.code 2 (some .int), Cond.methodLink RX4 47 yX1_signOfSquare]
def wsX4_look_r2 : List Cond := [Cond.instanceMethod yX1_signOfSquare, Cond.selects RX1 yX1_signOfSquare yX1_signOfSquare, Cond.code yX1_signOfSquare cX1_signOfSquare 7 (some .int), Cond.methodLink RX1 20 yX1_row, Cond.instanceMethod yX1_row, Cond.selects RX1 yX1_row yX1_row, Cond.code yX1_row cX1_row 2 (some .int), Cond.methodLink RX4 51 yX4_addSign, Cond.instanceMethod yX4_addSign, Cond.selects RX4 yX4_addSign yX4_addSign, Cond.code yX4_addSign cX4_addSign 2 none, Cond.fieldLink RX4 18 "QuarterMasks$Signs" "list" "[I", Cond.static yX5_within, Cond.initialized RX5, Cond.code yX5_within cX5_within 2 (some .boolean)]
def wsX4_look : List Cond := .code yX4_look cX4_look 2 none :: ((wsX4_look_r1 ++ wsX4_look_r2) ++ wsX40 ++ wsX10)
def wsX4_sign : List Cond := .code yX4_sign cX4_sign 2 (some .int) :: ([.fieldLink RX4 22 "QuarterMasks$Signs" "told" "I", .fieldLink RX4 18 "QuarterMasks$Signs" "list" "[I", .static yX5_within, .initialized RX5, .code yX5_within cX5_within 2 (some .boolean)] ++ wsX40)
def wsX5_init_r1 : List Cond := [Cond.methodLink RX5 1 objectInit, Cond.instanceMethod objectInit, Cond.code objectInit ⟨#[0xb1]⟩ 1 none, Cond.classLink RX5 9 RX1, Cond.fieldLink RX5 11 "QuarterMasks" "masks" "[LQuarterMasks$Grid;", Cond.classLink RX5 15 RX3, Cond.fieldLink RX5 17 "QuarterMasks" "sheets" "[LQuarterMasks$Sheet;", Cond.classLink RX5 21 RX0, Cond.instantiable RX0 4, Cond.initialized RX0, Cond.fieldLink RX5 24 "QuarterMasks" "changes" "LQuarterMasks$Changes;", Cond.instantiable RX1 1, Cond.initialized RX1, Cond.fieldLink RX5 29 "QuarterMasks" "made" "LQuarterMasks$Grid;", Cond.fieldLink RX5 33 "QuarterMasks" "spare" "LQuarterMasks$Grid;", Cond.classLink RX5 36 RX2, Cond.instantiable RX2 5, Cond.initialized RX2, Cond.fieldLink RX5 39 "QuarterMasks" "darkParts" "LQuarterMasks$Parts;", Cond.fieldLink RX5 43 "QuarterMasks" "lightParts" "LQuarterMasks$Parts;", Cond.classLink RX5 46 RX4, Cond.instantiable RX4 6, Cond.initialized RX4, Cond.fieldLink RX5 49 "QuarterMasks" "signs" "LQuarterMasks$Signs;"]
def wsX5_init_r2 : List Cond := [Cond.fieldLink RX5 53 "QuarterMasks" "latestFinding" "I", Cond.instantiable RX3 4, Cond.initialized RX3, Cond.instanceMethod yX0_init, Cond.code yX0_init cX0_init 1 none, Cond.methodLink RX0 3 objectInit, Cond.arrayClass .int, Cond.fieldLink RX0 9 "QuarterMasks$Changes" "masks" "[I", Cond.fieldLink RX0 15 "QuarterMasks$Changes" "rows" "[I", Cond.fieldLink RX0 18 "QuarterMasks$Changes" "next" "I", Cond.fieldLink RX0 22 "QuarterMasks$Changes" "known" "I", Cond.instanceMethod yX1_init, Cond.code yX1_init cX1_init 1 none, Cond.methodLink RX1 3 objectInit, Cond.fieldLink RX1 9 "QuarterMasks$Grid" "rows" "[I", Cond.methodLink RX5 38 yX2_init, Cond.instanceMethod yX2_init, Cond.code yX2_init cX2_init 1 none, Cond.methodLink RX2 3 objectInit, Cond.classLink RX2 9 RX1, Cond.fieldLink RX2 12 "QuarterMasks$Parts" "seen" "LQuarterMasks$Grid;", Cond.fieldLink RX2 18 "QuarterMasks$Parts" "labels" "[I", Cond.fieldLink RX2 22 "QuarterMasks$Parts" "reached" "[I", Cond.fieldLink RX2 25 "QuarterMasks$Parts" "figures" "[I"]
def wsX5_init_r3 : List Cond := [Cond.fieldLink RX2 28 "QuarterMasks$Parts" "parts" "I", Cond.methodLink RX2 32 yJ7_fill_53178, Cond.static yJ7_fill_53178, Cond.initialized RJ7, Cond.code yJ7_fill_53178 cJ7_fill_53178 4 none, Cond.instanceMethod yX4_init, Cond.code yX4_init cX4_init 1 none, Cond.methodLink RX4 3 objectInit, Cond.classLink RX4 9 RX1, Cond.fieldLink RX4 12 "QuarterMasks$Signs" "seen" "LQuarterMasks$Grid;", Cond.fieldLink RX4 18 "QuarterMasks$Signs" "list" "[I", Cond.fieldLink RX4 22 "QuarterMasks$Signs" "told" "I", Cond.fieldLink RX4 26 "QuarterMasks$Signs" "darkBlocks" "I", Cond.fieldLink RX4 29 "QuarterMasks$Signs" "mixed" "I", Cond.fieldLink RX4 32 "QuarterMasks$Signs" "deepest" "I", Cond.instanceMethod yX3_init, Cond.code yX3_init cX3_init 1 none, Cond.methodLink RX3 3 objectInit, Cond.fieldLink RX3 9 "QuarterMasks$Sheet" "items" "[I", Cond.fieldLink RX3 15 "QuarterMasks$Sheet" "lost" "Z", Cond.fieldLink RX3 19 "QuarterMasks$Sheet" "form" "I", Cond.fieldLink RX3 23 "QuarterMasks$Sheet" "size" "I"]
def wsX5_init : List Cond := .code yX5_init cX5_init 2 none :: ((wsX5_init_r1 ++ (wsX5_init_r2 ++ wsX5_init_r3)) ++ wsX50 ++ wsX00 ++ wsX10 ++ wsX20 ++ wsX40 ++ wsX30)
def wsX5_isMask : List Cond := .code yX5_isMask cX5_isMask 1 (some .boolean) :: ([.methodLink RX5 66 yX5_within, .static yX5_within, .initialized RX5, .code yX5_within cX5_within 2 (some .boolean)])
def wsX5_isCell : List Cond := .code yX5_isCell cX5_isCell 2 (some .boolean) :: ([.methodLink RX5 66 yX5_within, .static yX5_within, .initialized RX5, .code yX5_within cX5_within 2 (some .boolean)])
def wsX5_become_r1 : List Cond := [Cond.fieldLink RX5 24 "QuarterMasks" "changes" "LQuarterMasks$Changes;", Cond.fieldLink RX5 11 "QuarterMasks" "masks" "[LQuarterMasks$Grid;", Cond.fieldLink RX5 29 "QuarterMasks" "made" "LQuarterMasks$Grid;", Cond.methodLink RX5 145 yX0_keep, Cond.instanceMethod yX0_keep, Cond.selects RX0 yX0_keep yX0_keep, Cond.initialized RX0, Cond.code yX0_keep cX0_keep 4 none, Cond.fieldLink RX0 9 "QuarterMasks$Changes" "masks" "[I", Cond.fieldLink RX0 18 "QuarterMasks$Changes" "next" "I", Cond.fieldLink RX0 15 "QuarterMasks$Changes" "rows" "[I", Cond.fieldLink RX0 22 "QuarterMasks$Changes" "known" "I", Cond.methodLink RX0 31 Lib.Math.min.name, Cond.static Lib.Math.min.name, Cond.initialized "java/lang/Math", Cond.code Lib.Math.min.name Lib.Math.min.code 2 (some .int), Cond.methodLink RX0 25 yX1_row, Cond.instanceMethod yX1_row, Cond.selects RX1 yX1_row yX1_row, Cond.initialized RX1, Cond.code yX1_row cX1_row 2 (some .int), Cond.fieldLink RX1 9 "QuarterMasks$Grid" "rows" "[I", Cond.methodLink RX5 69 yX1_take, Cond.instanceMethod yX1_take]
def wsX5_become_r2 : List Cond := [Cond.selects RX1 yX1_take yX1_take, Cond.code yX1_take cX1_take 3 none, Cond.methodLink RX5 149 yX1_darkCells, Cond.instanceMethod yX1_darkCells, Cond.selects RX1 yX1_darkCells yX1_darkCells, Cond.code yX1_darkCells cX1_darkCells 3 (some .int), Cond.methodLink RX1 34 yJ6_bitCount_0f7a4, Cond.static yJ6_bitCount_0f7a4, Cond.initialized RJ6, Cond.code yJ6_bitCount_0f7a4 cJ6_bitCount_0f7a4 1 (some .int), Cond.constant RJ6 265 (1431655765), Cond.constant RJ6 266 (858993459), Cond.constant RJ6 267 (252645135)]
def wsX5_become : List Cond := .code yX5_become cX5_become 2 (some .int) :: ((wsX5_become_r1 ++ wsX5_become_r2) ++ wsX50 ++ wsX00 ++ wsX10)
def wsX5_fill_r1 : List Cond := [Cond.fieldLink RX5 29 "QuarterMasks" "made" "LQuarterMasks$Grid;", Cond.fieldLink RX5 11 "QuarterMasks" "masks" "[LQuarterMasks$Grid;", Cond.methodLink RX5 58 yX5_isMask, Cond.static yX5_isMask, Cond.initialized RX5, Cond.code yX5_isMask cX5_isMask 1 (some .boolean), Cond.methodLink RX5 66 yX5_within, Cond.static yX5_within, Cond.code yX5_within cX5_within 2 (some .boolean), Cond.methodLink RX5 62 yX5_isCell, Cond.static yX5_isCell, Cond.code yX5_isCell cX5_isCell 2 (some .boolean), Cond.methodLink RX5 69 yX1_take, Cond.instanceMethod yX1_take, Cond.selects RX1 yX1_take yX1_take, Cond.initialized RX1, Cond.code yX1_take cX1_take 3 none, Cond.fieldLink RX1 9 "QuarterMasks$Grid" "rows" "[I", Cond.methodLink RX5 73 yX1_paint, Cond.instanceMethod yX1_paint, Cond.selects RX1 yX1_paint yX1_paint, Cond.code yX1_paint cX1_paint 8 none, Cond.methodLink RX1 20 yX1_row, Cond.instanceMethod yX1_row]
def wsX5_fill_r2 : List Cond := [Cond.selects RX1 yX1_row yX1_row, Cond.code yX1_row cX1_row 2 (some .int), Cond.methodLink RX1 24 yX1_setRow, Cond.instanceMethod yX1_setRow, Cond.selects RX1 yX1_setRow yX1_setRow, Cond.code yX1_setRow cX1_setRow 3 none, Cond.constant RX1 19 (65535), Cond.methodLink RX5 77 yX5_become, Cond.instanceMethod yX5_become, Cond.selects RX5 yX5_become yX5_become, Cond.code yX5_become cX5_become 2 (some .int), Cond.fieldLink RX5 24 "QuarterMasks" "changes" "LQuarterMasks$Changes;", Cond.methodLink RX5 145 yX0_keep, Cond.instanceMethod yX0_keep, Cond.selects RX0 yX0_keep yX0_keep, Cond.initialized RX0, Cond.code yX0_keep cX0_keep 4 none, Cond.fieldLink RX0 9 "QuarterMasks$Changes" "masks" "[I", Cond.fieldLink RX0 18 "QuarterMasks$Changes" "next" "I", Cond.fieldLink RX0 15 "QuarterMasks$Changes" "rows" "[I", Cond.fieldLink RX0 22 "QuarterMasks$Changes" "known" "I", Cond.methodLink RX0 31 Lib.Math.min.name, Cond.static Lib.Math.min.name, Cond.initialized "java/lang/Math"]
def wsX5_fill_r3 : List Cond := [Cond.code Lib.Math.min.name Lib.Math.min.code 2 (some .int), Cond.methodLink RX0 25 yX1_row, Cond.methodLink RX5 149 yX1_darkCells, Cond.instanceMethod yX1_darkCells, Cond.selects RX1 yX1_darkCells yX1_darkCells, Cond.code yX1_darkCells cX1_darkCells 3 (some .int), Cond.methodLink RX1 34 yJ6_bitCount_0f7a4, Cond.static yJ6_bitCount_0f7a4, Cond.initialized RJ6, Cond.code yJ6_bitCount_0f7a4 cJ6_bitCount_0f7a4 1 (some .int), Cond.constant RJ6 265 (1431655765), Cond.constant RJ6 266 (858993459), Cond.constant RJ6 267 (252645135)]
def wsX5_fill : List Cond := .code yX5_fill cX5_fill 7 (some .int) :: ((wsX5_fill_r1 ++ (wsX5_fill_r2 ++ wsX5_fill_r3)) ++ wsX50 ++ wsX10 ++ wsX00)
def wsX5_dots_r1 : List Cond := [Cond.fieldLink RX5 29 "QuarterMasks" "made" "LQuarterMasks$Grid;", Cond.fieldLink RX5 11 "QuarterMasks" "masks" "[LQuarterMasks$Grid;", Cond.constant RX5 81 (1103515245), Cond.methodLink RX5 58 yX5_isMask, Cond.static yX5_isMask, Cond.initialized RX5, Cond.code yX5_isMask cX5_isMask 1 (some .boolean), Cond.methodLink RX5 66 yX5_within, Cond.static yX5_within, Cond.code yX5_within cX5_within 2 (some .boolean), Cond.methodLink RX5 69 yX1_take, Cond.instanceMethod yX1_take, Cond.selects RX1 yX1_take yX1_take, Cond.initialized RX1, Cond.code yX1_take cX1_take 3 none, Cond.fieldLink RX1 9 "QuarterMasks$Grid" "rows" "[I", Cond.methodLink RX5 82 yX1_flip, Cond.instanceMethod yX1_flip, Cond.selects RX1 yX1_flip yX1_flip, Cond.code yX1_flip cX1_flip 3 none, Cond.methodLink RX1 20 yX1_row, Cond.instanceMethod yX1_row, Cond.selects RX1 yX1_row yX1_row, Cond.code yX1_row cX1_row 2 (some .int)]
def wsX5_dots_r2 : List Cond := [Cond.methodLink RX1 24 yX1_setRow, Cond.instanceMethod yX1_setRow, Cond.selects RX1 yX1_setRow yX1_setRow, Cond.code yX1_setRow cX1_setRow 3 none, Cond.constant RX1 19 (65535), Cond.methodLink RX5 77 yX5_become, Cond.instanceMethod yX5_become, Cond.selects RX5 yX5_become yX5_become, Cond.code yX5_become cX5_become 2 (some .int), Cond.fieldLink RX5 24 "QuarterMasks" "changes" "LQuarterMasks$Changes;", Cond.methodLink RX5 145 yX0_keep, Cond.instanceMethod yX0_keep, Cond.selects RX0 yX0_keep yX0_keep, Cond.initialized RX0, Cond.code yX0_keep cX0_keep 4 none, Cond.fieldLink RX0 9 "QuarterMasks$Changes" "masks" "[I", Cond.fieldLink RX0 18 "QuarterMasks$Changes" "next" "I", Cond.fieldLink RX0 15 "QuarterMasks$Changes" "rows" "[I", Cond.fieldLink RX0 22 "QuarterMasks$Changes" "known" "I", Cond.methodLink RX0 31 Lib.Math.min.name, Cond.static Lib.Math.min.name, Cond.initialized "java/lang/Math", Cond.code Lib.Math.min.name Lib.Math.min.code 2 (some .int), Cond.methodLink RX0 25 yX1_row]
def wsX5_dots_r3 : List Cond := [Cond.methodLink RX5 149 yX1_darkCells, Cond.instanceMethod yX1_darkCells, Cond.selects RX1 yX1_darkCells yX1_darkCells, Cond.code yX1_darkCells cX1_darkCells 3 (some .int), Cond.methodLink RX1 34 yJ6_bitCount_0f7a4, Cond.static yJ6_bitCount_0f7a4, Cond.initialized RJ6, Cond.code yJ6_bitCount_0f7a4 cJ6_bitCount_0f7a4 1 (some .int), Cond.constant RJ6 265 (1431655765), Cond.constant RJ6 266 (858993459), Cond.constant RJ6 267 (252645135)]
def wsX5_dots : List Cond := .code yX5_dots cX5_dots 7 (some .int) :: ((wsX5_dots_r1 ++ (wsX5_dots_r2 ++ wsX5_dots_r3)) ++ wsX50 ++ wsX10 ++ wsX00)
def wsX5_joinedRow : List Cond := .code yX5_joinedRow cX5_joinedRow 3 (some .int) :: ([])
def wsX5_join_r1 : List Cond := [Cond.fieldLink RX5 29 "QuarterMasks" "made" "LQuarterMasks$Grid;", Cond.fieldLink RX5 11 "QuarterMasks" "masks" "[LQuarterMasks$Grid;", Cond.methodLink RX5 66 yX5_within, Cond.static yX5_within, Cond.initialized RX5, Cond.code yX5_within cX5_within 2 (some .boolean), Cond.methodLink RX5 58 yX5_isMask, Cond.static yX5_isMask, Cond.code yX5_isMask cX5_isMask 1 (some .boolean), Cond.methodLink RX5 86 yX1_row, Cond.instanceMethod yX1_row, Cond.selects RX1 yX1_row yX1_row, Cond.initialized RX1, Cond.code yX1_row cX1_row 2 (some .int), Cond.fieldLink RX1 9 "QuarterMasks$Grid" "rows" "[I", Cond.methodLink RX5 89 yX5_joinedRow, Cond.static yX5_joinedRow, Cond.code yX5_joinedRow cX5_joinedRow 3 (some .int), Cond.methodLink RX5 93 yX1_setRow, Cond.instanceMethod yX1_setRow, Cond.selects RX1 yX1_setRow yX1_setRow, Cond.code yX1_setRow cX1_setRow 3 none, Cond.constant RX1 19 (65535), Cond.methodLink RX5 77 yX5_become]
def wsX5_join_r2 : List Cond := [Cond.instanceMethod yX5_become, Cond.selects RX5 yX5_become yX5_become, Cond.code yX5_become cX5_become 2 (some .int), Cond.fieldLink RX5 24 "QuarterMasks" "changes" "LQuarterMasks$Changes;", Cond.methodLink RX5 145 yX0_keep, Cond.instanceMethod yX0_keep, Cond.selects RX0 yX0_keep yX0_keep, Cond.initialized RX0, Cond.code yX0_keep cX0_keep 4 none, Cond.fieldLink RX0 9 "QuarterMasks$Changes" "masks" "[I", Cond.fieldLink RX0 18 "QuarterMasks$Changes" "next" "I", Cond.fieldLink RX0 15 "QuarterMasks$Changes" "rows" "[I", Cond.fieldLink RX0 22 "QuarterMasks$Changes" "known" "I", Cond.methodLink RX0 31 Lib.Math.min.name, Cond.static Lib.Math.min.name, Cond.initialized "java/lang/Math", Cond.code Lib.Math.min.name Lib.Math.min.code 2 (some .int), Cond.methodLink RX0 25 yX1_row, Cond.methodLink RX5 69 yX1_take, Cond.instanceMethod yX1_take, Cond.selects RX1 yX1_take yX1_take, Cond.code yX1_take cX1_take 3 none, Cond.methodLink RX5 149 yX1_darkCells, Cond.instanceMethod yX1_darkCells]
def wsX5_join_r3 : List Cond := [Cond.selects RX1 yX1_darkCells yX1_darkCells, Cond.code yX1_darkCells cX1_darkCells 3 (some .int), Cond.methodLink RX1 34 yJ6_bitCount_0f7a4, Cond.static yJ6_bitCount_0f7a4, Cond.initialized RJ6, Cond.code yJ6_bitCount_0f7a4 cJ6_bitCount_0f7a4 1 (some .int), Cond.constant RJ6 265 (1431655765), Cond.constant RJ6 266 (858993459), Cond.constant RJ6 267 (252645135)]
def wsX5_join : List Cond := .code yX5_join cX5_join 6 (some .int) :: ((wsX5_join_r1 ++ (wsX5_join_r2 ++ wsX5_join_r3)) ++ wsX50 ++ wsX10 ++ wsX00)
def wsX5_over_r1 : List Cond := [Cond.fieldLink RX5 29 "QuarterMasks" "made" "LQuarterMasks$Grid;", Cond.fieldLink RX5 11 "QuarterMasks" "masks" "[LQuarterMasks$Grid;", Cond.methodLink RX5 58 yX5_isMask, Cond.static yX5_isMask, Cond.initialized RX5, Cond.code yX5_isMask cX5_isMask 1 (some .boolean), Cond.methodLink RX5 66 yX5_within, Cond.static yX5_within, Cond.code yX5_within cX5_within 2 (some .boolean), Cond.methodLink RX5 96 yX1_takeTurnedOver, Cond.instanceMethod yX1_takeTurnedOver, Cond.selects RX1 yX1_takeTurnedOver yX1_takeTurnedOver, Cond.initialized RX1, Cond.code yX1_takeTurnedOver cX1_takeTurnedOver 3 none, Cond.fieldLink RX1 9 "QuarterMasks$Grid" "rows" "[I", Cond.constant RX1 19 (65535), Cond.methodLink RX5 77 yX5_become, Cond.instanceMethod yX5_become, Cond.selects RX5 yX5_become yX5_become, Cond.code yX5_become cX5_become 2 (some .int), Cond.fieldLink RX5 24 "QuarterMasks" "changes" "LQuarterMasks$Changes;", Cond.methodLink RX5 145 yX0_keep, Cond.instanceMethod yX0_keep, Cond.selects RX0 yX0_keep yX0_keep]
def wsX5_over_r2 : List Cond := [Cond.initialized RX0, Cond.code yX0_keep cX0_keep 4 none, Cond.fieldLink RX0 9 "QuarterMasks$Changes" "masks" "[I", Cond.fieldLink RX0 18 "QuarterMasks$Changes" "next" "I", Cond.fieldLink RX0 15 "QuarterMasks$Changes" "rows" "[I", Cond.fieldLink RX0 22 "QuarterMasks$Changes" "known" "I", Cond.methodLink RX0 31 Lib.Math.min.name, Cond.static Lib.Math.min.name, Cond.initialized "java/lang/Math", Cond.code Lib.Math.min.name Lib.Math.min.code 2 (some .int), Cond.methodLink RX0 25 yX1_row, Cond.instanceMethod yX1_row, Cond.selects RX1 yX1_row yX1_row, Cond.code yX1_row cX1_row 2 (some .int), Cond.methodLink RX5 69 yX1_take, Cond.instanceMethod yX1_take, Cond.selects RX1 yX1_take yX1_take, Cond.code yX1_take cX1_take 3 none, Cond.methodLink RX5 149 yX1_darkCells, Cond.instanceMethod yX1_darkCells, Cond.selects RX1 yX1_darkCells yX1_darkCells, Cond.code yX1_darkCells cX1_darkCells 3 (some .int), Cond.methodLink RX1 34 yJ6_bitCount_0f7a4, Cond.static yJ6_bitCount_0f7a4]
def wsX5_over_r3 : List Cond := [Cond.initialized RJ6, Cond.code yJ6_bitCount_0f7a4 cJ6_bitCount_0f7a4 1 (some .int), Cond.constant RJ6 265 (1431655765), Cond.constant RJ6 266 (858993459), Cond.constant RJ6 267 (252645135)]
def wsX5_over : List Cond := .code yX5_over cX5_over 3 (some .int) :: ((wsX5_over_r1 ++ (wsX5_over_r2 ++ wsX5_over_r3)) ++ wsX50 ++ wsX10 ++ wsX00)
def wsX5_isMove : List Cond := .code yX5_isMove cX5_isMove 1 (some .boolean) :: ([])
def wsX5_move_r1 : List Cond := [Cond.fieldLink RX5 11 "QuarterMasks" "masks" "[LQuarterMasks$Grid;", Cond.fieldLink RX5 29 "QuarterMasks" "made" "LQuarterMasks$Grid;", Cond.methodLink RX5 58 yX5_isMask, Cond.static yX5_isMask, Cond.initialized RX5, Cond.code yX5_isMask cX5_isMask 1 (some .boolean), Cond.methodLink RX5 66 yX5_within, Cond.static yX5_within, Cond.code yX5_within cX5_within 2 (some .boolean), Cond.methodLink RX5 99 yX5_isMove, Cond.static yX5_isMove, Cond.code yX5_isMove cX5_isMove 1 (some .boolean), Cond.methodLink RX5 86 yX1_row, Cond.instanceMethod yX1_row, Cond.selects RX1 yX1_row yX1_row, Cond.initialized RX1, Cond.code yX1_row cX1_row 2 (some .int), Cond.fieldLink RX1 9 "QuarterMasks$Grid" "rows" "[I", Cond.methodLink RX5 93 yX1_setRow, Cond.instanceMethod yX1_setRow, Cond.selects RX1 yX1_setRow yX1_setRow, Cond.code yX1_setRow cX1_setRow 3 none, Cond.constant RX1 19 (65535), Cond.methodLink RX5 77 yX5_become]
def wsX5_move_r2 : List Cond := [Cond.instanceMethod yX5_become, Cond.selects RX5 yX5_become yX5_become, Cond.code yX5_become cX5_become 2 (some .int), Cond.fieldLink RX5 24 "QuarterMasks" "changes" "LQuarterMasks$Changes;", Cond.methodLink RX5 145 yX0_keep, Cond.instanceMethod yX0_keep, Cond.selects RX0 yX0_keep yX0_keep, Cond.initialized RX0, Cond.code yX0_keep cX0_keep 4 none, Cond.fieldLink RX0 9 "QuarterMasks$Changes" "masks" "[I", Cond.fieldLink RX0 18 "QuarterMasks$Changes" "next" "I", Cond.fieldLink RX0 15 "QuarterMasks$Changes" "rows" "[I", Cond.fieldLink RX0 22 "QuarterMasks$Changes" "known" "I", Cond.methodLink RX0 31 Lib.Math.min.name, Cond.static Lib.Math.min.name, Cond.initialized "java/lang/Math", Cond.code Lib.Math.min.name Lib.Math.min.code 2 (some .int), Cond.methodLink RX0 25 yX1_row, Cond.methodLink RX5 69 yX1_take, Cond.instanceMethod yX1_take, Cond.selects RX1 yX1_take yX1_take, Cond.code yX1_take cX1_take 3 none, Cond.methodLink RX5 149 yX1_darkCells, Cond.instanceMethod yX1_darkCells]
def wsX5_move_r3 : List Cond := [Cond.selects RX1 yX1_darkCells yX1_darkCells, Cond.code yX1_darkCells cX1_darkCells 3 (some .int), Cond.methodLink RX1 34 yJ6_bitCount_0f7a4, Cond.static yJ6_bitCount_0f7a4, Cond.initialized RJ6, Cond.code yJ6_bitCount_0f7a4 cJ6_bitCount_0f7a4 1 (some .int), Cond.constant RJ6 265 (1431655765), Cond.constant RJ6 266 (858993459), Cond.constant RJ6 267 (252645135)]
def wsX5_move : List Cond := .code yX5_move cX5_move 7 (some .int) :: ((wsX5_move_r1 ++ (wsX5_move_r2 ++ wsX5_move_r3)) ++ wsX50 ++ wsX10 ++ wsX00)
def wsX5_turn_r1 : List Cond := [Cond.fieldLink RX5 29 "QuarterMasks" "made" "LQuarterMasks$Grid;", Cond.fieldLink RX5 11 "QuarterMasks" "masks" "[LQuarterMasks$Grid;", Cond.fieldLink RX5 33 "QuarterMasks" "spare" "LQuarterMasks$Grid;", Cond.methodLink RX5 58 yX5_isMask, Cond.static yX5_isMask, Cond.initialized RX5, Cond.code yX5_isMask cX5_isMask 1 (some .boolean), Cond.methodLink RX5 66 yX5_within, Cond.static yX5_within, Cond.code yX5_within cX5_within 2 (some .boolean), Cond.methodLink RX5 69 yX1_take, Cond.instanceMethod yX1_take, Cond.selects RX1 yX1_take yX1_take, Cond.initialized RX1, Cond.code yX1_take cX1_take 3 none, Cond.fieldLink RX1 9 "QuarterMasks$Grid" "rows" "[I", Cond.methodLink RX5 102 yX1_takeTurnedRight, Cond.instanceMethod yX1_takeTurnedRight, Cond.selects RX1 yX1_takeTurnedRight yX1_takeTurnedRight, Cond.code yX1_takeTurnedRight cX1_takeTurnedRight 5 none, Cond.methodLink RX1 28 yX1_isDark, Cond.instanceMethod yX1_isDark, Cond.selects RX1 yX1_isDark yX1_isDark, Cond.code yX1_isDark cX1_isDark 3 (some .boolean)]
def wsX5_turn_r2 : List Cond := [Cond.methodLink RX5 77 yX5_become, Cond.instanceMethod yX5_become, Cond.selects RX5 yX5_become yX5_become, Cond.code yX5_become cX5_become 2 (some .int), Cond.fieldLink RX5 24 "QuarterMasks" "changes" "LQuarterMasks$Changes;", Cond.methodLink RX5 145 yX0_keep, Cond.instanceMethod yX0_keep, Cond.selects RX0 yX0_keep yX0_keep, Cond.initialized RX0, Cond.code yX0_keep cX0_keep 4 none, Cond.fieldLink RX0 9 "QuarterMasks$Changes" "masks" "[I", Cond.fieldLink RX0 18 "QuarterMasks$Changes" "next" "I", Cond.fieldLink RX0 15 "QuarterMasks$Changes" "rows" "[I", Cond.fieldLink RX0 22 "QuarterMasks$Changes" "known" "I", Cond.methodLink RX0 31 Lib.Math.min.name, Cond.static Lib.Math.min.name, Cond.initialized "java/lang/Math", Cond.code Lib.Math.min.name Lib.Math.min.code 2 (some .int), Cond.methodLink RX0 25 yX1_row, Cond.instanceMethod yX1_row, Cond.selects RX1 yX1_row yX1_row, Cond.code yX1_row cX1_row 2 (some .int), Cond.methodLink RX5 149 yX1_darkCells, Cond.instanceMethod yX1_darkCells]
def wsX5_turn_r3 : List Cond := [Cond.selects RX1 yX1_darkCells yX1_darkCells, Cond.code yX1_darkCells cX1_darkCells 3 (some .int), Cond.methodLink RX1 34 yJ6_bitCount_0f7a4, Cond.static yJ6_bitCount_0f7a4, Cond.initialized RJ6, Cond.code yJ6_bitCount_0f7a4 cJ6_bitCount_0f7a4 1 (some .int), Cond.constant RJ6 265 (1431655765), Cond.constant RJ6 266 (858993459), Cond.constant RJ6 267 (252645135)]
def wsX5_turn : List Cond := .code yX5_turn cX5_turn 5 (some .int) :: ((wsX5_turn_r1 ++ (wsX5_turn_r2 ++ wsX5_turn_r3)) ++ wsX50 ++ wsX10 ++ wsX00)
def wsX5_band_r1 : List Cond := [Cond.fieldLink RX5 29 "QuarterMasks" "made" "LQuarterMasks$Grid;", Cond.fieldLink RX5 11 "QuarterMasks" "masks" "[LQuarterMasks$Grid;", Cond.fieldLink RX5 33 "QuarterMasks" "spare" "LQuarterMasks$Grid;", Cond.methodLink RX5 58 yX5_isMask, Cond.static yX5_isMask, Cond.initialized RX5, Cond.code yX5_isMask cX5_isMask 1 (some .boolean), Cond.methodLink RX5 66 yX5_within, Cond.static yX5_within, Cond.code yX5_within cX5_within 2 (some .boolean), Cond.methodLink RX5 69 yX1_take, Cond.instanceMethod yX1_take, Cond.selects RX1 yX1_take yX1_take, Cond.initialized RX1, Cond.code yX1_take cX1_take 3 none, Cond.fieldLink RX1 9 "QuarterMasks$Grid" "rows" "[I", Cond.methodLink RX5 105 yX1_takeWidened, Cond.instanceMethod yX1_takeWidened, Cond.selects RX1 yX1_takeWidened yX1_takeWidened, Cond.code yX1_takeWidened cX1_takeWidened 3 none, Cond.methodLink RX1 31 yX1_neighboursInRow, Cond.instanceMethod yX1_neighboursInRow, Cond.selects RX1 yX1_neighboursInRow yX1_neighboursInRow, Cond.code yX1_neighboursInRow cX1_neighboursInRow 2 (some .int)]
def wsX5_band_r2 : List Cond := [Cond.constant RX1 19 (65535), Cond.methodLink RX1 20 yX1_row, Cond.instanceMethod yX1_row, Cond.selects RX1 yX1_row yX1_row, Cond.code yX1_row cX1_row 2 (some .int), Cond.methodLink RX5 77 yX5_become, Cond.instanceMethod yX5_become, Cond.selects RX5 yX5_become yX5_become, Cond.code yX5_become cX5_become 2 (some .int), Cond.fieldLink RX5 24 "QuarterMasks" "changes" "LQuarterMasks$Changes;", Cond.methodLink RX5 145 yX0_keep, Cond.instanceMethod yX0_keep, Cond.selects RX0 yX0_keep yX0_keep, Cond.initialized RX0, Cond.code yX0_keep cX0_keep 4 none, Cond.fieldLink RX0 9 "QuarterMasks$Changes" "masks" "[I", Cond.fieldLink RX0 18 "QuarterMasks$Changes" "next" "I", Cond.fieldLink RX0 15 "QuarterMasks$Changes" "rows" "[I", Cond.fieldLink RX0 22 "QuarterMasks$Changes" "known" "I", Cond.methodLink RX0 31 Lib.Math.min.name, Cond.static Lib.Math.min.name, Cond.initialized "java/lang/Math", Cond.code Lib.Math.min.name Lib.Math.min.code 2 (some .int), Cond.methodLink RX0 25 yX1_row]
def wsX5_band_r3 : List Cond := [Cond.methodLink RX5 149 yX1_darkCells, Cond.instanceMethod yX1_darkCells, Cond.selects RX1 yX1_darkCells yX1_darkCells, Cond.code yX1_darkCells cX1_darkCells 3 (some .int), Cond.methodLink RX1 34 yJ6_bitCount_0f7a4, Cond.static yJ6_bitCount_0f7a4, Cond.initialized RJ6, Cond.code yJ6_bitCount_0f7a4 cJ6_bitCount_0f7a4 1 (some .int), Cond.constant RJ6 265 (1431655765), Cond.constant RJ6 266 (858993459), Cond.constant RJ6 267 (252645135)]
def wsX5_band : List Cond := .code yX5_band cX5_band 5 (some .int) :: ((wsX5_band_r1 ++ (wsX5_band_r2 ++ wsX5_band_r3)) ++ wsX50 ++ wsX10 ++ wsX00)
def wsX5_pick_r1 : List Cond := [Cond.fieldLink RX5 39 "QuarterMasks" "darkParts" "LQuarterMasks$Parts;", Cond.fieldLink RX5 11 "QuarterMasks" "masks" "[LQuarterMasks$Grid;", Cond.fieldLink RX5 29 "QuarterMasks" "made" "LQuarterMasks$Grid;", Cond.methodLink RX5 58 yX5_isMask, Cond.static yX5_isMask, Cond.initialized RX5, Cond.code yX5_isMask cX5_isMask 1 (some .boolean), Cond.methodLink RX5 66 yX5_within, Cond.static yX5_within, Cond.code yX5_within cX5_within 2 (some .boolean), Cond.methodLink RX5 62 yX5_isCell, Cond.static yX5_isCell, Cond.code yX5_isCell cX5_isCell 2 (some .boolean), Cond.methodLink RX5 108 yX2_look, Cond.instanceMethod yX2_look, Cond.selects RX2 yX2_look yX2_look, Cond.initialized RX2, Cond.code yX2_look cX2_look 3 none, Cond.fieldLink RX2 12 "QuarterMasks$Parts" "seen" "LQuarterMasks$Grid;", Cond.fieldLink RX2 18 "QuarterMasks$Parts" "labels" "[I", Cond.fieldLink RX2 28 "QuarterMasks$Parts" "parts" "I", Cond.methodLink RX2 38 yX1_sameAs, Cond.instanceMethod yX1_sameAs, Cond.selects RX1 yX1_sameAs yX1_sameAs]
def wsX5_pick_r2 : List Cond := [Cond.initialized RX1, Cond.code yX1_sameAs cX1_sameAs 3 (some .boolean), Cond.fieldLink RX1 9 "QuarterMasks$Grid" "rows" "[I", Cond.methodLink RX2 42 yX1_take, Cond.instanceMethod yX1_take, Cond.selects RX1 yX1_take yX1_take, Cond.code yX1_take cX1_take 3 none, Cond.methodLink RX2 32 yJ7_fill_53178, Cond.static yJ7_fill_53178, Cond.initialized RJ7, Cond.code yJ7_fill_53178 cJ7_fill_53178 4 none, Cond.methodLink RX2 46 yX1_isDark, Cond.instanceMethod yX1_isDark, Cond.selects RX1 yX1_isDark yX1_isDark, Cond.code yX1_isDark cX1_isDark 3 (some .boolean), Cond.methodLink RX2 50 yX2_gather, Cond.instanceMethod yX2_gather, Cond.selects RX2 yX2_gather yX2_gather, Cond.code yX2_gather cX2_gather 6 none, Cond.fieldLink RX2 22 "QuarterMasks$Parts" "reached" "[I", Cond.methodLink RX2 54 yX2_beginFigures, Cond.instanceMethod yX2_beginFigures, Cond.selects RX2 yX2_beginFigures yX2_beginFigures, Cond.code yX2_beginFigures cX2_beginFigures 4 none]
def wsX5_pick_r3 : List Cond := [Cond.fieldLink RX2 25 "QuarterMasks$Parts" "figures" "[I", Cond.methodLink RX2 58 yX2_reach, Cond.instanceMethod yX2_reach, Cond.selects RX2 yX2_reach yX2_reach, Cond.code yX2_reach cX2_reach 4 (some .int), Cond.methodLink RX2 65 yX2_labelAt, Cond.instanceMethod yX2_labelAt, Cond.selects RX2 yX2_labelAt yX2_labelAt, Cond.code yX2_labelAt cX2_labelAt 3 (some .int), Cond.methodLink RX2 62 yX2_noteFigures, Cond.instanceMethod yX2_noteFigures, Cond.selects RX2 yX2_noteFigures yX2_noteFigures, Cond.code yX2_noteFigures cX2_noteFigures 4 none, Cond.methodLink RX2 69 Lib.Math.min.name, Cond.static Lib.Math.min.name, Cond.initialized "java/lang/Math", Cond.code Lib.Math.min.name Lib.Math.min.code 2 (some .int), Cond.methodLink RX2 74 Lib.Math.max.name, Cond.static Lib.Math.max.name, Cond.code Lib.Math.max.name Lib.Math.max.code 2 (some .int), Cond.methodLink RX5 111 yX2_labelAt, Cond.methodLink RX5 115 yX2_rowOfPart, Cond.instanceMethod yX2_rowOfPart, Cond.selects RX2 yX2_rowOfPart yX2_rowOfPart]
def wsX5_pick_r4 : List Cond := [Cond.code yX2_rowOfPart cX2_rowOfPart 5 (some .int), Cond.methodLink RX5 93 yX1_setRow, Cond.instanceMethod yX1_setRow, Cond.selects RX1 yX1_setRow yX1_setRow, Cond.code yX1_setRow cX1_setRow 3 none, Cond.constant RX1 19 (65535), Cond.methodLink RX5 77 yX5_become, Cond.instanceMethod yX5_become, Cond.selects RX5 yX5_become yX5_become, Cond.code yX5_become cX5_become 2 (some .int), Cond.fieldLink RX5 24 "QuarterMasks" "changes" "LQuarterMasks$Changes;", Cond.methodLink RX5 145 yX0_keep, Cond.instanceMethod yX0_keep, Cond.selects RX0 yX0_keep yX0_keep, Cond.initialized RX0, Cond.code yX0_keep cX0_keep 4 none, Cond.fieldLink RX0 9 "QuarterMasks$Changes" "masks" "[I", Cond.fieldLink RX0 18 "QuarterMasks$Changes" "next" "I", Cond.fieldLink RX0 15 "QuarterMasks$Changes" "rows" "[I", Cond.fieldLink RX0 22 "QuarterMasks$Changes" "known" "I", Cond.methodLink RX0 31 Lib.Math.min.name, Cond.methodLink RX0 25 yX1_row, Cond.instanceMethod yX1_row, Cond.selects RX1 yX1_row yX1_row]
def wsX5_pick_r5 : List Cond := [Cond.code yX1_row cX1_row 2 (some .int), Cond.methodLink RX5 69 yX1_take, Cond.methodLink RX5 149 yX1_darkCells, Cond.instanceMethod yX1_darkCells, Cond.selects RX1 yX1_darkCells yX1_darkCells, Cond.code yX1_darkCells cX1_darkCells 3 (some .int), Cond.methodLink RX1 34 yJ6_bitCount_0f7a4, Cond.static yJ6_bitCount_0f7a4, Cond.initialized RJ6, Cond.code yJ6_bitCount_0f7a4 cJ6_bitCount_0f7a4 1 (some .int), Cond.constant RJ6 265 (1431655765), Cond.constant RJ6 266 (858993459), Cond.constant RJ6 267 (252645135)]
def wsX5_pick : List Cond := .code yX5_pick cX5_pick 7 (some .int) :: ((wsX5_pick_r1 ++ (wsX5_pick_r2 ++ (wsX5_pick_r3 ++ (wsX5_pick_r4 ++ wsX5_pick_r5)))) ++ wsX50 ++ wsX20 ++ wsX10 ++ wsX00)
def wsX5_isSheet : List Cond := .code yX5_isSheet cX5_isSheet 1 (some .boolean) :: ([.methodLink RX5 66 yX5_within, .static yX5_within, .initialized RX5, .code yX5_within cX5_within 2 (some .boolean)])
def wsX5_found : List Cond := .code yX5_found cX5_found 2 (some .int) :: ([.fieldLink RX5 53 "QuarterMasks" "latestFinding" "I"] ++ wsX50)
def wsX5_readSquare_r1 : List Cond := [Cond.methodLink RX5 135 yX3_item, Cond.instanceMethod yX3_item, Cond.selects RX3 yX3_item yX3_item, Cond.initialized RX3, Cond.code yX3_item cX3_item 2 (some .int), Cond.fieldLink RX3 23 "QuarterMasks$Sheet" "size" "I", Cond.fieldLink RX3 9 "QuarterMasks$Sheet" "items" "[I", Cond.static yX5_within, Cond.initialized RX5, Cond.code yX5_within cX5_within 2 (some .boolean), Cond.methodLink RX5 73 yX1_paint, Cond.instanceMethod yX1_paint, Cond.selects RX1 yX1_paint yX1_paint, Cond.initialized RX1, Cond.code yX1_paint cX1_paint 8 none, Cond.methodLink RX1 20 yX1_row, Cond.instanceMethod yX1_row, Cond.selects RX1 yX1_row yX1_row, Cond.code yX1_row cX1_row 2 (some .int), Cond.fieldLink RX1 9 "QuarterMasks$Grid" "rows" "[I", Cond.methodLink RX1 24 yX1_setRow, Cond.instanceMethod yX1_setRow, Cond.selects RX1 yX1_setRow yX1_setRow, Cond.code yX1_setRow cX1_setRow 3 none]
def wsX5_readSquare_r2 : List Cond := [Cond.constant RX1 19 (65535), Cond.methodLink RX5 128 yX5_readSquare, Cond.static yX5_readSquare]
def wsX5_readSquare : List Cond := .code yX5_readSquare cX5_readSquare 10 (some .int) :: ((wsX5_readSquare_r1 ++ wsX5_readSquare_r2) ++ wsX30 ++ wsX10)
def wsX5_read_r1 : List Cond := [Cond.fieldLink RX5 17 "QuarterMasks" "sheets" "[LQuarterMasks$Sheet;", Cond.fieldLink RX5 29 "QuarterMasks" "made" "LQuarterMasks$Grid;", Cond.methodLink RX5 58 yX5_isMask, Cond.static yX5_isMask, Cond.initialized RX5, Cond.code yX5_isMask cX5_isMask 1 (some .boolean), Cond.methodLink RX5 66 yX5_within, Cond.static yX5_within, Cond.code yX5_within cX5_within 2 (some .boolean), Cond.methodLink RX5 118 yX5_isSheet, Cond.static yX5_isSheet, Cond.code yX5_isSheet cX5_isSheet 1 (some .boolean), Cond.methodLink RX5 125 yX5_found, Cond.instanceMethod yX5_found, Cond.selects RX5 yX5_found yX5_found, Cond.code yX5_found cX5_found 2 (some .int), Cond.fieldLink RX5 53 "QuarterMasks" "latestFinding" "I", Cond.methodLink RX5 128 yX5_readSquare, Cond.static yX5_readSquare, Cond.code yX5_readSquare cX5_readSquare 10 (some .int), Cond.methodLink RX5 135 yX3_item, Cond.instanceMethod yX3_item, Cond.selects RX3 yX3_item yX3_item, Cond.initialized RX3]
def wsX5_read_r2 : List Cond := [Cond.code yX3_item cX3_item 2 (some .int), Cond.fieldLink RX3 23 "QuarterMasks$Sheet" "size" "I", Cond.fieldLink RX3 9 "QuarterMasks$Sheet" "items" "[I", Cond.methodLink RX5 73 yX1_paint, Cond.instanceMethod yX1_paint, Cond.selects RX1 yX1_paint yX1_paint, Cond.initialized RX1, Cond.code yX1_paint cX1_paint 8 none, Cond.methodLink RX1 20 yX1_row, Cond.instanceMethod yX1_row, Cond.selects RX1 yX1_row yX1_row, Cond.code yX1_row cX1_row 2 (some .int), Cond.fieldLink RX1 9 "QuarterMasks$Grid" "rows" "[I", Cond.methodLink RX1 24 yX1_setRow, Cond.instanceMethod yX1_setRow, Cond.selects RX1 yX1_setRow yX1_setRow, Cond.code yX1_setRow cX1_setRow 3 none, Cond.constant RX1 19 (65535), Cond.methodLink RX5 77 yX5_become, Cond.instanceMethod yX5_become, Cond.selects RX5 yX5_become yX5_become, Cond.code yX5_become cX5_become 2 (some .int), Cond.fieldLink RX5 24 "QuarterMasks" "changes" "LQuarterMasks$Changes;", Cond.fieldLink RX5 11 "QuarterMasks" "masks" "[LQuarterMasks$Grid;"]
def wsX5_read_r3 : List Cond := [Cond.methodLink RX5 145 yX0_keep, Cond.instanceMethod yX0_keep, Cond.selects RX0 yX0_keep yX0_keep, Cond.initialized RX0, Cond.code yX0_keep cX0_keep 4 none, Cond.fieldLink RX0 9 "QuarterMasks$Changes" "masks" "[I", Cond.fieldLink RX0 18 "QuarterMasks$Changes" "next" "I", Cond.fieldLink RX0 15 "QuarterMasks$Changes" "rows" "[I", Cond.fieldLink RX0 22 "QuarterMasks$Changes" "known" "I", Cond.methodLink RX0 31 Lib.Math.min.name, Cond.static Lib.Math.min.name, Cond.initialized "java/lang/Math", Cond.code Lib.Math.min.name Lib.Math.min.code 2 (some .int), Cond.methodLink RX0 25 yX1_row, Cond.methodLink RX5 69 yX1_take, Cond.instanceMethod yX1_take, Cond.selects RX1 yX1_take yX1_take, Cond.code yX1_take cX1_take 3 none, Cond.methodLink RX5 149 yX1_darkCells, Cond.instanceMethod yX1_darkCells, Cond.selects RX1 yX1_darkCells yX1_darkCells, Cond.code yX1_darkCells cX1_darkCells 3 (some .int), Cond.methodLink RX1 34 yJ6_bitCount_0f7a4, Cond.static yJ6_bitCount_0f7a4]
def wsX5_read_r4 : List Cond := [Cond.initialized RJ6, Cond.code yJ6_bitCount_0f7a4 cJ6_bitCount_0f7a4 1 (some .int), Cond.constant RJ6 265 (1431655765), Cond.constant RJ6 266 (858993459), Cond.constant RJ6 267 (252645135)]
def wsX5_read : List Cond := .code yX5_read cX5_read 4 (some .int) :: ((wsX5_read_r1 ++ (wsX5_read_r2 ++ (wsX5_read_r3 ++ wsX5_read_r4))) ++ wsX50 ++ wsX30 ++ wsX10 ++ wsX00)
def wsX5_back_r1 : List Cond := [Cond.fieldLink RX5 24 "QuarterMasks" "changes" "LQuarterMasks$Changes;", Cond.fieldLink RX5 29 "QuarterMasks" "made" "LQuarterMasks$Grid;", Cond.fieldLink RX5 11 "QuarterMasks" "masks" "[LQuarterMasks$Grid;", Cond.methodLink RX5 141 yX0_undo, Cond.instanceMethod yX0_undo, Cond.selects RX0 yX0_undo yX0_undo, Cond.initialized RX0, Cond.code yX0_undo cX0_undo 3 (some .int), Cond.fieldLink RX0 22 "QuarterMasks$Changes" "known" "I", Cond.fieldLink RX0 18 "QuarterMasks$Changes" "next" "I", Cond.fieldLink RX0 15 "QuarterMasks$Changes" "rows" "[I", Cond.fieldLink RX0 9 "QuarterMasks$Changes" "masks" "[I", Cond.methodLink RX0 37 yX1_setRow, Cond.instanceMethod yX1_setRow, Cond.selects RX1 yX1_setRow yX1_setRow, Cond.initialized RX1, Cond.code yX1_setRow cX1_setRow 3 none, Cond.fieldLink RX1 9 "QuarterMasks$Grid" "rows" "[I", Cond.constant RX1 19 (65535), Cond.static yX5_within, Cond.initialized RX5, Cond.code yX5_within cX5_within 2 (some .boolean), Cond.methodLink RX5 58 yX5_isMask, Cond.static yX5_isMask]
def wsX5_back_r2 : List Cond := [Cond.code yX5_isMask cX5_isMask 1 (some .boolean), Cond.methodLink RX5 66 yX5_within, Cond.methodLink RX5 69 yX1_take, Cond.instanceMethod yX1_take, Cond.selects RX1 yX1_take yX1_take, Cond.code yX1_take cX1_take 3 none]
def wsX5_back : List Cond := .code yX5_back cX5_back 2 (some .int) :: ((wsX5_back_r1 ++ wsX5_back_r2) ++ wsX50 ++ wsX00 ++ wsX10)
def wsX5_cell : List Cond := .code yX5_cell cX5_cell 4 (some .int) :: ([.fieldLink RX5 11 "QuarterMasks" "masks" "[LQuarterMasks$Grid;", .methodLink RX5 58 yX5_isMask, .static yX5_isMask, .initialized RX5, .code yX5_isMask cX5_isMask 1 (some .boolean), .methodLink RX5 66 yX5_within, .static yX5_within, .code yX5_within cX5_within 2 (some .boolean), .methodLink RX5 62 yX5_isCell, .static yX5_isCell, .code yX5_isCell cX5_isCell 2 (some .boolean), .methodLink RX5 153 yX1_isDark, .instanceMethod yX1_isDark, .selects RX1 yX1_isDark yX1_isDark, .initialized RX1, .code yX1_isDark cX1_isDark 3 (some .boolean), .fieldLink RX1 9 "QuarterMasks$Grid" "rows" "[I"] ++ wsX50 ++ wsX10)
def wsX5_block_r1 : List Cond := [Cond.fieldLink RX5 11 "QuarterMasks" "masks" "[LQuarterMasks$Grid;", Cond.methodLink RX5 58 yX5_isMask, Cond.static yX5_isMask, Cond.initialized RX5, Cond.code yX5_isMask cX5_isMask 1 (some .boolean), Cond.methodLink RX5 66 yX5_within, Cond.static yX5_within, Cond.code yX5_within cX5_within 2 (some .boolean), Cond.methodLink RX5 62 yX5_isCell, Cond.static yX5_isCell, Cond.code yX5_isCell cX5_isCell 2 (some .boolean), Cond.methodLink RX5 156 yX1_sideOfBlock, Cond.instanceMethod yX1_sideOfBlock, Cond.selects RX1 yX1_sideOfBlock yX1_sideOfBlock, Cond.initialized RX1, Cond.code yX1_sideOfBlock cX1_sideOfBlock 4 (some .int), Cond.methodLink RX1 43 yX1_signOfSquare, Cond.instanceMethod yX1_signOfSquare, Cond.selects RX1 yX1_signOfSquare yX1_signOfSquare, Cond.code yX1_signOfSquare cX1_signOfSquare 7 (some .int), Cond.methodLink RX1 20 yX1_row, Cond.instanceMethod yX1_row, Cond.selects RX1 yX1_row yX1_row, Cond.code yX1_row cX1_row 2 (some .int)]
def wsX5_block_r2 : List Cond := [Cond.fieldLink RX1 9 "QuarterMasks$Grid" "rows" "[I"]
def wsX5_block : List Cond := .code yX5_block cX5_block 6 (some .int) :: ((wsX5_block_r1 ++ wsX5_block_r2) ++ wsX50 ++ wsX10)
def wsX5_blocks_r1 : List Cond := [Cond.fieldLink RX5 49 "QuarterMasks" "signs" "LQuarterMasks$Signs;", Cond.fieldLink RX5 11 "QuarterMasks" "masks" "[LQuarterMasks$Grid;", Cond.methodLink RX5 58 yX5_isMask, Cond.static yX5_isMask, Cond.initialized RX5, Cond.code yX5_isMask cX5_isMask 1 (some .boolean), Cond.methodLink RX5 66 yX5_within, Cond.static yX5_within, Cond.code yX5_within cX5_within 2 (some .boolean), Cond.methodLink RX5 159 yX4_look, Cond.instanceMethod yX4_look, Cond.selects RX4 yX4_look yX4_look, Cond.initialized RX4, Cond.code yX4_look cX4_look 2 none, Cond.fieldLink RX4 12 "QuarterMasks$Signs" "seen" "LQuarterMasks$Grid;", Cond.fieldLink RX4 22 "QuarterMasks$Signs" "told" "I", Cond.fieldLink RX4 26 "QuarterMasks$Signs" "darkBlocks" "I", Cond.fieldLink RX4 29 "QuarterMasks$Signs" "mixed" "I", Cond.fieldLink RX4 32 "QuarterMasks$Signs" "deepest" "I", Cond.methodLink RX4 35 yX1_sameAs, Cond.instanceMethod yX1_sameAs, Cond.selects RX1 yX1_sameAs yX1_sameAs, Cond.initialized RX1, Cond.code yX1_sameAs cX1_sameAs 3 (some .boolean)]
def wsX5_blocks_r2 : List Cond := [Cond.fieldLink RX1 9 "QuarterMasks$Grid" "rows" "[I", Cond.methodLink RX4 39 yX1_take, Cond.instanceMethod yX1_take, Cond.selects RX1 yX1_take yX1_take, Cond.code yX1_take cX1_take 3 none, Cond.methodLink RX4 43 yX4_tellSquare, Cond.static yX4_tellSquare, Cond.code yX4_tellSquare cX4_tellSquare 8 none, Cond.methodLink RX4 55 Lib.Math.max.name, Cond.static Lib.Math.max.name, Cond.initialized "java/lang/Math", Cond.code Lib.Math.max.name Lib.Math.max.code 2 (some .int), Cond.methodLink RX4 47 yX1_signOfSquare, Cond.instanceMethod yX1_signOfSquare, Cond.selects RX1 yX1_signOfSquare yX1_signOfSquare, Cond.code yX1_signOfSquare cX1_signOfSquare 7 (some .int), Cond.methodLink RX1 20 yX1_row, Cond.instanceMethod yX1_row, Cond.selects RX1 yX1_row yX1_row, Cond.code yX1_row cX1_row 2 (some .int), Cond.methodLink RX4 51 yX4_addSign, Cond.instanceMethod yX4_addSign, Cond.selects RX4 yX4_addSign yX4_addSign, Cond.code yX4_addSign cX4_addSign 2 none]
def wsX5_blocks_r3 : List Cond := [Cond.fieldLink RX4 18 "QuarterMasks$Signs" "list" "[I"]
def wsX5_blocks : List Cond := .code yX5_blocks cX5_blocks 3 (some .int) :: ((wsX5_blocks_r1 ++ (wsX5_blocks_r2 ++ wsX5_blocks_r3)) ++ wsX50 ++ wsX40 ++ wsX10)
def wsX5_shown_r1 : List Cond := [Cond.fieldLink RX5 49 "QuarterMasks" "signs" "LQuarterMasks$Signs;", Cond.fieldLink RX5 11 "QuarterMasks" "masks" "[LQuarterMasks$Grid;", Cond.methodLink RX5 58 yX5_isMask, Cond.static yX5_isMask, Cond.initialized RX5, Cond.code yX5_isMask cX5_isMask 1 (some .boolean), Cond.methodLink RX5 66 yX5_within, Cond.static yX5_within, Cond.code yX5_within cX5_within 2 (some .boolean), Cond.methodLink RX5 159 yX4_look, Cond.instanceMethod yX4_look, Cond.selects RX4 yX4_look yX4_look, Cond.initialized RX4, Cond.code yX4_look cX4_look 2 none, Cond.fieldLink RX4 12 "QuarterMasks$Signs" "seen" "LQuarterMasks$Grid;", Cond.fieldLink RX4 22 "QuarterMasks$Signs" "told" "I", Cond.fieldLink RX4 26 "QuarterMasks$Signs" "darkBlocks" "I", Cond.fieldLink RX4 29 "QuarterMasks$Signs" "mixed" "I", Cond.fieldLink RX4 32 "QuarterMasks$Signs" "deepest" "I", Cond.methodLink RX4 35 yX1_sameAs, Cond.instanceMethod yX1_sameAs, Cond.selects RX1 yX1_sameAs yX1_sameAs, Cond.initialized RX1, Cond.code yX1_sameAs cX1_sameAs 3 (some .boolean)]
def wsX5_shown_r2 : List Cond := [Cond.fieldLink RX1 9 "QuarterMasks$Grid" "rows" "[I", Cond.methodLink RX4 39 yX1_take, Cond.instanceMethod yX1_take, Cond.selects RX1 yX1_take yX1_take, Cond.code yX1_take cX1_take 3 none, Cond.methodLink RX4 43 yX4_tellSquare, Cond.static yX4_tellSquare, Cond.code yX4_tellSquare cX4_tellSquare 8 none, Cond.methodLink RX4 55 Lib.Math.max.name, Cond.static Lib.Math.max.name, Cond.initialized "java/lang/Math", Cond.code Lib.Math.max.name Lib.Math.max.code 2 (some .int), Cond.methodLink RX4 47 yX1_signOfSquare, Cond.instanceMethod yX1_signOfSquare, Cond.selects RX1 yX1_signOfSquare yX1_signOfSquare, Cond.code yX1_signOfSquare cX1_signOfSquare 7 (some .int), Cond.methodLink RX1 20 yX1_row, Cond.instanceMethod yX1_row, Cond.selects RX1 yX1_row yX1_row, Cond.code yX1_row cX1_row 2 (some .int), Cond.methodLink RX4 51 yX4_addSign, Cond.instanceMethod yX4_addSign, Cond.selects RX4 yX4_addSign yX4_addSign, Cond.code yX4_addSign cX4_addSign 2 none]
def wsX5_shown_r3 : List Cond := [Cond.fieldLink RX4 18 "QuarterMasks$Signs" "list" "[I", Cond.methodLink RX5 172 yX4_sign, Cond.instanceMethod yX4_sign, Cond.selects RX4 yX4_sign yX4_sign, Cond.code yX4_sign cX4_sign 2 (some .int)]
def wsX5_shown : List Cond := .code yX5_shown cX5_shown 3 (some .int) :: ((wsX5_shown_r1 ++ (wsX5_shown_r2 ++ wsX5_shown_r3)) ++ wsX50 ++ wsX40 ++ wsX10)
def wsX5_all_r1 : List Cond := [Cond.fieldLink RX5 39 "QuarterMasks" "darkParts" "LQuarterMasks$Parts;", Cond.fieldLink RX5 11 "QuarterMasks" "masks" "[LQuarterMasks$Grid;", Cond.fieldLink RX5 33 "QuarterMasks" "spare" "LQuarterMasks$Grid;", Cond.fieldLink RX5 43 "QuarterMasks" "lightParts" "LQuarterMasks$Parts;", Cond.methodLink RX5 58 yX5_isMask, Cond.static yX5_isMask, Cond.initialized RX5, Cond.code yX5_isMask cX5_isMask 1 (some .boolean), Cond.methodLink RX5 66 yX5_within, Cond.static yX5_within, Cond.code yX5_within cX5_within 2 (some .boolean), Cond.methodLink RX5 108 yX2_look, Cond.instanceMethod yX2_look, Cond.selects RX2 yX2_look yX2_look, Cond.initialized RX2, Cond.code yX2_look cX2_look 3 none, Cond.fieldLink RX2 12 "QuarterMasks$Parts" "seen" "LQuarterMasks$Grid;", Cond.fieldLink RX2 18 "QuarterMasks$Parts" "labels" "[I", Cond.fieldLink RX2 28 "QuarterMasks$Parts" "parts" "I", Cond.methodLink RX2 38 yX1_sameAs, Cond.instanceMethod yX1_sameAs, Cond.selects RX1 yX1_sameAs yX1_sameAs, Cond.initialized RX1, Cond.code yX1_sameAs cX1_sameAs 3 (some .boolean)]
def wsX5_all_r2 : List Cond := [Cond.fieldLink RX1 9 "QuarterMasks$Grid" "rows" "[I", Cond.methodLink RX2 42 yX1_take, Cond.instanceMethod yX1_take, Cond.selects RX1 yX1_take yX1_take, Cond.code yX1_take cX1_take 3 none, Cond.methodLink RX2 32 yJ7_fill_53178, Cond.static yJ7_fill_53178, Cond.initialized RJ7, Cond.code yJ7_fill_53178 cJ7_fill_53178 4 none, Cond.methodLink RX2 46 yX1_isDark, Cond.instanceMethod yX1_isDark, Cond.selects RX1 yX1_isDark yX1_isDark, Cond.code yX1_isDark cX1_isDark 3 (some .boolean), Cond.methodLink RX2 50 yX2_gather, Cond.instanceMethod yX2_gather, Cond.selects RX2 yX2_gather yX2_gather, Cond.code yX2_gather cX2_gather 6 none, Cond.fieldLink RX2 22 "QuarterMasks$Parts" "reached" "[I", Cond.methodLink RX2 54 yX2_beginFigures, Cond.instanceMethod yX2_beginFigures, Cond.selects RX2 yX2_beginFigures yX2_beginFigures, Cond.code yX2_beginFigures cX2_beginFigures 4 none, Cond.fieldLink RX2 25 "QuarterMasks$Parts" "figures" "[I", Cond.methodLink RX2 58 yX2_reach]
def wsX5_all_r3 : List Cond := [Cond.instanceMethod yX2_reach, Cond.selects RX2 yX2_reach yX2_reach, Cond.code yX2_reach cX2_reach 4 (some .int), Cond.methodLink RX2 65 yX2_labelAt, Cond.instanceMethod yX2_labelAt, Cond.selects RX2 yX2_labelAt yX2_labelAt, Cond.code yX2_labelAt cX2_labelAt 3 (some .int), Cond.methodLink RX2 62 yX2_noteFigures, Cond.instanceMethod yX2_noteFigures, Cond.selects RX2 yX2_noteFigures yX2_noteFigures, Cond.code yX2_noteFigures cX2_noteFigures 4 none, Cond.methodLink RX2 69 Lib.Math.min.name, Cond.static Lib.Math.min.name, Cond.initialized "java/lang/Math", Cond.code Lib.Math.min.name Lib.Math.min.code 2 (some .int), Cond.methodLink RX2 74 Lib.Math.max.name, Cond.static Lib.Math.max.name, Cond.code Lib.Math.max.name Lib.Math.max.code 2 (some .int), Cond.methodLink RX5 178 yX1_border, Cond.instanceMethod yX1_border, Cond.selects RX1 yX1_border yX1_border, Cond.code yX1_border cX1_border 3 (some .int), Cond.methodLink RX1 34 yJ6_bitCount_0f7a4, Cond.static yJ6_bitCount_0f7a4]
def wsX5_all_r4 : List Cond := [Cond.initialized RJ6, Cond.code yJ6_bitCount_0f7a4 cJ6_bitCount_0f7a4 1 (some .int), Cond.constant RJ6 265 (1431655765), Cond.constant RJ6 266 (858993459), Cond.constant RJ6 267 (252645135), Cond.methodLink RX1 20 yX1_row, Cond.instanceMethod yX1_row, Cond.selects RX1 yX1_row yX1_row, Cond.code yX1_row cX1_row 2 (some .int), Cond.methodLink RX1 39 yX1_darkCells, Cond.instanceMethod yX1_darkCells, Cond.selects RX1 yX1_darkCells yX1_darkCells, Cond.code yX1_darkCells cX1_darkCells 3 (some .int), Cond.methodLink RX5 96 yX1_takeTurnedOver, Cond.instanceMethod yX1_takeTurnedOver, Cond.selects RX1 yX1_takeTurnedOver yX1_takeTurnedOver, Cond.code yX1_takeTurnedOver cX1_takeTurnedOver 3 none, Cond.constant RX1 19 (65535), Cond.methodLink RX5 181 yX2_partsOffTheEdge, Cond.instanceMethod yX2_partsOffTheEdge, Cond.selects RX2 yX2_partsOffTheEdge yX2_partsOffTheEdge, Cond.code yX2_partsOffTheEdge cX2_partsOffTheEdge 5 (some .int), Cond.methodLink RX2 80 yX2_figure, Cond.instanceMethod yX2_figure]
def wsX5_all_r5 : List Cond := [Cond.selects RX2 yX2_figure yX2_figure, Cond.code yX2_figure cX2_figure 3 (some .int), Cond.methodLink RX5 149 yX1_darkCells]
def wsX5_all : List Cond := .code yX5_all cX5_all 3 (some .int) :: ((wsX5_all_r1 ++ (wsX5_all_r2 ++ (wsX5_all_r3 ++ (wsX5_all_r4 ++ wsX5_all_r5)))) ++ wsX50 ++ wsX20 ++ wsX10)
def wsX5_label_r1 : List Cond := [Cond.fieldLink RX5 39 "QuarterMasks" "darkParts" "LQuarterMasks$Parts;", Cond.fieldLink RX5 11 "QuarterMasks" "masks" "[LQuarterMasks$Grid;", Cond.methodLink RX5 58 yX5_isMask, Cond.static yX5_isMask, Cond.initialized RX5, Cond.code yX5_isMask cX5_isMask 1 (some .boolean), Cond.methodLink RX5 66 yX5_within, Cond.static yX5_within, Cond.code yX5_within cX5_within 2 (some .boolean), Cond.methodLink RX5 62 yX5_isCell, Cond.static yX5_isCell, Cond.code yX5_isCell cX5_isCell 2 (some .boolean), Cond.methodLink RX5 108 yX2_look, Cond.instanceMethod yX2_look, Cond.selects RX2 yX2_look yX2_look, Cond.initialized RX2, Cond.code yX2_look cX2_look 3 none, Cond.fieldLink RX2 12 "QuarterMasks$Parts" "seen" "LQuarterMasks$Grid;", Cond.fieldLink RX2 18 "QuarterMasks$Parts" "labels" "[I", Cond.fieldLink RX2 28 "QuarterMasks$Parts" "parts" "I", Cond.methodLink RX2 38 yX1_sameAs, Cond.instanceMethod yX1_sameAs, Cond.selects RX1 yX1_sameAs yX1_sameAs, Cond.initialized RX1]
def wsX5_label_r2 : List Cond := [Cond.code yX1_sameAs cX1_sameAs 3 (some .boolean), Cond.fieldLink RX1 9 "QuarterMasks$Grid" "rows" "[I", Cond.methodLink RX2 42 yX1_take, Cond.instanceMethod yX1_take, Cond.selects RX1 yX1_take yX1_take, Cond.code yX1_take cX1_take 3 none, Cond.methodLink RX2 32 yJ7_fill_53178, Cond.static yJ7_fill_53178, Cond.initialized RJ7, Cond.code yJ7_fill_53178 cJ7_fill_53178 4 none, Cond.methodLink RX2 46 yX1_isDark, Cond.instanceMethod yX1_isDark, Cond.selects RX1 yX1_isDark yX1_isDark, Cond.code yX1_isDark cX1_isDark 3 (some .boolean), Cond.methodLink RX2 50 yX2_gather, Cond.instanceMethod yX2_gather, Cond.selects RX2 yX2_gather yX2_gather, Cond.code yX2_gather cX2_gather 6 none, Cond.fieldLink RX2 22 "QuarterMasks$Parts" "reached" "[I", Cond.methodLink RX2 54 yX2_beginFigures, Cond.instanceMethod yX2_beginFigures, Cond.selects RX2 yX2_beginFigures yX2_beginFigures, Cond.code yX2_beginFigures cX2_beginFigures 4 none, Cond.fieldLink RX2 25 "QuarterMasks$Parts" "figures" "[I"]
def wsX5_label_r3 : List Cond := [Cond.methodLink RX2 58 yX2_reach, Cond.instanceMethod yX2_reach, Cond.selects RX2 yX2_reach yX2_reach, Cond.code yX2_reach cX2_reach 4 (some .int), Cond.methodLink RX2 65 yX2_labelAt, Cond.instanceMethod yX2_labelAt, Cond.selects RX2 yX2_labelAt yX2_labelAt, Cond.code yX2_labelAt cX2_labelAt 3 (some .int), Cond.methodLink RX2 62 yX2_noteFigures, Cond.instanceMethod yX2_noteFigures, Cond.selects RX2 yX2_noteFigures yX2_noteFigures, Cond.code yX2_noteFigures cX2_noteFigures 4 none, Cond.methodLink RX2 69 Lib.Math.min.name, Cond.static Lib.Math.min.name, Cond.initialized "java/lang/Math", Cond.code Lib.Math.min.name Lib.Math.min.code 2 (some .int), Cond.methodLink RX2 74 Lib.Math.max.name, Cond.static Lib.Math.max.name, Cond.code Lib.Math.max.name Lib.Math.max.code 2 (some .int), Cond.methodLink RX5 111 yX2_labelAt]
def wsX5_label : List Cond := .code yX5_label cX5_label 4 (some .int) :: ((wsX5_label_r1 ++ (wsX5_label_r2 ++ wsX5_label_r3)) ++ wsX50 ++ wsX20 ++ wsX10)
def wsX5_part_r1 : List Cond := [Cond.fieldLink RX5 39 "QuarterMasks" "darkParts" "LQuarterMasks$Parts;", Cond.fieldLink RX5 11 "QuarterMasks" "masks" "[LQuarterMasks$Grid;", Cond.methodLink RX5 58 yX5_isMask, Cond.static yX5_isMask, Cond.initialized RX5, Cond.code yX5_isMask cX5_isMask 1 (some .boolean), Cond.methodLink RX5 66 yX5_within, Cond.static yX5_within, Cond.code yX5_within cX5_within 2 (some .boolean), Cond.methodLink RX5 108 yX2_look, Cond.instanceMethod yX2_look, Cond.selects RX2 yX2_look yX2_look, Cond.initialized RX2, Cond.code yX2_look cX2_look 3 none, Cond.fieldLink RX2 12 "QuarterMasks$Parts" "seen" "LQuarterMasks$Grid;", Cond.fieldLink RX2 18 "QuarterMasks$Parts" "labels" "[I", Cond.fieldLink RX2 28 "QuarterMasks$Parts" "parts" "I", Cond.methodLink RX2 38 yX1_sameAs, Cond.instanceMethod yX1_sameAs, Cond.selects RX1 yX1_sameAs yX1_sameAs, Cond.initialized RX1, Cond.code yX1_sameAs cX1_sameAs 3 (some .boolean), Cond.fieldLink RX1 9 "QuarterMasks$Grid" "rows" "[I", Cond.methodLink RX2 42 yX1_take]
def wsX5_part_r2 : List Cond := [Cond.instanceMethod yX1_take, Cond.selects RX1 yX1_take yX1_take, Cond.code yX1_take cX1_take 3 none, Cond.methodLink RX2 32 yJ7_fill_53178, Cond.static yJ7_fill_53178, Cond.initialized RJ7, Cond.code yJ7_fill_53178 cJ7_fill_53178 4 none, Cond.methodLink RX2 46 yX1_isDark, Cond.instanceMethod yX1_isDark, Cond.selects RX1 yX1_isDark yX1_isDark, Cond.code yX1_isDark cX1_isDark 3 (some .boolean), Cond.methodLink RX2 50 yX2_gather, Cond.instanceMethod yX2_gather, Cond.selects RX2 yX2_gather yX2_gather, Cond.code yX2_gather cX2_gather 6 none, Cond.fieldLink RX2 22 "QuarterMasks$Parts" "reached" "[I", Cond.methodLink RX2 54 yX2_beginFigures, Cond.instanceMethod yX2_beginFigures, Cond.selects RX2 yX2_beginFigures yX2_beginFigures, Cond.code yX2_beginFigures cX2_beginFigures 4 none, Cond.fieldLink RX2 25 "QuarterMasks$Parts" "figures" "[I", Cond.methodLink RX2 58 yX2_reach, Cond.instanceMethod yX2_reach, Cond.selects RX2 yX2_reach yX2_reach]
def wsX5_part_r3 : List Cond := [Cond.code yX2_reach cX2_reach 4 (some .int), Cond.methodLink RX2 65 yX2_labelAt, Cond.instanceMethod yX2_labelAt, Cond.selects RX2 yX2_labelAt yX2_labelAt, Cond.code yX2_labelAt cX2_labelAt 3 (some .int), Cond.methodLink RX2 62 yX2_noteFigures, Cond.instanceMethod yX2_noteFigures, Cond.selects RX2 yX2_noteFigures yX2_noteFigures, Cond.code yX2_noteFigures cX2_noteFigures 4 none, Cond.methodLink RX2 69 Lib.Math.min.name, Cond.static Lib.Math.min.name, Cond.initialized "java/lang/Math", Cond.code Lib.Math.min.name Lib.Math.min.code 2 (some .int), Cond.methodLink RX2 74 Lib.Math.max.name, Cond.static Lib.Math.max.name, Cond.code Lib.Math.max.name Lib.Math.max.code 2 (some .int), Cond.methodLink RX5 184 yX2_figure, Cond.instanceMethod yX2_figure, Cond.selects RX2 yX2_figure yX2_figure, Cond.code yX2_figure cX2_figure 3 (some .int)]
def wsX5_part : List Cond := .code yX5_part cX5_part 4 (some .int) :: ((wsX5_part_r1 ++ (wsX5_part_r2 ++ wsX5_part_r3)) ++ wsX50 ++ wsX20 ++ wsX10)
def wsX5_near : List Cond := .code yX5_near cX5_near 4 (some .int) :: ([.fieldLink RX5 11 "QuarterMasks" "masks" "[LQuarterMasks$Grid;", .methodLink RX5 58 yX5_isMask, .static yX5_isMask, .initialized RX5, .code yX5_isMask cX5_isMask 1 (some .boolean), .methodLink RX5 66 yX5_within, .static yX5_within, .code yX5_within cX5_within 2 (some .boolean), .methodLink RX5 62 yX5_isCell, .static yX5_isCell, .code yX5_isCell cX5_isCell 2 (some .boolean), .methodLink RX5 187 yX1_distanceFrom, .instanceMethod yX1_distanceFrom, .selects RX1 yX1_distanceFrom yX1_distanceFrom, .initialized RX1, .code yX1_distanceFrom cX1_distanceFrom 7 (some .int), .fieldLink RX1 9 "QuarterMasks$Grid" "rows" "[I", .methodLink RX1 51 Lib.Math.abs.name, .static Lib.Math.abs.name, .initialized "java/lang/Math", .code Lib.Math.abs.name Lib.Math.abs.code 1 (some .int), .methodLink RX1 47 yX1_gapInRow, .static yX1_gapInRow, .code yX1_gapInRow cX1_gapInRow 4 (some .int)] ++ wsX50 ++ wsX10)
def wsX5_both_r1 : List Cond := [Cond.fieldLink RX5 11 "QuarterMasks" "masks" "[LQuarterMasks$Grid;", Cond.methodLink RX5 58 yX5_isMask, Cond.static yX5_isMask, Cond.initialized RX5, Cond.code yX5_isMask cX5_isMask 1 (some .boolean), Cond.methodLink RX5 66 yX5_within, Cond.static yX5_within, Cond.code yX5_within cX5_within 2 (some .boolean), Cond.methodLink RX5 190 yX1_sameAs, Cond.instanceMethod yX1_sameAs, Cond.selects RX1 yX1_sameAs yX1_sameAs, Cond.initialized RX1, Cond.code yX1_sameAs cX1_sameAs 3 (some .boolean), Cond.fieldLink RX1 9 "QuarterMasks$Grid" "rows" "[I", Cond.methodLink RX5 194 yX1_darkCellsIn, Cond.instanceMethod yX1_darkCellsIn, Cond.selects RX1 yX1_darkCellsIn yX1_darkCellsIn, Cond.code yX1_darkCellsIn cX1_darkCellsIn 4 (some .int), Cond.methodLink RX1 34 yJ6_bitCount_0f7a4, Cond.static yJ6_bitCount_0f7a4, Cond.initialized RJ6, Cond.code yJ6_bitCount_0f7a4 cJ6_bitCount_0f7a4 1 (some .int), Cond.constant RJ6 265 (1431655765), Cond.constant RJ6 266 (858993459)]
def wsX5_both_r2 : List Cond := [Cond.constant RJ6 267 (252645135), Cond.methodLink RX5 149 yX1_darkCells, Cond.instanceMethod yX1_darkCells, Cond.selects RX1 yX1_darkCells yX1_darkCells, Cond.code yX1_darkCells cX1_darkCells 3 (some .int), Cond.methodLink RX5 197 yX1_touches, Cond.instanceMethod yX1_touches, Cond.selects RX1 yX1_touches yX1_touches, Cond.code yX1_touches cX1_touches 3 (some .boolean), Cond.methodLink RX1 31 yX1_neighboursInRow, Cond.instanceMethod yX1_neighboursInRow, Cond.selects RX1 yX1_neighboursInRow yX1_neighboursInRow, Cond.code yX1_neighboursInRow cX1_neighboursInRow 2 (some .int), Cond.constant RX1 19 (65535), Cond.methodLink RX1 20 yX1_row, Cond.instanceMethod yX1_row, Cond.selects RX1 yX1_row yX1_row, Cond.code yX1_row cX1_row 2 (some .int)]
def wsX5_both : List Cond := .code yX5_both cX5_both 4 (some .int) :: ((wsX5_both_r1 ++ wsX5_both_r2) ++ wsX50 ++ wsX10)
def wsX5_sheet_r1 : List Cond := [Cond.fieldLink RX5 17 "QuarterMasks" "sheets" "[LQuarterMasks$Sheet;", Cond.methodLink RX5 118 yX5_isSheet, Cond.static yX5_isSheet, Cond.initialized RX5, Cond.code yX5_isSheet cX5_isSheet 1 (some .boolean), Cond.methodLink RX5 66 yX5_within, Cond.static yX5_within, Cond.code yX5_within cX5_within 2 (some .boolean), Cond.methodLink RX5 125 yX5_found, Cond.instanceMethod yX5_found, Cond.selects RX5 yX5_found yX5_found, Cond.code yX5_found cX5_found 2 (some .int), Cond.fieldLink RX5 53 "QuarterMasks" "latestFinding" "I", Cond.methodLink RX5 200 yX3_begin, Cond.instanceMethod yX3_begin, Cond.selects RX3 yX3_begin yX3_begin, Cond.initialized RX3, Cond.code yX3_begin cX3_begin 3 none, Cond.fieldLink RX3 15 "QuarterMasks$Sheet" "lost" "Z", Cond.fieldLink RX3 19 "QuarterMasks$Sheet" "form" "I", Cond.fieldLink RX3 23 "QuarterMasks$Sheet" "size" "I", Cond.fieldLink RX3 9 "QuarterMasks$Sheet" "items" "[I", Cond.methodLink RX3 26 yJ7_fill_53178, Cond.static yJ7_fill_53178]
def wsX5_sheet_r2 : List Cond := [Cond.initialized RJ7, Cond.code yJ7_fill_53178 cJ7_fill_53178 4 none]
def wsX5_sheet : List Cond := .code yX5_sheet cX5_sheet 4 (some .int) :: ((wsX5_sheet_r1 ++ wsX5_sheet_r2) ++ wsX50 ++ wsX30)
def wsX5_lose : List Cond := .code yX5_lose cX5_lose 2 (some .int) :: ([.fieldLink RX5 17 "QuarterMasks" "sheets" "[LQuarterMasks$Sheet;", .methodLink RX5 118 yX5_isSheet, .static yX5_isSheet, .initialized RX5, .code yX5_isSheet cX5_isSheet 1 (some .boolean), .methodLink RX5 66 yX5_within, .static yX5_within, .code yX5_within cX5_within 2 (some .boolean), .methodLink RX5 125 yX5_found, .instanceMethod yX5_found, .selects RX5 yX5_found yX5_found, .code yX5_found cX5_found 2 (some .int), .fieldLink RX5 53 "QuarterMasks" "latestFinding" "I"] ++ wsX50 ++ wsX30)
def wsX5_findingAt : List Cond := .code yX5_findingAt cX5_findingAt 3 (some .int) :: ([.methodLink RX5 66 yX5_within, .static yX5_within, .initialized RX5, .code yX5_within cX5_within 2 (some .boolean)] ++ wsX30)
def wsX5_lay_r1 : List Cond := [Cond.fieldLink RX5 17 "QuarterMasks" "sheets" "[LQuarterMasks$Sheet;", Cond.methodLink RX5 118 yX5_isSheet, Cond.static yX5_isSheet, Cond.initialized RX5, Cond.code yX5_isSheet cX5_isSheet 1 (some .boolean), Cond.methodLink RX5 66 yX5_within, Cond.static yX5_within, Cond.code yX5_within cX5_within 2 (some .boolean), Cond.methodLink RX5 203 yX5_findingAt, Cond.static yX5_findingAt, Cond.code yX5_findingAt cX5_findingAt 3 (some .int), Cond.methodLink RX5 125 yX5_found, Cond.instanceMethod yX5_found, Cond.selects RX5 yX5_found yX5_found, Cond.code yX5_found cX5_found 2 (some .int), Cond.fieldLink RX5 53 "QuarterMasks" "latestFinding" "I", Cond.methodLink RX5 207 yX3_setItem, Cond.instanceMethod yX3_setItem, Cond.selects RX3 yX3_setItem yX3_setItem, Cond.initialized RX3, Cond.code yX3_setItem cX3_setItem 3 none, Cond.fieldLink RX3 23 "QuarterMasks$Sheet" "size" "I", Cond.fieldLink RX3 9 "QuarterMasks$Sheet" "items" "[I", Cond.methodLink RX3 36 yX3_narrowed]
def wsX5_lay_r2 : List Cond := [Cond.instanceMethod yX3_narrowed, Cond.selects RX3 yX3_narrowed yX3_narrowed, Cond.code yX3_narrowed cX3_narrowed 2 (some .int), Cond.fieldLink RX3 19 "QuarterMasks$Sheet" "form" "I"]
def wsX5_lay : List Cond := .code yX5_lay cX5_lay 6 (some .int) :: ((wsX5_lay_r1 ++ wsX5_lay_r2) ++ wsX50 ++ wsX30)
def wsX5_get : List Cond := .code yX5_get cX5_get 5 (some .int) :: ([.constant RX5 210 (-2147483648), .fieldLink RX5 17 "QuarterMasks" "sheets" "[LQuarterMasks$Sheet;", .fieldLink RX5 53 "QuarterMasks" "latestFinding" "I", .methodLink RX5 118 yX5_isSheet, .static yX5_isSheet, .initialized RX5, .code yX5_isSheet cX5_isSheet 1 (some .boolean), .methodLink RX5 66 yX5_within, .static yX5_within, .code yX5_within cX5_within 2 (some .boolean), .methodLink RX5 203 yX5_findingAt, .static yX5_findingAt, .code yX5_findingAt cX5_findingAt 3 (some .int), .methodLink RX5 135 yX3_item, .instanceMethod yX3_item, .selects RX3 yX3_item yX3_item, .initialized RX3, .code yX3_item cX3_item 2 (some .int), .fieldLink RX3 23 "QuarterMasks$Sheet" "size" "I", .fieldLink RX3 9 "QuarterMasks$Sheet" "items" "[I"] ++ wsX50 ++ wsX30)
def wsX5_copy : List Cond := .code yX5_copy cX5_copy 6 (some .int) :: ([.fieldLink RX5 17 "QuarterMasks" "sheets" "[LQuarterMasks$Sheet;", .methodLink RX5 221 arraycopyName, .native arraycopyName, .static arraycopyName, .initialized "java/lang/System", .methodLink RX5 118 yX5_isSheet, .static yX5_isSheet, .initialized RX5, .code yX5_isSheet cX5_isSheet 1 (some .boolean), .methodLink RX5 66 yX5_within, .static yX5_within, .code yX5_within cX5_within 2 (some .boolean), .methodLink RX5 125 yX5_found, .instanceMethod yX5_found, .selects RX5 yX5_found yX5_found, .code yX5_found cX5_found 2 (some .int), .fieldLink RX5 53 "QuarterMasks" "latestFinding" "I", .methodLink RX5 214 yX3_hasItems, .instanceMethod yX3_hasItems, .selects RX3 yX3_hasItems yX3_hasItems, .initialized RX3, .code yX3_hasItems cX3_hasItems 3 (some .boolean), .fieldLink RX3 23 "QuarterMasks$Sheet" "size" "I"] ++ wsX50 ++ wsX30)
def wsX5_write_r1 : List Cond := [Cond.fieldLink RX5 17 "QuarterMasks" "sheets" "[LQuarterMasks$Sheet;", Cond.fieldLink RX5 49 "QuarterMasks" "signs" "LQuarterMasks$Signs;", Cond.fieldLink RX5 11 "QuarterMasks" "masks" "[LQuarterMasks$Grid;", Cond.methodLink RX5 227 Lib.Math.min.name, Cond.static Lib.Math.min.name, Cond.initialized "java/lang/Math", Cond.code Lib.Math.min.name Lib.Math.min.code 2 (some .int), Cond.methodLink RX5 232 Lib.Math.max.name, Cond.static Lib.Math.max.name, Cond.code Lib.Math.max.name Lib.Math.max.code 2 (some .int), Cond.methodLink RX5 58 yX5_isMask, Cond.static yX5_isMask, Cond.initialized RX5, Cond.code yX5_isMask cX5_isMask 1 (some .boolean), Cond.methodLink RX5 66 yX5_within, Cond.static yX5_within, Cond.code yX5_within cX5_within 2 (some .boolean), Cond.methodLink RX5 118 yX5_isSheet, Cond.static yX5_isSheet, Cond.code yX5_isSheet cX5_isSheet 1 (some .boolean), Cond.methodLink RX5 125 yX5_found, Cond.instanceMethod yX5_found, Cond.selects RX5 yX5_found yX5_found, Cond.code yX5_found cX5_found 2 (some .int)]
def wsX5_write_r2 : List Cond := [Cond.fieldLink RX5 53 "QuarterMasks" "latestFinding" "I", Cond.methodLink RX5 159 yX4_look, Cond.instanceMethod yX4_look, Cond.selects RX4 yX4_look yX4_look, Cond.initialized RX4, Cond.code yX4_look cX4_look 2 none, Cond.fieldLink RX4 12 "QuarterMasks$Signs" "seen" "LQuarterMasks$Grid;", Cond.fieldLink RX4 22 "QuarterMasks$Signs" "told" "I", Cond.fieldLink RX4 26 "QuarterMasks$Signs" "darkBlocks" "I", Cond.fieldLink RX4 29 "QuarterMasks$Signs" "mixed" "I", Cond.fieldLink RX4 32 "QuarterMasks$Signs" "deepest" "I", Cond.methodLink RX4 35 yX1_sameAs, Cond.instanceMethod yX1_sameAs, Cond.selects RX1 yX1_sameAs yX1_sameAs, Cond.initialized RX1, Cond.code yX1_sameAs cX1_sameAs 3 (some .boolean), Cond.fieldLink RX1 9 "QuarterMasks$Grid" "rows" "[I", Cond.methodLink RX4 39 yX1_take, Cond.instanceMethod yX1_take, Cond.selects RX1 yX1_take yX1_take, Cond.code yX1_take cX1_take 3 none, Cond.methodLink RX4 43 yX4_tellSquare, Cond.static yX4_tellSquare, Cond.code yX4_tellSquare cX4_tellSquare 8 none]
def wsX5_write_r3 : List Cond := [Cond.methodLink RX4 55 Lib.Math.max.name, Cond.methodLink RX4 47 yX1_signOfSquare, Cond.instanceMethod yX1_signOfSquare, Cond.selects RX1 yX1_signOfSquare yX1_signOfSquare, Cond.code yX1_signOfSquare cX1_signOfSquare 7 (some .int), Cond.methodLink RX1 20 yX1_row, Cond.instanceMethod yX1_row, Cond.selects RX1 yX1_row yX1_row, Cond.code yX1_row cX1_row 2 (some .int), Cond.methodLink RX4 51 yX4_addSign, Cond.instanceMethod yX4_addSign, Cond.selects RX4 yX4_addSign yX4_addSign, Cond.code yX4_addSign cX4_addSign 2 none, Cond.fieldLink RX4 18 "QuarterMasks$Signs" "list" "[I", Cond.methodLink RX5 172 yX4_sign, Cond.instanceMethod yX4_sign, Cond.selects RX4 yX4_sign yX4_sign, Cond.code yX4_sign cX4_sign 2 (some .int), Cond.methodLink RX5 207 yX3_setItem, Cond.instanceMethod yX3_setItem, Cond.selects RX3 yX3_setItem yX3_setItem, Cond.initialized RX3, Cond.code yX3_setItem cX3_setItem 3 none, Cond.fieldLink RX3 23 "QuarterMasks$Sheet" "size" "I"]
def wsX5_write_r4 : List Cond := [Cond.fieldLink RX3 9 "QuarterMasks$Sheet" "items" "[I", Cond.methodLink RX3 36 yX3_narrowed, Cond.instanceMethod yX3_narrowed, Cond.selects RX3 yX3_narrowed yX3_narrowed, Cond.code yX3_narrowed cX3_narrowed 2 (some .int), Cond.fieldLink RX3 19 "QuarterMasks$Sheet" "form" "I"]
def wsX5_write : List Cond := .code yX5_write cX5_write 6 (some .int) :: ((wsX5_write_r1 ++ (wsX5_write_r2 ++ (wsX5_write_r3 ++ wsX5_write_r4))) ++ wsX50 ++ wsX30 ++ wsX40 ++ wsX10)
def wsX5_blocksOfAll_r1 : List Cond := [Cond.fieldLink RX5 49 "QuarterMasks" "signs" "LQuarterMasks$Signs;", Cond.fieldLink RX5 11 "QuarterMasks" "masks" "[LQuarterMasks$Grid;", Cond.methodLink RX5 159 yX4_look, Cond.instanceMethod yX4_look, Cond.selects RX4 yX4_look yX4_look, Cond.initialized RX4, Cond.code yX4_look cX4_look 2 none, Cond.fieldLink RX4 12 "QuarterMasks$Signs" "seen" "LQuarterMasks$Grid;", Cond.fieldLink RX4 22 "QuarterMasks$Signs" "told" "I", Cond.fieldLink RX4 26 "QuarterMasks$Signs" "darkBlocks" "I", Cond.fieldLink RX4 29 "QuarterMasks$Signs" "mixed" "I", Cond.fieldLink RX4 32 "QuarterMasks$Signs" "deepest" "I", Cond.methodLink RX4 35 yX1_sameAs, Cond.instanceMethod yX1_sameAs, Cond.selects RX1 yX1_sameAs yX1_sameAs, Cond.initialized RX1, Cond.code yX1_sameAs cX1_sameAs 3 (some .boolean), Cond.fieldLink RX1 9 "QuarterMasks$Grid" "rows" "[I", Cond.methodLink RX4 39 yX1_take, Cond.instanceMethod yX1_take, Cond.selects RX1 yX1_take yX1_take, Cond.code yX1_take cX1_take 3 none, Cond.methodLink RX4 43 yX4_tellSquare, Cond.static yX4_tellSquare]
def wsX5_blocksOfAll_r2 : List Cond := [Cond.code yX4_tellSquare cX4_tellSquare 8 none, Cond.methodLink RX4 55 Lib.Math.max.name, Cond.static Lib.Math.max.name, Cond.initialized "java/lang/Math", Cond.code Lib.Math.max.name Lib.Math.max.code 2 (some .int), Cond.methodLink RX4 47 yX1_signOfSquare, Cond.instanceMethod yX1_signOfSquare, Cond.selects RX1 yX1_signOfSquare yX1_signOfSquare, Cond.code yX1_signOfSquare cX1_signOfSquare 7 (some .int), Cond.methodLink RX1 20 yX1_row, Cond.instanceMethod yX1_row, Cond.selects RX1 yX1_row yX1_row, Cond.code yX1_row cX1_row 2 (some .int), Cond.methodLink RX4 51 yX4_addSign, Cond.instanceMethod yX4_addSign, Cond.selects RX4 yX4_addSign yX4_addSign, Cond.code yX4_addSign cX4_addSign 2 none, Cond.fieldLink RX4 18 "QuarterMasks$Signs" "list" "[I", Cond.static yX5_within, Cond.initialized RX5, Cond.code yX5_within cX5_within 2 (some .boolean)]
def wsX5_blocksOfAll : List Cond := .code yX5_blocksOfAll cX5_blocksOfAll 3 (some .int) :: ((wsX5_blocksOfAll_r1 ++ wsX5_blocksOfAll_r2) ++ wsX50 ++ wsX40 ++ wsX10)
def wsX5_partsOfAll_r1 : List Cond := [Cond.fieldLink RX5 39 "QuarterMasks" "darkParts" "LQuarterMasks$Parts;", Cond.fieldLink RX5 11 "QuarterMasks" "masks" "[LQuarterMasks$Grid;", Cond.methodLink RX5 108 yX2_look, Cond.instanceMethod yX2_look, Cond.selects RX2 yX2_look yX2_look, Cond.initialized RX2, Cond.code yX2_look cX2_look 3 none, Cond.fieldLink RX2 12 "QuarterMasks$Parts" "seen" "LQuarterMasks$Grid;", Cond.fieldLink RX2 18 "QuarterMasks$Parts" "labels" "[I", Cond.fieldLink RX2 28 "QuarterMasks$Parts" "parts" "I", Cond.methodLink RX2 38 yX1_sameAs, Cond.instanceMethod yX1_sameAs, Cond.selects RX1 yX1_sameAs yX1_sameAs, Cond.initialized RX1, Cond.code yX1_sameAs cX1_sameAs 3 (some .boolean), Cond.fieldLink RX1 9 "QuarterMasks$Grid" "rows" "[I", Cond.methodLink RX2 42 yX1_take, Cond.instanceMethod yX1_take, Cond.selects RX1 yX1_take yX1_take, Cond.code yX1_take cX1_take 3 none, Cond.methodLink RX2 32 yJ7_fill_53178, Cond.static yJ7_fill_53178, Cond.initialized RJ7, Cond.code yJ7_fill_53178 cJ7_fill_53178 4 none]
def wsX5_partsOfAll_r2 : List Cond := [Cond.methodLink RX2 46 yX1_isDark, Cond.instanceMethod yX1_isDark, Cond.selects RX1 yX1_isDark yX1_isDark, Cond.code yX1_isDark cX1_isDark 3 (some .boolean), Cond.methodLink RX2 50 yX2_gather, Cond.instanceMethod yX2_gather, Cond.selects RX2 yX2_gather yX2_gather, Cond.code yX2_gather cX2_gather 6 none, Cond.fieldLink RX2 22 "QuarterMasks$Parts" "reached" "[I", Cond.methodLink RX2 54 yX2_beginFigures, Cond.instanceMethod yX2_beginFigures, Cond.selects RX2 yX2_beginFigures yX2_beginFigures, Cond.code yX2_beginFigures cX2_beginFigures 4 none, Cond.fieldLink RX2 25 "QuarterMasks$Parts" "figures" "[I", Cond.methodLink RX2 58 yX2_reach, Cond.instanceMethod yX2_reach, Cond.selects RX2 yX2_reach yX2_reach, Cond.code yX2_reach cX2_reach 4 (some .int), Cond.methodLink RX2 65 yX2_labelAt, Cond.instanceMethod yX2_labelAt, Cond.selects RX2 yX2_labelAt yX2_labelAt, Cond.code yX2_labelAt cX2_labelAt 3 (some .int), Cond.methodLink RX2 62 yX2_noteFigures, Cond.instanceMethod yX2_noteFigures]
def wsX5_partsOfAll_r3 : List Cond := [Cond.selects RX2 yX2_noteFigures yX2_noteFigures, Cond.code yX2_noteFigures cX2_noteFigures 4 none, Cond.methodLink RX2 69 Lib.Math.min.name, Cond.static Lib.Math.min.name, Cond.initialized "java/lang/Math", Cond.code Lib.Math.min.name Lib.Math.min.code 2 (some .int), Cond.methodLink RX2 74 Lib.Math.max.name, Cond.static Lib.Math.max.name, Cond.code Lib.Math.max.name Lib.Math.max.code 2 (some .int)]
def wsX5_partsOfAll : List Cond := .code yX5_partsOfAll cX5_partsOfAll 3 (some .int) :: ((wsX5_partsOfAll_r1 ++ (wsX5_partsOfAll_r2 ++ wsX5_partsOfAll_r3)) ++ wsX50 ++ wsX20 ++ wsX10)
def wsX5_cellsDarkInAll : List Cond := .code yX5_cellsDarkInAll cX5_cellsDarkInAll 3 (some .int) :: ([.fieldLink RX5 11 "QuarterMasks" "masks" "[LQuarterMasks$Grid;", .methodLink RX5 86 yX1_row, .instanceMethod yX1_row, .selects RX1 yX1_row yX1_row, .initialized RX1, .code yX1_row cX1_row 2 (some .int), .fieldLink RX1 9 "QuarterMasks$Grid" "rows" "[I", .methodLink RX5 244 yJ6_bitCount_0f7a4, .static yJ6_bitCount_0f7a4, .initialized RJ6, .code yJ6_bitCount_0f7a4 cJ6_bitCount_0f7a4 1 (some .int), .constant RJ6 265 (1431655765), .constant RJ6 266 (858993459), .constant RJ6 267 (252645135)] ++ wsX50 ++ wsX10)
def wsX5_count_r1 : List Cond := [Cond.fieldLink RX5 11 "QuarterMasks" "masks" "[LQuarterMasks$Grid;", Cond.fieldLink RX5 24 "QuarterMasks" "changes" "LQuarterMasks$Changes;", Cond.fieldLink RX5 53 "QuarterMasks" "latestFinding" "I", Cond.methodLink RX5 149 yX1_darkCells, Cond.instanceMethod yX1_darkCells, Cond.selects RX1 yX1_darkCells yX1_darkCells, Cond.initialized RX1, Cond.code yX1_darkCells cX1_darkCells 3 (some .int), Cond.fieldLink RX1 9 "QuarterMasks$Grid" "rows" "[I", Cond.methodLink RX1 34 yJ6_bitCount_0f7a4, Cond.static yJ6_bitCount_0f7a4, Cond.initialized RJ6, Cond.code yJ6_bitCount_0f7a4 cJ6_bitCount_0f7a4 1 (some .int), Cond.constant RJ6 265 (1431655765), Cond.constant RJ6 266 (858993459), Cond.constant RJ6 267 (252645135), Cond.methodLink RX5 235 yX5_blocksOfAll, Cond.instanceMethod yX5_blocksOfAll, Cond.selects RX5 yX5_blocksOfAll yX5_blocksOfAll, Cond.initialized RX5, Cond.code yX5_blocksOfAll cX5_blocksOfAll 3 (some .int), Cond.fieldLink RX5 49 "QuarterMasks" "signs" "LQuarterMasks$Signs;", Cond.methodLink RX5 159 yX4_look, Cond.instanceMethod yX4_look]
def wsX5_count_r2 : List Cond := [Cond.selects RX4 yX4_look yX4_look, Cond.initialized RX4, Cond.code yX4_look cX4_look 2 none, Cond.fieldLink RX4 12 "QuarterMasks$Signs" "seen" "LQuarterMasks$Grid;", Cond.fieldLink RX4 22 "QuarterMasks$Signs" "told" "I", Cond.fieldLink RX4 26 "QuarterMasks$Signs" "darkBlocks" "I", Cond.fieldLink RX4 29 "QuarterMasks$Signs" "mixed" "I", Cond.fieldLink RX4 32 "QuarterMasks$Signs" "deepest" "I", Cond.methodLink RX4 35 yX1_sameAs, Cond.instanceMethod yX1_sameAs, Cond.selects RX1 yX1_sameAs yX1_sameAs, Cond.code yX1_sameAs cX1_sameAs 3 (some .boolean), Cond.methodLink RX4 39 yX1_take, Cond.instanceMethod yX1_take, Cond.selects RX1 yX1_take yX1_take, Cond.code yX1_take cX1_take 3 none, Cond.methodLink RX4 43 yX4_tellSquare, Cond.static yX4_tellSquare, Cond.code yX4_tellSquare cX4_tellSquare 8 none, Cond.methodLink RX4 55 Lib.Math.max.name, Cond.static Lib.Math.max.name, Cond.initialized "java/lang/Math", Cond.code Lib.Math.max.name Lib.Math.max.code 2 (some .int), Cond.methodLink RX4 47 yX1_signOfSquare]
def wsX5_count_r3 : List Cond := [Cond.instanceMethod yX1_signOfSquare, Cond.selects RX1 yX1_signOfSquare yX1_signOfSquare, Cond.code yX1_signOfSquare cX1_signOfSquare 7 (some .int), Cond.methodLink RX1 20 yX1_row, Cond.instanceMethod yX1_row, Cond.selects RX1 yX1_row yX1_row, Cond.code yX1_row cX1_row 2 (some .int), Cond.methodLink RX4 51 yX4_addSign, Cond.instanceMethod yX4_addSign, Cond.selects RX4 yX4_addSign yX4_addSign, Cond.code yX4_addSign cX4_addSign 2 none, Cond.fieldLink RX4 18 "QuarterMasks$Signs" "list" "[I", Cond.static yX5_within, Cond.code yX5_within cX5_within 2 (some .boolean), Cond.methodLink RX5 238 yX5_partsOfAll, Cond.instanceMethod yX5_partsOfAll, Cond.selects RX5 yX5_partsOfAll yX5_partsOfAll, Cond.code yX5_partsOfAll cX5_partsOfAll 3 (some .int), Cond.fieldLink RX5 39 "QuarterMasks" "darkParts" "LQuarterMasks$Parts;", Cond.methodLink RX5 108 yX2_look, Cond.instanceMethod yX2_look, Cond.selects RX2 yX2_look yX2_look, Cond.initialized RX2, Cond.code yX2_look cX2_look 3 none]
def wsX5_count_r4 : List Cond := [Cond.fieldLink RX2 12 "QuarterMasks$Parts" "seen" "LQuarterMasks$Grid;", Cond.fieldLink RX2 18 "QuarterMasks$Parts" "labels" "[I", Cond.fieldLink RX2 28 "QuarterMasks$Parts" "parts" "I", Cond.methodLink RX2 38 yX1_sameAs, Cond.methodLink RX2 42 yX1_take, Cond.methodLink RX2 32 yJ7_fill_53178, Cond.static yJ7_fill_53178, Cond.initialized RJ7, Cond.code yJ7_fill_53178 cJ7_fill_53178 4 none, Cond.methodLink RX2 46 yX1_isDark, Cond.instanceMethod yX1_isDark, Cond.selects RX1 yX1_isDark yX1_isDark, Cond.code yX1_isDark cX1_isDark 3 (some .boolean), Cond.methodLink RX2 50 yX2_gather, Cond.instanceMethod yX2_gather, Cond.selects RX2 yX2_gather yX2_gather, Cond.code yX2_gather cX2_gather 6 none, Cond.fieldLink RX2 22 "QuarterMasks$Parts" "reached" "[I", Cond.methodLink RX2 54 yX2_beginFigures, Cond.instanceMethod yX2_beginFigures, Cond.selects RX2 yX2_beginFigures yX2_beginFigures, Cond.code yX2_beginFigures cX2_beginFigures 4 none, Cond.fieldLink RX2 25 "QuarterMasks$Parts" "figures" "[I", Cond.methodLink RX2 58 yX2_reach]
def wsX5_count_r5 : List Cond := [Cond.instanceMethod yX2_reach, Cond.selects RX2 yX2_reach yX2_reach, Cond.code yX2_reach cX2_reach 4 (some .int), Cond.methodLink RX2 65 yX2_labelAt, Cond.instanceMethod yX2_labelAt, Cond.selects RX2 yX2_labelAt yX2_labelAt, Cond.code yX2_labelAt cX2_labelAt 3 (some .int), Cond.methodLink RX2 62 yX2_noteFigures, Cond.instanceMethod yX2_noteFigures, Cond.selects RX2 yX2_noteFigures yX2_noteFigures, Cond.code yX2_noteFigures cX2_noteFigures 4 none, Cond.methodLink RX2 69 Lib.Math.min.name, Cond.static Lib.Math.min.name, Cond.code Lib.Math.min.name Lib.Math.min.code 2 (some .int), Cond.methodLink RX2 74 Lib.Math.max.name, Cond.methodLink RX5 241 yX5_cellsDarkInAll, Cond.instanceMethod yX5_cellsDarkInAll, Cond.selects RX5 yX5_cellsDarkInAll yX5_cellsDarkInAll, Cond.code yX5_cellsDarkInAll cX5_cellsDarkInAll 3 (some .int), Cond.methodLink RX5 86 yX1_row, Cond.methodLink RX5 244 yJ6_bitCount_0f7a4]
def wsX5_count : List Cond := .code yX5_count cX5_count 2 (some .int) :: ((wsX5_count_r1 ++ (wsX5_count_r2 ++ (wsX5_count_r3 ++ (wsX5_count_r4 ++ wsX5_count_r5)))) ++ wsX50 ++ wsX00 ++ wsX10 ++ wsX40 ++ wsX20)
def wsX5_digestOfBlocks_r1 : List Cond := [Cond.constantLong RX5 251 (31), Cond.methodLink RX5 269 yX5_blocks, Cond.instanceMethod yX5_blocks, Cond.selects RX5 yX5_blocks yX5_blocks, Cond.initialized RX5, Cond.code yX5_blocks cX5_blocks 3 (some .int), Cond.fieldLink RX5 49 "QuarterMasks" "signs" "LQuarterMasks$Signs;", Cond.fieldLink RX5 11 "QuarterMasks" "masks" "[LQuarterMasks$Grid;", Cond.methodLink RX5 58 yX5_isMask, Cond.static yX5_isMask, Cond.code yX5_isMask cX5_isMask 1 (some .boolean), Cond.methodLink RX5 66 yX5_within, Cond.static yX5_within, Cond.code yX5_within cX5_within 2 (some .boolean), Cond.methodLink RX5 159 yX4_look, Cond.instanceMethod yX4_look, Cond.selects RX4 yX4_look yX4_look, Cond.initialized RX4, Cond.code yX4_look cX4_look 2 none, Cond.fieldLink RX4 12 "QuarterMasks$Signs" "seen" "LQuarterMasks$Grid;", Cond.fieldLink RX4 22 "QuarterMasks$Signs" "told" "I", Cond.fieldLink RX4 26 "QuarterMasks$Signs" "darkBlocks" "I", Cond.fieldLink RX4 29 "QuarterMasks$Signs" "mixed" "I", Cond.fieldLink RX4 32 "QuarterMasks$Signs" "deepest" "I"]
def wsX5_digestOfBlocks_r2 : List Cond := [Cond.methodLink RX4 35 yX1_sameAs, Cond.instanceMethod yX1_sameAs, Cond.selects RX1 yX1_sameAs yX1_sameAs, Cond.initialized RX1, Cond.code yX1_sameAs cX1_sameAs 3 (some .boolean), Cond.fieldLink RX1 9 "QuarterMasks$Grid" "rows" "[I", Cond.methodLink RX4 39 yX1_take, Cond.instanceMethod yX1_take, Cond.selects RX1 yX1_take yX1_take, Cond.code yX1_take cX1_take 3 none, Cond.methodLink RX4 43 yX4_tellSquare, Cond.static yX4_tellSquare, Cond.code yX4_tellSquare cX4_tellSquare 8 none, Cond.methodLink RX4 55 Lib.Math.max.name, Cond.static Lib.Math.max.name, Cond.initialized "java/lang/Math", Cond.code Lib.Math.max.name Lib.Math.max.code 2 (some .int), Cond.methodLink RX4 47 yX1_signOfSquare, Cond.instanceMethod yX1_signOfSquare, Cond.selects RX1 yX1_signOfSquare yX1_signOfSquare, Cond.code yX1_signOfSquare cX1_signOfSquare 7 (some .int), Cond.methodLink RX1 20 yX1_row, Cond.instanceMethod yX1_row, Cond.selects RX1 yX1_row yX1_row]
def wsX5_digestOfBlocks_r3 : List Cond := [Cond.code yX1_row cX1_row 2 (some .int), Cond.methodLink RX4 51 yX4_addSign, Cond.instanceMethod yX4_addSign, Cond.selects RX4 yX4_addSign yX4_addSign, Cond.code yX4_addSign cX4_addSign 2 none, Cond.fieldLink RX4 18 "QuarterMasks$Signs" "list" "[I", Cond.methodLink RX5 272 yX5_all, Cond.instanceMethod yX5_all, Cond.selects RX5 yX5_all yX5_all, Cond.code yX5_all cX5_all 3 (some .int), Cond.fieldLink RX5 39 "QuarterMasks" "darkParts" "LQuarterMasks$Parts;", Cond.fieldLink RX5 33 "QuarterMasks" "spare" "LQuarterMasks$Grid;", Cond.fieldLink RX5 43 "QuarterMasks" "lightParts" "LQuarterMasks$Parts;", Cond.methodLink RX5 108 yX2_look, Cond.instanceMethod yX2_look, Cond.selects RX2 yX2_look yX2_look, Cond.initialized RX2, Cond.code yX2_look cX2_look 3 none, Cond.fieldLink RX2 12 "QuarterMasks$Parts" "seen" "LQuarterMasks$Grid;", Cond.fieldLink RX2 18 "QuarterMasks$Parts" "labels" "[I", Cond.fieldLink RX2 28 "QuarterMasks$Parts" "parts" "I", Cond.methodLink RX2 38 yX1_sameAs, Cond.methodLink RX2 42 yX1_take, Cond.methodLink RX2 32 yJ7_fill_53178]
def wsX5_digestOfBlocks_r4 : List Cond := [Cond.static yJ7_fill_53178, Cond.initialized RJ7, Cond.code yJ7_fill_53178 cJ7_fill_53178 4 none, Cond.methodLink RX2 46 yX1_isDark, Cond.instanceMethod yX1_isDark, Cond.selects RX1 yX1_isDark yX1_isDark, Cond.code yX1_isDark cX1_isDark 3 (some .boolean), Cond.methodLink RX2 50 yX2_gather, Cond.instanceMethod yX2_gather, Cond.selects RX2 yX2_gather yX2_gather, Cond.code yX2_gather cX2_gather 6 none, Cond.fieldLink RX2 22 "QuarterMasks$Parts" "reached" "[I", Cond.methodLink RX2 54 yX2_beginFigures, Cond.instanceMethod yX2_beginFigures, Cond.selects RX2 yX2_beginFigures yX2_beginFigures, Cond.code yX2_beginFigures cX2_beginFigures 4 none, Cond.fieldLink RX2 25 "QuarterMasks$Parts" "figures" "[I", Cond.methodLink RX2 58 yX2_reach, Cond.instanceMethod yX2_reach, Cond.selects RX2 yX2_reach yX2_reach, Cond.code yX2_reach cX2_reach 4 (some .int), Cond.methodLink RX2 65 yX2_labelAt, Cond.instanceMethod yX2_labelAt, Cond.selects RX2 yX2_labelAt yX2_labelAt]
def wsX5_digestOfBlocks_r5 : List Cond := [Cond.code yX2_labelAt cX2_labelAt 3 (some .int), Cond.methodLink RX2 62 yX2_noteFigures, Cond.instanceMethod yX2_noteFigures, Cond.selects RX2 yX2_noteFigures yX2_noteFigures, Cond.code yX2_noteFigures cX2_noteFigures 4 none, Cond.methodLink RX2 69 Lib.Math.min.name, Cond.static Lib.Math.min.name, Cond.code Lib.Math.min.name Lib.Math.min.code 2 (some .int), Cond.methodLink RX2 74 Lib.Math.max.name, Cond.methodLink RX5 178 yX1_border, Cond.instanceMethod yX1_border, Cond.selects RX1 yX1_border yX1_border, Cond.code yX1_border cX1_border 3 (some .int), Cond.methodLink RX1 34 yJ6_bitCount_0f7a4, Cond.static yJ6_bitCount_0f7a4, Cond.initialized RJ6, Cond.code yJ6_bitCount_0f7a4 cJ6_bitCount_0f7a4 1 (some .int), Cond.constant RJ6 265 (1431655765), Cond.constant RJ6 266 (858993459), Cond.constant RJ6 267 (252645135), Cond.methodLink RX1 39 yX1_darkCells, Cond.instanceMethod yX1_darkCells, Cond.selects RX1 yX1_darkCells yX1_darkCells, Cond.code yX1_darkCells cX1_darkCells 3 (some .int)]
def wsX5_digestOfBlocks_r6 : List Cond := [Cond.methodLink RX5 96 yX1_takeTurnedOver, Cond.instanceMethod yX1_takeTurnedOver, Cond.selects RX1 yX1_takeTurnedOver yX1_takeTurnedOver, Cond.code yX1_takeTurnedOver cX1_takeTurnedOver 3 none, Cond.constant RX1 19 (65535), Cond.methodLink RX5 181 yX2_partsOffTheEdge, Cond.instanceMethod yX2_partsOffTheEdge, Cond.selects RX2 yX2_partsOffTheEdge yX2_partsOffTheEdge, Cond.code yX2_partsOffTheEdge cX2_partsOffTheEdge 5 (some .int), Cond.methodLink RX2 80 yX2_figure, Cond.instanceMethod yX2_figure, Cond.selects RX2 yX2_figure yX2_figure, Cond.code yX2_figure cX2_figure 3 (some .int), Cond.methodLink RX5 149 yX1_darkCells, Cond.methodLink RX5 275 yX5_shown, Cond.instanceMethod yX5_shown, Cond.selects RX5 yX5_shown yX5_shown, Cond.code yX5_shown cX5_shown 3 (some .int), Cond.methodLink RX5 172 yX4_sign, Cond.instanceMethod yX4_sign, Cond.selects RX4 yX4_sign yX4_sign, Cond.code yX4_sign cX4_sign 2 (some .int)]
def wsX5_digestOfBlocks : List Cond := .code yX5_digestOfBlocks cX5_digestOfBlocks 7 (some .long) :: ((wsX5_digestOfBlocks_r1 ++ (wsX5_digestOfBlocks_r2 ++ (wsX5_digestOfBlocks_r3 ++ (wsX5_digestOfBlocks_r4 ++ (wsX5_digestOfBlocks_r5 ++ wsX5_digestOfBlocks_r6))))) ++ wsX50 ++ wsX40 ++ wsX10 ++ wsX20)
def wsX5_digestOfCells_r1 : List Cond := [Cond.constantLong RX5 251 (31), Cond.methodLink RX5 278 yX5_cell, Cond.instanceMethod yX5_cell, Cond.selects RX5 yX5_cell yX5_cell, Cond.initialized RX5, Cond.code yX5_cell cX5_cell 4 (some .int), Cond.fieldLink RX5 11 "QuarterMasks" "masks" "[LQuarterMasks$Grid;", Cond.methodLink RX5 58 yX5_isMask, Cond.static yX5_isMask, Cond.code yX5_isMask cX5_isMask 1 (some .boolean), Cond.methodLink RX5 66 yX5_within, Cond.static yX5_within, Cond.code yX5_within cX5_within 2 (some .boolean), Cond.methodLink RX5 62 yX5_isCell, Cond.static yX5_isCell, Cond.code yX5_isCell cX5_isCell 2 (some .boolean), Cond.methodLink RX5 153 yX1_isDark, Cond.instanceMethod yX1_isDark, Cond.selects RX1 yX1_isDark yX1_isDark, Cond.initialized RX1, Cond.code yX1_isDark cX1_isDark 3 (some .boolean), Cond.fieldLink RX1 9 "QuarterMasks$Grid" "rows" "[I", Cond.methodLink RX5 281 yX5_block, Cond.instanceMethod yX5_block]
def wsX5_digestOfCells_r2 : List Cond := [Cond.selects RX5 yX5_block yX5_block, Cond.code yX5_block cX5_block 6 (some .int), Cond.methodLink RX5 156 yX1_sideOfBlock, Cond.instanceMethod yX1_sideOfBlock, Cond.selects RX1 yX1_sideOfBlock yX1_sideOfBlock, Cond.code yX1_sideOfBlock cX1_sideOfBlock 4 (some .int), Cond.methodLink RX1 43 yX1_signOfSquare, Cond.instanceMethod yX1_signOfSquare, Cond.selects RX1 yX1_signOfSquare yX1_signOfSquare, Cond.code yX1_signOfSquare cX1_signOfSquare 7 (some .int), Cond.methodLink RX1 20 yX1_row, Cond.instanceMethod yX1_row, Cond.selects RX1 yX1_row yX1_row, Cond.code yX1_row cX1_row 2 (some .int), Cond.methodLink RX5 285 yX5_label, Cond.instanceMethod yX5_label, Cond.selects RX5 yX5_label yX5_label, Cond.code yX5_label cX5_label 4 (some .int), Cond.fieldLink RX5 39 "QuarterMasks" "darkParts" "LQuarterMasks$Parts;", Cond.methodLink RX5 108 yX2_look, Cond.instanceMethod yX2_look, Cond.selects RX2 yX2_look yX2_look, Cond.initialized RX2, Cond.code yX2_look cX2_look 3 none]
def wsX5_digestOfCells_r3 : List Cond := [Cond.fieldLink RX2 12 "QuarterMasks$Parts" "seen" "LQuarterMasks$Grid;", Cond.fieldLink RX2 18 "QuarterMasks$Parts" "labels" "[I", Cond.fieldLink RX2 28 "QuarterMasks$Parts" "parts" "I", Cond.methodLink RX2 38 yX1_sameAs, Cond.instanceMethod yX1_sameAs, Cond.selects RX1 yX1_sameAs yX1_sameAs, Cond.code yX1_sameAs cX1_sameAs 3 (some .boolean), Cond.methodLink RX2 42 yX1_take, Cond.instanceMethod yX1_take, Cond.selects RX1 yX1_take yX1_take, Cond.code yX1_take cX1_take 3 none, Cond.methodLink RX2 32 yJ7_fill_53178, Cond.static yJ7_fill_53178, Cond.initialized RJ7, Cond.code yJ7_fill_53178 cJ7_fill_53178 4 none, Cond.methodLink RX2 46 yX1_isDark, Cond.methodLink RX2 50 yX2_gather, Cond.instanceMethod yX2_gather, Cond.selects RX2 yX2_gather yX2_gather, Cond.code yX2_gather cX2_gather 6 none, Cond.fieldLink RX2 22 "QuarterMasks$Parts" "reached" "[I", Cond.methodLink RX2 54 yX2_beginFigures, Cond.instanceMethod yX2_beginFigures, Cond.selects RX2 yX2_beginFigures yX2_beginFigures]
def wsX5_digestOfCells_r4 : List Cond := [Cond.code yX2_beginFigures cX2_beginFigures 4 none, Cond.fieldLink RX2 25 "QuarterMasks$Parts" "figures" "[I", Cond.methodLink RX2 58 yX2_reach, Cond.instanceMethod yX2_reach, Cond.selects RX2 yX2_reach yX2_reach, Cond.code yX2_reach cX2_reach 4 (some .int), Cond.methodLink RX2 65 yX2_labelAt, Cond.instanceMethod yX2_labelAt, Cond.selects RX2 yX2_labelAt yX2_labelAt, Cond.code yX2_labelAt cX2_labelAt 3 (some .int), Cond.methodLink RX2 62 yX2_noteFigures, Cond.instanceMethod yX2_noteFigures, Cond.selects RX2 yX2_noteFigures yX2_noteFigures, Cond.code yX2_noteFigures cX2_noteFigures 4 none, Cond.methodLink RX2 69 Lib.Math.min.name, Cond.static Lib.Math.min.name, Cond.initialized "java/lang/Math", Cond.code Lib.Math.min.name Lib.Math.min.code 2 (some .int), Cond.methodLink RX2 74 Lib.Math.max.name, Cond.static Lib.Math.max.name, Cond.code Lib.Math.max.name Lib.Math.max.code 2 (some .int), Cond.methodLink RX5 111 yX2_labelAt, Cond.methodLink RX5 288 yX5_near, Cond.instanceMethod yX5_near]
def wsX5_digestOfCells_r5 : List Cond := [Cond.selects RX5 yX5_near yX5_near, Cond.code yX5_near cX5_near 4 (some .int), Cond.methodLink RX5 187 yX1_distanceFrom, Cond.instanceMethod yX1_distanceFrom, Cond.selects RX1 yX1_distanceFrom yX1_distanceFrom, Cond.code yX1_distanceFrom cX1_distanceFrom 7 (some .int), Cond.methodLink RX1 51 Lib.Math.abs.name, Cond.static Lib.Math.abs.name, Cond.code Lib.Math.abs.name Lib.Math.abs.code 1 (some .int), Cond.methodLink RX1 47 yX1_gapInRow, Cond.static yX1_gapInRow, Cond.code yX1_gapInRow cX1_gapInRow 4 (some .int)]
def wsX5_digestOfCells : List Cond := .code yX5_digestOfCells cX5_digestOfCells 8 (some .long) :: ((wsX5_digestOfCells_r1 ++ (wsX5_digestOfCells_r2 ++ (wsX5_digestOfCells_r3 ++ (wsX5_digestOfCells_r4 ++ wsX5_digestOfCells_r5)))) ++ wsX50 ++ wsX10 ++ wsX20)
def wsX5_digestOfParts_r1 : List Cond := [Cond.constantLong RX5 251 (31), Cond.methodLink RX5 291 yX5_part, Cond.instanceMethod yX5_part, Cond.selects RX5 yX5_part yX5_part, Cond.initialized RX5, Cond.code yX5_part cX5_part 4 (some .int), Cond.fieldLink RX5 39 "QuarterMasks" "darkParts" "LQuarterMasks$Parts;", Cond.fieldLink RX5 11 "QuarterMasks" "masks" "[LQuarterMasks$Grid;", Cond.methodLink RX5 58 yX5_isMask, Cond.static yX5_isMask, Cond.code yX5_isMask cX5_isMask 1 (some .boolean), Cond.methodLink RX5 66 yX5_within, Cond.static yX5_within, Cond.code yX5_within cX5_within 2 (some .boolean), Cond.methodLink RX5 108 yX2_look, Cond.instanceMethod yX2_look, Cond.selects RX2 yX2_look yX2_look, Cond.initialized RX2, Cond.code yX2_look cX2_look 3 none, Cond.fieldLink RX2 12 "QuarterMasks$Parts" "seen" "LQuarterMasks$Grid;", Cond.fieldLink RX2 18 "QuarterMasks$Parts" "labels" "[I", Cond.fieldLink RX2 28 "QuarterMasks$Parts" "parts" "I", Cond.methodLink RX2 38 yX1_sameAs, Cond.instanceMethod yX1_sameAs]
def wsX5_digestOfParts_r2 : List Cond := [Cond.selects RX1 yX1_sameAs yX1_sameAs, Cond.initialized RX1, Cond.code yX1_sameAs cX1_sameAs 3 (some .boolean), Cond.fieldLink RX1 9 "QuarterMasks$Grid" "rows" "[I", Cond.methodLink RX2 42 yX1_take, Cond.instanceMethod yX1_take, Cond.selects RX1 yX1_take yX1_take, Cond.code yX1_take cX1_take 3 none, Cond.methodLink RX2 32 yJ7_fill_53178, Cond.static yJ7_fill_53178, Cond.initialized RJ7, Cond.code yJ7_fill_53178 cJ7_fill_53178 4 none, Cond.methodLink RX2 46 yX1_isDark, Cond.instanceMethod yX1_isDark, Cond.selects RX1 yX1_isDark yX1_isDark, Cond.code yX1_isDark cX1_isDark 3 (some .boolean), Cond.methodLink RX2 50 yX2_gather, Cond.instanceMethod yX2_gather, Cond.selects RX2 yX2_gather yX2_gather, Cond.code yX2_gather cX2_gather 6 none, Cond.fieldLink RX2 22 "QuarterMasks$Parts" "reached" "[I", Cond.methodLink RX2 54 yX2_beginFigures, Cond.instanceMethod yX2_beginFigures, Cond.selects RX2 yX2_beginFigures yX2_beginFigures]
def wsX5_digestOfParts_r3 : List Cond := [Cond.code yX2_beginFigures cX2_beginFigures 4 none, Cond.fieldLink RX2 25 "QuarterMasks$Parts" "figures" "[I", Cond.methodLink RX2 58 yX2_reach, Cond.instanceMethod yX2_reach, Cond.selects RX2 yX2_reach yX2_reach, Cond.code yX2_reach cX2_reach 4 (some .int), Cond.methodLink RX2 65 yX2_labelAt, Cond.instanceMethod yX2_labelAt, Cond.selects RX2 yX2_labelAt yX2_labelAt, Cond.code yX2_labelAt cX2_labelAt 3 (some .int), Cond.methodLink RX2 62 yX2_noteFigures, Cond.instanceMethod yX2_noteFigures, Cond.selects RX2 yX2_noteFigures yX2_noteFigures, Cond.code yX2_noteFigures cX2_noteFigures 4 none, Cond.methodLink RX2 69 Lib.Math.min.name, Cond.static Lib.Math.min.name, Cond.initialized "java/lang/Math", Cond.code Lib.Math.min.name Lib.Math.min.code 2 (some .int), Cond.methodLink RX2 74 Lib.Math.max.name, Cond.static Lib.Math.max.name, Cond.code Lib.Math.max.name Lib.Math.max.code 2 (some .int), Cond.methodLink RX5 184 yX2_figure, Cond.instanceMethod yX2_figure, Cond.selects RX2 yX2_figure yX2_figure]
def wsX5_digestOfParts_r4 : List Cond := [Cond.code yX2_figure cX2_figure 3 (some .int)]
def wsX5_digestOfParts : List Cond := .code yX5_digestOfParts cX5_digestOfParts 8 (some .long) :: ((wsX5_digestOfParts_r1 ++ (wsX5_digestOfParts_r2 ++ (wsX5_digestOfParts_r3 ++ wsX5_digestOfParts_r4))) ++ wsX50 ++ wsX20 ++ wsX10)
def wsX5_digestOfPairs_r1 : List Cond := [Cond.constantLong RX5 251 (31), Cond.methodLink RX5 294 yX5_both, Cond.instanceMethod yX5_both, Cond.selects RX5 yX5_both yX5_both, Cond.initialized RX5, Cond.code yX5_both cX5_both 4 (some .int), Cond.fieldLink RX5 11 "QuarterMasks" "masks" "[LQuarterMasks$Grid;", Cond.methodLink RX5 58 yX5_isMask, Cond.static yX5_isMask, Cond.code yX5_isMask cX5_isMask 1 (some .boolean), Cond.methodLink RX5 66 yX5_within, Cond.static yX5_within, Cond.code yX5_within cX5_within 2 (some .boolean), Cond.methodLink RX5 190 yX1_sameAs, Cond.instanceMethod yX1_sameAs, Cond.selects RX1 yX1_sameAs yX1_sameAs, Cond.initialized RX1, Cond.code yX1_sameAs cX1_sameAs 3 (some .boolean), Cond.fieldLink RX1 9 "QuarterMasks$Grid" "rows" "[I", Cond.methodLink RX5 194 yX1_darkCellsIn, Cond.instanceMethod yX1_darkCellsIn, Cond.selects RX1 yX1_darkCellsIn yX1_darkCellsIn, Cond.code yX1_darkCellsIn cX1_darkCellsIn 4 (some .int), Cond.methodLink RX1 34 yJ6_bitCount_0f7a4]
def wsX5_digestOfPairs_r2 : List Cond := [Cond.static yJ6_bitCount_0f7a4, Cond.initialized RJ6, Cond.code yJ6_bitCount_0f7a4 cJ6_bitCount_0f7a4 1 (some .int), Cond.constant RJ6 265 (1431655765), Cond.constant RJ6 266 (858993459), Cond.constant RJ6 267 (252645135), Cond.methodLink RX5 149 yX1_darkCells, Cond.instanceMethod yX1_darkCells, Cond.selects RX1 yX1_darkCells yX1_darkCells, Cond.code yX1_darkCells cX1_darkCells 3 (some .int), Cond.methodLink RX5 197 yX1_touches, Cond.instanceMethod yX1_touches, Cond.selects RX1 yX1_touches yX1_touches, Cond.code yX1_touches cX1_touches 3 (some .boolean), Cond.methodLink RX1 31 yX1_neighboursInRow, Cond.instanceMethod yX1_neighboursInRow, Cond.selects RX1 yX1_neighboursInRow yX1_neighboursInRow, Cond.code yX1_neighboursInRow cX1_neighboursInRow 2 (some .int), Cond.constant RX1 19 (65535), Cond.methodLink RX1 20 yX1_row, Cond.instanceMethod yX1_row, Cond.selects RX1 yX1_row yX1_row, Cond.code yX1_row cX1_row 2 (some .int)]
def wsX5_digestOfPairs : List Cond := .code yX5_digestOfPairs cX5_digestOfPairs 8 (some .long) :: ((wsX5_digestOfPairs_r1 ++ wsX5_digestOfPairs_r2) ++ wsX50 ++ wsX10)
def wsX5_digest_r1 : List Cond := [Cond.constantLong RX5 249 (17), Cond.constantLong RX5 251 (31), Cond.methodLink RX5 253 yX5_count, Cond.instanceMethod yX5_count, Cond.selects RX5 yX5_count yX5_count, Cond.initialized RX5, Cond.code yX5_count cX5_count 2 (some .int), Cond.fieldLink RX5 11 "QuarterMasks" "masks" "[LQuarterMasks$Grid;", Cond.fieldLink RX5 24 "QuarterMasks" "changes" "LQuarterMasks$Changes;", Cond.fieldLink RX5 53 "QuarterMasks" "latestFinding" "I", Cond.methodLink RX5 149 yX1_darkCells, Cond.instanceMethod yX1_darkCells, Cond.selects RX1 yX1_darkCells yX1_darkCells, Cond.initialized RX1, Cond.code yX1_darkCells cX1_darkCells 3 (some .int), Cond.fieldLink RX1 9 "QuarterMasks$Grid" "rows" "[I", Cond.methodLink RX1 34 yJ6_bitCount_0f7a4, Cond.static yJ6_bitCount_0f7a4, Cond.initialized RJ6, Cond.code yJ6_bitCount_0f7a4 cJ6_bitCount_0f7a4 1 (some .int), Cond.constant RJ6 265 (1431655765), Cond.constant RJ6 266 (858993459), Cond.constant RJ6 267 (252645135), Cond.methodLink RX5 235 yX5_blocksOfAll]
def wsX5_digest_r2 : List Cond := [Cond.instanceMethod yX5_blocksOfAll, Cond.selects RX5 yX5_blocksOfAll yX5_blocksOfAll, Cond.code yX5_blocksOfAll cX5_blocksOfAll 3 (some .int), Cond.fieldLink RX5 49 "QuarterMasks" "signs" "LQuarterMasks$Signs;", Cond.methodLink RX5 159 yX4_look, Cond.instanceMethod yX4_look, Cond.selects RX4 yX4_look yX4_look, Cond.initialized RX4, Cond.code yX4_look cX4_look 2 none, Cond.fieldLink RX4 12 "QuarterMasks$Signs" "seen" "LQuarterMasks$Grid;", Cond.fieldLink RX4 22 "QuarterMasks$Signs" "told" "I", Cond.fieldLink RX4 26 "QuarterMasks$Signs" "darkBlocks" "I", Cond.fieldLink RX4 29 "QuarterMasks$Signs" "mixed" "I", Cond.fieldLink RX4 32 "QuarterMasks$Signs" "deepest" "I", Cond.methodLink RX4 35 yX1_sameAs, Cond.instanceMethod yX1_sameAs, Cond.selects RX1 yX1_sameAs yX1_sameAs, Cond.code yX1_sameAs cX1_sameAs 3 (some .boolean), Cond.methodLink RX4 39 yX1_take, Cond.instanceMethod yX1_take, Cond.selects RX1 yX1_take yX1_take, Cond.code yX1_take cX1_take 3 none, Cond.methodLink RX4 43 yX4_tellSquare, Cond.static yX4_tellSquare]
def wsX5_digest_r3 : List Cond := [Cond.code yX4_tellSquare cX4_tellSquare 8 none, Cond.methodLink RX4 55 Lib.Math.max.name, Cond.static Lib.Math.max.name, Cond.initialized "java/lang/Math", Cond.code Lib.Math.max.name Lib.Math.max.code 2 (some .int), Cond.methodLink RX4 47 yX1_signOfSquare, Cond.instanceMethod yX1_signOfSquare, Cond.selects RX1 yX1_signOfSquare yX1_signOfSquare, Cond.code yX1_signOfSquare cX1_signOfSquare 7 (some .int), Cond.methodLink RX1 20 yX1_row, Cond.instanceMethod yX1_row, Cond.selects RX1 yX1_row yX1_row, Cond.code yX1_row cX1_row 2 (some .int), Cond.methodLink RX4 51 yX4_addSign, Cond.instanceMethod yX4_addSign, Cond.selects RX4 yX4_addSign yX4_addSign, Cond.code yX4_addSign cX4_addSign 2 none, Cond.fieldLink RX4 18 "QuarterMasks$Signs" "list" "[I", Cond.static yX5_within, Cond.code yX5_within cX5_within 2 (some .boolean), Cond.methodLink RX5 238 yX5_partsOfAll, Cond.instanceMethod yX5_partsOfAll, Cond.selects RX5 yX5_partsOfAll yX5_partsOfAll, Cond.code yX5_partsOfAll cX5_partsOfAll 3 (some .int)]
def wsX5_digest_r4 : List Cond := [Cond.fieldLink RX5 39 "QuarterMasks" "darkParts" "LQuarterMasks$Parts;", Cond.methodLink RX5 108 yX2_look, Cond.instanceMethod yX2_look, Cond.selects RX2 yX2_look yX2_look, Cond.initialized RX2, Cond.code yX2_look cX2_look 3 none, Cond.fieldLink RX2 12 "QuarterMasks$Parts" "seen" "LQuarterMasks$Grid;", Cond.fieldLink RX2 18 "QuarterMasks$Parts" "labels" "[I", Cond.fieldLink RX2 28 "QuarterMasks$Parts" "parts" "I", Cond.methodLink RX2 38 yX1_sameAs, Cond.methodLink RX2 42 yX1_take, Cond.methodLink RX2 32 yJ7_fill_53178, Cond.static yJ7_fill_53178, Cond.initialized RJ7, Cond.code yJ7_fill_53178 cJ7_fill_53178 4 none, Cond.methodLink RX2 46 yX1_isDark, Cond.instanceMethod yX1_isDark, Cond.selects RX1 yX1_isDark yX1_isDark, Cond.code yX1_isDark cX1_isDark 3 (some .boolean), Cond.methodLink RX2 50 yX2_gather, Cond.instanceMethod yX2_gather, Cond.selects RX2 yX2_gather yX2_gather, Cond.code yX2_gather cX2_gather 6 none, Cond.fieldLink RX2 22 "QuarterMasks$Parts" "reached" "[I"]
def wsX5_digest_r5 : List Cond := [Cond.methodLink RX2 54 yX2_beginFigures, Cond.instanceMethod yX2_beginFigures, Cond.selects RX2 yX2_beginFigures yX2_beginFigures, Cond.code yX2_beginFigures cX2_beginFigures 4 none, Cond.fieldLink RX2 25 "QuarterMasks$Parts" "figures" "[I", Cond.methodLink RX2 58 yX2_reach, Cond.instanceMethod yX2_reach, Cond.selects RX2 yX2_reach yX2_reach, Cond.code yX2_reach cX2_reach 4 (some .int), Cond.methodLink RX2 65 yX2_labelAt, Cond.instanceMethod yX2_labelAt, Cond.selects RX2 yX2_labelAt yX2_labelAt, Cond.code yX2_labelAt cX2_labelAt 3 (some .int), Cond.methodLink RX2 62 yX2_noteFigures, Cond.instanceMethod yX2_noteFigures, Cond.selects RX2 yX2_noteFigures yX2_noteFigures, Cond.code yX2_noteFigures cX2_noteFigures 4 none, Cond.methodLink RX2 69 Lib.Math.min.name, Cond.static Lib.Math.min.name, Cond.code Lib.Math.min.name Lib.Math.min.code 2 (some .int), Cond.methodLink RX2 74 Lib.Math.max.name, Cond.methodLink RX5 241 yX5_cellsDarkInAll, Cond.instanceMethod yX5_cellsDarkInAll, Cond.selects RX5 yX5_cellsDarkInAll yX5_cellsDarkInAll]
def wsX5_digest_r6 : List Cond := [Cond.code yX5_cellsDarkInAll cX5_cellsDarkInAll 3 (some .int), Cond.methodLink RX5 86 yX1_row, Cond.methodLink RX5 244 yJ6_bitCount_0f7a4, Cond.methodLink RX5 256 yX5_digestOfBlocks, Cond.instanceMethod yX5_digestOfBlocks, Cond.selects RX5 yX5_digestOfBlocks yX5_digestOfBlocks, Cond.code yX5_digestOfBlocks cX5_digestOfBlocks 7 (some .long), Cond.methodLink RX5 269 yX5_blocks, Cond.instanceMethod yX5_blocks, Cond.selects RX5 yX5_blocks yX5_blocks, Cond.code yX5_blocks cX5_blocks 3 (some .int), Cond.methodLink RX5 58 yX5_isMask, Cond.static yX5_isMask, Cond.code yX5_isMask cX5_isMask 1 (some .boolean), Cond.methodLink RX5 66 yX5_within, Cond.methodLink RX5 272 yX5_all, Cond.instanceMethod yX5_all, Cond.selects RX5 yX5_all yX5_all, Cond.code yX5_all cX5_all 3 (some .int), Cond.fieldLink RX5 33 "QuarterMasks" "spare" "LQuarterMasks$Grid;", Cond.fieldLink RX5 43 "QuarterMasks" "lightParts" "LQuarterMasks$Parts;", Cond.methodLink RX5 178 yX1_border, Cond.instanceMethod yX1_border, Cond.selects RX1 yX1_border yX1_border]
def wsX5_digest_r7 : List Cond := [Cond.code yX1_border cX1_border 3 (some .int), Cond.methodLink RX1 39 yX1_darkCells, Cond.methodLink RX5 96 yX1_takeTurnedOver, Cond.instanceMethod yX1_takeTurnedOver, Cond.selects RX1 yX1_takeTurnedOver yX1_takeTurnedOver, Cond.code yX1_takeTurnedOver cX1_takeTurnedOver 3 none, Cond.constant RX1 19 (65535), Cond.methodLink RX5 181 yX2_partsOffTheEdge, Cond.instanceMethod yX2_partsOffTheEdge, Cond.selects RX2 yX2_partsOffTheEdge yX2_partsOffTheEdge, Cond.code yX2_partsOffTheEdge cX2_partsOffTheEdge 5 (some .int), Cond.methodLink RX2 80 yX2_figure, Cond.instanceMethod yX2_figure, Cond.selects RX2 yX2_figure yX2_figure, Cond.code yX2_figure cX2_figure 3 (some .int), Cond.methodLink RX5 275 yX5_shown, Cond.instanceMethod yX5_shown, Cond.selects RX5 yX5_shown yX5_shown, Cond.code yX5_shown cX5_shown 3 (some .int), Cond.methodLink RX5 172 yX4_sign, Cond.instanceMethod yX4_sign, Cond.selects RX4 yX4_sign yX4_sign, Cond.code yX4_sign cX4_sign 2 (some .int), Cond.methodLink RX5 260 yX5_digestOfCells]
def wsX5_digest_r8 : List Cond := [Cond.instanceMethod yX5_digestOfCells, Cond.selects RX5 yX5_digestOfCells yX5_digestOfCells, Cond.code yX5_digestOfCells cX5_digestOfCells 8 (some .long), Cond.methodLink RX5 278 yX5_cell, Cond.instanceMethod yX5_cell, Cond.selects RX5 yX5_cell yX5_cell, Cond.code yX5_cell cX5_cell 4 (some .int), Cond.methodLink RX5 62 yX5_isCell, Cond.static yX5_isCell, Cond.code yX5_isCell cX5_isCell 2 (some .boolean), Cond.methodLink RX5 153 yX1_isDark, Cond.methodLink RX5 281 yX5_block, Cond.instanceMethod yX5_block, Cond.selects RX5 yX5_block yX5_block, Cond.code yX5_block cX5_block 6 (some .int), Cond.methodLink RX5 156 yX1_sideOfBlock, Cond.instanceMethod yX1_sideOfBlock, Cond.selects RX1 yX1_sideOfBlock yX1_sideOfBlock, Cond.code yX1_sideOfBlock cX1_sideOfBlock 4 (some .int), Cond.methodLink RX1 43 yX1_signOfSquare, Cond.methodLink RX5 285 yX5_label, Cond.instanceMethod yX5_label, Cond.selects RX5 yX5_label yX5_label, Cond.code yX5_label cX5_label 4 (some .int)]
def wsX5_digest_r9 : List Cond := [Cond.methodLink RX5 111 yX2_labelAt, Cond.methodLink RX5 288 yX5_near, Cond.instanceMethod yX5_near, Cond.selects RX5 yX5_near yX5_near, Cond.code yX5_near cX5_near 4 (some .int), Cond.methodLink RX5 187 yX1_distanceFrom, Cond.instanceMethod yX1_distanceFrom, Cond.selects RX1 yX1_distanceFrom yX1_distanceFrom, Cond.code yX1_distanceFrom cX1_distanceFrom 7 (some .int), Cond.methodLink RX1 51 Lib.Math.abs.name, Cond.static Lib.Math.abs.name, Cond.code Lib.Math.abs.name Lib.Math.abs.code 1 (some .int), Cond.methodLink RX1 47 yX1_gapInRow, Cond.static yX1_gapInRow, Cond.code yX1_gapInRow cX1_gapInRow 4 (some .int), Cond.methodLink RX5 263 yX5_digestOfParts, Cond.instanceMethod yX5_digestOfParts, Cond.selects RX5 yX5_digestOfParts yX5_digestOfParts, Cond.code yX5_digestOfParts cX5_digestOfParts 8 (some .long), Cond.methodLink RX5 291 yX5_part, Cond.instanceMethod yX5_part, Cond.selects RX5 yX5_part yX5_part, Cond.code yX5_part cX5_part 4 (some .int), Cond.methodLink RX5 184 yX2_figure]
def wsX5_digest_r10 : List Cond := [Cond.methodLink RX5 266 yX5_digestOfPairs, Cond.instanceMethod yX5_digestOfPairs, Cond.selects RX5 yX5_digestOfPairs yX5_digestOfPairs, Cond.code yX5_digestOfPairs cX5_digestOfPairs 8 (some .long), Cond.methodLink RX5 294 yX5_both, Cond.instanceMethod yX5_both, Cond.selects RX5 yX5_both yX5_both, Cond.code yX5_both cX5_both 4 (some .int), Cond.methodLink RX5 190 yX1_sameAs, Cond.methodLink RX5 194 yX1_darkCellsIn, Cond.instanceMethod yX1_darkCellsIn, Cond.selects RX1 yX1_darkCellsIn yX1_darkCellsIn, Cond.code yX1_darkCellsIn cX1_darkCellsIn 4 (some .int), Cond.methodLink RX5 197 yX1_touches, Cond.instanceMethod yX1_touches, Cond.selects RX1 yX1_touches yX1_touches, Cond.code yX1_touches cX1_touches 3 (some .boolean), Cond.methodLink RX1 31 yX1_neighboursInRow, Cond.instanceMethod yX1_neighboursInRow, Cond.selects RX1 yX1_neighboursInRow yX1_neighboursInRow, Cond.code yX1_neighboursInRow cX1_neighboursInRow 2 (some .int)]
def wsX5_digest : List Cond := .code yX5_digest cX5_digest 4 (some .long) :: ((wsX5_digest_r1 ++ (wsX5_digest_r2 ++ (wsX5_digest_r3 ++ (wsX5_digest_r4 ++ (wsX5_digest_r5 ++ (wsX5_digest_r6 ++ (wsX5_digest_r7 ++ (wsX5_digest_r8 ++ (wsX5_digest_r9 ++ wsX5_digest_r10))))))))) ++ wsX50 ++ wsX00 ++ wsX10 ++ wsX40 ++ wsX20)
def wsX6_init : List Cond := .code yX6_init cX6_init 2 none :: ([.methodLink RX6 1 objectInit, .instanceMethod objectInit, .code objectInit ⟨#[0xb1]⟩ 1 none, .arrayClass .int, .fieldLink RX6 7 "QuarterMasksModel" "forms" "[I", .fieldLink RX6 13 "QuarterMasksModel" "sizes" "[I", .fieldLink RX6 16 "QuarterMasksModel" "items" "[I", .fieldLink RX6 19 "QuarterMasksModel" "moved" "[I", .fieldLink RX6 22 "QuarterMasksModel" "rows" "[I", .fieldLink RX6 25 "QuarterMasksModel" "fresh" "[I", .fieldLink RX6 28 "QuarterMasksModel" "oldMask" "[I", .fieldLink RX6 31 "QuarterMasksModel" "oldRows" "[I", .fieldLink RX6 34 "QuarterMasksModel" "label" "[I", .fieldLink RX6 37 "QuarterMasksModel" "pile" "[I", .fieldLink RX6 40 "QuarterMasksModel" "waitX" "[I", .fieldLink RX6 43 "QuarterMasksModel" "waitY" "[I", .fieldLink RX6 46 "QuarterMasksModel" "waitSide" "[I", .fieldLink RX6 49 "QuarterMasksModel" "sign" "[I", .fieldLink RX6 52 "QuarterMasksModel" "many" "[I"] ++ wsX60)
def wsX6_in : List Cond := .code yX6_in cX6_in 6 (some .boolean) :: ([])
def wsX6_isTwo : List Cond := .code yX6_isTwo cX6_isTwo 1 (some .boolean) :: ([.methodLink RX6 55 yX6_in, .static yX6_in, .initialized RX6, .code yX6_in cX6_in 6 (some .boolean)])
def wsX6_lesser : List Cond := .code yX6_lesser cX6_lesser 2 (some .int) :: ([])
def wsX6_greater : List Cond := .code yX6_greater cX6_greater 2 (some .int) :: ([])
def wsX6_finds : List Cond := .code yX6_finds cX6_finds 2 (some .int) :: ([.fieldLink RX6 59 "QuarterMasksModel" "latest" "I"] ++ wsX60)
def wsX6_isSheet : List Cond := .code yX6_isSheet cX6_isSheet 1 (some .boolean) :: ([.constantLong RX6 63 (3), .methodLink RX6 55 yX6_in, .static yX6_in, .initialized RX6, .code yX6_in cX6_in 6 (some .boolean)])
def wsX6_sheet : List Cond := .code yX6_sheet cX6_sheet 5 (some .int) :: ([.constantLong RX6 69 (2), .fieldLink RX6 7 "QuarterMasksModel" "forms" "[I", .fieldLink RX6 13 "QuarterMasksModel" "sizes" "[I", .fieldLink RX6 16 "QuarterMasksModel" "items" "[I", .methodLink RX6 65 yX6_isSheet, .static yX6_isSheet, .initialized RX6, .code yX6_isSheet cX6_isSheet 1 (some .boolean), .constantLong RX6 63 (3), .methodLink RX6 55 yX6_in, .static yX6_in, .code yX6_in cX6_in 6 (some .boolean), .methodLink RX6 71 yX6_finds, .instanceMethod yX6_finds, .selects RX6 yX6_finds yX6_finds, .code yX6_finds cX6_finds 2 (some .int), .fieldLink RX6 59 "QuarterMasksModel" "latest" "I"] ++ wsX60)
def wsX6_lose : List Cond := .code yX6_lose cX6_lose 2 (some .int) :: ([.fieldLink RX6 7 "QuarterMasksModel" "forms" "[I", .fieldLink RX6 13 "QuarterMasksModel" "sizes" "[I", .methodLink RX6 65 yX6_isSheet, .static yX6_isSheet, .initialized RX6, .code yX6_isSheet cX6_isSheet 1 (some .boolean), .constantLong RX6 63 (3), .methodLink RX6 55 yX6_in, .static yX6_in, .code yX6_in cX6_in 6 (some .boolean), .methodLink RX6 71 yX6_finds, .instanceMethod yX6_finds, .selects RX6 yX6_finds yX6_finds, .code yX6_finds cX6_finds 2 (some .int), .fieldLink RX6 59 "QuarterMasksModel" "latest" "I"] ++ wsX60)
def wsX6_lacks : List Cond := .code yX6_lacks cX6_lacks 4 (some .int) :: ([.fieldLink RX6 7 "QuarterMasksModel" "forms" "[I", .fieldLink RX6 13 "QuarterMasksModel" "sizes" "[I", .methodLink RX6 71 yX6_finds, .instanceMethod yX6_finds, .selects RX6 yX6_finds yX6_finds, .initialized RX6, .code yX6_finds cX6_finds 2 (some .int), .fieldLink RX6 59 "QuarterMasksModel" "latest" "I", .methodLink RX6 55 yX6_in, .static yX6_in, .code yX6_in cX6_in 6 (some .boolean)] ++ wsX60)
def wsX6_cut : List Cond := .code yX6_cut cX6_cut 2 (some .int) :: ([])
def wsX6_lay : List Cond := .code yX6_lay cX6_lay 6 (some .int) :: ([.constantLong RX6 69 (2), .fieldLink RX6 16 "QuarterMasksModel" "items" "[I", .methodLink RX6 65 yX6_isSheet, .static yX6_isSheet, .initialized RX6, .code yX6_isSheet cX6_isSheet 1 (some .boolean), .constantLong RX6 63 (3), .methodLink RX6 55 yX6_in, .static yX6_in, .code yX6_in cX6_in 6 (some .boolean), .methodLink RX6 75 yX6_lacks, .instanceMethod yX6_lacks, .selects RX6 yX6_lacks yX6_lacks, .code yX6_lacks cX6_lacks 4 (some .int), .fieldLink RX6 7 "QuarterMasksModel" "forms" "[I", .fieldLink RX6 13 "QuarterMasksModel" "sizes" "[I", .methodLink RX6 71 yX6_finds, .instanceMethod yX6_finds, .selects RX6 yX6_finds yX6_finds, .code yX6_finds cX6_finds 2 (some .int), .fieldLink RX6 59 "QuarterMasksModel" "latest" "I", .methodLink RX6 79 yX6_cut, .static yX6_cut, .code yX6_cut cX6_cut 2 (some .int)] ++ wsX60)
def wsX6_get : List Cond := .code yX6_get cX6_get 4 (some .int) :: ([.constantLong RX6 69 (2), .constant RX6 83 (-2147483648), .fieldLink RX6 16 "QuarterMasksModel" "items" "[I", .methodLink RX6 65 yX6_isSheet, .static yX6_isSheet, .initialized RX6, .code yX6_isSheet cX6_isSheet 1 (some .boolean), .constantLong RX6 63 (3), .methodLink RX6 55 yX6_in, .static yX6_in, .code yX6_in cX6_in 6 (some .boolean), .methodLink RX6 75 yX6_lacks, .instanceMethod yX6_lacks, .selects RX6 yX6_lacks yX6_lacks, .code yX6_lacks cX6_lacks 4 (some .int), .fieldLink RX6 7 "QuarterMasksModel" "forms" "[I", .fieldLink RX6 13 "QuarterMasksModel" "sizes" "[I", .methodLink RX6 71 yX6_finds, .instanceMethod yX6_finds, .selects RX6 yX6_finds yX6_finds, .code yX6_finds cX6_finds 2 (some .int), .fieldLink RX6 59 "QuarterMasksModel" "latest" "I"] ++ wsX60)
def wsX6_copy : List Cond := .code yX6_copy cX6_copy 7 (some .int) :: ([.fieldLink RX6 7 "QuarterMasksModel" "forms" "[I", .fieldLink RX6 13 "QuarterMasksModel" "sizes" "[I", .fieldLink RX6 19 "QuarterMasksModel" "moved" "[I", .fieldLink RX6 16 "QuarterMasksModel" "items" "[I", .methodLink RX6 65 yX6_isSheet, .static yX6_isSheet, .initialized RX6, .code yX6_isSheet cX6_isSheet 1 (some .boolean), .constantLong RX6 63 (3), .methodLink RX6 55 yX6_in, .static yX6_in, .code yX6_in cX6_in 6 (some .boolean), .methodLink RX6 71 yX6_finds, .instanceMethod yX6_finds, .selects RX6 yX6_finds yX6_finds, .code yX6_finds cX6_finds 2 (some .int), .fieldLink RX6 59 "QuarterMasksModel" "latest" "I"] ++ wsX60)
def wsX6_isMask : List Cond := .code yX6_isMask cX6_isMask 1 (some .boolean) :: ([.constantLong RX6 63 (3), .methodLink RX6 55 yX6_in, .static yX6_in, .initialized RX6, .code yX6_in cX6_in 6 (some .boolean)])
def wsX6_isCell : List Cond := .code yX6_isCell cX6_isCell 2 (some .boolean) :: ([.constantLong RX6 84 (15), .methodLink RX6 55 yX6_in, .static yX6_in, .initialized RX6, .code yX6_in cX6_in 6 (some .boolean)])
def wsX6_dark : List Cond := .code yX6_dark cX6_dark 4 (some .int) :: ([.fieldLink RX6 22 "QuarterMasksModel" "rows" "[I", .methodLink RX6 86 yX6_isCell, .static yX6_isCell, .initialized RX6, .code yX6_isCell cX6_isCell 2 (some .boolean), .constantLong RX6 84 (15), .methodLink RX6 55 yX6_in, .static yX6_in, .code yX6_in cX6_in 6 (some .boolean)] ++ wsX60)
def wsX6_darkOf : List Cond := .code yX6_darkOf cX6_darkOf 4 (some .int) :: ([.methodLink RX6 90 yX6_dark, .instanceMethod yX6_dark, .selects RX6 yX6_dark yX6_dark, .initialized RX6, .code yX6_dark cX6_dark 4 (some .int), .fieldLink RX6 22 "QuarterMasksModel" "rows" "[I", .methodLink RX6 86 yX6_isCell, .static yX6_isCell, .code yX6_isCell cX6_isCell 2 (some .boolean), .constantLong RX6 84 (15), .methodLink RX6 55 yX6_in, .static yX6_in, .code yX6_in cX6_in 6 (some .boolean)] ++ wsX60)
def wsX6_clears : List Cond := .code yX6_clears cX6_clears 2 none :: ([.fieldLink RX6 25 "QuarterMasksModel" "fresh" "[I"] ++ wsX60)
def wsX6_starts : List Cond := .code yX6_starts cX6_starts 3 none :: ([.fieldLink RX6 25 "QuarterMasksModel" "fresh" "[I", .fieldLink RX6 22 "QuarterMasksModel" "rows" "[I"] ++ wsX60)
def wsX6_sets : List Cond := .code yX6_sets cX6_sets 4 none :: ([.fieldLink RX6 25 "QuarterMasksModel" "fresh" "[I"] ++ wsX60)
def wsX6_becomes : List Cond := .code yX6_becomes cX6_becomes 3 none :: ([.fieldLink RX6 93 "QuarterMasksModel" "known" "I", .fieldLink RX6 28 "QuarterMasksModel" "oldMask" "[I", .fieldLink RX6 31 "QuarterMasksModel" "oldRows" "[I", .fieldLink RX6 22 "QuarterMasksModel" "rows" "[I", .fieldLink RX6 25 "QuarterMasksModel" "fresh" "[I"] ++ wsX60)
def wsX6_become_r1 : List Cond := [Cond.methodLink RX6 96 yX6_becomes, Cond.instanceMethod yX6_becomes, Cond.selects RX6 yX6_becomes yX6_becomes, Cond.initialized RX6, Cond.code yX6_becomes cX6_becomes 3 none, Cond.fieldLink RX6 93 "QuarterMasksModel" "known" "I", Cond.fieldLink RX6 28 "QuarterMasksModel" "oldMask" "[I", Cond.fieldLink RX6 31 "QuarterMasksModel" "oldRows" "[I", Cond.fieldLink RX6 22 "QuarterMasksModel" "rows" "[I", Cond.fieldLink RX6 25 "QuarterMasksModel" "fresh" "[I", Cond.methodLink RX6 100 yX6_darkOf, Cond.instanceMethod yX6_darkOf, Cond.selects RX6 yX6_darkOf yX6_darkOf, Cond.code yX6_darkOf cX6_darkOf 4 (some .int), Cond.methodLink RX6 90 yX6_dark, Cond.instanceMethod yX6_dark, Cond.selects RX6 yX6_dark yX6_dark, Cond.code yX6_dark cX6_dark 4 (some .int), Cond.methodLink RX6 86 yX6_isCell, Cond.static yX6_isCell, Cond.code yX6_isCell cX6_isCell 2 (some .boolean), Cond.constantLong RX6 84 (15), Cond.methodLink RX6 55 yX6_in, Cond.static yX6_in]
def wsX6_become_r2 : List Cond := [Cond.code yX6_in cX6_in 6 (some .boolean)]
def wsX6_become : List Cond := .code yX6_become cX6_become 2 (some .int) :: ((wsX6_become_r1 ++ wsX6_become_r2) ++ wsX60)
def wsX6_fill_r1 : List Cond := [Cond.constantLong RX6 106 (16), Cond.methodLink RX6 103 yX6_isMask, Cond.static yX6_isMask, Cond.initialized RX6, Cond.code yX6_isMask cX6_isMask 1 (some .boolean), Cond.constantLong RX6 63 (3), Cond.methodLink RX6 55 yX6_in, Cond.static yX6_in, Cond.code yX6_in cX6_in 6 (some .boolean), Cond.methodLink RX6 86 yX6_isCell, Cond.static yX6_isCell, Cond.code yX6_isCell cX6_isCell 2 (some .boolean), Cond.constantLong RX6 84 (15), Cond.methodLink RX6 108 yX6_isTwo, Cond.static yX6_isTwo, Cond.code yX6_isTwo cX6_isTwo 1 (some .boolean), Cond.methodLink RX6 111 yX6_starts, Cond.instanceMethod yX6_starts, Cond.selects RX6 yX6_starts yX6_starts, Cond.code yX6_starts cX6_starts 3 none, Cond.fieldLink RX6 25 "QuarterMasksModel" "fresh" "[I", Cond.fieldLink RX6 22 "QuarterMasksModel" "rows" "[I", Cond.methodLink RX6 114 yX6_sets, Cond.instanceMethod yX6_sets]
def wsX6_fill_r2 : List Cond := [Cond.selects RX6 yX6_sets yX6_sets, Cond.code yX6_sets cX6_sets 4 none, Cond.methodLink RX6 118 yX6_become, Cond.instanceMethod yX6_become, Cond.selects RX6 yX6_become yX6_become, Cond.code yX6_become cX6_become 2 (some .int), Cond.methodLink RX6 96 yX6_becomes, Cond.instanceMethod yX6_becomes, Cond.selects RX6 yX6_becomes yX6_becomes, Cond.code yX6_becomes cX6_becomes 3 none, Cond.fieldLink RX6 93 "QuarterMasksModel" "known" "I", Cond.fieldLink RX6 28 "QuarterMasksModel" "oldMask" "[I", Cond.fieldLink RX6 31 "QuarterMasksModel" "oldRows" "[I", Cond.methodLink RX6 100 yX6_darkOf, Cond.instanceMethod yX6_darkOf, Cond.selects RX6 yX6_darkOf yX6_darkOf, Cond.code yX6_darkOf cX6_darkOf 4 (some .int), Cond.methodLink RX6 90 yX6_dark, Cond.instanceMethod yX6_dark, Cond.selects RX6 yX6_dark yX6_dark, Cond.code yX6_dark cX6_dark 4 (some .int)]
def wsX6_fill : List Cond := .code yX6_fill cX6_fill 8 (some .int) :: ((wsX6_fill_r1 ++ wsX6_fill_r2) ++ wsX60)
def wsX6_lot : List Cond := .code yX6_lot cX6_lot 2 (some .int) :: ([.constant RX6 121 (1103515245), .fieldLink RX6 122 "QuarterMasksModel" "drawn" "I"] ++ wsX60)
def wsX6_dots_r1 : List Cond := [Cond.constantLong RX6 125 (255), Cond.fieldLink RX6 122 "QuarterMasksModel" "drawn" "I", Cond.fieldLink RX6 25 "QuarterMasksModel" "fresh" "[I", Cond.methodLink RX6 103 yX6_isMask, Cond.static yX6_isMask, Cond.initialized RX6, Cond.code yX6_isMask cX6_isMask 1 (some .boolean), Cond.constantLong RX6 63 (3), Cond.methodLink RX6 55 yX6_in, Cond.static yX6_in, Cond.code yX6_in cX6_in 6 (some .boolean), Cond.methodLink RX6 111 yX6_starts, Cond.instanceMethod yX6_starts, Cond.selects RX6 yX6_starts yX6_starts, Cond.code yX6_starts cX6_starts 3 none, Cond.fieldLink RX6 22 "QuarterMasksModel" "rows" "[I", Cond.methodLink RX6 127 yX6_lot, Cond.instanceMethod yX6_lot, Cond.selects RX6 yX6_lot yX6_lot, Cond.code yX6_lot cX6_lot 2 (some .int), Cond.constant RX6 121 (1103515245), Cond.methodLink RX6 118 yX6_become, Cond.instanceMethod yX6_become, Cond.selects RX6 yX6_become yX6_become]
def wsX6_dots_r2 : List Cond := [Cond.code yX6_become cX6_become 2 (some .int), Cond.methodLink RX6 96 yX6_becomes, Cond.instanceMethod yX6_becomes, Cond.selects RX6 yX6_becomes yX6_becomes, Cond.code yX6_becomes cX6_becomes 3 none, Cond.fieldLink RX6 93 "QuarterMasksModel" "known" "I", Cond.fieldLink RX6 28 "QuarterMasksModel" "oldMask" "[I", Cond.fieldLink RX6 31 "QuarterMasksModel" "oldRows" "[I", Cond.methodLink RX6 100 yX6_darkOf, Cond.instanceMethod yX6_darkOf, Cond.selects RX6 yX6_darkOf yX6_darkOf, Cond.code yX6_darkOf cX6_darkOf 4 (some .int), Cond.methodLink RX6 90 yX6_dark, Cond.instanceMethod yX6_dark, Cond.selects RX6 yX6_dark yX6_dark, Cond.code yX6_dark cX6_dark 4 (some .int), Cond.methodLink RX6 86 yX6_isCell, Cond.static yX6_isCell, Cond.code yX6_isCell cX6_isCell 2 (some .boolean), Cond.constantLong RX6 84 (15)]
def wsX6_dots : List Cond := .code yX6_dots cX6_dots 6 (some .int) :: ((wsX6_dots_r1 ++ wsX6_dots_r2) ++ wsX60)
def wsX6_join_r1 : List Cond := [Cond.constantLong RX6 63 (3), Cond.fieldLink RX6 22 "QuarterMasksModel" "rows" "[I", Cond.fieldLink RX6 25 "QuarterMasksModel" "fresh" "[I", Cond.methodLink RX6 55 yX6_in, Cond.static yX6_in, Cond.initialized RX6, Cond.code yX6_in cX6_in 6 (some .boolean), Cond.methodLink RX6 103 yX6_isMask, Cond.static yX6_isMask, Cond.code yX6_isMask cX6_isMask 1 (some .boolean), Cond.methodLink RX6 118 yX6_become, Cond.instanceMethod yX6_become, Cond.selects RX6 yX6_become yX6_become, Cond.code yX6_become cX6_become 2 (some .int), Cond.methodLink RX6 96 yX6_becomes, Cond.instanceMethod yX6_becomes, Cond.selects RX6 yX6_becomes yX6_becomes, Cond.code yX6_becomes cX6_becomes 3 none, Cond.fieldLink RX6 93 "QuarterMasksModel" "known" "I", Cond.fieldLink RX6 28 "QuarterMasksModel" "oldMask" "[I", Cond.fieldLink RX6 31 "QuarterMasksModel" "oldRows" "[I", Cond.methodLink RX6 100 yX6_darkOf, Cond.instanceMethod yX6_darkOf, Cond.selects RX6 yX6_darkOf yX6_darkOf]
def wsX6_join_r2 : List Cond := [Cond.code yX6_darkOf cX6_darkOf 4 (some .int), Cond.methodLink RX6 90 yX6_dark, Cond.instanceMethod yX6_dark, Cond.selects RX6 yX6_dark yX6_dark, Cond.code yX6_dark cX6_dark 4 (some .int), Cond.methodLink RX6 86 yX6_isCell, Cond.static yX6_isCell, Cond.code yX6_isCell cX6_isCell 2 (some .boolean), Cond.constantLong RX6 84 (15)]
def wsX6_join : List Cond := .code yX6_join cX6_join 8 (some .int) :: ((wsX6_join_r1 ++ wsX6_join_r2) ++ wsX60)
def wsX6_over_r1 : List Cond := [Cond.fieldLink RX6 25 "QuarterMasksModel" "fresh" "[I", Cond.constant RX6 130 (65535), Cond.fieldLink RX6 22 "QuarterMasksModel" "rows" "[I", Cond.methodLink RX6 103 yX6_isMask, Cond.static yX6_isMask, Cond.initialized RX6, Cond.code yX6_isMask cX6_isMask 1 (some .boolean), Cond.constantLong RX6 63 (3), Cond.methodLink RX6 55 yX6_in, Cond.static yX6_in, Cond.code yX6_in cX6_in 6 (some .boolean), Cond.methodLink RX6 118 yX6_become, Cond.instanceMethod yX6_become, Cond.selects RX6 yX6_become yX6_become, Cond.code yX6_become cX6_become 2 (some .int), Cond.methodLink RX6 96 yX6_becomes, Cond.instanceMethod yX6_becomes, Cond.selects RX6 yX6_becomes yX6_becomes, Cond.code yX6_becomes cX6_becomes 3 none, Cond.fieldLink RX6 93 "QuarterMasksModel" "known" "I", Cond.fieldLink RX6 28 "QuarterMasksModel" "oldMask" "[I", Cond.fieldLink RX6 31 "QuarterMasksModel" "oldRows" "[I", Cond.methodLink RX6 100 yX6_darkOf, Cond.instanceMethod yX6_darkOf]
def wsX6_over_r2 : List Cond := [Cond.selects RX6 yX6_darkOf yX6_darkOf, Cond.code yX6_darkOf cX6_darkOf 4 (some .int), Cond.methodLink RX6 90 yX6_dark, Cond.instanceMethod yX6_dark, Cond.selects RX6 yX6_dark yX6_dark, Cond.code yX6_dark cX6_dark 4 (some .int), Cond.methodLink RX6 86 yX6_isCell, Cond.static yX6_isCell, Cond.code yX6_isCell cX6_isCell 2 (some .boolean), Cond.constantLong RX6 84 (15)]
def wsX6_over : List Cond := .code yX6_over cX6_over 4 (some .int) :: ((wsX6_over_r1 ++ wsX6_over_r2) ++ wsX60)
def wsX6_move_r1 : List Cond := [Cond.constantLong RX6 131 (-16), Cond.constantLong RX6 106 (16), Cond.methodLink RX6 103 yX6_isMask, Cond.static yX6_isMask, Cond.initialized RX6, Cond.code yX6_isMask cX6_isMask 1 (some .boolean), Cond.constantLong RX6 63 (3), Cond.methodLink RX6 55 yX6_in, Cond.static yX6_in, Cond.code yX6_in cX6_in 6 (some .boolean), Cond.methodLink RX6 133 yX6_clears, Cond.instanceMethod yX6_clears, Cond.selects RX6 yX6_clears yX6_clears, Cond.code yX6_clears cX6_clears 2 none, Cond.fieldLink RX6 25 "QuarterMasksModel" "fresh" "[I", Cond.methodLink RX6 90 yX6_dark, Cond.instanceMethod yX6_dark, Cond.selects RX6 yX6_dark yX6_dark, Cond.code yX6_dark cX6_dark 4 (some .int), Cond.fieldLink RX6 22 "QuarterMasksModel" "rows" "[I", Cond.methodLink RX6 86 yX6_isCell, Cond.static yX6_isCell, Cond.code yX6_isCell cX6_isCell 2 (some .boolean), Cond.constantLong RX6 84 (15)]
def wsX6_move_r2 : List Cond := [Cond.methodLink RX6 114 yX6_sets, Cond.instanceMethod yX6_sets, Cond.selects RX6 yX6_sets yX6_sets, Cond.code yX6_sets cX6_sets 4 none, Cond.methodLink RX6 118 yX6_become, Cond.instanceMethod yX6_become, Cond.selects RX6 yX6_become yX6_become, Cond.code yX6_become cX6_become 2 (some .int), Cond.methodLink RX6 96 yX6_becomes, Cond.instanceMethod yX6_becomes, Cond.selects RX6 yX6_becomes yX6_becomes, Cond.code yX6_becomes cX6_becomes 3 none, Cond.fieldLink RX6 93 "QuarterMasksModel" "known" "I", Cond.fieldLink RX6 28 "QuarterMasksModel" "oldMask" "[I", Cond.fieldLink RX6 31 "QuarterMasksModel" "oldRows" "[I", Cond.methodLink RX6 100 yX6_darkOf, Cond.instanceMethod yX6_darkOf, Cond.selects RX6 yX6_darkOf yX6_darkOf, Cond.code yX6_darkOf cX6_darkOf 4 (some .int)]
def wsX6_move : List Cond := .code yX6_move cX6_move 6 (some .int) :: ((wsX6_move_r1 ++ wsX6_move_r2) ++ wsX60)
def wsX6_turn_r1 : List Cond := [Cond.constantLong RX6 63 (3), Cond.methodLink RX6 103 yX6_isMask, Cond.static yX6_isMask, Cond.initialized RX6, Cond.code yX6_isMask cX6_isMask 1 (some .boolean), Cond.methodLink RX6 55 yX6_in, Cond.static yX6_in, Cond.code yX6_in cX6_in 6 (some .boolean), Cond.methodLink RX6 133 yX6_clears, Cond.instanceMethod yX6_clears, Cond.selects RX6 yX6_clears yX6_clears, Cond.code yX6_clears cX6_clears 2 none, Cond.fieldLink RX6 25 "QuarterMasksModel" "fresh" "[I", Cond.methodLink RX6 90 yX6_dark, Cond.instanceMethod yX6_dark, Cond.selects RX6 yX6_dark yX6_dark, Cond.code yX6_dark cX6_dark 4 (some .int), Cond.fieldLink RX6 22 "QuarterMasksModel" "rows" "[I", Cond.methodLink RX6 86 yX6_isCell, Cond.static yX6_isCell, Cond.code yX6_isCell cX6_isCell 2 (some .boolean), Cond.constantLong RX6 84 (15), Cond.methodLink RX6 114 yX6_sets, Cond.instanceMethod yX6_sets]
def wsX6_turn_r2 : List Cond := [Cond.selects RX6 yX6_sets yX6_sets, Cond.code yX6_sets cX6_sets 4 none, Cond.methodLink RX6 118 yX6_become, Cond.instanceMethod yX6_become, Cond.selects RX6 yX6_become yX6_become, Cond.code yX6_become cX6_become 2 (some .int), Cond.methodLink RX6 96 yX6_becomes, Cond.instanceMethod yX6_becomes, Cond.selects RX6 yX6_becomes yX6_becomes, Cond.code yX6_becomes cX6_becomes 3 none, Cond.fieldLink RX6 93 "QuarterMasksModel" "known" "I", Cond.fieldLink RX6 28 "QuarterMasksModel" "oldMask" "[I", Cond.fieldLink RX6 31 "QuarterMasksModel" "oldRows" "[I", Cond.methodLink RX6 100 yX6_darkOf, Cond.instanceMethod yX6_darkOf, Cond.selects RX6 yX6_darkOf yX6_darkOf, Cond.code yX6_darkOf cX6_darkOf 4 (some .int)]
def wsX6_turn : List Cond := .code yX6_turn cX6_turn 9 (some .int) :: ((wsX6_turn_r1 ++ wsX6_turn_r2) ++ wsX60)
def wsX6_apart : List Cond := .code yX6_apart cX6_apart 2 (some .int) :: ([])
def wsX6_nearOf : List Cond := .code yX6_nearOf cX6_nearOf 7 (some .int) :: ([.methodLink RX6 136 yX6_apart, .static yX6_apart, .initialized RX6, .code yX6_apart cX6_apart 2 (some .int), .methodLink RX6 90 yX6_dark, .instanceMethod yX6_dark, .selects RX6 yX6_dark yX6_dark, .code yX6_dark cX6_dark 4 (some .int), .fieldLink RX6 22 "QuarterMasksModel" "rows" "[I", .methodLink RX6 86 yX6_isCell, .static yX6_isCell, .code yX6_isCell cX6_isCell 2 (some .boolean), .constantLong RX6 84 (15), .methodLink RX6 55 yX6_in, .static yX6_in, .code yX6_in cX6_in 6 (some .boolean)] ++ wsX60)
def wsX6_band_r1 : List Cond := [Cond.constantLong RX6 139 (30), Cond.methodLink RX6 103 yX6_isMask, Cond.static yX6_isMask, Cond.initialized RX6, Cond.code yX6_isMask cX6_isMask 1 (some .boolean), Cond.constantLong RX6 63 (3), Cond.methodLink RX6 55 yX6_in, Cond.static yX6_in, Cond.code yX6_in cX6_in 6 (some .boolean), Cond.methodLink RX6 133 yX6_clears, Cond.instanceMethod yX6_clears, Cond.selects RX6 yX6_clears yX6_clears, Cond.code yX6_clears cX6_clears 2 none, Cond.fieldLink RX6 25 "QuarterMasksModel" "fresh" "[I", Cond.methodLink RX6 141 yX6_nearOf, Cond.instanceMethod yX6_nearOf, Cond.selects RX6 yX6_nearOf yX6_nearOf, Cond.code yX6_nearOf cX6_nearOf 7 (some .int), Cond.methodLink RX6 136 yX6_apart, Cond.static yX6_apart, Cond.code yX6_apart cX6_apart 2 (some .int), Cond.methodLink RX6 90 yX6_dark, Cond.instanceMethod yX6_dark, Cond.selects RX6 yX6_dark yX6_dark]
def wsX6_band_r2 : List Cond := [Cond.code yX6_dark cX6_dark 4 (some .int), Cond.fieldLink RX6 22 "QuarterMasksModel" "rows" "[I", Cond.methodLink RX6 86 yX6_isCell, Cond.static yX6_isCell, Cond.code yX6_isCell cX6_isCell 2 (some .boolean), Cond.constantLong RX6 84 (15), Cond.methodLink RX6 114 yX6_sets, Cond.instanceMethod yX6_sets, Cond.selects RX6 yX6_sets yX6_sets, Cond.code yX6_sets cX6_sets 4 none, Cond.methodLink RX6 118 yX6_become, Cond.instanceMethod yX6_become, Cond.selects RX6 yX6_become yX6_become, Cond.code yX6_become cX6_become 2 (some .int), Cond.methodLink RX6 96 yX6_becomes, Cond.instanceMethod yX6_becomes, Cond.selects RX6 yX6_becomes yX6_becomes, Cond.code yX6_becomes cX6_becomes 3 none, Cond.fieldLink RX6 93 "QuarterMasksModel" "known" "I", Cond.fieldLink RX6 28 "QuarterMasksModel" "oldMask" "[I", Cond.fieldLink RX6 31 "QuarterMasksModel" "oldRows" "[I", Cond.methodLink RX6 100 yX6_darkOf, Cond.instanceMethod yX6_darkOf, Cond.selects RX6 yX6_darkOf yX6_darkOf]
def wsX6_band_r3 : List Cond := [Cond.code yX6_darkOf cX6_darkOf 4 (some .int)]
def wsX6_band : List Cond := .code yX6_band cX6_band 5 (some .int) :: ((wsX6_band_r1 ++ (wsX6_band_r2 ++ wsX6_band_r3)) ++ wsX60)
def wsX6_floods : List Cond := .code yX6_floods cX6_floods 9 none :: ([.fieldLink RX6 37 "QuarterMasksModel" "pile" "[I", .fieldLink RX6 34 "QuarterMasksModel" "label" "[I", .fieldLink RX6 144 "QuarterMasksModel" "parts" "I", .methodLink RX6 86 yX6_isCell, .static yX6_isCell, .initialized RX6, .code yX6_isCell cX6_isCell 2 (some .boolean), .constantLong RX6 84 (15), .methodLink RX6 55 yX6_in, .static yX6_in, .code yX6_in cX6_in 6 (some .boolean), .methodLink RX6 90 yX6_dark, .instanceMethod yX6_dark, .selects RX6 yX6_dark yX6_dark, .code yX6_dark cX6_dark 4 (some .int), .fieldLink RX6 22 "QuarterMasksModel" "rows" "[I"] ++ wsX60)
def wsX6_labels : List Cond := .code yX6_labels cX6_labels 4 none :: ([.fieldLink RX6 144 "QuarterMasksModel" "parts" "I", .fieldLink RX6 34 "QuarterMasksModel" "label" "[I", .methodLink RX6 90 yX6_dark, .instanceMethod yX6_dark, .selects RX6 yX6_dark yX6_dark, .initialized RX6, .code yX6_dark cX6_dark 4 (some .int), .fieldLink RX6 22 "QuarterMasksModel" "rows" "[I", .methodLink RX6 86 yX6_isCell, .static yX6_isCell, .code yX6_isCell cX6_isCell 2 (some .boolean), .constantLong RX6 84 (15), .methodLink RX6 55 yX6_in, .static yX6_in, .code yX6_in cX6_in 6 (some .boolean), .methodLink RX6 147 yX6_floods, .instanceMethod yX6_floods, .selects RX6 yX6_floods yX6_floods, .code yX6_floods cX6_floods 9 none, .fieldLink RX6 37 "QuarterMasksModel" "pile" "[I"] ++ wsX60)
def wsX6_pick_r1 : List Cond := [Cond.fieldLink RX6 34 "QuarterMasksModel" "label" "[I", Cond.methodLink RX6 103 yX6_isMask, Cond.static yX6_isMask, Cond.initialized RX6, Cond.code yX6_isMask cX6_isMask 1 (some .boolean), Cond.constantLong RX6 63 (3), Cond.methodLink RX6 55 yX6_in, Cond.static yX6_in, Cond.code yX6_in cX6_in 6 (some .boolean), Cond.methodLink RX6 86 yX6_isCell, Cond.static yX6_isCell, Cond.code yX6_isCell cX6_isCell 2 (some .boolean), Cond.constantLong RX6 84 (15), Cond.methodLink RX6 90 yX6_dark, Cond.instanceMethod yX6_dark, Cond.selects RX6 yX6_dark yX6_dark, Cond.code yX6_dark cX6_dark 4 (some .int), Cond.fieldLink RX6 22 "QuarterMasksModel" "rows" "[I", Cond.methodLink RX6 150 yX6_labels, Cond.instanceMethod yX6_labels, Cond.selects RX6 yX6_labels yX6_labels, Cond.code yX6_labels cX6_labels 4 none, Cond.fieldLink RX6 144 "QuarterMasksModel" "parts" "I", Cond.methodLink RX6 147 yX6_floods]
def wsX6_pick_r2 : List Cond := [Cond.instanceMethod yX6_floods, Cond.selects RX6 yX6_floods yX6_floods, Cond.code yX6_floods cX6_floods 9 none, Cond.fieldLink RX6 37 "QuarterMasksModel" "pile" "[I", Cond.methodLink RX6 133 yX6_clears, Cond.instanceMethod yX6_clears, Cond.selects RX6 yX6_clears yX6_clears, Cond.code yX6_clears cX6_clears 2 none, Cond.fieldLink RX6 25 "QuarterMasksModel" "fresh" "[I", Cond.methodLink RX6 114 yX6_sets, Cond.instanceMethod yX6_sets, Cond.selects RX6 yX6_sets yX6_sets, Cond.code yX6_sets cX6_sets 4 none, Cond.methodLink RX6 118 yX6_become, Cond.instanceMethod yX6_become, Cond.selects RX6 yX6_become yX6_become, Cond.code yX6_become cX6_become 2 (some .int), Cond.methodLink RX6 96 yX6_becomes, Cond.instanceMethod yX6_becomes, Cond.selects RX6 yX6_becomes yX6_becomes, Cond.code yX6_becomes cX6_becomes 3 none, Cond.fieldLink RX6 93 "QuarterMasksModel" "known" "I", Cond.fieldLink RX6 28 "QuarterMasksModel" "oldMask" "[I", Cond.fieldLink RX6 31 "QuarterMasksModel" "oldRows" "[I"]
def wsX6_pick_r3 : List Cond := [Cond.methodLink RX6 100 yX6_darkOf, Cond.instanceMethod yX6_darkOf, Cond.selects RX6 yX6_darkOf yX6_darkOf, Cond.code yX6_darkOf cX6_darkOf 4 (some .int)]
def wsX6_pick : List Cond := .code yX6_pick cX6_pick 6 (some .int) :: ((wsX6_pick_r1 ++ (wsX6_pick_r2 ++ wsX6_pick_r3)) ++ wsX60)
def wsX6_later : List Cond := .code yX6_later cX6_later 4 none :: ([.fieldLink RX6 40 "QuarterMasksModel" "waitX" "[I", .fieldLink RX6 154 "QuarterMasksModel" "waits" "I", .fieldLink RX6 43 "QuarterMasksModel" "waitY" "[I", .fieldLink RX6 46 "QuarterMasksModel" "waitSide" "[I"] ++ wsX60)
def wsX6_quarters : List Cond := .code yX6_quarters cX6_quarters 5 none :: ([.methodLink RX6 157 yX6_later, .instanceMethod yX6_later, .selects RX6 yX6_later yX6_later, .initialized RX6, .code yX6_later cX6_later 4 none, .fieldLink RX6 40 "QuarterMasksModel" "waitX" "[I", .fieldLink RX6 154 "QuarterMasksModel" "waits" "I", .fieldLink RX6 43 "QuarterMasksModel" "waitY" "[I", .fieldLink RX6 46 "QuarterMasksModel" "waitSide" "[I"] ++ wsX60)
def wsX6_takes_r1 : List Cond := [Cond.fieldLink RX6 154 "QuarterMasksModel" "waits" "I", Cond.fieldLink RX6 40 "QuarterMasksModel" "waitX" "[I", Cond.fieldLink RX6 43 "QuarterMasksModel" "waitY" "[I", Cond.fieldLink RX6 46 "QuarterMasksModel" "waitSide" "[I", Cond.fieldLink RX6 13 "QuarterMasksModel" "sizes" "[I", Cond.fieldLink RX6 16 "QuarterMasksModel" "items" "[I", Cond.constantLong RX6 69 (2), Cond.methodLink RX6 133 yX6_clears, Cond.instanceMethod yX6_clears, Cond.selects RX6 yX6_clears yX6_clears, Cond.initialized RX6, Cond.code yX6_clears cX6_clears 2 none, Cond.fieldLink RX6 25 "QuarterMasksModel" "fresh" "[I", Cond.methodLink RX6 157 yX6_later, Cond.instanceMethod yX6_later, Cond.selects RX6 yX6_later yX6_later, Cond.code yX6_later cX6_later 4 none, Cond.methodLink RX6 55 yX6_in, Cond.static yX6_in, Cond.code yX6_in cX6_in 6 (some .boolean), Cond.methodLink RX6 160 yX6_quarters, Cond.instanceMethod yX6_quarters, Cond.selects RX6 yX6_quarters yX6_quarters, Cond.code yX6_quarters cX6_quarters 5 none]
def wsX6_takes_r2 : List Cond := [Cond.methodLink RX6 114 yX6_sets, Cond.instanceMethod yX6_sets, Cond.selects RX6 yX6_sets yX6_sets, Cond.code yX6_sets cX6_sets 4 none]
def wsX6_takes : List Cond := .code yX6_takes cX6_takes 8 (some .int) :: ((wsX6_takes_r1 ++ wsX6_takes_r2) ++ wsX60)
def wsX6_read_r1 : List Cond := [Cond.fieldLink RX6 7 "QuarterMasksModel" "forms" "[I", Cond.methodLink RX6 103 yX6_isMask, Cond.static yX6_isMask, Cond.initialized RX6, Cond.code yX6_isMask cX6_isMask 1 (some .boolean), Cond.constantLong RX6 63 (3), Cond.methodLink RX6 55 yX6_in, Cond.static yX6_in, Cond.code yX6_in cX6_in 6 (some .boolean), Cond.methodLink RX6 65 yX6_isSheet, Cond.static yX6_isSheet, Cond.code yX6_isSheet cX6_isSheet 1 (some .boolean), Cond.methodLink RX6 71 yX6_finds, Cond.instanceMethod yX6_finds, Cond.selects RX6 yX6_finds yX6_finds, Cond.code yX6_finds cX6_finds 2 (some .int), Cond.fieldLink RX6 59 "QuarterMasksModel" "latest" "I", Cond.methodLink RX6 163 yX6_takes, Cond.instanceMethod yX6_takes, Cond.selects RX6 yX6_takes yX6_takes, Cond.code yX6_takes cX6_takes 8 (some .int), Cond.fieldLink RX6 154 "QuarterMasksModel" "waits" "I", Cond.fieldLink RX6 40 "QuarterMasksModel" "waitX" "[I", Cond.fieldLink RX6 43 "QuarterMasksModel" "waitY" "[I"]
def wsX6_read_r2 : List Cond := [Cond.fieldLink RX6 46 "QuarterMasksModel" "waitSide" "[I", Cond.fieldLink RX6 13 "QuarterMasksModel" "sizes" "[I", Cond.fieldLink RX6 16 "QuarterMasksModel" "items" "[I", Cond.constantLong RX6 69 (2), Cond.methodLink RX6 133 yX6_clears, Cond.instanceMethod yX6_clears, Cond.selects RX6 yX6_clears yX6_clears, Cond.code yX6_clears cX6_clears 2 none, Cond.fieldLink RX6 25 "QuarterMasksModel" "fresh" "[I", Cond.methodLink RX6 157 yX6_later, Cond.instanceMethod yX6_later, Cond.selects RX6 yX6_later yX6_later, Cond.code yX6_later cX6_later 4 none, Cond.methodLink RX6 160 yX6_quarters, Cond.instanceMethod yX6_quarters, Cond.selects RX6 yX6_quarters yX6_quarters, Cond.code yX6_quarters cX6_quarters 5 none, Cond.methodLink RX6 114 yX6_sets, Cond.instanceMethod yX6_sets, Cond.selects RX6 yX6_sets yX6_sets, Cond.code yX6_sets cX6_sets 4 none, Cond.methodLink RX6 96 yX6_becomes, Cond.instanceMethod yX6_becomes, Cond.selects RX6 yX6_becomes yX6_becomes]
def wsX6_read_r3 : List Cond := [Cond.code yX6_becomes cX6_becomes 3 none, Cond.fieldLink RX6 93 "QuarterMasksModel" "known" "I", Cond.fieldLink RX6 28 "QuarterMasksModel" "oldMask" "[I", Cond.fieldLink RX6 31 "QuarterMasksModel" "oldRows" "[I", Cond.fieldLink RX6 22 "QuarterMasksModel" "rows" "[I"]
def wsX6_read : List Cond := .code yX6_read cX6_read 4 (some .int) :: ((wsX6_read_r1 ++ (wsX6_read_r2 ++ wsX6_read_r3)) ++ wsX60)
def wsX6_back : List Cond := .code yX6_back cX6_back 2 (some .int) :: ([.fieldLink RX6 93 "QuarterMasksModel" "known" "I", .fieldLink RX6 22 "QuarterMasksModel" "rows" "[I", .fieldLink RX6 28 "QuarterMasksModel" "oldMask" "[I", .fieldLink RX6 31 "QuarterMasksModel" "oldRows" "[I"] ++ wsX60)
def wsX6_cell : List Cond := .code yX6_cell cX6_cell 4 (some .int) :: ([.methodLink RX6 103 yX6_isMask, .static yX6_isMask, .initialized RX6, .code yX6_isMask cX6_isMask 1 (some .boolean), .constantLong RX6 63 (3), .methodLink RX6 55 yX6_in, .static yX6_in, .code yX6_in cX6_in 6 (some .boolean), .methodLink RX6 86 yX6_isCell, .static yX6_isCell, .code yX6_isCell cX6_isCell 2 (some .boolean), .constantLong RX6 84 (15), .methodLink RX6 90 yX6_dark, .instanceMethod yX6_dark, .selects RX6 yX6_dark yX6_dark, .code yX6_dark cX6_dark 4 (some .int), .fieldLink RX6 22 "QuarterMasksModel" "rows" "[I"] ++ wsX60)
def wsX6_isBlock : List Cond := .code yX6_isBlock cX6_isBlock 9 (some .boolean) :: ([.fieldLink RX6 22 "QuarterMasksModel" "rows" "[I"] ++ wsX60)
def wsX6_blockBy : List Cond := .code yX6_blockBy cX6_blockBy 6 (some .int) :: ([.methodLink RX6 166 yX6_isBlock, .instanceMethod yX6_isBlock, .selects RX6 yX6_isBlock yX6_isBlock, .initialized RX6, .code yX6_isBlock cX6_isBlock 9 (some .boolean), .fieldLink RX6 22 "QuarterMasksModel" "rows" "[I"] ++ wsX60)
def wsX6_block : List Cond := .code yX6_block cX6_block 5 (some .int) :: ([.constantLong RX6 69 (2), .methodLink RX6 103 yX6_isMask, .static yX6_isMask, .initialized RX6, .code yX6_isMask cX6_isMask 1 (some .boolean), .constantLong RX6 63 (3), .methodLink RX6 55 yX6_in, .static yX6_in, .code yX6_in cX6_in 6 (some .boolean), .methodLink RX6 86 yX6_isCell, .static yX6_isCell, .code yX6_isCell cX6_isCell 2 (some .boolean), .constantLong RX6 84 (15), .methodLink RX6 170 yX6_blockBy, .instanceMethod yX6_blockBy, .selects RX6 yX6_blockBy yX6_blockBy, .code yX6_blockBy cX6_blockBy 6 (some .int), .methodLink RX6 166 yX6_isBlock, .instanceMethod yX6_isBlock, .selects RX6 yX6_isBlock yX6_isBlock, .code yX6_isBlock cX6_isBlock 9 (some .boolean), .fieldLink RX6 22 "QuarterMasksModel" "rows" "[I"] ++ wsX60)
def wsX6_deepOf : List Cond := .code yX6_deepOf cX6_deepOf 1 (some .int) :: ([])
def wsX6_shows_r1 : List Cond := [Cond.fieldLink RX6 174 "QuarterMasksModel" "signs" "I", Cond.fieldLink RX6 52 "QuarterMasksModel" "many" "[I", Cond.fieldLink RX6 154 "QuarterMasksModel" "waits" "I", Cond.fieldLink RX6 40 "QuarterMasksModel" "waitX" "[I", Cond.fieldLink RX6 43 "QuarterMasksModel" "waitY" "[I", Cond.fieldLink RX6 46 "QuarterMasksModel" "waitSide" "[I", Cond.fieldLink RX6 49 "QuarterMasksModel" "sign" "[I", Cond.methodLink RX6 157 yX6_later, Cond.instanceMethod yX6_later, Cond.selects RX6 yX6_later yX6_later, Cond.initialized RX6, Cond.code yX6_later cX6_later 4 none, Cond.methodLink RX6 166 yX6_isBlock, Cond.instanceMethod yX6_isBlock, Cond.selects RX6 yX6_isBlock yX6_isBlock, Cond.code yX6_isBlock cX6_isBlock 9 (some .boolean), Cond.fieldLink RX6 22 "QuarterMasksModel" "rows" "[I", Cond.methodLink RX6 90 yX6_dark, Cond.instanceMethod yX6_dark, Cond.selects RX6 yX6_dark yX6_dark, Cond.code yX6_dark cX6_dark 4 (some .int), Cond.methodLink RX6 86 yX6_isCell, Cond.static yX6_isCell, Cond.code yX6_isCell cX6_isCell 2 (some .boolean)]
def wsX6_shows_r2 : List Cond := [Cond.constantLong RX6 84 (15), Cond.methodLink RX6 55 yX6_in, Cond.static yX6_in, Cond.code yX6_in cX6_in 6 (some .boolean), Cond.methodLink RX6 177 yX6_deepOf, Cond.static yX6_deepOf, Cond.code yX6_deepOf cX6_deepOf 1 (some .int), Cond.methodLink RX6 180 yX6_greater, Cond.static yX6_greater, Cond.code yX6_greater cX6_greater 2 (some .int), Cond.methodLink RX6 160 yX6_quarters, Cond.instanceMethod yX6_quarters, Cond.selects RX6 yX6_quarters yX6_quarters, Cond.code yX6_quarters cX6_quarters 5 none]
def wsX6_shows : List Cond := .code yX6_shows cX6_shows 7 none :: ((wsX6_shows_r1 ++ wsX6_shows_r2) ++ wsX60)
def wsX6_blocksBy_r1 : List Cond := [Cond.fieldLink RX6 52 "QuarterMasksModel" "many" "[I", Cond.methodLink RX6 183 yX6_shows, Cond.instanceMethod yX6_shows, Cond.selects RX6 yX6_shows yX6_shows, Cond.initialized RX6, Cond.code yX6_shows cX6_shows 7 none, Cond.fieldLink RX6 174 "QuarterMasksModel" "signs" "I", Cond.fieldLink RX6 154 "QuarterMasksModel" "waits" "I", Cond.fieldLink RX6 40 "QuarterMasksModel" "waitX" "[I", Cond.fieldLink RX6 43 "QuarterMasksModel" "waitY" "[I", Cond.fieldLink RX6 46 "QuarterMasksModel" "waitSide" "[I", Cond.fieldLink RX6 49 "QuarterMasksModel" "sign" "[I", Cond.methodLink RX6 157 yX6_later, Cond.instanceMethod yX6_later, Cond.selects RX6 yX6_later yX6_later, Cond.code yX6_later cX6_later 4 none, Cond.methodLink RX6 166 yX6_isBlock, Cond.instanceMethod yX6_isBlock, Cond.selects RX6 yX6_isBlock yX6_isBlock, Cond.code yX6_isBlock cX6_isBlock 9 (some .boolean), Cond.fieldLink RX6 22 "QuarterMasksModel" "rows" "[I", Cond.methodLink RX6 90 yX6_dark, Cond.instanceMethod yX6_dark, Cond.selects RX6 yX6_dark yX6_dark]
def wsX6_blocksBy_r2 : List Cond := [Cond.code yX6_dark cX6_dark 4 (some .int), Cond.methodLink RX6 86 yX6_isCell, Cond.static yX6_isCell, Cond.code yX6_isCell cX6_isCell 2 (some .boolean), Cond.constantLong RX6 84 (15), Cond.methodLink RX6 55 yX6_in, Cond.static yX6_in, Cond.code yX6_in cX6_in 6 (some .boolean), Cond.methodLink RX6 177 yX6_deepOf, Cond.static yX6_deepOf, Cond.code yX6_deepOf cX6_deepOf 1 (some .int), Cond.methodLink RX6 180 yX6_greater, Cond.static yX6_greater, Cond.code yX6_greater cX6_greater 2 (some .int), Cond.methodLink RX6 160 yX6_quarters, Cond.instanceMethod yX6_quarters, Cond.selects RX6 yX6_quarters yX6_quarters, Cond.code yX6_quarters cX6_quarters 5 none]
def wsX6_blocksBy : List Cond := .code yX6_blocksBy cX6_blocksBy 3 (some .int) :: ((wsX6_blocksBy_r1 ++ wsX6_blocksBy_r2) ++ wsX60)
def wsX6_blocks_r1 : List Cond := [Cond.constantLong RX6 63 (3), Cond.methodLink RX6 103 yX6_isMask, Cond.static yX6_isMask, Cond.initialized RX6, Cond.code yX6_isMask cX6_isMask 1 (some .boolean), Cond.methodLink RX6 55 yX6_in, Cond.static yX6_in, Cond.code yX6_in cX6_in 6 (some .boolean), Cond.methodLink RX6 186 yX6_blocksBy, Cond.instanceMethod yX6_blocksBy, Cond.selects RX6 yX6_blocksBy yX6_blocksBy, Cond.code yX6_blocksBy cX6_blocksBy 3 (some .int), Cond.fieldLink RX6 52 "QuarterMasksModel" "many" "[I", Cond.methodLink RX6 183 yX6_shows, Cond.instanceMethod yX6_shows, Cond.selects RX6 yX6_shows yX6_shows, Cond.code yX6_shows cX6_shows 7 none, Cond.fieldLink RX6 174 "QuarterMasksModel" "signs" "I", Cond.fieldLink RX6 154 "QuarterMasksModel" "waits" "I", Cond.fieldLink RX6 40 "QuarterMasksModel" "waitX" "[I", Cond.fieldLink RX6 43 "QuarterMasksModel" "waitY" "[I", Cond.fieldLink RX6 46 "QuarterMasksModel" "waitSide" "[I", Cond.fieldLink RX6 49 "QuarterMasksModel" "sign" "[I", Cond.methodLink RX6 157 yX6_later]
def wsX6_blocks_r2 : List Cond := [Cond.instanceMethod yX6_later, Cond.selects RX6 yX6_later yX6_later, Cond.code yX6_later cX6_later 4 none, Cond.methodLink RX6 166 yX6_isBlock, Cond.instanceMethod yX6_isBlock, Cond.selects RX6 yX6_isBlock yX6_isBlock, Cond.code yX6_isBlock cX6_isBlock 9 (some .boolean), Cond.fieldLink RX6 22 "QuarterMasksModel" "rows" "[I", Cond.methodLink RX6 90 yX6_dark, Cond.instanceMethod yX6_dark, Cond.selects RX6 yX6_dark yX6_dark, Cond.code yX6_dark cX6_dark 4 (some .int), Cond.methodLink RX6 86 yX6_isCell, Cond.static yX6_isCell, Cond.code yX6_isCell cX6_isCell 2 (some .boolean), Cond.constantLong RX6 84 (15), Cond.methodLink RX6 177 yX6_deepOf, Cond.static yX6_deepOf, Cond.code yX6_deepOf cX6_deepOf 1 (some .int), Cond.methodLink RX6 180 yX6_greater, Cond.static yX6_greater, Cond.code yX6_greater cX6_greater 2 (some .int), Cond.methodLink RX6 160 yX6_quarters, Cond.instanceMethod yX6_quarters]
def wsX6_blocks_r3 : List Cond := [Cond.selects RX6 yX6_quarters yX6_quarters, Cond.code yX6_quarters cX6_quarters 5 none]
def wsX6_blocks : List Cond := .code yX6_blocks cX6_blocks 3 (some .int) :: ((wsX6_blocks_r1 ++ (wsX6_blocks_r2 ++ wsX6_blocks_r3)) ++ wsX60)
def wsX6_signBy : List Cond := .code yX6_signBy cX6_signBy 2 (some .int) :: ([.fieldLink RX6 174 "QuarterMasksModel" "signs" "I", .fieldLink RX6 49 "QuarterMasksModel" "sign" "[I"] ++ wsX60)
def wsX6_shownBy_r1 : List Cond := [Cond.methodLink RX6 183 yX6_shows, Cond.instanceMethod yX6_shows, Cond.selects RX6 yX6_shows yX6_shows, Cond.initialized RX6, Cond.code yX6_shows cX6_shows 7 none, Cond.fieldLink RX6 174 "QuarterMasksModel" "signs" "I", Cond.fieldLink RX6 52 "QuarterMasksModel" "many" "[I", Cond.fieldLink RX6 154 "QuarterMasksModel" "waits" "I", Cond.fieldLink RX6 40 "QuarterMasksModel" "waitX" "[I", Cond.fieldLink RX6 43 "QuarterMasksModel" "waitY" "[I", Cond.fieldLink RX6 46 "QuarterMasksModel" "waitSide" "[I", Cond.fieldLink RX6 49 "QuarterMasksModel" "sign" "[I", Cond.methodLink RX6 157 yX6_later, Cond.instanceMethod yX6_later, Cond.selects RX6 yX6_later yX6_later, Cond.code yX6_later cX6_later 4 none, Cond.methodLink RX6 166 yX6_isBlock, Cond.instanceMethod yX6_isBlock, Cond.selects RX6 yX6_isBlock yX6_isBlock, Cond.code yX6_isBlock cX6_isBlock 9 (some .boolean), Cond.fieldLink RX6 22 "QuarterMasksModel" "rows" "[I", Cond.methodLink RX6 90 yX6_dark, Cond.instanceMethod yX6_dark, Cond.selects RX6 yX6_dark yX6_dark]
def wsX6_shownBy_r2 : List Cond := [Cond.code yX6_dark cX6_dark 4 (some .int), Cond.methodLink RX6 86 yX6_isCell, Cond.static yX6_isCell, Cond.code yX6_isCell cX6_isCell 2 (some .boolean), Cond.constantLong RX6 84 (15), Cond.methodLink RX6 55 yX6_in, Cond.static yX6_in, Cond.code yX6_in cX6_in 6 (some .boolean), Cond.methodLink RX6 177 yX6_deepOf, Cond.static yX6_deepOf, Cond.code yX6_deepOf cX6_deepOf 1 (some .int), Cond.methodLink RX6 180 yX6_greater, Cond.static yX6_greater, Cond.code yX6_greater cX6_greater 2 (some .int), Cond.methodLink RX6 160 yX6_quarters, Cond.instanceMethod yX6_quarters, Cond.selects RX6 yX6_quarters yX6_quarters, Cond.code yX6_quarters cX6_quarters 5 none, Cond.methodLink RX6 189 yX6_signBy, Cond.instanceMethod yX6_signBy, Cond.selects RX6 yX6_signBy yX6_signBy, Cond.code yX6_signBy cX6_signBy 2 (some .int)]
def wsX6_shownBy : List Cond := .code yX6_shownBy cX6_shownBy 3 (some .int) :: ((wsX6_shownBy_r1 ++ wsX6_shownBy_r2) ++ wsX60)
def wsX6_shown_r1 : List Cond := [Cond.constantLong RX6 192 (-1), Cond.constantLong RX6 194 (340), Cond.methodLink RX6 103 yX6_isMask, Cond.static yX6_isMask, Cond.initialized RX6, Cond.code yX6_isMask cX6_isMask 1 (some .boolean), Cond.constantLong RX6 63 (3), Cond.methodLink RX6 55 yX6_in, Cond.static yX6_in, Cond.code yX6_in cX6_in 6 (some .boolean), Cond.methodLink RX6 196 yX6_shownBy, Cond.instanceMethod yX6_shownBy, Cond.selects RX6 yX6_shownBy yX6_shownBy, Cond.code yX6_shownBy cX6_shownBy 3 (some .int), Cond.methodLink RX6 183 yX6_shows, Cond.instanceMethod yX6_shows, Cond.selects RX6 yX6_shows yX6_shows, Cond.code yX6_shows cX6_shows 7 none, Cond.fieldLink RX6 174 "QuarterMasksModel" "signs" "I", Cond.fieldLink RX6 52 "QuarterMasksModel" "many" "[I", Cond.fieldLink RX6 154 "QuarterMasksModel" "waits" "I", Cond.fieldLink RX6 40 "QuarterMasksModel" "waitX" "[I", Cond.fieldLink RX6 43 "QuarterMasksModel" "waitY" "[I", Cond.fieldLink RX6 46 "QuarterMasksModel" "waitSide" "[I"]
def wsX6_shown_r2 : List Cond := [Cond.fieldLink RX6 49 "QuarterMasksModel" "sign" "[I", Cond.methodLink RX6 157 yX6_later, Cond.instanceMethod yX6_later, Cond.selects RX6 yX6_later yX6_later, Cond.code yX6_later cX6_later 4 none, Cond.methodLink RX6 166 yX6_isBlock, Cond.instanceMethod yX6_isBlock, Cond.selects RX6 yX6_isBlock yX6_isBlock, Cond.code yX6_isBlock cX6_isBlock 9 (some .boolean), Cond.fieldLink RX6 22 "QuarterMasksModel" "rows" "[I", Cond.methodLink RX6 90 yX6_dark, Cond.instanceMethod yX6_dark, Cond.selects RX6 yX6_dark yX6_dark, Cond.code yX6_dark cX6_dark 4 (some .int), Cond.methodLink RX6 86 yX6_isCell, Cond.static yX6_isCell, Cond.code yX6_isCell cX6_isCell 2 (some .boolean), Cond.constantLong RX6 84 (15), Cond.methodLink RX6 177 yX6_deepOf, Cond.static yX6_deepOf, Cond.code yX6_deepOf cX6_deepOf 1 (some .int), Cond.methodLink RX6 180 yX6_greater, Cond.static yX6_greater, Cond.code yX6_greater cX6_greater 2 (some .int)]
def wsX6_shown_r3 : List Cond := [Cond.methodLink RX6 160 yX6_quarters, Cond.instanceMethod yX6_quarters, Cond.selects RX6 yX6_quarters yX6_quarters, Cond.code yX6_quarters cX6_quarters 5 none, Cond.methodLink RX6 189 yX6_signBy, Cond.instanceMethod yX6_signBy, Cond.selects RX6 yX6_signBy yX6_signBy, Cond.code yX6_signBy cX6_signBy 2 (some .int)]
def wsX6_shown : List Cond := .code yX6_shown cX6_shown 3 (some .int) :: ((wsX6_shown_r1 ++ (wsX6_shown_r2 ++ wsX6_shown_r3)) ++ wsX60)
def wsX6_borderAt : List Cond := .code yX6_borderAt cX6_borderAt 5 (some .int) :: ([.methodLink RX6 90 yX6_dark, .instanceMethod yX6_dark, .selects RX6 yX6_dark yX6_dark, .initialized RX6, .code yX6_dark cX6_dark 4 (some .int), .fieldLink RX6 22 "QuarterMasksModel" "rows" "[I", .methodLink RX6 86 yX6_isCell, .static yX6_isCell, .code yX6_isCell cX6_isCell 2 (some .boolean), .constantLong RX6 84 (15), .methodLink RX6 55 yX6_in, .static yX6_in, .code yX6_in cX6_in 6 (some .boolean)] ++ wsX60)
def wsX6_holesOf : List Cond := .code yX6_holesOf cX6_holesOf 7 (some .int) :: ([.fieldLink RX6 144 "QuarterMasksModel" "parts" "I", .fieldLink RX6 34 "QuarterMasksModel" "label" "[I", .methodLink RX6 150 yX6_labels, .instanceMethod yX6_labels, .selects RX6 yX6_labels yX6_labels, .initialized RX6, .code yX6_labels cX6_labels 4 none, .methodLink RX6 90 yX6_dark, .instanceMethod yX6_dark, .selects RX6 yX6_dark yX6_dark, .code yX6_dark cX6_dark 4 (some .int), .fieldLink RX6 22 "QuarterMasksModel" "rows" "[I", .methodLink RX6 86 yX6_isCell, .static yX6_isCell, .code yX6_isCell cX6_isCell 2 (some .boolean), .constantLong RX6 84 (15), .methodLink RX6 55 yX6_in, .static yX6_in, .code yX6_in cX6_in 6 (some .boolean), .methodLink RX6 147 yX6_floods, .instanceMethod yX6_floods, .selects RX6 yX6_floods yX6_floods, .code yX6_floods cX6_floods 9 none, .fieldLink RX6 37 "QuarterMasksModel" "pile" "[I"] ++ wsX60)
def wsX6_partsOf : List Cond := .code yX6_partsOf cX6_partsOf 2 (some .int) :: ([.fieldLink RX6 144 "QuarterMasksModel" "parts" "I", .methodLink RX6 150 yX6_labels, .instanceMethod yX6_labels, .selects RX6 yX6_labels yX6_labels, .initialized RX6, .code yX6_labels cX6_labels 4 none, .fieldLink RX6 34 "QuarterMasksModel" "label" "[I", .methodLink RX6 90 yX6_dark, .instanceMethod yX6_dark, .selects RX6 yX6_dark yX6_dark, .code yX6_dark cX6_dark 4 (some .int), .fieldLink RX6 22 "QuarterMasksModel" "rows" "[I", .methodLink RX6 86 yX6_isCell, .static yX6_isCell, .code yX6_isCell cX6_isCell 2 (some .boolean), .constantLong RX6 84 (15), .methodLink RX6 55 yX6_in, .static yX6_in, .code yX6_in cX6_in 6 (some .boolean), .methodLink RX6 147 yX6_floods, .instanceMethod yX6_floods, .selects RX6 yX6_floods yX6_floods, .code yX6_floods cX6_floods 9 none, .fieldLink RX6 37 "QuarterMasksModel" "pile" "[I"] ++ wsX60)
def wsX6_borderOf : List Cond := .code yX6_borderOf cX6_borderOf 4 (some .int) :: ([.methodLink RX6 199 yX6_borderAt, .instanceMethod yX6_borderAt, .selects RX6 yX6_borderAt yX6_borderAt, .initialized RX6, .code yX6_borderAt cX6_borderAt 5 (some .int), .methodLink RX6 90 yX6_dark, .instanceMethod yX6_dark, .selects RX6 yX6_dark yX6_dark, .code yX6_dark cX6_dark 4 (some .int), .fieldLink RX6 22 "QuarterMasksModel" "rows" "[I", .methodLink RX6 86 yX6_isCell, .static yX6_isCell, .code yX6_isCell cX6_isCell 2 (some .boolean), .constantLong RX6 84 (15), .methodLink RX6 55 yX6_in, .static yX6_in, .code yX6_in cX6_in 6 (some .boolean)] ++ wsX60)
def wsX6_allBy_r1 : List Cond := [Cond.methodLink RX6 202 yX6_partsOf, Cond.instanceMethod yX6_partsOf, Cond.selects RX6 yX6_partsOf yX6_partsOf, Cond.initialized RX6, Cond.code yX6_partsOf cX6_partsOf 2 (some .int), Cond.fieldLink RX6 144 "QuarterMasksModel" "parts" "I", Cond.methodLink RX6 150 yX6_labels, Cond.instanceMethod yX6_labels, Cond.selects RX6 yX6_labels yX6_labels, Cond.code yX6_labels cX6_labels 4 none, Cond.fieldLink RX6 34 "QuarterMasksModel" "label" "[I", Cond.methodLink RX6 90 yX6_dark, Cond.instanceMethod yX6_dark, Cond.selects RX6 yX6_dark yX6_dark, Cond.code yX6_dark cX6_dark 4 (some .int), Cond.fieldLink RX6 22 "QuarterMasksModel" "rows" "[I", Cond.methodLink RX6 86 yX6_isCell, Cond.static yX6_isCell, Cond.code yX6_isCell cX6_isCell 2 (some .boolean), Cond.constantLong RX6 84 (15), Cond.methodLink RX6 55 yX6_in, Cond.static yX6_in, Cond.code yX6_in cX6_in 6 (some .boolean), Cond.methodLink RX6 147 yX6_floods]
def wsX6_allBy_r2 : List Cond := [Cond.instanceMethod yX6_floods, Cond.selects RX6 yX6_floods yX6_floods, Cond.code yX6_floods cX6_floods 9 none, Cond.fieldLink RX6 37 "QuarterMasksModel" "pile" "[I", Cond.methodLink RX6 205 yX6_borderOf, Cond.instanceMethod yX6_borderOf, Cond.selects RX6 yX6_borderOf yX6_borderOf, Cond.code yX6_borderOf cX6_borderOf 4 (some .int), Cond.methodLink RX6 199 yX6_borderAt, Cond.instanceMethod yX6_borderAt, Cond.selects RX6 yX6_borderAt yX6_borderAt, Cond.code yX6_borderAt cX6_borderAt 5 (some .int), Cond.methodLink RX6 208 yX6_holesOf, Cond.instanceMethod yX6_holesOf, Cond.selects RX6 yX6_holesOf yX6_holesOf, Cond.code yX6_holesOf cX6_holesOf 7 (some .int), Cond.methodLink RX6 100 yX6_darkOf, Cond.instanceMethod yX6_darkOf, Cond.selects RX6 yX6_darkOf yX6_darkOf, Cond.code yX6_darkOf cX6_darkOf 4 (some .int)]
def wsX6_allBy : List Cond := .code yX6_allBy cX6_allBy 3 (some .int) :: ((wsX6_allBy_r1 ++ wsX6_allBy_r2) ++ wsX60)
def wsX6_all_r1 : List Cond := [Cond.constantLong RX6 63 (3), Cond.methodLink RX6 103 yX6_isMask, Cond.static yX6_isMask, Cond.initialized RX6, Cond.code yX6_isMask cX6_isMask 1 (some .boolean), Cond.methodLink RX6 55 yX6_in, Cond.static yX6_in, Cond.code yX6_in cX6_in 6 (some .boolean), Cond.methodLink RX6 211 yX6_allBy, Cond.instanceMethod yX6_allBy, Cond.selects RX6 yX6_allBy yX6_allBy, Cond.code yX6_allBy cX6_allBy 3 (some .int), Cond.methodLink RX6 202 yX6_partsOf, Cond.instanceMethod yX6_partsOf, Cond.selects RX6 yX6_partsOf yX6_partsOf, Cond.code yX6_partsOf cX6_partsOf 2 (some .int), Cond.fieldLink RX6 144 "QuarterMasksModel" "parts" "I", Cond.methodLink RX6 150 yX6_labels, Cond.instanceMethod yX6_labels, Cond.selects RX6 yX6_labels yX6_labels, Cond.code yX6_labels cX6_labels 4 none, Cond.fieldLink RX6 34 "QuarterMasksModel" "label" "[I", Cond.methodLink RX6 90 yX6_dark, Cond.instanceMethod yX6_dark]
def wsX6_all_r2 : List Cond := [Cond.selects RX6 yX6_dark yX6_dark, Cond.code yX6_dark cX6_dark 4 (some .int), Cond.fieldLink RX6 22 "QuarterMasksModel" "rows" "[I", Cond.methodLink RX6 86 yX6_isCell, Cond.static yX6_isCell, Cond.code yX6_isCell cX6_isCell 2 (some .boolean), Cond.constantLong RX6 84 (15), Cond.methodLink RX6 147 yX6_floods, Cond.instanceMethod yX6_floods, Cond.selects RX6 yX6_floods yX6_floods, Cond.code yX6_floods cX6_floods 9 none, Cond.fieldLink RX6 37 "QuarterMasksModel" "pile" "[I", Cond.methodLink RX6 205 yX6_borderOf, Cond.instanceMethod yX6_borderOf, Cond.selects RX6 yX6_borderOf yX6_borderOf, Cond.code yX6_borderOf cX6_borderOf 4 (some .int), Cond.methodLink RX6 199 yX6_borderAt, Cond.instanceMethod yX6_borderAt, Cond.selects RX6 yX6_borderAt yX6_borderAt, Cond.code yX6_borderAt cX6_borderAt 5 (some .int), Cond.methodLink RX6 208 yX6_holesOf, Cond.instanceMethod yX6_holesOf, Cond.selects RX6 yX6_holesOf yX6_holesOf, Cond.code yX6_holesOf cX6_holesOf 7 (some .int)]
def wsX6_all_r3 : List Cond := [Cond.methodLink RX6 100 yX6_darkOf, Cond.instanceMethod yX6_darkOf, Cond.selects RX6 yX6_darkOf yX6_darkOf, Cond.code yX6_darkOf cX6_darkOf 4 (some .int)]
def wsX6_all : List Cond := .code yX6_all cX6_all 3 (some .int) :: ((wsX6_all_r1 ++ (wsX6_all_r2 ++ wsX6_all_r3)) ++ wsX60)
def wsX6_label_r1 : List Cond := [Cond.fieldLink RX6 34 "QuarterMasksModel" "label" "[I", Cond.methodLink RX6 103 yX6_isMask, Cond.static yX6_isMask, Cond.initialized RX6, Cond.code yX6_isMask cX6_isMask 1 (some .boolean), Cond.constantLong RX6 63 (3), Cond.methodLink RX6 55 yX6_in, Cond.static yX6_in, Cond.code yX6_in cX6_in 6 (some .boolean), Cond.methodLink RX6 86 yX6_isCell, Cond.static yX6_isCell, Cond.code yX6_isCell cX6_isCell 2 (some .boolean), Cond.constantLong RX6 84 (15), Cond.methodLink RX6 150 yX6_labels, Cond.instanceMethod yX6_labels, Cond.selects RX6 yX6_labels yX6_labels, Cond.code yX6_labels cX6_labels 4 none, Cond.fieldLink RX6 144 "QuarterMasksModel" "parts" "I", Cond.methodLink RX6 90 yX6_dark, Cond.instanceMethod yX6_dark, Cond.selects RX6 yX6_dark yX6_dark, Cond.code yX6_dark cX6_dark 4 (some .int), Cond.fieldLink RX6 22 "QuarterMasksModel" "rows" "[I", Cond.methodLink RX6 147 yX6_floods]
def wsX6_label_r2 : List Cond := [Cond.instanceMethod yX6_floods, Cond.selects RX6 yX6_floods yX6_floods, Cond.code yX6_floods cX6_floods 9 none, Cond.fieldLink RX6 37 "QuarterMasksModel" "pile" "[I"]
def wsX6_label : List Cond := .code yX6_label cX6_label 4 (some .int) :: ((wsX6_label_r1 ++ wsX6_label_r2) ++ wsX60)
def wsX6_partBy : List Cond := .code yX6_partBy cX6_partBy 11 (some .int) :: ([.fieldLink RX6 34 "QuarterMasksModel" "label" "[I", .methodLink RX6 199 yX6_borderAt, .instanceMethod yX6_borderAt, .selects RX6 yX6_borderAt yX6_borderAt, .initialized RX6, .code yX6_borderAt cX6_borderAt 5 (some .int), .methodLink RX6 90 yX6_dark, .instanceMethod yX6_dark, .selects RX6 yX6_dark yX6_dark, .code yX6_dark cX6_dark 4 (some .int), .fieldLink RX6 22 "QuarterMasksModel" "rows" "[I", .methodLink RX6 86 yX6_isCell, .static yX6_isCell, .code yX6_isCell cX6_isCell 2 (some .boolean), .constantLong RX6 84 (15), .methodLink RX6 55 yX6_in, .static yX6_in, .code yX6_in cX6_in 6 (some .boolean), .methodLink RX6 214 yX6_lesser, .static yX6_lesser, .code yX6_lesser cX6_lesser 2 (some .int), .methodLink RX6 180 yX6_greater, .static yX6_greater, .code yX6_greater cX6_greater 2 (some .int)] ++ wsX60)
def wsX6_partOr_r1 : List Cond := [Cond.fieldLink RX6 144 "QuarterMasksModel" "parts" "I", Cond.constantLong RX6 217 (5), Cond.methodLink RX6 150 yX6_labels, Cond.instanceMethod yX6_labels, Cond.selects RX6 yX6_labels yX6_labels, Cond.initialized RX6, Cond.code yX6_labels cX6_labels 4 none, Cond.fieldLink RX6 34 "QuarterMasksModel" "label" "[I", Cond.methodLink RX6 90 yX6_dark, Cond.instanceMethod yX6_dark, Cond.selects RX6 yX6_dark yX6_dark, Cond.code yX6_dark cX6_dark 4 (some .int), Cond.fieldLink RX6 22 "QuarterMasksModel" "rows" "[I", Cond.methodLink RX6 86 yX6_isCell, Cond.static yX6_isCell, Cond.code yX6_isCell cX6_isCell 2 (some .boolean), Cond.constantLong RX6 84 (15), Cond.methodLink RX6 55 yX6_in, Cond.static yX6_in, Cond.code yX6_in cX6_in 6 (some .boolean), Cond.methodLink RX6 147 yX6_floods, Cond.instanceMethod yX6_floods, Cond.selects RX6 yX6_floods yX6_floods, Cond.code yX6_floods cX6_floods 9 none]
def wsX6_partOr_r2 : List Cond := [Cond.fieldLink RX6 37 "QuarterMasksModel" "pile" "[I", Cond.methodLink RX6 219 yX6_partBy, Cond.instanceMethod yX6_partBy, Cond.selects RX6 yX6_partBy yX6_partBy, Cond.code yX6_partBy cX6_partBy 11 (some .int), Cond.methodLink RX6 199 yX6_borderAt, Cond.instanceMethod yX6_borderAt, Cond.selects RX6 yX6_borderAt yX6_borderAt, Cond.code yX6_borderAt cX6_borderAt 5 (some .int), Cond.methodLink RX6 214 yX6_lesser, Cond.static yX6_lesser, Cond.code yX6_lesser cX6_lesser 2 (some .int), Cond.methodLink RX6 180 yX6_greater, Cond.static yX6_greater, Cond.code yX6_greater cX6_greater 2 (some .int)]
def wsX6_partOr : List Cond := .code yX6_partOr cX6_partOr 4 (some .int) :: ((wsX6_partOr_r1 ++ wsX6_partOr_r2) ++ wsX60)
def wsX6_part_r1 : List Cond := [Cond.methodLink RX6 103 yX6_isMask, Cond.static yX6_isMask, Cond.initialized RX6, Cond.code yX6_isMask cX6_isMask 1 (some .boolean), Cond.constantLong RX6 63 (3), Cond.methodLink RX6 55 yX6_in, Cond.static yX6_in, Cond.code yX6_in cX6_in 6 (some .boolean), Cond.methodLink RX6 222 yX6_partOr, Cond.instanceMethod yX6_partOr, Cond.selects RX6 yX6_partOr yX6_partOr, Cond.code yX6_partOr cX6_partOr 4 (some .int), Cond.fieldLink RX6 144 "QuarterMasksModel" "parts" "I", Cond.constantLong RX6 217 (5), Cond.methodLink RX6 150 yX6_labels, Cond.instanceMethod yX6_labels, Cond.selects RX6 yX6_labels yX6_labels, Cond.code yX6_labels cX6_labels 4 none, Cond.fieldLink RX6 34 "QuarterMasksModel" "label" "[I", Cond.methodLink RX6 90 yX6_dark, Cond.instanceMethod yX6_dark, Cond.selects RX6 yX6_dark yX6_dark, Cond.code yX6_dark cX6_dark 4 (some .int), Cond.fieldLink RX6 22 "QuarterMasksModel" "rows" "[I"]
def wsX6_part_r2 : List Cond := [Cond.methodLink RX6 86 yX6_isCell, Cond.static yX6_isCell, Cond.code yX6_isCell cX6_isCell 2 (some .boolean), Cond.constantLong RX6 84 (15), Cond.methodLink RX6 147 yX6_floods, Cond.instanceMethod yX6_floods, Cond.selects RX6 yX6_floods yX6_floods, Cond.code yX6_floods cX6_floods 9 none, Cond.fieldLink RX6 37 "QuarterMasksModel" "pile" "[I", Cond.methodLink RX6 219 yX6_partBy, Cond.instanceMethod yX6_partBy, Cond.selects RX6 yX6_partBy yX6_partBy, Cond.code yX6_partBy cX6_partBy 11 (some .int), Cond.methodLink RX6 199 yX6_borderAt, Cond.instanceMethod yX6_borderAt, Cond.selects RX6 yX6_borderAt yX6_borderAt, Cond.code yX6_borderAt cX6_borderAt 5 (some .int), Cond.methodLink RX6 214 yX6_lesser, Cond.static yX6_lesser, Cond.code yX6_lesser cX6_lesser 2 (some .int), Cond.methodLink RX6 180 yX6_greater, Cond.static yX6_greater, Cond.code yX6_greater cX6_greater 2 (some .int)]
def wsX6_part : List Cond := .code yX6_part cX6_part 4 (some .int) :: ((wsX6_part_r1 ++ wsX6_part_r2) ++ wsX60)
def wsX6_near : List Cond := .code yX6_near cX6_near 4 (some .int) :: ([.methodLink RX6 103 yX6_isMask, .static yX6_isMask, .initialized RX6, .code yX6_isMask cX6_isMask 1 (some .boolean), .constantLong RX6 63 (3), .methodLink RX6 55 yX6_in, .static yX6_in, .code yX6_in cX6_in 6 (some .boolean), .methodLink RX6 86 yX6_isCell, .static yX6_isCell, .code yX6_isCell cX6_isCell 2 (some .boolean), .constantLong RX6 84 (15), .methodLink RX6 141 yX6_nearOf, .instanceMethod yX6_nearOf, .selects RX6 yX6_nearOf yX6_nearOf, .code yX6_nearOf cX6_nearOf 7 (some .int), .methodLink RX6 136 yX6_apart, .static yX6_apart, .code yX6_apart cX6_apart 2 (some .int), .methodLink RX6 90 yX6_dark, .instanceMethod yX6_dark, .selects RX6 yX6_dark yX6_dark, .code yX6_dark cX6_dark 4 (some .int), .fieldLink RX6 22 "QuarterMasksModel" "rows" "[I"] ++ wsX60)
def wsX6_bothBy : List Cond := .code yX6_bothBy cX6_bothBy 13 (some .int) :: ([.methodLink RX6 90 yX6_dark, .instanceMethod yX6_dark, .selects RX6 yX6_dark yX6_dark, .initialized RX6, .code yX6_dark cX6_dark 4 (some .int), .fieldLink RX6 22 "QuarterMasksModel" "rows" "[I", .methodLink RX6 86 yX6_isCell, .static yX6_isCell, .code yX6_isCell cX6_isCell 2 (some .boolean), .constantLong RX6 84 (15), .methodLink RX6 55 yX6_in, .static yX6_in, .code yX6_in cX6_in 6 (some .boolean)] ++ wsX60)
def wsX6_both : List Cond := .code yX6_both cX6_both 4 (some .int) :: ([.constantLong RX6 63 (3), .methodLink RX6 103 yX6_isMask, .static yX6_isMask, .initialized RX6, .code yX6_isMask cX6_isMask 1 (some .boolean), .methodLink RX6 55 yX6_in, .static yX6_in, .code yX6_in cX6_in 6 (some .boolean), .methodLink RX6 225 yX6_bothBy, .instanceMethod yX6_bothBy, .selects RX6 yX6_bothBy yX6_bothBy, .code yX6_bothBy cX6_bothBy 13 (some .int), .methodLink RX6 90 yX6_dark, .instanceMethod yX6_dark, .selects RX6 yX6_dark yX6_dark, .code yX6_dark cX6_dark 4 (some .int), .fieldLink RX6 22 "QuarterMasksModel" "rows" "[I", .methodLink RX6 86 yX6_isCell, .static yX6_isCell, .code yX6_isCell cX6_isCell 2 (some .boolean), .constantLong RX6 84 (15)] ++ wsX60)
def wsX6_write_r1 : List Cond := [Cond.constantLong RX6 194 (340), Cond.fieldLink RX6 7 "QuarterMasksModel" "forms" "[I", Cond.fieldLink RX6 13 "QuarterMasksModel" "sizes" "[I", Cond.fieldLink RX6 174 "QuarterMasksModel" "signs" "I", Cond.fieldLink RX6 16 "QuarterMasksModel" "items" "[I", Cond.fieldLink RX6 49 "QuarterMasksModel" "sign" "[I", Cond.methodLink RX6 103 yX6_isMask, Cond.static yX6_isMask, Cond.initialized RX6, Cond.code yX6_isMask cX6_isMask 1 (some .boolean), Cond.constantLong RX6 63 (3), Cond.methodLink RX6 55 yX6_in, Cond.static yX6_in, Cond.code yX6_in cX6_in 6 (some .boolean), Cond.methodLink RX6 65 yX6_isSheet, Cond.static yX6_isSheet, Cond.code yX6_isSheet cX6_isSheet 1 (some .boolean), Cond.methodLink RX6 71 yX6_finds, Cond.instanceMethod yX6_finds, Cond.selects RX6 yX6_finds yX6_finds, Cond.code yX6_finds cX6_finds 2 (some .int), Cond.fieldLink RX6 59 "QuarterMasksModel" "latest" "I", Cond.methodLink RX6 183 yX6_shows, Cond.instanceMethod yX6_shows]
def wsX6_write_r2 : List Cond := [Cond.selects RX6 yX6_shows yX6_shows, Cond.code yX6_shows cX6_shows 7 none, Cond.fieldLink RX6 52 "QuarterMasksModel" "many" "[I", Cond.fieldLink RX6 154 "QuarterMasksModel" "waits" "I", Cond.fieldLink RX6 40 "QuarterMasksModel" "waitX" "[I", Cond.fieldLink RX6 43 "QuarterMasksModel" "waitY" "[I", Cond.fieldLink RX6 46 "QuarterMasksModel" "waitSide" "[I", Cond.methodLink RX6 157 yX6_later, Cond.instanceMethod yX6_later, Cond.selects RX6 yX6_later yX6_later, Cond.code yX6_later cX6_later 4 none, Cond.methodLink RX6 166 yX6_isBlock, Cond.instanceMethod yX6_isBlock, Cond.selects RX6 yX6_isBlock yX6_isBlock, Cond.code yX6_isBlock cX6_isBlock 9 (some .boolean), Cond.fieldLink RX6 22 "QuarterMasksModel" "rows" "[I", Cond.methodLink RX6 90 yX6_dark, Cond.instanceMethod yX6_dark, Cond.selects RX6 yX6_dark yX6_dark, Cond.code yX6_dark cX6_dark 4 (some .int), Cond.methodLink RX6 86 yX6_isCell, Cond.static yX6_isCell, Cond.code yX6_isCell cX6_isCell 2 (some .boolean), Cond.constantLong RX6 84 (15)]
def wsX6_write_r3 : List Cond := [Cond.methodLink RX6 177 yX6_deepOf, Cond.static yX6_deepOf, Cond.code yX6_deepOf cX6_deepOf 1 (some .int), Cond.methodLink RX6 180 yX6_greater, Cond.static yX6_greater, Cond.code yX6_greater cX6_greater 2 (some .int), Cond.methodLink RX6 160 yX6_quarters, Cond.instanceMethod yX6_quarters, Cond.selects RX6 yX6_quarters yX6_quarters, Cond.code yX6_quarters cX6_quarters 5 none, Cond.methodLink RX6 214 yX6_lesser, Cond.static yX6_lesser, Cond.code yX6_lesser cX6_lesser 2 (some .int), Cond.methodLink RX6 79 yX6_cut, Cond.static yX6_cut, Cond.code yX6_cut cX6_cut 2 (some .int)]
def wsX6_write : List Cond := .code yX6_write cX6_write 6 (some .int) :: ((wsX6_write_r1 ++ (wsX6_write_r2 ++ wsX6_write_r3)) ++ wsX60)
def wsX6_allBlocks_r1 : List Cond := [Cond.methodLink RX6 186 yX6_blocksBy, Cond.instanceMethod yX6_blocksBy, Cond.selects RX6 yX6_blocksBy yX6_blocksBy, Cond.initialized RX6, Cond.code yX6_blocksBy cX6_blocksBy 3 (some .int), Cond.fieldLink RX6 52 "QuarterMasksModel" "many" "[I", Cond.methodLink RX6 183 yX6_shows, Cond.instanceMethod yX6_shows, Cond.selects RX6 yX6_shows yX6_shows, Cond.code yX6_shows cX6_shows 7 none, Cond.fieldLink RX6 174 "QuarterMasksModel" "signs" "I", Cond.fieldLink RX6 154 "QuarterMasksModel" "waits" "I", Cond.fieldLink RX6 40 "QuarterMasksModel" "waitX" "[I", Cond.fieldLink RX6 43 "QuarterMasksModel" "waitY" "[I", Cond.fieldLink RX6 46 "QuarterMasksModel" "waitSide" "[I", Cond.fieldLink RX6 49 "QuarterMasksModel" "sign" "[I", Cond.methodLink RX6 157 yX6_later, Cond.instanceMethod yX6_later, Cond.selects RX6 yX6_later yX6_later, Cond.code yX6_later cX6_later 4 none, Cond.methodLink RX6 166 yX6_isBlock, Cond.instanceMethod yX6_isBlock, Cond.selects RX6 yX6_isBlock yX6_isBlock, Cond.code yX6_isBlock cX6_isBlock 9 (some .boolean)]
def wsX6_allBlocks_r2 : List Cond := [Cond.fieldLink RX6 22 "QuarterMasksModel" "rows" "[I", Cond.methodLink RX6 90 yX6_dark, Cond.instanceMethod yX6_dark, Cond.selects RX6 yX6_dark yX6_dark, Cond.code yX6_dark cX6_dark 4 (some .int), Cond.methodLink RX6 86 yX6_isCell, Cond.static yX6_isCell, Cond.code yX6_isCell cX6_isCell 2 (some .boolean), Cond.constantLong RX6 84 (15), Cond.methodLink RX6 55 yX6_in, Cond.static yX6_in, Cond.code yX6_in cX6_in 6 (some .boolean), Cond.methodLink RX6 177 yX6_deepOf, Cond.static yX6_deepOf, Cond.code yX6_deepOf cX6_deepOf 1 (some .int), Cond.methodLink RX6 180 yX6_greater, Cond.static yX6_greater, Cond.code yX6_greater cX6_greater 2 (some .int), Cond.methodLink RX6 160 yX6_quarters, Cond.instanceMethod yX6_quarters, Cond.selects RX6 yX6_quarters yX6_quarters, Cond.code yX6_quarters cX6_quarters 5 none]
def wsX6_allBlocks : List Cond := .code yX6_allBlocks cX6_allBlocks 3 (some .int) :: ((wsX6_allBlocks_r1 ++ wsX6_allBlocks_r2) ++ wsX60)
def wsX6_allParts_r1 : List Cond := [Cond.methodLink RX6 202 yX6_partsOf, Cond.instanceMethod yX6_partsOf, Cond.selects RX6 yX6_partsOf yX6_partsOf, Cond.initialized RX6, Cond.code yX6_partsOf cX6_partsOf 2 (some .int), Cond.fieldLink RX6 144 "QuarterMasksModel" "parts" "I", Cond.methodLink RX6 150 yX6_labels, Cond.instanceMethod yX6_labels, Cond.selects RX6 yX6_labels yX6_labels, Cond.code yX6_labels cX6_labels 4 none, Cond.fieldLink RX6 34 "QuarterMasksModel" "label" "[I", Cond.methodLink RX6 90 yX6_dark, Cond.instanceMethod yX6_dark, Cond.selects RX6 yX6_dark yX6_dark, Cond.code yX6_dark cX6_dark 4 (some .int), Cond.fieldLink RX6 22 "QuarterMasksModel" "rows" "[I", Cond.methodLink RX6 86 yX6_isCell, Cond.static yX6_isCell, Cond.code yX6_isCell cX6_isCell 2 (some .boolean), Cond.constantLong RX6 84 (15), Cond.methodLink RX6 55 yX6_in, Cond.static yX6_in, Cond.code yX6_in cX6_in 6 (some .boolean), Cond.methodLink RX6 147 yX6_floods]
def wsX6_allParts_r2 : List Cond := [Cond.instanceMethod yX6_floods, Cond.selects RX6 yX6_floods yX6_floods, Cond.code yX6_floods cX6_floods 9 none, Cond.fieldLink RX6 37 "QuarterMasksModel" "pile" "[I"]
def wsX6_allParts : List Cond := .code yX6_allParts cX6_allParts 3 (some .int) :: ((wsX6_allParts_r1 ++ wsX6_allParts_r2) ++ wsX60)
def wsX6_inAll : List Cond := .code yX6_inAll cX6_inAll 5 (some .int) :: ([.methodLink RX6 90 yX6_dark, .instanceMethod yX6_dark, .selects RX6 yX6_dark yX6_dark, .initialized RX6, .code yX6_dark cX6_dark 4 (some .int), .fieldLink RX6 22 "QuarterMasksModel" "rows" "[I", .methodLink RX6 86 yX6_isCell, .static yX6_isCell, .code yX6_isCell cX6_isCell 2 (some .boolean), .constantLong RX6 84 (15), .methodLink RX6 55 yX6_in, .static yX6_in, .code yX6_in cX6_in 6 (some .boolean)] ++ wsX60)
def wsX6_count_r1 : List Cond := [Cond.fieldLink RX6 93 "QuarterMasksModel" "known" "I", Cond.fieldLink RX6 59 "QuarterMasksModel" "latest" "I", Cond.methodLink RX6 100 yX6_darkOf, Cond.instanceMethod yX6_darkOf, Cond.selects RX6 yX6_darkOf yX6_darkOf, Cond.initialized RX6, Cond.code yX6_darkOf cX6_darkOf 4 (some .int), Cond.methodLink RX6 90 yX6_dark, Cond.instanceMethod yX6_dark, Cond.selects RX6 yX6_dark yX6_dark, Cond.code yX6_dark cX6_dark 4 (some .int), Cond.fieldLink RX6 22 "QuarterMasksModel" "rows" "[I", Cond.methodLink RX6 86 yX6_isCell, Cond.static yX6_isCell, Cond.code yX6_isCell cX6_isCell 2 (some .boolean), Cond.constantLong RX6 84 (15), Cond.methodLink RX6 55 yX6_in, Cond.static yX6_in, Cond.code yX6_in cX6_in 6 (some .boolean), Cond.methodLink RX6 228 yX6_allBlocks, Cond.instanceMethod yX6_allBlocks, Cond.selects RX6 yX6_allBlocks yX6_allBlocks, Cond.code yX6_allBlocks cX6_allBlocks 3 (some .int), Cond.methodLink RX6 186 yX6_blocksBy]
def wsX6_count_r2 : List Cond := [Cond.instanceMethod yX6_blocksBy, Cond.selects RX6 yX6_blocksBy yX6_blocksBy, Cond.code yX6_blocksBy cX6_blocksBy 3 (some .int), Cond.fieldLink RX6 52 "QuarterMasksModel" "many" "[I", Cond.methodLink RX6 183 yX6_shows, Cond.instanceMethod yX6_shows, Cond.selects RX6 yX6_shows yX6_shows, Cond.code yX6_shows cX6_shows 7 none, Cond.fieldLink RX6 174 "QuarterMasksModel" "signs" "I", Cond.fieldLink RX6 154 "QuarterMasksModel" "waits" "I", Cond.fieldLink RX6 40 "QuarterMasksModel" "waitX" "[I", Cond.fieldLink RX6 43 "QuarterMasksModel" "waitY" "[I", Cond.fieldLink RX6 46 "QuarterMasksModel" "waitSide" "[I", Cond.fieldLink RX6 49 "QuarterMasksModel" "sign" "[I", Cond.methodLink RX6 157 yX6_later, Cond.instanceMethod yX6_later, Cond.selects RX6 yX6_later yX6_later, Cond.code yX6_later cX6_later 4 none, Cond.methodLink RX6 166 yX6_isBlock, Cond.instanceMethod yX6_isBlock, Cond.selects RX6 yX6_isBlock yX6_isBlock, Cond.code yX6_isBlock cX6_isBlock 9 (some .boolean), Cond.methodLink RX6 177 yX6_deepOf, Cond.static yX6_deepOf]
def wsX6_count_r3 : List Cond := [Cond.code yX6_deepOf cX6_deepOf 1 (some .int), Cond.methodLink RX6 180 yX6_greater, Cond.static yX6_greater, Cond.code yX6_greater cX6_greater 2 (some .int), Cond.methodLink RX6 160 yX6_quarters, Cond.instanceMethod yX6_quarters, Cond.selects RX6 yX6_quarters yX6_quarters, Cond.code yX6_quarters cX6_quarters 5 none, Cond.methodLink RX6 232 yX6_allParts, Cond.instanceMethod yX6_allParts, Cond.selects RX6 yX6_allParts yX6_allParts, Cond.code yX6_allParts cX6_allParts 3 (some .int), Cond.methodLink RX6 202 yX6_partsOf, Cond.instanceMethod yX6_partsOf, Cond.selects RX6 yX6_partsOf yX6_partsOf, Cond.code yX6_partsOf cX6_partsOf 2 (some .int), Cond.fieldLink RX6 144 "QuarterMasksModel" "parts" "I", Cond.methodLink RX6 150 yX6_labels, Cond.instanceMethod yX6_labels, Cond.selects RX6 yX6_labels yX6_labels, Cond.code yX6_labels cX6_labels 4 none, Cond.fieldLink RX6 34 "QuarterMasksModel" "label" "[I", Cond.methodLink RX6 147 yX6_floods, Cond.instanceMethod yX6_floods]
def wsX6_count_r4 : List Cond := [Cond.selects RX6 yX6_floods yX6_floods, Cond.code yX6_floods cX6_floods 9 none, Cond.fieldLink RX6 37 "QuarterMasksModel" "pile" "[I", Cond.methodLink RX6 235 yX6_inAll, Cond.instanceMethod yX6_inAll, Cond.selects RX6 yX6_inAll yX6_inAll, Cond.code yX6_inAll cX6_inAll 5 (some .int)]
def wsX6_count : List Cond := .code yX6_count cX6_count 2 (some .int) :: ((wsX6_count_r1 ++ (wsX6_count_r2 ++ (wsX6_count_r3 ++ wsX6_count_r4))) ++ wsX60)
def wsX6_tellsMask_r1 : List Cond := [Cond.constantLong RX6 238 (31), Cond.fieldLink RX6 34 "QuarterMasksModel" "label" "[I", Cond.fieldLink RX6 144 "QuarterMasksModel" "parts" "I", Cond.methodLink RX6 186 yX6_blocksBy, Cond.instanceMethod yX6_blocksBy, Cond.selects RX6 yX6_blocksBy yX6_blocksBy, Cond.initialized RX6, Cond.code yX6_blocksBy cX6_blocksBy 3 (some .int), Cond.fieldLink RX6 52 "QuarterMasksModel" "many" "[I", Cond.methodLink RX6 183 yX6_shows, Cond.instanceMethod yX6_shows, Cond.selects RX6 yX6_shows yX6_shows, Cond.code yX6_shows cX6_shows 7 none, Cond.fieldLink RX6 174 "QuarterMasksModel" "signs" "I", Cond.fieldLink RX6 154 "QuarterMasksModel" "waits" "I", Cond.fieldLink RX6 40 "QuarterMasksModel" "waitX" "[I", Cond.fieldLink RX6 43 "QuarterMasksModel" "waitY" "[I", Cond.fieldLink RX6 46 "QuarterMasksModel" "waitSide" "[I", Cond.fieldLink RX6 49 "QuarterMasksModel" "sign" "[I", Cond.methodLink RX6 157 yX6_later, Cond.instanceMethod yX6_later, Cond.selects RX6 yX6_later yX6_later, Cond.code yX6_later cX6_later 4 none, Cond.methodLink RX6 166 yX6_isBlock]
def wsX6_tellsMask_r2 : List Cond := [Cond.instanceMethod yX6_isBlock, Cond.selects RX6 yX6_isBlock yX6_isBlock, Cond.code yX6_isBlock cX6_isBlock 9 (some .boolean), Cond.fieldLink RX6 22 "QuarterMasksModel" "rows" "[I", Cond.methodLink RX6 90 yX6_dark, Cond.instanceMethod yX6_dark, Cond.selects RX6 yX6_dark yX6_dark, Cond.code yX6_dark cX6_dark 4 (some .int), Cond.methodLink RX6 86 yX6_isCell, Cond.static yX6_isCell, Cond.code yX6_isCell cX6_isCell 2 (some .boolean), Cond.constantLong RX6 84 (15), Cond.methodLink RX6 55 yX6_in, Cond.static yX6_in, Cond.code yX6_in cX6_in 6 (some .boolean), Cond.methodLink RX6 177 yX6_deepOf, Cond.static yX6_deepOf, Cond.code yX6_deepOf cX6_deepOf 1 (some .int), Cond.methodLink RX6 180 yX6_greater, Cond.static yX6_greater, Cond.code yX6_greater cX6_greater 2 (some .int), Cond.methodLink RX6 160 yX6_quarters, Cond.instanceMethod yX6_quarters, Cond.selects RX6 yX6_quarters yX6_quarters]
def wsX6_tellsMask_r3 : List Cond := [Cond.code yX6_quarters cX6_quarters 5 none, Cond.methodLink RX6 211 yX6_allBy, Cond.instanceMethod yX6_allBy, Cond.selects RX6 yX6_allBy yX6_allBy, Cond.code yX6_allBy cX6_allBy 3 (some .int), Cond.methodLink RX6 202 yX6_partsOf, Cond.instanceMethod yX6_partsOf, Cond.selects RX6 yX6_partsOf yX6_partsOf, Cond.code yX6_partsOf cX6_partsOf 2 (some .int), Cond.methodLink RX6 150 yX6_labels, Cond.instanceMethod yX6_labels, Cond.selects RX6 yX6_labels yX6_labels, Cond.code yX6_labels cX6_labels 4 none, Cond.methodLink RX6 147 yX6_floods, Cond.instanceMethod yX6_floods, Cond.selects RX6 yX6_floods yX6_floods, Cond.code yX6_floods cX6_floods 9 none, Cond.fieldLink RX6 37 "QuarterMasksModel" "pile" "[I", Cond.methodLink RX6 205 yX6_borderOf, Cond.instanceMethod yX6_borderOf, Cond.selects RX6 yX6_borderOf yX6_borderOf, Cond.code yX6_borderOf cX6_borderOf 4 (some .int), Cond.methodLink RX6 199 yX6_borderAt, Cond.instanceMethod yX6_borderAt]
def wsX6_tellsMask_r4 : List Cond := [Cond.selects RX6 yX6_borderAt yX6_borderAt, Cond.code yX6_borderAt cX6_borderAt 5 (some .int), Cond.methodLink RX6 208 yX6_holesOf, Cond.instanceMethod yX6_holesOf, Cond.selects RX6 yX6_holesOf yX6_holesOf, Cond.code yX6_holesOf cX6_holesOf 7 (some .int), Cond.methodLink RX6 100 yX6_darkOf, Cond.instanceMethod yX6_darkOf, Cond.selects RX6 yX6_darkOf yX6_darkOf, Cond.code yX6_darkOf cX6_darkOf 4 (some .int), Cond.methodLink RX6 189 yX6_signBy, Cond.instanceMethod yX6_signBy, Cond.selects RX6 yX6_signBy yX6_signBy, Cond.code yX6_signBy cX6_signBy 2 (some .int), Cond.methodLink RX6 170 yX6_blockBy, Cond.instanceMethod yX6_blockBy, Cond.selects RX6 yX6_blockBy yX6_blockBy, Cond.code yX6_blockBy cX6_blockBy 6 (some .int), Cond.methodLink RX6 141 yX6_nearOf, Cond.instanceMethod yX6_nearOf, Cond.selects RX6 yX6_nearOf yX6_nearOf, Cond.code yX6_nearOf cX6_nearOf 7 (some .int), Cond.methodLink RX6 136 yX6_apart, Cond.static yX6_apart]
def wsX6_tellsMask_r5 : List Cond := [Cond.code yX6_apart cX6_apart 2 (some .int), Cond.methodLink RX6 219 yX6_partBy, Cond.instanceMethod yX6_partBy, Cond.selects RX6 yX6_partBy yX6_partBy, Cond.code yX6_partBy cX6_partBy 11 (some .int), Cond.methodLink RX6 214 yX6_lesser, Cond.static yX6_lesser, Cond.code yX6_lesser cX6_lesser 2 (some .int), Cond.methodLink RX6 225 yX6_bothBy, Cond.instanceMethod yX6_bothBy, Cond.selects RX6 yX6_bothBy yX6_bothBy, Cond.code yX6_bothBy cX6_bothBy 13 (some .int)]
def wsX6_tellsMask : List Cond := .code yX6_tellsMask cX6_tellsMask 8 (some .long) :: ((wsX6_tellsMask_r1 ++ (wsX6_tellsMask_r2 ++ (wsX6_tellsMask_r3 ++ (wsX6_tellsMask_r4 ++ wsX6_tellsMask_r5)))) ++ wsX60)
def wsX6_digest_r1 : List Cond := [Cond.constantLong RX6 240 (17), Cond.constantLong RX6 238 (31), Cond.methodLink RX6 242 yX6_count, Cond.instanceMethod yX6_count, Cond.selects RX6 yX6_count yX6_count, Cond.initialized RX6, Cond.code yX6_count cX6_count 2 (some .int), Cond.fieldLink RX6 93 "QuarterMasksModel" "known" "I", Cond.fieldLink RX6 59 "QuarterMasksModel" "latest" "I", Cond.methodLink RX6 100 yX6_darkOf, Cond.instanceMethod yX6_darkOf, Cond.selects RX6 yX6_darkOf yX6_darkOf, Cond.code yX6_darkOf cX6_darkOf 4 (some .int), Cond.methodLink RX6 90 yX6_dark, Cond.instanceMethod yX6_dark, Cond.selects RX6 yX6_dark yX6_dark, Cond.code yX6_dark cX6_dark 4 (some .int), Cond.fieldLink RX6 22 "QuarterMasksModel" "rows" "[I", Cond.methodLink RX6 86 yX6_isCell, Cond.static yX6_isCell, Cond.code yX6_isCell cX6_isCell 2 (some .boolean), Cond.constantLong RX6 84 (15), Cond.methodLink RX6 55 yX6_in, Cond.static yX6_in]
def wsX6_digest_r2 : List Cond := [Cond.code yX6_in cX6_in 6 (some .boolean), Cond.methodLink RX6 228 yX6_allBlocks, Cond.instanceMethod yX6_allBlocks, Cond.selects RX6 yX6_allBlocks yX6_allBlocks, Cond.code yX6_allBlocks cX6_allBlocks 3 (some .int), Cond.methodLink RX6 186 yX6_blocksBy, Cond.instanceMethod yX6_blocksBy, Cond.selects RX6 yX6_blocksBy yX6_blocksBy, Cond.code yX6_blocksBy cX6_blocksBy 3 (some .int), Cond.fieldLink RX6 52 "QuarterMasksModel" "many" "[I", Cond.methodLink RX6 183 yX6_shows, Cond.instanceMethod yX6_shows, Cond.selects RX6 yX6_shows yX6_shows, Cond.code yX6_shows cX6_shows 7 none, Cond.fieldLink RX6 174 "QuarterMasksModel" "signs" "I", Cond.fieldLink RX6 154 "QuarterMasksModel" "waits" "I", Cond.fieldLink RX6 40 "QuarterMasksModel" "waitX" "[I", Cond.fieldLink RX6 43 "QuarterMasksModel" "waitY" "[I", Cond.fieldLink RX6 46 "QuarterMasksModel" "waitSide" "[I", Cond.fieldLink RX6 49 "QuarterMasksModel" "sign" "[I", Cond.methodLink RX6 157 yX6_later, Cond.instanceMethod yX6_later, Cond.selects RX6 yX6_later yX6_later, Cond.code yX6_later cX6_later 4 none]
def wsX6_digest_r3 : List Cond := [Cond.methodLink RX6 166 yX6_isBlock, Cond.instanceMethod yX6_isBlock, Cond.selects RX6 yX6_isBlock yX6_isBlock, Cond.code yX6_isBlock cX6_isBlock 9 (some .boolean), Cond.methodLink RX6 177 yX6_deepOf, Cond.static yX6_deepOf, Cond.code yX6_deepOf cX6_deepOf 1 (some .int), Cond.methodLink RX6 180 yX6_greater, Cond.static yX6_greater, Cond.code yX6_greater cX6_greater 2 (some .int), Cond.methodLink RX6 160 yX6_quarters, Cond.instanceMethod yX6_quarters, Cond.selects RX6 yX6_quarters yX6_quarters, Cond.code yX6_quarters cX6_quarters 5 none, Cond.methodLink RX6 232 yX6_allParts, Cond.instanceMethod yX6_allParts, Cond.selects RX6 yX6_allParts yX6_allParts, Cond.code yX6_allParts cX6_allParts 3 (some .int), Cond.methodLink RX6 202 yX6_partsOf, Cond.instanceMethod yX6_partsOf, Cond.selects RX6 yX6_partsOf yX6_partsOf, Cond.code yX6_partsOf cX6_partsOf 2 (some .int), Cond.fieldLink RX6 144 "QuarterMasksModel" "parts" "I", Cond.methodLink RX6 150 yX6_labels]
def wsX6_digest_r4 : List Cond := [Cond.instanceMethod yX6_labels, Cond.selects RX6 yX6_labels yX6_labels, Cond.code yX6_labels cX6_labels 4 none, Cond.fieldLink RX6 34 "QuarterMasksModel" "label" "[I", Cond.methodLink RX6 147 yX6_floods, Cond.instanceMethod yX6_floods, Cond.selects RX6 yX6_floods yX6_floods, Cond.code yX6_floods cX6_floods 9 none, Cond.fieldLink RX6 37 "QuarterMasksModel" "pile" "[I", Cond.methodLink RX6 235 yX6_inAll, Cond.instanceMethod yX6_inAll, Cond.selects RX6 yX6_inAll yX6_inAll, Cond.code yX6_inAll cX6_inAll 5 (some .int), Cond.methodLink RX6 245 yX6_tellsMask, Cond.instanceMethod yX6_tellsMask, Cond.selects RX6 yX6_tellsMask yX6_tellsMask, Cond.code yX6_tellsMask cX6_tellsMask 8 (some .long), Cond.methodLink RX6 211 yX6_allBy, Cond.instanceMethod yX6_allBy, Cond.selects RX6 yX6_allBy yX6_allBy, Cond.code yX6_allBy cX6_allBy 3 (some .int), Cond.methodLink RX6 205 yX6_borderOf, Cond.instanceMethod yX6_borderOf, Cond.selects RX6 yX6_borderOf yX6_borderOf]
def wsX6_digest_r5 : List Cond := [Cond.code yX6_borderOf cX6_borderOf 4 (some .int), Cond.methodLink RX6 199 yX6_borderAt, Cond.instanceMethod yX6_borderAt, Cond.selects RX6 yX6_borderAt yX6_borderAt, Cond.code yX6_borderAt cX6_borderAt 5 (some .int), Cond.methodLink RX6 208 yX6_holesOf, Cond.instanceMethod yX6_holesOf, Cond.selects RX6 yX6_holesOf yX6_holesOf, Cond.code yX6_holesOf cX6_holesOf 7 (some .int), Cond.methodLink RX6 189 yX6_signBy, Cond.instanceMethod yX6_signBy, Cond.selects RX6 yX6_signBy yX6_signBy, Cond.code yX6_signBy cX6_signBy 2 (some .int), Cond.methodLink RX6 170 yX6_blockBy, Cond.instanceMethod yX6_blockBy, Cond.selects RX6 yX6_blockBy yX6_blockBy, Cond.code yX6_blockBy cX6_blockBy 6 (some .int), Cond.methodLink RX6 141 yX6_nearOf, Cond.instanceMethod yX6_nearOf, Cond.selects RX6 yX6_nearOf yX6_nearOf, Cond.code yX6_nearOf cX6_nearOf 7 (some .int), Cond.methodLink RX6 136 yX6_apart, Cond.static yX6_apart, Cond.code yX6_apart cX6_apart 2 (some .int)]
def wsX6_digest_r6 : List Cond := [Cond.methodLink RX6 219 yX6_partBy, Cond.instanceMethod yX6_partBy, Cond.selects RX6 yX6_partBy yX6_partBy, Cond.code yX6_partBy cX6_partBy 11 (some .int), Cond.methodLink RX6 214 yX6_lesser, Cond.static yX6_lesser, Cond.code yX6_lesser cX6_lesser 2 (some .int), Cond.methodLink RX6 225 yX6_bothBy, Cond.instanceMethod yX6_bothBy, Cond.selects RX6 yX6_bothBy yX6_bothBy, Cond.code yX6_bothBy cX6_bothBy 13 (some .int)]
def wsX6_digest : List Cond := .code yX6_digest cX6_digest 4 (some .long) :: ((wsX6_digest_r1 ++ (wsX6_digest_r2 ++ (wsX6_digest_r3 ++ (wsX6_digest_r4 ++ (wsX6_digest_r5 ++ wsX6_digest_r6))))) ++ wsX60)
def wsJ9_abs_0f7a4 : List Cond := .code yJ9_abs_0f7a4 cJ9_abs_0f7a4 1 (some .int) :: ([])
def wsJ9_max_7cf53 : List Cond := .code yJ9_max_7cf53 cJ9_max_7cf53 2 (some .int) :: ([])
def wsJ9_min_7cf53 : List Cond := .code yJ9_min_7cf53 cJ9_min_7cf53 2 (some .int) :: ([])
def wsL_law_r1 : List Cond := [Cond.classLink RL 7 RX5, Cond.instantiable RX5 9, Cond.initialized RX5, Cond.classLink RL 10 RX6, Cond.instantiable RX6 21, Cond.initialized RX6, Cond.methodLink RL 9 yX5_init, Cond.instanceMethod yX5_init, Cond.code yX5_init cX5_init 2 none, Cond.methodLink RX5 1 objectInit, Cond.instanceMethod objectInit, Cond.code objectInit ⟨#[0xb1]⟩ 1 none, Cond.classLink RX5 9 RX1, Cond.fieldLink RX5 11 "QuarterMasks" "masks" "[LQuarterMasks$Grid;", Cond.classLink RX5 15 RX3, Cond.fieldLink RX5 17 "QuarterMasks" "sheets" "[LQuarterMasks$Sheet;", Cond.classLink RX5 21 RX0, Cond.instantiable RX0 4, Cond.initialized RX0, Cond.fieldLink RX5 24 "QuarterMasks" "changes" "LQuarterMasks$Changes;", Cond.instantiable RX1 1, Cond.initialized RX1, Cond.fieldLink RX5 29 "QuarterMasks" "made" "LQuarterMasks$Grid;", Cond.fieldLink RX5 33 "QuarterMasks" "spare" "LQuarterMasks$Grid;"]
def wsL_law_r2 : List Cond := [Cond.classLink RX5 36 RX2, Cond.instantiable RX2 5, Cond.initialized RX2, Cond.fieldLink RX5 39 "QuarterMasks" "darkParts" "LQuarterMasks$Parts;", Cond.fieldLink RX5 43 "QuarterMasks" "lightParts" "LQuarterMasks$Parts;", Cond.classLink RX5 46 RX4, Cond.instantiable RX4 6, Cond.initialized RX4, Cond.fieldLink RX5 49 "QuarterMasks" "signs" "LQuarterMasks$Signs;", Cond.fieldLink RX5 53 "QuarterMasks" "latestFinding" "I", Cond.instantiable RX3 4, Cond.initialized RX3, Cond.instanceMethod yX0_init, Cond.code yX0_init cX0_init 1 none, Cond.methodLink RX0 3 objectInit, Cond.arrayClass .int, Cond.fieldLink RX0 9 "QuarterMasks$Changes" "masks" "[I", Cond.fieldLink RX0 15 "QuarterMasks$Changes" "rows" "[I", Cond.fieldLink RX0 18 "QuarterMasks$Changes" "next" "I", Cond.fieldLink RX0 22 "QuarterMasks$Changes" "known" "I", Cond.instanceMethod yX1_init, Cond.code yX1_init cX1_init 1 none, Cond.methodLink RX1 3 objectInit, Cond.fieldLink RX1 9 "QuarterMasks$Grid" "rows" "[I"]
def wsL_law_r3 : List Cond := [Cond.methodLink RX5 38 yX2_init, Cond.instanceMethod yX2_init, Cond.code yX2_init cX2_init 1 none, Cond.methodLink RX2 3 objectInit, Cond.classLink RX2 9 RX1, Cond.fieldLink RX2 12 "QuarterMasks$Parts" "seen" "LQuarterMasks$Grid;", Cond.fieldLink RX2 18 "QuarterMasks$Parts" "labels" "[I", Cond.fieldLink RX2 22 "QuarterMasks$Parts" "reached" "[I", Cond.fieldLink RX2 25 "QuarterMasks$Parts" "figures" "[I", Cond.fieldLink RX2 28 "QuarterMasks$Parts" "parts" "I", Cond.methodLink RX2 32 yJ7_fill_53178, Cond.static yJ7_fill_53178, Cond.initialized RJ7, Cond.code yJ7_fill_53178 cJ7_fill_53178 4 none, Cond.instanceMethod yX4_init, Cond.code yX4_init cX4_init 1 none, Cond.methodLink RX4 3 objectInit, Cond.classLink RX4 9 RX1, Cond.fieldLink RX4 12 "QuarterMasks$Signs" "seen" "LQuarterMasks$Grid;", Cond.fieldLink RX4 18 "QuarterMasks$Signs" "list" "[I", Cond.fieldLink RX4 22 "QuarterMasks$Signs" "told" "I", Cond.fieldLink RX4 26 "QuarterMasks$Signs" "darkBlocks" "I", Cond.fieldLink RX4 29 "QuarterMasks$Signs" "mixed" "I", Cond.fieldLink RX4 32 "QuarterMasks$Signs" "deepest" "I"]
def wsL_law_r4 : List Cond := [Cond.instanceMethod yX3_init, Cond.code yX3_init cX3_init 1 none, Cond.methodLink RX3 3 objectInit, Cond.fieldLink RX3 9 "QuarterMasks$Sheet" "items" "[I", Cond.fieldLink RX3 15 "QuarterMasks$Sheet" "lost" "Z", Cond.fieldLink RX3 19 "QuarterMasks$Sheet" "form" "I", Cond.fieldLink RX3 23 "QuarterMasks$Sheet" "size" "I", Cond.methodLink RL 12 yX6_init, Cond.instanceMethod yX6_init, Cond.code yX6_init cX6_init 2 none, Cond.methodLink RX6 1 objectInit, Cond.fieldLink RX6 7 "QuarterMasksModel" "forms" "[I", Cond.fieldLink RX6 13 "QuarterMasksModel" "sizes" "[I", Cond.fieldLink RX6 16 "QuarterMasksModel" "items" "[I", Cond.fieldLink RX6 19 "QuarterMasksModel" "moved" "[I", Cond.fieldLink RX6 22 "QuarterMasksModel" "rows" "[I", Cond.fieldLink RX6 25 "QuarterMasksModel" "fresh" "[I", Cond.fieldLink RX6 28 "QuarterMasksModel" "oldMask" "[I", Cond.fieldLink RX6 31 "QuarterMasksModel" "oldRows" "[I", Cond.fieldLink RX6 34 "QuarterMasksModel" "label" "[I", Cond.fieldLink RX6 37 "QuarterMasksModel" "pile" "[I", Cond.fieldLink RX6 40 "QuarterMasksModel" "waitX" "[I", Cond.fieldLink RX6 43 "QuarterMasksModel" "waitY" "[I", Cond.fieldLink RX6 46 "QuarterMasksModel" "waitSide" "[I"]
def wsL_law_r5 : List Cond := [Cond.fieldLink RX6 49 "QuarterMasksModel" "sign" "[I", Cond.fieldLink RX6 52 "QuarterMasksModel" "many" "[I", Cond.methodLink RL 13 yX5_fill, Cond.instanceMethod yX5_fill, Cond.selects RX5 yX5_fill yX5_fill, Cond.code yX5_fill cX5_fill 7 (some .int), Cond.methodLink RX5 58 yX5_isMask, Cond.static yX5_isMask, Cond.code yX5_isMask cX5_isMask 1 (some .boolean), Cond.methodLink RX5 66 yX5_within, Cond.static yX5_within, Cond.code yX5_within cX5_within 2 (some .boolean), Cond.methodLink RX5 62 yX5_isCell, Cond.static yX5_isCell, Cond.code yX5_isCell cX5_isCell 2 (some .boolean), Cond.methodLink RX5 69 yX1_take, Cond.instanceMethod yX1_take, Cond.selects RX1 yX1_take yX1_take, Cond.code yX1_take cX1_take 3 none, Cond.methodLink RX5 73 yX1_paint, Cond.instanceMethod yX1_paint, Cond.selects RX1 yX1_paint yX1_paint, Cond.code yX1_paint cX1_paint 8 none, Cond.methodLink RX1 20 yX1_row]
def wsL_law_r6 : List Cond := [Cond.instanceMethod yX1_row, Cond.selects RX1 yX1_row yX1_row, Cond.code yX1_row cX1_row 2 (some .int), Cond.methodLink RX1 24 yX1_setRow, Cond.instanceMethod yX1_setRow, Cond.selects RX1 yX1_setRow yX1_setRow, Cond.code yX1_setRow cX1_setRow 3 none, Cond.constant RX1 19 (65535), Cond.methodLink RX5 77 yX5_become, Cond.instanceMethod yX5_become, Cond.selects RX5 yX5_become yX5_become, Cond.code yX5_become cX5_become 2 (some .int), Cond.methodLink RX5 145 yX0_keep, Cond.instanceMethod yX0_keep, Cond.selects RX0 yX0_keep yX0_keep, Cond.code yX0_keep cX0_keep 4 none, Cond.methodLink RX0 31 Lib.Math.min.name, Cond.static Lib.Math.min.name, Cond.initialized "java/lang/Math", Cond.code Lib.Math.min.name Lib.Math.min.code 2 (some .int), Cond.methodLink RX0 25 yX1_row, Cond.methodLink RX5 149 yX1_darkCells, Cond.instanceMethod yX1_darkCells, Cond.selects RX1 yX1_darkCells yX1_darkCells]
def wsL_law_r7 : List Cond := [Cond.code yX1_darkCells cX1_darkCells 3 (some .int), Cond.methodLink RX1 34 yJ6_bitCount_0f7a4, Cond.static yJ6_bitCount_0f7a4, Cond.initialized RJ6, Cond.code yJ6_bitCount_0f7a4 cJ6_bitCount_0f7a4 1 (some .int), Cond.constant RJ6 265 (1431655765), Cond.constant RJ6 266 (858993459), Cond.constant RJ6 267 (252645135), Cond.methodLink RL 17 yX6_fill, Cond.instanceMethod yX6_fill, Cond.selects RX6 yX6_fill yX6_fill, Cond.code yX6_fill cX6_fill 8 (some .int), Cond.constantLong RX6 106 (16), Cond.methodLink RX6 103 yX6_isMask, Cond.static yX6_isMask, Cond.code yX6_isMask cX6_isMask 1 (some .boolean), Cond.constantLong RX6 63 (3), Cond.methodLink RX6 55 yX6_in, Cond.static yX6_in, Cond.code yX6_in cX6_in 6 (some .boolean), Cond.methodLink RX6 86 yX6_isCell, Cond.static yX6_isCell, Cond.code yX6_isCell cX6_isCell 2 (some .boolean), Cond.constantLong RX6 84 (15)]
def wsL_law_r8 : List Cond := [Cond.methodLink RX6 108 yX6_isTwo, Cond.static yX6_isTwo, Cond.code yX6_isTwo cX6_isTwo 1 (some .boolean), Cond.methodLink RX6 111 yX6_starts, Cond.instanceMethod yX6_starts, Cond.selects RX6 yX6_starts yX6_starts, Cond.code yX6_starts cX6_starts 3 none, Cond.methodLink RX6 114 yX6_sets, Cond.instanceMethod yX6_sets, Cond.selects RX6 yX6_sets yX6_sets, Cond.code yX6_sets cX6_sets 4 none, Cond.methodLink RX6 118 yX6_become, Cond.instanceMethod yX6_become, Cond.selects RX6 yX6_become yX6_become, Cond.code yX6_become cX6_become 2 (some .int), Cond.methodLink RX6 96 yX6_becomes, Cond.instanceMethod yX6_becomes, Cond.selects RX6 yX6_becomes yX6_becomes, Cond.code yX6_becomes cX6_becomes 3 none, Cond.fieldLink RX6 93 "QuarterMasksModel" "known" "I", Cond.methodLink RX6 100 yX6_darkOf, Cond.instanceMethod yX6_darkOf, Cond.selects RX6 yX6_darkOf yX6_darkOf, Cond.code yX6_darkOf cX6_darkOf 4 (some .int)]
def wsL_law_r9 : List Cond := [Cond.methodLink RX6 90 yX6_dark, Cond.instanceMethod yX6_dark, Cond.selects RX6 yX6_dark yX6_dark, Cond.code yX6_dark cX6_dark 4 (some .int), Cond.methodLink RL 18 yX5_dots, Cond.instanceMethod yX5_dots, Cond.selects RX5 yX5_dots yX5_dots, Cond.code yX5_dots cX5_dots 7 (some .int), Cond.constant RX5 81 (1103515245), Cond.methodLink RX5 82 yX1_flip, Cond.instanceMethod yX1_flip, Cond.selects RX1 yX1_flip yX1_flip, Cond.code yX1_flip cX1_flip 3 none, Cond.methodLink RL 22 yX6_dots, Cond.instanceMethod yX6_dots, Cond.selects RX6 yX6_dots yX6_dots, Cond.code yX6_dots cX6_dots 6 (some .int), Cond.constantLong RX6 125 (255), Cond.fieldLink RX6 122 "QuarterMasksModel" "drawn" "I", Cond.methodLink RX6 127 yX6_lot, Cond.instanceMethod yX6_lot, Cond.selects RX6 yX6_lot yX6_lot, Cond.code yX6_lot cX6_lot 2 (some .int), Cond.constant RX6 121 (1103515245)]
def wsL_law_r10 : List Cond := [Cond.methodLink RL 23 yX5_join, Cond.instanceMethod yX5_join, Cond.selects RX5 yX5_join yX5_join, Cond.code yX5_join cX5_join 6 (some .int), Cond.methodLink RX5 86 yX1_row, Cond.methodLink RX5 89 yX5_joinedRow, Cond.static yX5_joinedRow, Cond.code yX5_joinedRow cX5_joinedRow 3 (some .int), Cond.methodLink RX5 93 yX1_setRow, Cond.methodLink RL 27 yX6_join, Cond.instanceMethod yX6_join, Cond.selects RX6 yX6_join yX6_join, Cond.code yX6_join cX6_join 8 (some .int), Cond.methodLink RL 28 yX5_over, Cond.instanceMethod yX5_over, Cond.selects RX5 yX5_over yX5_over, Cond.code yX5_over cX5_over 3 (some .int), Cond.methodLink RX5 96 yX1_takeTurnedOver, Cond.instanceMethod yX1_takeTurnedOver, Cond.selects RX1 yX1_takeTurnedOver yX1_takeTurnedOver, Cond.code yX1_takeTurnedOver cX1_takeTurnedOver 3 none, Cond.methodLink RL 32 yX6_over, Cond.instanceMethod yX6_over, Cond.selects RX6 yX6_over yX6_over]
def wsL_law_r11 : List Cond := [Cond.code yX6_over cX6_over 4 (some .int), Cond.constant RX6 130 (65535), Cond.methodLink RL 33 yX5_move, Cond.instanceMethod yX5_move, Cond.selects RX5 yX5_move yX5_move, Cond.code yX5_move cX5_move 7 (some .int), Cond.methodLink RX5 99 yX5_isMove, Cond.static yX5_isMove, Cond.code yX5_isMove cX5_isMove 1 (some .boolean), Cond.methodLink RL 36 yX6_move, Cond.instanceMethod yX6_move, Cond.selects RX6 yX6_move yX6_move, Cond.code yX6_move cX6_move 6 (some .int), Cond.constantLong RX6 131 (-16), Cond.methodLink RX6 133 yX6_clears, Cond.instanceMethod yX6_clears, Cond.selects RX6 yX6_clears yX6_clears, Cond.code yX6_clears cX6_clears 2 none, Cond.methodLink RL 37 yX5_turn, Cond.instanceMethod yX5_turn, Cond.selects RX5 yX5_turn yX5_turn, Cond.code yX5_turn cX5_turn 5 (some .int), Cond.methodLink RX5 102 yX1_takeTurnedRight, Cond.instanceMethod yX1_takeTurnedRight]
def wsL_law_r12 : List Cond := [Cond.selects RX1 yX1_takeTurnedRight yX1_takeTurnedRight, Cond.code yX1_takeTurnedRight cX1_takeTurnedRight 5 none, Cond.methodLink RX1 28 yX1_isDark, Cond.instanceMethod yX1_isDark, Cond.selects RX1 yX1_isDark yX1_isDark, Cond.code yX1_isDark cX1_isDark 3 (some .boolean), Cond.methodLink RL 40 yX6_turn, Cond.instanceMethod yX6_turn, Cond.selects RX6 yX6_turn yX6_turn, Cond.code yX6_turn cX6_turn 9 (some .int), Cond.methodLink RL 41 yX5_band, Cond.instanceMethod yX5_band, Cond.selects RX5 yX5_band yX5_band, Cond.code yX5_band cX5_band 5 (some .int), Cond.methodLink RX5 105 yX1_takeWidened, Cond.instanceMethod yX1_takeWidened, Cond.selects RX1 yX1_takeWidened yX1_takeWidened, Cond.code yX1_takeWidened cX1_takeWidened 3 none, Cond.methodLink RX1 31 yX1_neighboursInRow, Cond.instanceMethod yX1_neighboursInRow, Cond.selects RX1 yX1_neighboursInRow yX1_neighboursInRow, Cond.code yX1_neighboursInRow cX1_neighboursInRow 2 (some .int), Cond.methodLink RL 44 yX6_band, Cond.instanceMethod yX6_band]
def wsL_law_r13 : List Cond := [Cond.selects RX6 yX6_band yX6_band, Cond.code yX6_band cX6_band 5 (some .int), Cond.constantLong RX6 139 (30), Cond.methodLink RX6 141 yX6_nearOf, Cond.instanceMethod yX6_nearOf, Cond.selects RX6 yX6_nearOf yX6_nearOf, Cond.code yX6_nearOf cX6_nearOf 7 (some .int), Cond.methodLink RX6 136 yX6_apart, Cond.static yX6_apart, Cond.code yX6_apart cX6_apart 2 (some .int), Cond.methodLink RL 45 yX5_pick, Cond.instanceMethod yX5_pick, Cond.selects RX5 yX5_pick yX5_pick, Cond.code yX5_pick cX5_pick 7 (some .int), Cond.methodLink RX5 108 yX2_look, Cond.instanceMethod yX2_look, Cond.selects RX2 yX2_look yX2_look, Cond.code yX2_look cX2_look 3 none, Cond.methodLink RX2 38 yX1_sameAs, Cond.instanceMethod yX1_sameAs, Cond.selects RX1 yX1_sameAs yX1_sameAs, Cond.code yX1_sameAs cX1_sameAs 3 (some .boolean), Cond.methodLink RX2 42 yX1_take, Cond.methodLink RX2 46 yX1_isDark]
def wsL_law_r14 : List Cond := [Cond.methodLink RX2 50 yX2_gather, Cond.instanceMethod yX2_gather, Cond.selects RX2 yX2_gather yX2_gather, Cond.code yX2_gather cX2_gather 6 none, Cond.methodLink RX2 54 yX2_beginFigures, Cond.instanceMethod yX2_beginFigures, Cond.selects RX2 yX2_beginFigures yX2_beginFigures, Cond.code yX2_beginFigures cX2_beginFigures 4 none, Cond.methodLink RX2 58 yX2_reach, Cond.instanceMethod yX2_reach, Cond.selects RX2 yX2_reach yX2_reach, Cond.code yX2_reach cX2_reach 4 (some .int), Cond.methodLink RX2 65 yX2_labelAt, Cond.instanceMethod yX2_labelAt, Cond.selects RX2 yX2_labelAt yX2_labelAt, Cond.code yX2_labelAt cX2_labelAt 3 (some .int), Cond.methodLink RX2 62 yX2_noteFigures, Cond.instanceMethod yX2_noteFigures, Cond.selects RX2 yX2_noteFigures yX2_noteFigures, Cond.code yX2_noteFigures cX2_noteFigures 4 none, Cond.methodLink RX2 69 Lib.Math.min.name, Cond.methodLink RX2 74 Lib.Math.max.name, Cond.static Lib.Math.max.name, Cond.code Lib.Math.max.name Lib.Math.max.code 2 (some .int)]
def wsL_law_r15 : List Cond := [Cond.methodLink RX5 111 yX2_labelAt, Cond.methodLink RX5 115 yX2_rowOfPart, Cond.instanceMethod yX2_rowOfPart, Cond.selects RX2 yX2_rowOfPart yX2_rowOfPart, Cond.code yX2_rowOfPart cX2_rowOfPart 5 (some .int), Cond.methodLink RL 48 yX6_pick, Cond.instanceMethod yX6_pick, Cond.selects RX6 yX6_pick yX6_pick, Cond.code yX6_pick cX6_pick 6 (some .int), Cond.methodLink RX6 150 yX6_labels, Cond.instanceMethod yX6_labels, Cond.selects RX6 yX6_labels yX6_labels, Cond.code yX6_labels cX6_labels 4 none, Cond.fieldLink RX6 144 "QuarterMasksModel" "parts" "I", Cond.methodLink RX6 147 yX6_floods, Cond.instanceMethod yX6_floods, Cond.selects RX6 yX6_floods yX6_floods, Cond.code yX6_floods cX6_floods 9 none, Cond.methodLink RL 49 yX5_read, Cond.instanceMethod yX5_read, Cond.selects RX5 yX5_read yX5_read, Cond.code yX5_read cX5_read 4 (some .int), Cond.methodLink RX5 118 yX5_isSheet, Cond.static yX5_isSheet]
def wsL_law_r16 : List Cond := [Cond.code yX5_isSheet cX5_isSheet 1 (some .boolean), Cond.methodLink RX5 125 yX5_found, Cond.instanceMethod yX5_found, Cond.selects RX5 yX5_found yX5_found, Cond.code yX5_found cX5_found 2 (some .int), Cond.methodLink RX5 128 yX5_readSquare, Cond.static yX5_readSquare, Cond.code yX5_readSquare cX5_readSquare 10 (some .int), Cond.methodLink RX5 135 yX3_item, Cond.instanceMethod yX3_item, Cond.selects RX3 yX3_item yX3_item, Cond.code yX3_item cX3_item 2 (some .int), Cond.methodLink RL 52 yX6_read, Cond.instanceMethod yX6_read, Cond.selects RX6 yX6_read yX6_read, Cond.code yX6_read cX6_read 4 (some .int), Cond.methodLink RX6 65 yX6_isSheet, Cond.static yX6_isSheet, Cond.code yX6_isSheet cX6_isSheet 1 (some .boolean), Cond.methodLink RX6 71 yX6_finds, Cond.instanceMethod yX6_finds, Cond.selects RX6 yX6_finds yX6_finds, Cond.code yX6_finds cX6_finds 2 (some .int), Cond.fieldLink RX6 59 "QuarterMasksModel" "latest" "I"]
def wsL_law_r17 : List Cond := [Cond.methodLink RX6 163 yX6_takes, Cond.instanceMethod yX6_takes, Cond.selects RX6 yX6_takes yX6_takes, Cond.code yX6_takes cX6_takes 8 (some .int), Cond.fieldLink RX6 154 "QuarterMasksModel" "waits" "I", Cond.constantLong RX6 69 (2), Cond.methodLink RX6 157 yX6_later, Cond.instanceMethod yX6_later, Cond.selects RX6 yX6_later yX6_later, Cond.code yX6_later cX6_later 4 none, Cond.methodLink RX6 160 yX6_quarters, Cond.instanceMethod yX6_quarters, Cond.selects RX6 yX6_quarters yX6_quarters, Cond.code yX6_quarters cX6_quarters 5 none, Cond.methodLink RL 53 yX5_back, Cond.instanceMethod yX5_back, Cond.selects RX5 yX5_back yX5_back, Cond.code yX5_back cX5_back 2 (some .int), Cond.methodLink RX5 141 yX0_undo, Cond.instanceMethod yX0_undo, Cond.selects RX0 yX0_undo yX0_undo, Cond.code yX0_undo cX0_undo 3 (some .int), Cond.methodLink RX0 37 yX1_setRow, Cond.methodLink RL 57 yX6_back]
def wsL_law_r18 : List Cond := [Cond.instanceMethod yX6_back, Cond.selects RX6 yX6_back yX6_back, Cond.code yX6_back cX6_back 2 (some .int), Cond.methodLink RL 58 yX5_cell, Cond.instanceMethod yX5_cell, Cond.selects RX5 yX5_cell yX5_cell, Cond.code yX5_cell cX5_cell 4 (some .int), Cond.methodLink RX5 153 yX1_isDark, Cond.methodLink RL 61 yX6_cell, Cond.instanceMethod yX6_cell, Cond.selects RX6 yX6_cell yX6_cell, Cond.code yX6_cell cX6_cell 4 (some .int), Cond.methodLink RL 62 yX5_block, Cond.instanceMethod yX5_block, Cond.selects RX5 yX5_block yX5_block, Cond.code yX5_block cX5_block 6 (some .int), Cond.methodLink RX5 156 yX1_sideOfBlock, Cond.instanceMethod yX1_sideOfBlock, Cond.selects RX1 yX1_sideOfBlock yX1_sideOfBlock, Cond.code yX1_sideOfBlock cX1_sideOfBlock 4 (some .int), Cond.methodLink RX1 43 yX1_signOfSquare, Cond.instanceMethod yX1_signOfSquare, Cond.selects RX1 yX1_signOfSquare yX1_signOfSquare, Cond.code yX1_signOfSquare cX1_signOfSquare 7 (some .int)]
def wsL_law_r19 : List Cond := [Cond.methodLink RL 65 yX6_block, Cond.instanceMethod yX6_block, Cond.selects RX6 yX6_block yX6_block, Cond.code yX6_block cX6_block 5 (some .int), Cond.methodLink RX6 170 yX6_blockBy, Cond.instanceMethod yX6_blockBy, Cond.selects RX6 yX6_blockBy yX6_blockBy, Cond.code yX6_blockBy cX6_blockBy 6 (some .int), Cond.methodLink RX6 166 yX6_isBlock, Cond.instanceMethod yX6_isBlock, Cond.selects RX6 yX6_isBlock yX6_isBlock, Cond.code yX6_isBlock cX6_isBlock 9 (some .boolean), Cond.methodLink RL 66 yX5_blocks, Cond.instanceMethod yX5_blocks, Cond.selects RX5 yX5_blocks yX5_blocks, Cond.code yX5_blocks cX5_blocks 3 (some .int), Cond.methodLink RX5 159 yX4_look, Cond.instanceMethod yX4_look, Cond.selects RX4 yX4_look yX4_look, Cond.code yX4_look cX4_look 2 none, Cond.methodLink RX4 35 yX1_sameAs, Cond.methodLink RX4 39 yX1_take, Cond.methodLink RX4 43 yX4_tellSquare, Cond.static yX4_tellSquare]
def wsL_law_r20 : List Cond := [Cond.code yX4_tellSquare cX4_tellSquare 8 none, Cond.methodLink RX4 55 Lib.Math.max.name, Cond.methodLink RX4 47 yX1_signOfSquare, Cond.methodLink RX4 51 yX4_addSign, Cond.instanceMethod yX4_addSign, Cond.selects RX4 yX4_addSign yX4_addSign, Cond.code yX4_addSign cX4_addSign 2 none, Cond.methodLink RL 69 yX6_blocks, Cond.instanceMethod yX6_blocks, Cond.selects RX6 yX6_blocks yX6_blocks, Cond.code yX6_blocks cX6_blocks 3 (some .int), Cond.methodLink RX6 186 yX6_blocksBy, Cond.instanceMethod yX6_blocksBy, Cond.selects RX6 yX6_blocksBy yX6_blocksBy, Cond.code yX6_blocksBy cX6_blocksBy 3 (some .int), Cond.methodLink RX6 183 yX6_shows, Cond.instanceMethod yX6_shows, Cond.selects RX6 yX6_shows yX6_shows, Cond.code yX6_shows cX6_shows 7 none, Cond.fieldLink RX6 174 "QuarterMasksModel" "signs" "I", Cond.methodLink RX6 177 yX6_deepOf, Cond.static yX6_deepOf, Cond.code yX6_deepOf cX6_deepOf 1 (some .int), Cond.methodLink RX6 180 yX6_greater]
def wsL_law_r21 : List Cond := [Cond.static yX6_greater, Cond.code yX6_greater cX6_greater 2 (some .int), Cond.methodLink RL 70 yX5_shown, Cond.instanceMethod yX5_shown, Cond.selects RX5 yX5_shown yX5_shown, Cond.code yX5_shown cX5_shown 3 (some .int), Cond.methodLink RX5 172 yX4_sign, Cond.instanceMethod yX4_sign, Cond.selects RX4 yX4_sign yX4_sign, Cond.code yX4_sign cX4_sign 2 (some .int), Cond.methodLink RL 73 yX6_shown, Cond.instanceMethod yX6_shown, Cond.selects RX6 yX6_shown yX6_shown, Cond.code yX6_shown cX6_shown 3 (some .int), Cond.constantLong RX6 192 (-1), Cond.constantLong RX6 194 (340), Cond.methodLink RX6 196 yX6_shownBy, Cond.instanceMethod yX6_shownBy, Cond.selects RX6 yX6_shownBy yX6_shownBy, Cond.code yX6_shownBy cX6_shownBy 3 (some .int), Cond.methodLink RX6 189 yX6_signBy, Cond.instanceMethod yX6_signBy, Cond.selects RX6 yX6_signBy yX6_signBy, Cond.code yX6_signBy cX6_signBy 2 (some .int)]
def wsL_law_r22 : List Cond := [Cond.methodLink RL 74 yX5_all, Cond.instanceMethod yX5_all, Cond.selects RX5 yX5_all yX5_all, Cond.code yX5_all cX5_all 3 (some .int), Cond.methodLink RX5 178 yX1_border, Cond.instanceMethod yX1_border, Cond.selects RX1 yX1_border yX1_border, Cond.code yX1_border cX1_border 3 (some .int), Cond.methodLink RX1 39 yX1_darkCells, Cond.methodLink RX5 181 yX2_partsOffTheEdge, Cond.instanceMethod yX2_partsOffTheEdge, Cond.selects RX2 yX2_partsOffTheEdge yX2_partsOffTheEdge, Cond.code yX2_partsOffTheEdge cX2_partsOffTheEdge 5 (some .int), Cond.methodLink RX2 80 yX2_figure, Cond.instanceMethod yX2_figure, Cond.selects RX2 yX2_figure yX2_figure, Cond.code yX2_figure cX2_figure 3 (some .int), Cond.methodLink RL 77 yX6_all, Cond.instanceMethod yX6_all, Cond.selects RX6 yX6_all yX6_all, Cond.code yX6_all cX6_all 3 (some .int), Cond.methodLink RX6 211 yX6_allBy, Cond.instanceMethod yX6_allBy, Cond.selects RX6 yX6_allBy yX6_allBy]
def wsL_law_r23 : List Cond := [Cond.code yX6_allBy cX6_allBy 3 (some .int), Cond.methodLink RX6 202 yX6_partsOf, Cond.instanceMethod yX6_partsOf, Cond.selects RX6 yX6_partsOf yX6_partsOf, Cond.code yX6_partsOf cX6_partsOf 2 (some .int), Cond.methodLink RX6 205 yX6_borderOf, Cond.instanceMethod yX6_borderOf, Cond.selects RX6 yX6_borderOf yX6_borderOf, Cond.code yX6_borderOf cX6_borderOf 4 (some .int), Cond.methodLink RX6 199 yX6_borderAt, Cond.instanceMethod yX6_borderAt, Cond.selects RX6 yX6_borderAt yX6_borderAt, Cond.code yX6_borderAt cX6_borderAt 5 (some .int), Cond.methodLink RX6 208 yX6_holesOf, Cond.instanceMethod yX6_holesOf, Cond.selects RX6 yX6_holesOf yX6_holesOf, Cond.code yX6_holesOf cX6_holesOf 7 (some .int), Cond.methodLink RL 78 yX5_label, Cond.instanceMethod yX5_label, Cond.selects RX5 yX5_label yX5_label, Cond.code yX5_label cX5_label 4 (some .int), Cond.methodLink RL 81 yX6_label, Cond.instanceMethod yX6_label, Cond.selects RX6 yX6_label yX6_label]
def wsL_law_r24 : List Cond := [Cond.code yX6_label cX6_label 4 (some .int), Cond.methodLink RL 82 yX5_part, Cond.instanceMethod yX5_part, Cond.selects RX5 yX5_part yX5_part, Cond.code yX5_part cX5_part 4 (some .int), Cond.methodLink RX5 184 yX2_figure, Cond.methodLink RL 85 yX6_part, Cond.instanceMethod yX6_part, Cond.selects RX6 yX6_part yX6_part, Cond.code yX6_part cX6_part 4 (some .int), Cond.methodLink RX6 222 yX6_partOr, Cond.instanceMethod yX6_partOr, Cond.selects RX6 yX6_partOr yX6_partOr, Cond.code yX6_partOr cX6_partOr 4 (some .int), Cond.constantLong RX6 217 (5), Cond.methodLink RX6 219 yX6_partBy, Cond.instanceMethod yX6_partBy, Cond.selects RX6 yX6_partBy yX6_partBy, Cond.code yX6_partBy cX6_partBy 11 (some .int), Cond.methodLink RX6 214 yX6_lesser, Cond.static yX6_lesser, Cond.code yX6_lesser cX6_lesser 2 (some .int), Cond.methodLink RL 86 yX5_near, Cond.instanceMethod yX5_near]
def wsL_law_r25 : List Cond := [Cond.selects RX5 yX5_near yX5_near, Cond.code yX5_near cX5_near 4 (some .int), Cond.methodLink RX5 187 yX1_distanceFrom, Cond.instanceMethod yX1_distanceFrom, Cond.selects RX1 yX1_distanceFrom yX1_distanceFrom, Cond.code yX1_distanceFrom cX1_distanceFrom 7 (some .int), Cond.methodLink RX1 51 Lib.Math.abs.name, Cond.static Lib.Math.abs.name, Cond.code Lib.Math.abs.name Lib.Math.abs.code 1 (some .int), Cond.methodLink RX1 47 yX1_gapInRow, Cond.static yX1_gapInRow, Cond.code yX1_gapInRow cX1_gapInRow 4 (some .int), Cond.methodLink RL 89 yX6_near, Cond.instanceMethod yX6_near, Cond.selects RX6 yX6_near yX6_near, Cond.code yX6_near cX6_near 4 (some .int), Cond.methodLink RL 90 yX5_both, Cond.instanceMethod yX5_both, Cond.selects RX5 yX5_both yX5_both, Cond.code yX5_both cX5_both 4 (some .int), Cond.methodLink RX5 190 yX1_sameAs, Cond.methodLink RX5 194 yX1_darkCellsIn, Cond.instanceMethod yX1_darkCellsIn, Cond.selects RX1 yX1_darkCellsIn yX1_darkCellsIn]
def wsL_law_r26 : List Cond := [Cond.code yX1_darkCellsIn cX1_darkCellsIn 4 (some .int), Cond.methodLink RX5 197 yX1_touches, Cond.instanceMethod yX1_touches, Cond.selects RX1 yX1_touches yX1_touches, Cond.code yX1_touches cX1_touches 3 (some .boolean), Cond.methodLink RL 93 yX6_both, Cond.instanceMethod yX6_both, Cond.selects RX6 yX6_both yX6_both, Cond.code yX6_both cX6_both 4 (some .int), Cond.methodLink RX6 225 yX6_bothBy, Cond.instanceMethod yX6_bothBy, Cond.selects RX6 yX6_bothBy yX6_bothBy, Cond.code yX6_bothBy cX6_bothBy 13 (some .int), Cond.methodLink RL 94 yX5_sheet, Cond.instanceMethod yX5_sheet, Cond.selects RX5 yX5_sheet yX5_sheet, Cond.code yX5_sheet cX5_sheet 4 (some .int), Cond.methodLink RX5 200 yX3_begin, Cond.instanceMethod yX3_begin, Cond.selects RX3 yX3_begin yX3_begin, Cond.code yX3_begin cX3_begin 3 none, Cond.methodLink RX3 26 yJ7_fill_53178, Cond.methodLink RL 97 yX6_sheet, Cond.instanceMethod yX6_sheet]
def wsL_law_r27 : List Cond := [Cond.selects RX6 yX6_sheet yX6_sheet, Cond.code yX6_sheet cX6_sheet 5 (some .int), Cond.methodLink RL 98 yX5_lose, Cond.instanceMethod yX5_lose, Cond.selects RX5 yX5_lose yX5_lose, Cond.code yX5_lose cX5_lose 2 (some .int), Cond.methodLink RL 102 yX6_lose, Cond.instanceMethod yX6_lose, Cond.selects RX6 yX6_lose yX6_lose, Cond.code yX6_lose cX6_lose 2 (some .int), Cond.methodLink RL 103 yX5_lay, Cond.instanceMethod yX5_lay, Cond.selects RX5 yX5_lay yX5_lay, Cond.code yX5_lay cX5_lay 6 (some .int), Cond.methodLink RX5 203 yX5_findingAt, Cond.static yX5_findingAt, Cond.code yX5_findingAt cX5_findingAt 3 (some .int), Cond.methodLink RX5 207 yX3_setItem, Cond.instanceMethod yX3_setItem, Cond.selects RX3 yX3_setItem yX3_setItem, Cond.code yX3_setItem cX3_setItem 3 none, Cond.methodLink RX3 36 yX3_narrowed, Cond.instanceMethod yX3_narrowed, Cond.selects RX3 yX3_narrowed yX3_narrowed]
def wsL_law_r28 : List Cond := [Cond.code yX3_narrowed cX3_narrowed 2 (some .int), Cond.methodLink RL 106 yX6_lay, Cond.instanceMethod yX6_lay, Cond.selects RX6 yX6_lay yX6_lay, Cond.code yX6_lay cX6_lay 6 (some .int), Cond.methodLink RX6 75 yX6_lacks, Cond.instanceMethod yX6_lacks, Cond.selects RX6 yX6_lacks yX6_lacks, Cond.code yX6_lacks cX6_lacks 4 (some .int), Cond.methodLink RX6 79 yX6_cut, Cond.static yX6_cut, Cond.code yX6_cut cX6_cut 2 (some .int), Cond.methodLink RL 107 yX5_get, Cond.instanceMethod yX5_get, Cond.selects RX5 yX5_get yX5_get, Cond.code yX5_get cX5_get 5 (some .int), Cond.constant RX5 210 (-2147483648), Cond.methodLink RL 110 yX6_get, Cond.instanceMethod yX6_get, Cond.selects RX6 yX6_get yX6_get, Cond.code yX6_get cX6_get 4 (some .int), Cond.constant RX6 83 (-2147483648), Cond.methodLink RL 111 yX5_copy, Cond.instanceMethod yX5_copy]
def wsL_law_r29 : List Cond := [Cond.selects RX5 yX5_copy yX5_copy, Cond.code yX5_copy cX5_copy 6 (some .int), Cond.methodLink RX5 221 arraycopyName, Cond.native arraycopyName, Cond.static arraycopyName, Cond.initialized "java/lang/System", Cond.methodLink RX5 214 yX3_hasItems, Cond.instanceMethod yX3_hasItems, Cond.selects RX3 yX3_hasItems yX3_hasItems, Cond.code yX3_hasItems cX3_hasItems 3 (some .boolean), Cond.methodLink RL 115 yX6_copy, Cond.instanceMethod yX6_copy, Cond.selects RX6 yX6_copy yX6_copy, Cond.code yX6_copy cX6_copy 7 (some .int), Cond.methodLink RL 116 yX5_write, Cond.instanceMethod yX5_write, Cond.selects RX5 yX5_write yX5_write, Cond.code yX5_write cX5_write 6 (some .int), Cond.methodLink RX5 227 Lib.Math.min.name, Cond.methodLink RX5 232 Lib.Math.max.name, Cond.methodLink RL 119 yX6_write, Cond.instanceMethod yX6_write, Cond.selects RX6 yX6_write yX6_write, Cond.code yX6_write cX6_write 6 (some .int)]
def wsL_law_r30 : List Cond := [Cond.methodLink RL 120 yX5_count, Cond.instanceMethod yX5_count, Cond.selects RX5 yX5_count yX5_count, Cond.code yX5_count cX5_count 2 (some .int), Cond.methodLink RX5 235 yX5_blocksOfAll, Cond.instanceMethod yX5_blocksOfAll, Cond.selects RX5 yX5_blocksOfAll yX5_blocksOfAll, Cond.code yX5_blocksOfAll cX5_blocksOfAll 3 (some .int), Cond.methodLink RX5 238 yX5_partsOfAll, Cond.instanceMethod yX5_partsOfAll, Cond.selects RX5 yX5_partsOfAll yX5_partsOfAll, Cond.code yX5_partsOfAll cX5_partsOfAll 3 (some .int), Cond.methodLink RX5 241 yX5_cellsDarkInAll, Cond.instanceMethod yX5_cellsDarkInAll, Cond.selects RX5 yX5_cellsDarkInAll yX5_cellsDarkInAll, Cond.code yX5_cellsDarkInAll cX5_cellsDarkInAll 3 (some .int), Cond.methodLink RX5 244 yJ6_bitCount_0f7a4, Cond.methodLink RL 123 yX6_count, Cond.instanceMethod yX6_count, Cond.selects RX6 yX6_count yX6_count, Cond.code yX6_count cX6_count 2 (some .int), Cond.methodLink RX6 228 yX6_allBlocks, Cond.instanceMethod yX6_allBlocks, Cond.selects RX6 yX6_allBlocks yX6_allBlocks]
def wsL_law_r31 : List Cond := [Cond.code yX6_allBlocks cX6_allBlocks 3 (some .int), Cond.methodLink RX6 232 yX6_allParts, Cond.instanceMethod yX6_allParts, Cond.selects RX6 yX6_allParts yX6_allParts, Cond.code yX6_allParts cX6_allParts 3 (some .int), Cond.methodLink RX6 235 yX6_inAll, Cond.instanceMethod yX6_inAll, Cond.selects RX6 yX6_inAll yX6_inAll, Cond.code yX6_inAll cX6_inAll 5 (some .int), Cond.methodLink RL 124 yX5_digest, Cond.instanceMethod yX5_digest, Cond.selects RX5 yX5_digest yX5_digest, Cond.code yX5_digest cX5_digest 4 (some .long), Cond.constantLong RX5 249 (17), Cond.constantLong RX5 251 (31), Cond.methodLink RX5 253 yX5_count, Cond.methodLink RX5 256 yX5_digestOfBlocks, Cond.instanceMethod yX5_digestOfBlocks, Cond.selects RX5 yX5_digestOfBlocks yX5_digestOfBlocks, Cond.code yX5_digestOfBlocks cX5_digestOfBlocks 7 (some .long), Cond.methodLink RX5 269 yX5_blocks, Cond.methodLink RX5 272 yX5_all, Cond.methodLink RX5 275 yX5_shown, Cond.methodLink RX5 260 yX5_digestOfCells]
def wsL_law_r32 : List Cond := [Cond.instanceMethod yX5_digestOfCells, Cond.selects RX5 yX5_digestOfCells yX5_digestOfCells, Cond.code yX5_digestOfCells cX5_digestOfCells 8 (some .long), Cond.methodLink RX5 278 yX5_cell, Cond.methodLink RX5 281 yX5_block, Cond.methodLink RX5 285 yX5_label, Cond.methodLink RX5 288 yX5_near, Cond.methodLink RX5 263 yX5_digestOfParts, Cond.instanceMethod yX5_digestOfParts, Cond.selects RX5 yX5_digestOfParts yX5_digestOfParts, Cond.code yX5_digestOfParts cX5_digestOfParts 8 (some .long), Cond.methodLink RX5 291 yX5_part, Cond.methodLink RX5 266 yX5_digestOfPairs, Cond.instanceMethod yX5_digestOfPairs, Cond.selects RX5 yX5_digestOfPairs yX5_digestOfPairs, Cond.code yX5_digestOfPairs cX5_digestOfPairs 8 (some .long), Cond.methodLink RX5 294 yX5_both, Cond.methodLink RL 128 yX6_digest, Cond.instanceMethod yX6_digest, Cond.selects RX6 yX6_digest yX6_digest, Cond.code yX6_digest cX6_digest 4 (some .long), Cond.constantLong RX6 240 (17), Cond.constantLong RX6 238 (31), Cond.methodLink RX6 242 yX6_count]
def wsL_law_r33 : List Cond := [Cond.methodLink RX6 245 yX6_tellsMask, Cond.instanceMethod yX6_tellsMask, Cond.selects RX6 yX6_tellsMask yX6_tellsMask, Cond.code yX6_tellsMask cX6_tellsMask 8 (some .long)]
def wsL_law : List Cond := (wsL_law_r1 ++ (wsL_law_r2 ++ (wsL_law_r3 ++ (wsL_law_r4 ++ (wsL_law_r5 ++ (wsL_law_r6 ++ (wsL_law_r7 ++ (wsL_law_r8 ++ (wsL_law_r9 ++ (wsL_law_r10 ++ (wsL_law_r11 ++ (wsL_law_r12 ++ (wsL_law_r13 ++ (wsL_law_r14 ++ (wsL_law_r15 ++ (wsL_law_r16 ++ (wsL_law_r17 ++ (wsL_law_r18 ++ (wsL_law_r19 ++ (wsL_law_r20 ++ (wsL_law_r21 ++ (wsL_law_r22 ++ (wsL_law_r23 ++ (wsL_law_r24 ++ (wsL_law_r25 ++ (wsL_law_r26 ++ (wsL_law_r27 ++ (wsL_law_r28 ++ (wsL_law_r29 ++ (wsL_law_r30 ++ (wsL_law_r31 ++ (wsL_law_r32 ++ wsL_law_r33)))))))))))))))))))))))))))))))) ++ wsX50 ++ wsX60 ++ wsX00 ++ wsX10 ++ wsX20 ++ wsX40 ++ wsX30 ++ ([] : List Cond)
end
section
theorem dX0_init_0 : decode cX0_init 0 = .ok (.aload_n 0, 1) := by decide +kernel
theorem dX0_init_1 : decode cX0_init 1 = .ok (.invokespecial 3, 3) := by decide +kernel
theorem dX0_init_4 : decode cX0_init 4 = .ok (.aload_n 0, 1) := by decide +kernel
theorem dX0_init_5 : decode cX0_init 5 = .ok (.bipush 40, 2) := by decide +kernel
theorem dX0_init_7 : decode cX0_init 7 = .ok (.newarray .int, 2) := by decide +kernel
theorem dX0_init_9 : decode cX0_init 9 = .ok (.putfield 9, 3) := by decide +kernel
theorem dX0_init_12 : decode cX0_init 12 = .ok (.aload_n 0, 1) := by decide +kernel
theorem dX0_init_13 : decode cX0_init 13 = .ok (.sipush 640, 3) := by decide +kernel
theorem dX0_init_16 : decode cX0_init 16 = .ok (.newarray .int, 2) := by decide +kernel
theorem dX0_init_18 : decode cX0_init 18 = .ok (.putfield 15, 3) := by decide +kernel
theorem dX0_init_21 : decode cX0_init 21 = .ok (.aload_n 0, 1) := by decide +kernel
theorem dX0_init_22 : decode cX0_init 22 = .ok (.iconst 0, 1) := by decide +kernel
theorem dX0_init_23 : decode cX0_init 23 = .ok (.putfield 18, 3) := by decide +kernel
theorem dX0_init_26 : decode cX0_init 26 = .ok (.aload_n 0, 1) := by decide +kernel
theorem dX0_init_27 : decode cX0_init 27 = .ok (.iconst 0, 1) := by decide +kernel
theorem dX0_init_28 : decode cX0_init 28 = .ok (.putfield 22, 3) := by decide +kernel
theorem dX0_init_31 : decode cX0_init 31 = .ok (.return_, 1) := by decide +kernel
set_option maxRecDepth 20000 in
theorem ggX0_keep_X1_row : GoodIn wsX0_keep wsX1_row := goodIn_r _ [13, 14, 19] (by decide +kernel) (by decide +kernel)
set_option maxRecDepth 20000 in
theorem gX0_keep_X1_row : GoodIn wsX0_keep (wsV RX0 25 RX1 yX1_row wsX1_row) := goodIn_app (goodIn_of _ (by decide +kernel)) ggX0_keep_X1_row
theorem dX0_keep_0 : decode cX0_keep 0 = .ok (.aload_n 0, 1) := by decide +kernel
theorem dX0_keep_1 : decode cX0_keep 1 = .ok (.getfield 9, 3) := by decide +kernel
theorem dX0_keep_4 : decode cX0_keep 4 = .ok (.aload_n 0, 1) := by decide +kernel
theorem dX0_keep_5 : decode cX0_keep 5 = .ok (.getfield 18, 3) := by decide +kernel
theorem dX0_keep_8 : decode cX0_keep 8 = .ok (.iload_n 1, 1) := by decide +kernel
theorem dX0_keep_9 : decode cX0_keep 9 = .ok (.iastore, 1) := by decide +kernel
theorem dX0_keep_10 : decode cX0_keep 10 = .ok (.iconst 0, 1) := by decide +kernel
theorem dX0_keep_11 : decode cX0_keep 11 = .ok (.istore_n 3, 1) := by decide +kernel
theorem dX0_keep_12 : decode cX0_keep 12 = .ok (.iload_n 3, 1) := by decide +kernel
theorem dX0_keep_13 : decode cX0_keep 13 = .ok (.bipush 16, 2) := by decide +kernel
theorem dX0_keep_15 : decode cX0_keep 15 = .ok (.if_icmp .ge 28, 3) := by decide +kernel
theorem dX0_keep_18 : decode cX0_keep 18 = .ok (.aload_n 0, 1) := by decide +kernel
theorem dX0_keep_19 : decode cX0_keep 19 = .ok (.getfield 15, 3) := by decide +kernel
theorem dX0_keep_22 : decode cX0_keep 22 = .ok (.aload_n 0, 1) := by decide +kernel
theorem dX0_keep_23 : decode cX0_keep 23 = .ok (.getfield 18, 3) := by decide +kernel
theorem dX0_keep_26 : decode cX0_keep 26 = .ok (.bipush 16, 2) := by decide +kernel
theorem dX0_keep_28 : decode cX0_keep 28 = .ok (.imul, 1) := by decide +kernel
theorem dX0_keep_29 : decode cX0_keep 29 = .ok (.iload_n 3, 1) := by decide +kernel
theorem dX0_keep_30 : decode cX0_keep 30 = .ok (.iadd, 1) := by decide +kernel
theorem dX0_keep_31 : decode cX0_keep 31 = .ok (.aload_n 2, 1) := by decide +kernel
theorem dX0_keep_32 : decode cX0_keep 32 = .ok (.iload_n 3, 1) := by decide +kernel
theorem dX0_keep_33 : decode cX0_keep 33 = .ok (.invokevirtual 25, 3) := by decide +kernel
theorem dX0_keep_36 : decode cX0_keep 36 = .ok (.iastore, 1) := by decide +kernel
theorem dX0_keep_37 : decode cX0_keep 37 = .ok (.iinc 3 1, 3) := by decide +kernel
theorem dX0_keep_40 : decode cX0_keep 40 = .ok (.goto (-28), 3) := by decide +kernel
theorem dX0_keep_43 : decode cX0_keep 43 = .ok (.aload_n 0, 1) := by decide +kernel
theorem dX0_keep_44 : decode cX0_keep 44 = .ok (.aload_n 0, 1) := by decide +kernel
theorem dX0_keep_45 : decode cX0_keep 45 = .ok (.getfield 18, 3) := by decide +kernel
theorem dX0_keep_48 : decode cX0_keep 48 = .ok (.iconst 1, 1) := by decide +kernel
theorem dX0_keep_49 : decode cX0_keep 49 = .ok (.iadd, 1) := by decide +kernel
theorem dX0_keep_50 : decode cX0_keep 50 = .ok (.bipush 40, 2) := by decide +kernel
theorem dX0_keep_52 : decode cX0_keep 52 = .ok (.irem, 1) := by decide +kernel
theorem dX0_keep_53 : decode cX0_keep 53 = .ok (.putfield 18, 3) := by decide +kernel
theorem dX0_keep_56 : decode cX0_keep 56 = .ok (.aload_n 0, 1) := by decide +kernel
theorem dX0_keep_57 : decode cX0_keep 57 = .ok (.aload_n 0, 1) := by decide +kernel
theorem dX0_keep_58 : decode cX0_keep 58 = .ok (.getfield 22, 3) := by decide +kernel
theorem dX0_keep_61 : decode cX0_keep 61 = .ok (.iconst 1, 1) := by decide +kernel
theorem dX0_keep_62 : decode cX0_keep 62 = .ok (.iadd, 1) := by decide +kernel
theorem dX0_keep_63 : decode cX0_keep 63 = .ok (.bipush 40, 2) := by decide +kernel
theorem dX0_keep_65 : decode cX0_keep 65 = .ok (.invokestatic 31, 3) := by decide +kernel
theorem dX0_keep_68 : decode cX0_keep 68 = .ok (.putfield 22, 3) := by decide +kernel
theorem dX0_keep_71 : decode cX0_keep 71 = .ok (.return_, 1) := by decide +kernel
set_option maxRecDepth 20000 in
theorem ggX0_undo_X1_setRow : GoodIn wsX0_undo wsX1_setRow := goodIn_r _ [9, 10, 11, 12, 13, 14, 19] (by decide +kernel) (by decide +kernel)
set_option maxRecDepth 20000 in
theorem gX0_undo_X1_setRow : GoodIn wsX0_undo (wsV RX0 37 RX1 yX1_setRow wsX1_setRow) := goodIn_app (goodIn_of _ (by decide +kernel)) ggX0_undo_X1_setRow
theorem dX0_undo_0 : decode cX0_undo 0 = .ok (.aload_n 0, 1) := by decide +kernel
theorem dX0_undo_1 : decode cX0_undo 1 = .ok (.getfield 22, 3) := by decide +kernel
theorem dX0_undo_4 : decode cX0_undo 4 = .ok (.ifCond .ne 5, 3) := by decide +kernel
theorem dX0_undo_7 : decode cX0_undo 7 = .ok (.iconst (-1), 1) := by decide +kernel
theorem dX0_undo_8 : decode cX0_undo 8 = .ok (.ireturn, 1) := by decide +kernel
theorem dX0_undo_9 : decode cX0_undo 9 = .ok (.aload_n 0, 1) := by decide +kernel
theorem dX0_undo_10 : decode cX0_undo 10 = .ok (.aload_n 0, 1) := by decide +kernel
theorem dX0_undo_11 : decode cX0_undo 11 = .ok (.getfield 18, 3) := by decide +kernel
theorem dX0_undo_14 : decode cX0_undo 14 = .ok (.bipush 40, 2) := by decide +kernel
theorem dX0_undo_16 : decode cX0_undo 16 = .ok (.iadd, 1) := by decide +kernel
theorem dX0_undo_17 : decode cX0_undo 17 = .ok (.iconst 1, 1) := by decide +kernel
theorem dX0_undo_18 : decode cX0_undo 18 = .ok (.isub, 1) := by decide +kernel
theorem dX0_undo_19 : decode cX0_undo 19 = .ok (.bipush 40, 2) := by decide +kernel
theorem dX0_undo_21 : decode cX0_undo 21 = .ok (.irem, 1) := by decide +kernel
theorem dX0_undo_22 : decode cX0_undo 22 = .ok (.putfield 18, 3) := by decide +kernel
theorem dX0_undo_25 : decode cX0_undo 25 = .ok (.aload_n 0, 1) := by decide +kernel
theorem dX0_undo_26 : decode cX0_undo 26 = .ok (.dup, 1) := by decide +kernel
theorem dX0_undo_27 : decode cX0_undo 27 = .ok (.getfield 22, 3) := by decide +kernel
theorem dX0_undo_30 : decode cX0_undo 30 = .ok (.iconst 1, 1) := by decide +kernel
theorem dX0_undo_31 : decode cX0_undo 31 = .ok (.isub, 1) := by decide +kernel
theorem dX0_undo_32 : decode cX0_undo 32 = .ok (.putfield 22, 3) := by decide +kernel
theorem dX0_undo_35 : decode cX0_undo 35 = .ok (.iconst 0, 1) := by decide +kernel
theorem dX0_undo_36 : decode cX0_undo 36 = .ok (.istore_n 2, 1) := by decide +kernel
theorem dX0_undo_37 : decode cX0_undo 37 = .ok (.iload_n 2, 1) := by decide +kernel
theorem dX0_undo_38 : decode cX0_undo 38 = .ok (.bipush 16, 2) := by decide +kernel
theorem dX0_undo_40 : decode cX0_undo 40 = .ok (.if_icmp .ge 28, 3) := by decide +kernel
theorem dX0_undo_43 : decode cX0_undo 43 = .ok (.aload_n 1, 1) := by decide +kernel
theorem dX0_undo_44 : decode cX0_undo 44 = .ok (.iload_n 2, 1) := by decide +kernel
theorem dX0_undo_45 : decode cX0_undo 45 = .ok (.aload_n 0, 1) := by decide +kernel
theorem dX0_undo_46 : decode cX0_undo 46 = .ok (.getfield 15, 3) := by decide +kernel
theorem dX0_undo_49 : decode cX0_undo 49 = .ok (.aload_n 0, 1) := by decide +kernel
theorem dX0_undo_50 : decode cX0_undo 50 = .ok (.getfield 18, 3) := by decide +kernel
theorem dX0_undo_53 : decode cX0_undo 53 = .ok (.bipush 16, 2) := by decide +kernel
theorem dX0_undo_55 : decode cX0_undo 55 = .ok (.imul, 1) := by decide +kernel
theorem dX0_undo_56 : decode cX0_undo 56 = .ok (.iload_n 2, 1) := by decide +kernel
theorem dX0_undo_57 : decode cX0_undo 57 = .ok (.iadd, 1) := by decide +kernel
theorem dX0_undo_58 : decode cX0_undo 58 = .ok (.iaload, 1) := by decide +kernel
theorem dX0_undo_59 : decode cX0_undo 59 = .ok (.invokevirtual 37, 3) := by decide +kernel
theorem dX0_undo_62 : decode cX0_undo 62 = .ok (.iinc 2 1, 3) := by decide +kernel
theorem dX0_undo_65 : decode cX0_undo 65 = .ok (.goto (-28), 3) := by decide +kernel
theorem dX0_undo_68 : decode cX0_undo 68 = .ok (.aload_n 0, 1) := by decide +kernel
theorem dX0_undo_69 : decode cX0_undo 69 = .ok (.getfield 9, 3) := by decide +kernel
theorem dX0_undo_72 : decode cX0_undo 72 = .ok (.aload_n 0, 1) := by decide +kernel
theorem dX0_undo_73 : decode cX0_undo 73 = .ok (.getfield 18, 3) := by decide +kernel
theorem dX0_undo_76 : decode cX0_undo 76 = .ok (.iaload, 1) := by decide +kernel
theorem dX0_undo_77 : decode cX0_undo 77 = .ok (.ireturn, 1) := by decide +kernel
theorem dX1_init_0 : decode cX1_init 0 = .ok (.aload_n 0, 1) := by decide +kernel
theorem dX1_init_1 : decode cX1_init 1 = .ok (.invokespecial 3, 3) := by decide +kernel
theorem dX1_init_4 : decode cX1_init 4 = .ok (.aload_n 0, 1) := by decide +kernel
theorem dX1_init_5 : decode cX1_init 5 = .ok (.bipush 16, 2) := by decide +kernel
theorem dX1_init_7 : decode cX1_init 7 = .ok (.newarray .int, 2) := by decide +kernel
theorem dX1_init_9 : decode cX1_init 9 = .ok (.putfield 9, 3) := by decide +kernel
theorem dX1_init_12 : decode cX1_init 12 = .ok (.return_, 1) := by decide +kernel
theorem dX1_row_0 : decode cX1_row 0 = .ok (.iload_n 1, 1) := by decide +kernel
theorem dX1_row_1 : decode cX1_row 1 = .ok (.ifCond .lt 18, 3) := by decide +kernel
theorem dX1_row_4 : decode cX1_row 4 = .ok (.iload_n 1, 1) := by decide +kernel
theorem dX1_row_5 : decode cX1_row 5 = .ok (.bipush 16, 2) := by decide +kernel
theorem dX1_row_7 : decode cX1_row 7 = .ok (.if_icmp .ge 12, 3) := by decide +kernel
theorem dX1_row_10 : decode cX1_row 10 = .ok (.aload_n 0, 1) := by decide +kernel
theorem dX1_row_11 : decode cX1_row 11 = .ok (.getfield 9, 3) := by decide +kernel
theorem dX1_row_14 : decode cX1_row 14 = .ok (.iload_n 1, 1) := by decide +kernel
theorem dX1_row_15 : decode cX1_row 15 = .ok (.iaload, 1) := by decide +kernel
theorem dX1_row_16 : decode cX1_row 16 = .ok (.goto 4, 3) := by decide +kernel
theorem dX1_row_19 : decode cX1_row 19 = .ok (.iconst 0, 1) := by decide +kernel
theorem dX1_row_20 : decode cX1_row 20 = .ok (.ireturn, 1) := by decide +kernel
set_option maxRecDepth 20000 in
theorem ggX1_setRow_X5_within : GoodIn wsX1_setRow wsX5_within := goodIn_r _ [5] (by decide +kernel) (by decide +kernel)
set_option maxRecDepth 20000 in
theorem gX1_setRow_X5_within_n15 : GoodIn wsX1_setRow (wsX5_within) := ggX1_setRow_X5_within
theorem dX1_setRow_0 : decode cX1_setRow 0 = .ok (.iload_n 1, 1) := by decide +kernel
theorem dX1_setRow_1 : decode cX1_setRow 1 = .ok (.bipush 16, 2) := by decide +kernel
theorem dX1_setRow_3 : decode cX1_setRow 3 = .ok (.invokestatic 15, 3) := by decide +kernel
theorem dX1_setRow_6 : decode cX1_setRow 6 = .ok (.ifCond .eq 13, 3) := by decide +kernel
theorem dX1_setRow_9 : decode cX1_setRow 9 = .ok (.aload_n 0, 1) := by decide +kernel
theorem dX1_setRow_10 : decode cX1_setRow 10 = .ok (.getfield 9, 3) := by decide +kernel
theorem dX1_setRow_13 : decode cX1_setRow 13 = .ok (.iload_n 1, 1) := by decide +kernel
theorem dX1_setRow_14 : decode cX1_setRow 14 = .ok (.iload_n 2, 1) := by decide +kernel
theorem dX1_setRow_15 : decode cX1_setRow 15 = .ok (.ldc 19, 2) := by decide +kernel
theorem dX1_setRow_17 : decode cX1_setRow 17 = .ok (.iand, 1) := by decide +kernel
theorem dX1_setRow_18 : decode cX1_setRow 18 = .ok (.iastore, 1) := by decide +kernel
theorem dX1_setRow_19 : decode cX1_setRow 19 = .ok (.return_, 1) := by decide +kernel
theorem dX1_isDark_0 : decode cX1_isDark 0 = .ok (.iload_n 1, 1) := by decide +kernel
theorem dX1_isDark_1 : decode cX1_isDark 1 = .ok (.ifCond .lt 36, 3) := by decide +kernel
theorem dX1_isDark_4 : decode cX1_isDark 4 = .ok (.iload_n 1, 1) := by decide +kernel
theorem dX1_isDark_5 : decode cX1_isDark 5 = .ok (.bipush 16, 2) := by decide +kernel
theorem dX1_isDark_7 : decode cX1_isDark 7 = .ok (.if_icmp .ge 30, 3) := by decide +kernel
theorem dX1_isDark_10 : decode cX1_isDark 10 = .ok (.iload_n 2, 1) := by decide +kernel
theorem dX1_isDark_11 : decode cX1_isDark 11 = .ok (.ifCond .lt 26, 3) := by decide +kernel
theorem dX1_isDark_14 : decode cX1_isDark 14 = .ok (.iload_n 2, 1) := by decide +kernel
theorem dX1_isDark_15 : decode cX1_isDark 15 = .ok (.bipush 16, 2) := by decide +kernel
theorem dX1_isDark_17 : decode cX1_isDark 17 = .ok (.if_icmp .ge 20, 3) := by decide +kernel
theorem dX1_isDark_20 : decode cX1_isDark 20 = .ok (.aload_n 0, 1) := by decide +kernel
theorem dX1_isDark_21 : decode cX1_isDark 21 = .ok (.getfield 9, 3) := by decide +kernel
theorem dX1_isDark_24 : decode cX1_isDark 24 = .ok (.iload_n 2, 1) := by decide +kernel
theorem dX1_isDark_25 : decode cX1_isDark 25 = .ok (.iaload, 1) := by decide +kernel
theorem dX1_isDark_26 : decode cX1_isDark 26 = .ok (.iload_n 1, 1) := by decide +kernel
theorem dX1_isDark_27 : decode cX1_isDark 27 = .ok (.iushr, 1) := by decide +kernel
theorem dX1_isDark_28 : decode cX1_isDark 28 = .ok (.iconst 1, 1) := by decide +kernel
theorem dX1_isDark_29 : decode cX1_isDark 29 = .ok (.iand, 1) := by decide +kernel
theorem dX1_isDark_30 : decode cX1_isDark 30 = .ok (.ifCond .eq 7, 3) := by decide +kernel
theorem dX1_isDark_33 : decode cX1_isDark 33 = .ok (.iconst 1, 1) := by decide +kernel
theorem dX1_isDark_34 : decode cX1_isDark 34 = .ok (.goto 4, 3) := by decide +kernel
theorem dX1_isDark_37 : decode cX1_isDark 37 = .ok (.iconst 0, 1) := by decide +kernel
theorem dX1_isDark_38 : decode cX1_isDark 38 = .ok (.ireturn, 1) := by decide +kernel
set_option maxRecDepth 20000 in
theorem ggX1_flip_X1_row : GoodIn wsX1_flip wsX1_row := goodIn_r _ [5, 6, 15] (by decide +kernel) (by decide +kernel)
set_option maxRecDepth 20000 in
theorem gX1_flip_X1_row : GoodIn wsX1_flip (wsV RX1 20 RX1 yX1_row wsX1_row) := goodIn_app (goodIn_of _ (by decide +kernel)) ggX1_flip_X1_row
set_option maxRecDepth 20000 in
theorem ggX1_flip_X1_setRow : GoodIn wsX1_flip wsX1_setRow := goodIn_r _ [10, 6, 11, 12, 13, 14, 15] (by decide +kernel) (by decide +kernel)
set_option maxRecDepth 20000 in
theorem gX1_flip_X1_setRow : GoodIn wsX1_flip (wsV RX1 24 RX1 yX1_setRow wsX1_setRow) := goodIn_app (goodIn_of _ (by decide +kernel)) ggX1_flip_X1_setRow
theorem dX1_flip_0 : decode cX1_flip 0 = .ok (.aload_n 0, 1) := by decide +kernel
theorem dX1_flip_1 : decode cX1_flip 1 = .ok (.iload_n 2, 1) := by decide +kernel
theorem dX1_flip_2 : decode cX1_flip 2 = .ok (.aload_n 0, 1) := by decide +kernel
theorem dX1_flip_3 : decode cX1_flip 3 = .ok (.iload_n 2, 1) := by decide +kernel
theorem dX1_flip_4 : decode cX1_flip 4 = .ok (.invokevirtual 20, 3) := by decide +kernel
theorem dX1_flip_7 : decode cX1_flip 7 = .ok (.iconst 1, 1) := by decide +kernel
theorem dX1_flip_8 : decode cX1_flip 8 = .ok (.iload_n 1, 1) := by decide +kernel
theorem dX1_flip_9 : decode cX1_flip 9 = .ok (.ishl, 1) := by decide +kernel
theorem dX1_flip_10 : decode cX1_flip 10 = .ok (.ixor, 1) := by decide +kernel
theorem dX1_flip_11 : decode cX1_flip 11 = .ok (.invokevirtual 24, 3) := by decide +kernel
theorem dX1_flip_14 : decode cX1_flip 14 = .ok (.return_, 1) := by decide +kernel
set_option maxRecDepth 20000 in
theorem ggX1_paint_X1_row : GoodIn wsX1_paint wsX1_row := goodIn_r _ [5, 6, 15] (by decide +kernel) (by decide +kernel)
set_option maxRecDepth 20000 in
theorem gX1_paint_X1_row : GoodIn wsX1_paint (wsV RX1 20 RX1 yX1_row wsX1_row) := goodIn_app (goodIn_of _ (by decide +kernel)) ggX1_paint_X1_row
set_option maxRecDepth 20000 in
theorem ggX1_paint_X1_setRow : GoodIn wsX1_paint wsX1_setRow := goodIn_r _ [10, 6, 11, 12, 13, 14, 15] (by decide +kernel) (by decide +kernel)
set_option maxRecDepth 20000 in
theorem gX1_paint_X1_setRow : GoodIn wsX1_paint (wsV RX1 24 RX1 yX1_setRow wsX1_setRow) := goodIn_app (goodIn_of _ (by decide +kernel)) ggX1_paint_X1_setRow
theorem dX1_paint_0 : decode cX1_paint 0 = .ok (.iconst 1, 1) := by decide +kernel
theorem dX1_paint_1 : decode cX1_paint 1 = .ok (.iload_n 3, 1) := by decide +kernel
theorem dX1_paint_2 : decode cX1_paint 2 = .ok (.ishl, 1) := by decide +kernel
theorem dX1_paint_3 : decode cX1_paint 3 = .ok (.iconst 1, 1) := by decide +kernel
theorem dX1_paint_4 : decode cX1_paint 4 = .ok (.isub, 1) := by decide +kernel
theorem dX1_paint_5 : decode cX1_paint 5 = .ok (.iload_n 1, 1) := by decide +kernel
theorem dX1_paint_6 : decode cX1_paint 6 = .ok (.ishl, 1) := by decide +kernel
theorem dX1_paint_7 : decode cX1_paint 7 = .ok (.istore 6, 2) := by decide +kernel
theorem dX1_paint_9 : decode cX1_paint 9 = .ok (.iload_n 2, 1) := by decide +kernel
theorem dX1_paint_10 : decode cX1_paint 10 = .ok (.istore 7, 2) := by decide +kernel
theorem dX1_paint_12 : decode cX1_paint 12 = .ok (.iload 7, 2) := by decide +kernel
theorem dX1_paint_14 : decode cX1_paint 14 = .ok (.iload_n 2, 1) := by decide +kernel
theorem dX1_paint_15 : decode cX1_paint 15 = .ok (.iload 4, 2) := by decide +kernel
theorem dX1_paint_17 : decode cX1_paint 17 = .ok (.iadd, 1) := by decide +kernel
theorem dX1_paint_18 : decode cX1_paint 18 = .ok (.if_icmp .ge 51, 3) := by decide +kernel
theorem dX1_paint_21 : decode cX1_paint 21 = .ok (.iload 7, 2) := by decide +kernel
theorem dX1_paint_23 : decode cX1_paint 23 = .ok (.bipush 16, 2) := by decide +kernel
theorem dX1_paint_25 : decode cX1_paint 25 = .ok (.if_icmp .ge 44, 3) := by decide +kernel
theorem dX1_paint_28 : decode cX1_paint 28 = .ok (.aload_n 0, 1) := by decide +kernel
theorem dX1_paint_29 : decode cX1_paint 29 = .ok (.iload 7, 2) := by decide +kernel
theorem dX1_paint_31 : decode cX1_paint 31 = .ok (.iload 5, 2) := by decide +kernel
theorem dX1_paint_33 : decode cX1_paint 33 = .ok (.iconst 1, 1) := by decide +kernel
theorem dX1_paint_34 : decode cX1_paint 34 = .ok (.if_icmp .ne 15, 3) := by decide +kernel
theorem dX1_paint_37 : decode cX1_paint 37 = .ok (.aload_n 0, 1) := by decide +kernel
theorem dX1_paint_38 : decode cX1_paint 38 = .ok (.iload 7, 2) := by decide +kernel
theorem dX1_paint_40 : decode cX1_paint 40 = .ok (.invokevirtual 20, 3) := by decide +kernel
theorem dX1_paint_43 : decode cX1_paint 43 = .ok (.iload 6, 2) := by decide +kernel
theorem dX1_paint_45 : decode cX1_paint 45 = .ok (.ior, 1) := by decide +kernel
theorem dX1_paint_46 : decode cX1_paint 46 = .ok (.goto 14, 3) := by decide +kernel
theorem dX1_paint_49 : decode cX1_paint 49 = .ok (.aload_n 0, 1) := by decide +kernel
theorem dX1_paint_50 : decode cX1_paint 50 = .ok (.iload 7, 2) := by decide +kernel
theorem dX1_paint_52 : decode cX1_paint 52 = .ok (.invokevirtual 20, 3) := by decide +kernel
theorem dX1_paint_55 : decode cX1_paint 55 = .ok (.iload 6, 2) := by decide +kernel
theorem dX1_paint_57 : decode cX1_paint 57 = .ok (.iconst (-1), 1) := by decide +kernel
theorem dX1_paint_58 : decode cX1_paint 58 = .ok (.ixor, 1) := by decide +kernel
theorem dX1_paint_59 : decode cX1_paint 59 = .ok (.iand, 1) := by decide +kernel
theorem dX1_paint_60 : decode cX1_paint 60 = .ok (.invokevirtual 24, 3) := by decide +kernel
theorem dX1_paint_63 : decode cX1_paint 63 = .ok (.iinc 7 1, 3) := by decide +kernel
theorem dX1_paint_66 : decode cX1_paint 66 = .ok (.goto (-54), 3) := by decide +kernel
theorem dX1_paint_69 : decode cX1_paint 69 = .ok (.return_, 1) := by decide +kernel
theorem dX1_take_0 : decode cX1_take 0 = .ok (.iconst 0, 1) := by decide +kernel
theorem dX1_take_1 : decode cX1_take 1 = .ok (.istore_n 2, 1) := by decide +kernel
theorem dX1_take_2 : decode cX1_take 2 = .ok (.iload_n 2, 1) := by decide +kernel
theorem dX1_take_3 : decode cX1_take 3 = .ok (.bipush 16, 2) := by decide +kernel
theorem dX1_take_5 : decode cX1_take 5 = .ok (.if_icmp .ge 21, 3) := by decide +kernel
theorem dX1_take_8 : decode cX1_take 8 = .ok (.aload_n 0, 1) := by decide +kernel
theorem dX1_take_9 : decode cX1_take 9 = .ok (.getfield 9, 3) := by decide +kernel
theorem dX1_take_12 : decode cX1_take 12 = .ok (.iload_n 2, 1) := by decide +kernel
theorem dX1_take_13 : decode cX1_take 13 = .ok (.aload_n 1, 1) := by decide +kernel
theorem dX1_take_14 : decode cX1_take 14 = .ok (.getfield 9, 3) := by decide +kernel
theorem dX1_take_17 : decode cX1_take 17 = .ok (.iload_n 2, 1) := by decide +kernel
theorem dX1_take_18 : decode cX1_take 18 = .ok (.iaload, 1) := by decide +kernel
theorem dX1_take_19 : decode cX1_take 19 = .ok (.iastore, 1) := by decide +kernel
theorem dX1_take_20 : decode cX1_take 20 = .ok (.iinc 2 1, 3) := by decide +kernel
theorem dX1_take_23 : decode cX1_take 23 = .ok (.goto (-21), 3) := by decide +kernel
theorem dX1_take_26 : decode cX1_take 26 = .ok (.return_, 1) := by decide +kernel
theorem dX1_takeTurnedOver_0 : decode cX1_takeTurnedOver 0 = .ok (.iconst 0, 1) := by decide +kernel
theorem dX1_takeTurnedOver_1 : decode cX1_takeTurnedOver 1 = .ok (.istore_n 2, 1) := by decide +kernel
theorem dX1_takeTurnedOver_2 : decode cX1_takeTurnedOver 2 = .ok (.iload_n 2, 1) := by decide +kernel
theorem dX1_takeTurnedOver_3 : decode cX1_takeTurnedOver 3 = .ok (.bipush 16, 2) := by decide +kernel
theorem dX1_takeTurnedOver_5 : decode cX1_takeTurnedOver 5 = .ok (.if_icmp .ge 24, 3) := by decide +kernel
theorem dX1_takeTurnedOver_8 : decode cX1_takeTurnedOver 8 = .ok (.aload_n 0, 1) := by decide +kernel
theorem dX1_takeTurnedOver_9 : decode cX1_takeTurnedOver 9 = .ok (.getfield 9, 3) := by decide +kernel
theorem dX1_takeTurnedOver_12 : decode cX1_takeTurnedOver 12 = .ok (.iload_n 2, 1) := by decide +kernel
theorem dX1_takeTurnedOver_13 : decode cX1_takeTurnedOver 13 = .ok (.aload_n 1, 1) := by decide +kernel
theorem dX1_takeTurnedOver_14 : decode cX1_takeTurnedOver 14 = .ok (.getfield 9, 3) := by decide +kernel
theorem dX1_takeTurnedOver_17 : decode cX1_takeTurnedOver 17 = .ok (.iload_n 2, 1) := by decide +kernel
theorem dX1_takeTurnedOver_18 : decode cX1_takeTurnedOver 18 = .ok (.iaload, 1) := by decide +kernel
theorem dX1_takeTurnedOver_19 : decode cX1_takeTurnedOver 19 = .ok (.ldc 19, 2) := by decide +kernel
theorem dX1_takeTurnedOver_21 : decode cX1_takeTurnedOver 21 = .ok (.ixor, 1) := by decide +kernel
theorem dX1_takeTurnedOver_22 : decode cX1_takeTurnedOver 22 = .ok (.iastore, 1) := by decide +kernel
theorem dX1_takeTurnedOver_23 : decode cX1_takeTurnedOver 23 = .ok (.iinc 2 1, 3) := by decide +kernel
theorem dX1_takeTurnedOver_26 : decode cX1_takeTurnedOver 26 = .ok (.goto (-24), 3) := by decide +kernel
theorem dX1_takeTurnedOver_29 : decode cX1_takeTurnedOver 29 = .ok (.return_, 1) := by decide +kernel
set_option maxRecDepth 20000 in
theorem ggX1_takeTurnedRight_X1_isDark : GoodIn wsX1_takeTurnedRight wsX1_isDark := goodIn_r _ [6, 1, 7] (by decide +kernel) (by decide +kernel)
set_option maxRecDepth 20000 in
theorem gX1_takeTurnedRight_X1_isDark : GoodIn wsX1_takeTurnedRight (wsV RX1 28 RX1 yX1_isDark wsX1_isDark) := goodIn_app (goodIn_of _ (by decide +kernel)) ggX1_takeTurnedRight_X1_isDark
theorem dX1_takeTurnedRight_0 : decode cX1_takeTurnedRight 0 = .ok (.iconst 0, 1) := by decide +kernel
theorem dX1_takeTurnedRight_1 : decode cX1_takeTurnedRight 1 = .ok (.istore_n 2, 1) := by decide +kernel
theorem dX1_takeTurnedRight_2 : decode cX1_takeTurnedRight 2 = .ok (.iload_n 2, 1) := by decide +kernel
theorem dX1_takeTurnedRight_3 : decode cX1_takeTurnedRight 3 = .ok (.bipush 16, 2) := by decide +kernel
theorem dX1_takeTurnedRight_5 : decode cX1_takeTurnedRight 5 = .ok (.if_icmp .ge 54, 3) := by decide +kernel
theorem dX1_takeTurnedRight_8 : decode cX1_takeTurnedRight 8 = .ok (.iconst 0, 1) := by decide +kernel
theorem dX1_takeTurnedRight_9 : decode cX1_takeTurnedRight 9 = .ok (.istore_n 3, 1) := by decide +kernel
theorem dX1_takeTurnedRight_10 : decode cX1_takeTurnedRight 10 = .ok (.iconst 0, 1) := by decide +kernel
theorem dX1_takeTurnedRight_11 : decode cX1_takeTurnedRight 11 = .ok (.istore 4, 2) := by decide +kernel
theorem dX1_takeTurnedRight_13 : decode cX1_takeTurnedRight 13 = .ok (.iload 4, 2) := by decide +kernel
theorem dX1_takeTurnedRight_15 : decode cX1_takeTurnedRight 15 = .ok (.bipush 16, 2) := by decide +kernel
theorem dX1_takeTurnedRight_17 : decode cX1_takeTurnedRight 17 = .ok (.if_icmp .ge 29, 3) := by decide +kernel
theorem dX1_takeTurnedRight_20 : decode cX1_takeTurnedRight 20 = .ok (.aload_n 1, 1) := by decide +kernel
theorem dX1_takeTurnedRight_21 : decode cX1_takeTurnedRight 21 = .ok (.iload_n 2, 1) := by decide +kernel
theorem dX1_takeTurnedRight_22 : decode cX1_takeTurnedRight 22 = .ok (.bipush 15, 2) := by decide +kernel
theorem dX1_takeTurnedRight_24 : decode cX1_takeTurnedRight 24 = .ok (.iload 4, 2) := by decide +kernel
theorem dX1_takeTurnedRight_26 : decode cX1_takeTurnedRight 26 = .ok (.isub, 1) := by decide +kernel
theorem dX1_takeTurnedRight_27 : decode cX1_takeTurnedRight 27 = .ok (.invokevirtual 28, 3) := by decide +kernel
theorem dX1_takeTurnedRight_30 : decode cX1_takeTurnedRight 30 = .ok (.ifCond .eq 10, 3) := by decide +kernel
theorem dX1_takeTurnedRight_33 : decode cX1_takeTurnedRight 33 = .ok (.iload_n 3, 1) := by decide +kernel
theorem dX1_takeTurnedRight_34 : decode cX1_takeTurnedRight 34 = .ok (.iconst 1, 1) := by decide +kernel
theorem dX1_takeTurnedRight_35 : decode cX1_takeTurnedRight 35 = .ok (.iload 4, 2) := by decide +kernel
theorem dX1_takeTurnedRight_37 : decode cX1_takeTurnedRight 37 = .ok (.ishl, 1) := by decide +kernel
theorem dX1_takeTurnedRight_38 : decode cX1_takeTurnedRight 38 = .ok (.ior, 1) := by decide +kernel
theorem dX1_takeTurnedRight_39 : decode cX1_takeTurnedRight 39 = .ok (.istore_n 3, 1) := by decide +kernel
theorem dX1_takeTurnedRight_40 : decode cX1_takeTurnedRight 40 = .ok (.iinc 4 1, 3) := by decide +kernel
theorem dX1_takeTurnedRight_43 : decode cX1_takeTurnedRight 43 = .ok (.goto (-30), 3) := by decide +kernel
theorem dX1_takeTurnedRight_46 : decode cX1_takeTurnedRight 46 = .ok (.aload_n 0, 1) := by decide +kernel
theorem dX1_takeTurnedRight_47 : decode cX1_takeTurnedRight 47 = .ok (.getfield 9, 3) := by decide +kernel
theorem dX1_takeTurnedRight_50 : decode cX1_takeTurnedRight 50 = .ok (.iload_n 2, 1) := by decide +kernel
theorem dX1_takeTurnedRight_51 : decode cX1_takeTurnedRight 51 = .ok (.iload_n 3, 1) := by decide +kernel
theorem dX1_takeTurnedRight_52 : decode cX1_takeTurnedRight 52 = .ok (.iastore, 1) := by decide +kernel
theorem dX1_takeTurnedRight_53 : decode cX1_takeTurnedRight 53 = .ok (.iinc 2 1, 3) := by decide +kernel
theorem dX1_takeTurnedRight_56 : decode cX1_takeTurnedRight 56 = .ok (.goto (-54), 3) := by decide +kernel
theorem dX1_takeTurnedRight_59 : decode cX1_takeTurnedRight 59 = .ok (.return_, 1) := by decide +kernel
set_option maxRecDepth 20000 in
theorem ggX1_takeWidened_X1_neighboursInRow : GoodIn wsX1_takeWidened wsX1_neighboursInRow := goodIn_r _ [6, 7, 8, 9, 10, 5, 11, 1, 12] (by decide +kernel) (by decide +kernel)
set_option maxRecDepth 20000 in
theorem gX1_takeWidened_X1_neighboursInRow : GoodIn wsX1_takeWidened (wsV RX1 31 RX1 yX1_neighboursInRow wsX1_neighboursInRow) := goodIn_app (goodIn_of _ (by decide +kernel)) ggX1_takeWidened_X1_neighboursInRow
theorem dX1_takeWidened_0 : decode cX1_takeWidened 0 = .ok (.iconst 0, 1) := by decide +kernel
theorem dX1_takeWidened_1 : decode cX1_takeWidened 1 = .ok (.istore_n 2, 1) := by decide +kernel
theorem dX1_takeWidened_2 : decode cX1_takeWidened 2 = .ok (.iload_n 2, 1) := by decide +kernel
theorem dX1_takeWidened_3 : decode cX1_takeWidened 3 = .ok (.bipush 16, 2) := by decide +kernel
theorem dX1_takeWidened_5 : decode cX1_takeWidened 5 = .ok (.if_icmp .ge 27, 3) := by decide +kernel
theorem dX1_takeWidened_8 : decode cX1_takeWidened 8 = .ok (.aload_n 0, 1) := by decide +kernel
theorem dX1_takeWidened_9 : decode cX1_takeWidened 9 = .ok (.getfield 9, 3) := by decide +kernel
theorem dX1_takeWidened_12 : decode cX1_takeWidened 12 = .ok (.iload_n 2, 1) := by decide +kernel
theorem dX1_takeWidened_13 : decode cX1_takeWidened 13 = .ok (.aload_n 1, 1) := by decide +kernel
theorem dX1_takeWidened_14 : decode cX1_takeWidened 14 = .ok (.getfield 9, 3) := by decide +kernel
theorem dX1_takeWidened_17 : decode cX1_takeWidened 17 = .ok (.iload_n 2, 1) := by decide +kernel
theorem dX1_takeWidened_18 : decode cX1_takeWidened 18 = .ok (.iaload, 1) := by decide +kernel
theorem dX1_takeWidened_19 : decode cX1_takeWidened 19 = .ok (.aload_n 1, 1) := by decide +kernel
theorem dX1_takeWidened_20 : decode cX1_takeWidened 20 = .ok (.iload_n 2, 1) := by decide +kernel
theorem dX1_takeWidened_21 : decode cX1_takeWidened 21 = .ok (.invokevirtual 31, 3) := by decide +kernel
theorem dX1_takeWidened_24 : decode cX1_takeWidened 24 = .ok (.ior, 1) := by decide +kernel
theorem dX1_takeWidened_25 : decode cX1_takeWidened 25 = .ok (.iastore, 1) := by decide +kernel
theorem dX1_takeWidened_26 : decode cX1_takeWidened 26 = .ok (.iinc 2 1, 3) := by decide +kernel
theorem dX1_takeWidened_29 : decode cX1_takeWidened 29 = .ok (.goto (-27), 3) := by decide +kernel
theorem dX1_takeWidened_32 : decode cX1_takeWidened 32 = .ok (.return_, 1) := by decide +kernel
set_option maxRecDepth 20000 in
theorem ggX1_neighboursInRow_X1_row : GoodIn wsX1_neighboursInRow wsX1_row := goodIn_r _ [6, 7, 8] (by decide +kernel) (by decide +kernel)
set_option maxRecDepth 20000 in
theorem gX1_neighboursInRow_X1_row : GoodIn wsX1_neighboursInRow (wsV RX1 20 RX1 yX1_row wsX1_row) := goodIn_app (goodIn_of _ (by decide +kernel)) ggX1_neighboursInRow_X1_row
theorem dX1_neighboursInRow_0 : decode cX1_neighboursInRow 0 = .ok (.aload_n 0, 1) := by decide +kernel
theorem dX1_neighboursInRow_1 : decode cX1_neighboursInRow 1 = .ok (.iload_n 1, 1) := by decide +kernel
theorem dX1_neighboursInRow_2 : decode cX1_neighboursInRow 2 = .ok (.invokevirtual 20, 3) := by decide +kernel
theorem dX1_neighboursInRow_5 : decode cX1_neighboursInRow 5 = .ok (.iconst 1, 1) := by decide +kernel
theorem dX1_neighboursInRow_6 : decode cX1_neighboursInRow 6 = .ok (.ishl, 1) := by decide +kernel
theorem dX1_neighboursInRow_7 : decode cX1_neighboursInRow 7 = .ok (.aload_n 0, 1) := by decide +kernel
theorem dX1_neighboursInRow_8 : decode cX1_neighboursInRow 8 = .ok (.iload_n 1, 1) := by decide +kernel
theorem dX1_neighboursInRow_9 : decode cX1_neighboursInRow 9 = .ok (.invokevirtual 20, 3) := by decide +kernel
theorem dX1_neighboursInRow_12 : decode cX1_neighboursInRow 12 = .ok (.iconst 1, 1) := by decide +kernel
theorem dX1_neighboursInRow_13 : decode cX1_neighboursInRow 13 = .ok (.iushr, 1) := by decide +kernel
theorem dX1_neighboursInRow_14 : decode cX1_neighboursInRow 14 = .ok (.ior, 1) := by decide +kernel
theorem dX1_neighboursInRow_15 : decode cX1_neighboursInRow 15 = .ok (.aload_n 0, 1) := by decide +kernel
theorem dX1_neighboursInRow_16 : decode cX1_neighboursInRow 16 = .ok (.iload_n 1, 1) := by decide +kernel
theorem dX1_neighboursInRow_17 : decode cX1_neighboursInRow 17 = .ok (.iconst 1, 1) := by decide +kernel
theorem dX1_neighboursInRow_18 : decode cX1_neighboursInRow 18 = .ok (.isub, 1) := by decide +kernel
theorem dX1_neighboursInRow_19 : decode cX1_neighboursInRow 19 = .ok (.invokevirtual 20, 3) := by decide +kernel
theorem dX1_neighboursInRow_22 : decode cX1_neighboursInRow 22 = .ok (.ior, 1) := by decide +kernel
theorem dX1_neighboursInRow_23 : decode cX1_neighboursInRow 23 = .ok (.aload_n 0, 1) := by decide +kernel
theorem dX1_neighboursInRow_24 : decode cX1_neighboursInRow 24 = .ok (.iload_n 1, 1) := by decide +kernel
theorem dX1_neighboursInRow_25 : decode cX1_neighboursInRow 25 = .ok (.iconst 1, 1) := by decide +kernel
theorem dX1_neighboursInRow_26 : decode cX1_neighboursInRow 26 = .ok (.iadd, 1) := by decide +kernel
theorem dX1_neighboursInRow_27 : decode cX1_neighboursInRow 27 = .ok (.invokevirtual 20, 3) := by decide +kernel
theorem dX1_neighboursInRow_30 : decode cX1_neighboursInRow 30 = .ok (.ior, 1) := by decide +kernel
theorem dX1_neighboursInRow_31 : decode cX1_neighboursInRow 31 = .ok (.ldc 19, 2) := by decide +kernel
theorem dX1_neighboursInRow_33 : decode cX1_neighboursInRow 33 = .ok (.iand, 1) := by decide +kernel
theorem dX1_neighboursInRow_34 : decode cX1_neighboursInRow 34 = .ok (.ireturn, 1) := by decide +kernel
set_option maxRecDepth 20000 in
theorem ggX1_darkCells_J6_bitCount_0f7a4 : GoodIn wsX1_darkCells wsJ6_bitCount_0f7a4 := goodIn_r _ [5, 6, 7, 8] (by decide +kernel) (by decide +kernel)
set_option maxRecDepth 20000 in
theorem gX1_darkCells_J6_bitCount_0f7a4 : GoodIn wsX1_darkCells (va_wsS RX1 34 yJ6_bitCount_0f7a4 wsJ6_bitCount_0f7a4) := goodIn_app (goodIn_of _ (by decide +kernel)) ggX1_darkCells_J6_bitCount_0f7a4
theorem dX1_darkCells_0 : decode cX1_darkCells 0 = .ok (.iconst 0, 1) := by decide +kernel
theorem dX1_darkCells_1 : decode cX1_darkCells 1 = .ok (.istore_n 1, 1) := by decide +kernel
theorem dX1_darkCells_2 : decode cX1_darkCells 2 = .ok (.iconst 0, 1) := by decide +kernel
theorem dX1_darkCells_3 : decode cX1_darkCells 3 = .ok (.istore_n 2, 1) := by decide +kernel
theorem dX1_darkCells_4 : decode cX1_darkCells 4 = .ok (.iload_n 2, 1) := by decide +kernel
theorem dX1_darkCells_5 : decode cX1_darkCells 5 = .ok (.bipush 16, 2) := by decide +kernel
theorem dX1_darkCells_7 : decode cX1_darkCells 7 = .ok (.if_icmp .ge 21, 3) := by decide +kernel
theorem dX1_darkCells_10 : decode cX1_darkCells 10 = .ok (.iload_n 1, 1) := by decide +kernel
theorem dX1_darkCells_11 : decode cX1_darkCells 11 = .ok (.aload_n 0, 1) := by decide +kernel
theorem dX1_darkCells_12 : decode cX1_darkCells 12 = .ok (.getfield 9, 3) := by decide +kernel
theorem dX1_darkCells_15 : decode cX1_darkCells 15 = .ok (.iload_n 2, 1) := by decide +kernel
theorem dX1_darkCells_16 : decode cX1_darkCells 16 = .ok (.iaload, 1) := by decide +kernel
theorem dX1_darkCells_17 : decode cX1_darkCells 17 = .ok (.invokestatic 34, 3) := by decide +kernel
theorem dX1_darkCells_20 : decode cX1_darkCells 20 = .ok (.iadd, 1) := by decide +kernel
theorem dX1_darkCells_21 : decode cX1_darkCells 21 = .ok (.istore_n 1, 1) := by decide +kernel
theorem dX1_darkCells_22 : decode cX1_darkCells 22 = .ok (.iinc 2 1, 3) := by decide +kernel
theorem dX1_darkCells_25 : decode cX1_darkCells 25 = .ok (.goto (-21), 3) := by decide +kernel
theorem dX1_darkCells_28 : decode cX1_darkCells 28 = .ok (.iload_n 1, 1) := by decide +kernel
theorem dX1_darkCells_29 : decode cX1_darkCells 29 = .ok (.ireturn, 1) := by decide +kernel
set_option maxRecDepth 20000 in
theorem ggX1_darkCellsIn_J6_bitCount_0f7a4 : GoodIn wsX1_darkCellsIn wsJ6_bitCount_0f7a4 := goodIn_r _ [5, 6, 7, 8] (by decide +kernel) (by decide +kernel)
set_option maxRecDepth 20000 in
theorem gX1_darkCellsIn_J6_bitCount_0f7a4 : GoodIn wsX1_darkCellsIn (va_wsS RX1 34 yJ6_bitCount_0f7a4 wsJ6_bitCount_0f7a4) := goodIn_app (goodIn_of _ (by decide +kernel)) ggX1_darkCellsIn_J6_bitCount_0f7a4
theorem dX1_darkCellsIn_0 : decode cX1_darkCellsIn 0 = .ok (.iconst 0, 1) := by decide +kernel
theorem dX1_darkCellsIn_1 : decode cX1_darkCellsIn 1 = .ok (.istore_n 2, 1) := by decide +kernel
theorem dX1_darkCellsIn_2 : decode cX1_darkCellsIn 2 = .ok (.iconst 0, 1) := by decide +kernel
theorem dX1_darkCellsIn_3 : decode cX1_darkCellsIn 3 = .ok (.istore_n 3, 1) := by decide +kernel
theorem dX1_darkCellsIn_4 : decode cX1_darkCellsIn 4 = .ok (.iload_n 3, 1) := by decide +kernel
theorem dX1_darkCellsIn_5 : decode cX1_darkCellsIn 5 = .ok (.bipush 16, 2) := by decide +kernel
theorem dX1_darkCellsIn_7 : decode cX1_darkCellsIn 7 = .ok (.if_icmp .ge 28, 3) := by decide +kernel
theorem dX1_darkCellsIn_10 : decode cX1_darkCellsIn 10 = .ok (.iload_n 2, 1) := by decide +kernel
theorem dX1_darkCellsIn_11 : decode cX1_darkCellsIn 11 = .ok (.aload_n 0, 1) := by decide +kernel
theorem dX1_darkCellsIn_12 : decode cX1_darkCellsIn 12 = .ok (.getfield 9, 3) := by decide +kernel
theorem dX1_darkCellsIn_15 : decode cX1_darkCellsIn 15 = .ok (.iload_n 3, 1) := by decide +kernel
theorem dX1_darkCellsIn_16 : decode cX1_darkCellsIn 16 = .ok (.iaload, 1) := by decide +kernel
theorem dX1_darkCellsIn_17 : decode cX1_darkCellsIn 17 = .ok (.aload_n 1, 1) := by decide +kernel
theorem dX1_darkCellsIn_18 : decode cX1_darkCellsIn 18 = .ok (.getfield 9, 3) := by decide +kernel
theorem dX1_darkCellsIn_21 : decode cX1_darkCellsIn 21 = .ok (.iload_n 3, 1) := by decide +kernel
theorem dX1_darkCellsIn_22 : decode cX1_darkCellsIn 22 = .ok (.iaload, 1) := by decide +kernel
theorem dX1_darkCellsIn_23 : decode cX1_darkCellsIn 23 = .ok (.iand, 1) := by decide +kernel
theorem dX1_darkCellsIn_24 : decode cX1_darkCellsIn 24 = .ok (.invokestatic 34, 3) := by decide +kernel
theorem dX1_darkCellsIn_27 : decode cX1_darkCellsIn 27 = .ok (.iadd, 1) := by decide +kernel
theorem dX1_darkCellsIn_28 : decode cX1_darkCellsIn 28 = .ok (.istore_n 2, 1) := by decide +kernel
theorem dX1_darkCellsIn_29 : decode cX1_darkCellsIn 29 = .ok (.iinc 3 1, 3) := by decide +kernel
theorem dX1_darkCellsIn_32 : decode cX1_darkCellsIn 32 = .ok (.goto (-28), 3) := by decide +kernel
theorem dX1_darkCellsIn_35 : decode cX1_darkCellsIn 35 = .ok (.iload_n 2, 1) := by decide +kernel
theorem dX1_darkCellsIn_36 : decode cX1_darkCellsIn 36 = .ok (.ireturn, 1) := by decide +kernel
theorem dX1_sameAs_0 : decode cX1_sameAs 0 = .ok (.iconst 0, 1) := by decide +kernel
theorem dX1_sameAs_1 : decode cX1_sameAs 1 = .ok (.istore_n 2, 1) := by decide +kernel
theorem dX1_sameAs_2 : decode cX1_sameAs 2 = .ok (.iload_n 2, 1) := by decide +kernel
theorem dX1_sameAs_3 : decode cX1_sameAs 3 = .ok (.bipush 16, 2) := by decide +kernel
theorem dX1_sameAs_5 : decode cX1_sameAs 5 = .ok (.if_icmp .ge 26, 3) := by decide +kernel
theorem dX1_sameAs_8 : decode cX1_sameAs 8 = .ok (.aload_n 0, 1) := by decide +kernel
theorem dX1_sameAs_9 : decode cX1_sameAs 9 = .ok (.getfield 9, 3) := by decide +kernel
theorem dX1_sameAs_12 : decode cX1_sameAs 12 = .ok (.iload_n 2, 1) := by decide +kernel
theorem dX1_sameAs_13 : decode cX1_sameAs 13 = .ok (.iaload, 1) := by decide +kernel
theorem dX1_sameAs_14 : decode cX1_sameAs 14 = .ok (.aload_n 1, 1) := by decide +kernel
theorem dX1_sameAs_15 : decode cX1_sameAs 15 = .ok (.getfield 9, 3) := by decide +kernel
theorem dX1_sameAs_18 : decode cX1_sameAs 18 = .ok (.iload_n 2, 1) := by decide +kernel
theorem dX1_sameAs_19 : decode cX1_sameAs 19 = .ok (.iaload, 1) := by decide +kernel
theorem dX1_sameAs_20 : decode cX1_sameAs 20 = .ok (.if_icmp .eq 5, 3) := by decide +kernel
theorem dX1_sameAs_23 : decode cX1_sameAs 23 = .ok (.iconst 0, 1) := by decide +kernel
theorem dX1_sameAs_24 : decode cX1_sameAs 24 = .ok (.ireturn, 1) := by decide +kernel
theorem dX1_sameAs_25 : decode cX1_sameAs 25 = .ok (.iinc 2 1, 3) := by decide +kernel
theorem dX1_sameAs_28 : decode cX1_sameAs 28 = .ok (.goto (-26), 3) := by decide +kernel
theorem dX1_sameAs_31 : decode cX1_sameAs 31 = .ok (.iconst 1, 1) := by decide +kernel
theorem dX1_sameAs_32 : decode cX1_sameAs 32 = .ok (.ireturn, 1) := by decide +kernel
set_option maxRecDepth 20000 in
theorem ggX1_touches_X1_neighboursInRow : GoodIn wsX1_touches wsX1_neighboursInRow := goodIn_r _ [6, 7, 8, 9, 10, 5, 11, 1, 12] (by decide +kernel) (by decide +kernel)
set_option maxRecDepth 20000 in
theorem gX1_touches_X1_neighboursInRow : GoodIn wsX1_touches (wsV RX1 31 RX1 yX1_neighboursInRow wsX1_neighboursInRow) := goodIn_app (goodIn_of _ (by decide +kernel)) ggX1_touches_X1_neighboursInRow
theorem dX1_touches_0 : decode cX1_touches 0 = .ok (.iconst 0, 1) := by decide +kernel
theorem dX1_touches_1 : decode cX1_touches 1 = .ok (.istore_n 2, 1) := by decide +kernel
theorem dX1_touches_2 : decode cX1_touches 2 = .ok (.iload_n 2, 1) := by decide +kernel
theorem dX1_touches_3 : decode cX1_touches 3 = .ok (.bipush 16, 2) := by decide +kernel
theorem dX1_touches_5 : decode cX1_touches 5 = .ok (.if_icmp .ge 26, 3) := by decide +kernel
theorem dX1_touches_8 : decode cX1_touches 8 = .ok (.aload_n 0, 1) := by decide +kernel
theorem dX1_touches_9 : decode cX1_touches 9 = .ok (.getfield 9, 3) := by decide +kernel
theorem dX1_touches_12 : decode cX1_touches 12 = .ok (.iload_n 2, 1) := by decide +kernel
theorem dX1_touches_13 : decode cX1_touches 13 = .ok (.iaload, 1) := by decide +kernel
theorem dX1_touches_14 : decode cX1_touches 14 = .ok (.aload_n 1, 1) := by decide +kernel
theorem dX1_touches_15 : decode cX1_touches 15 = .ok (.iload_n 2, 1) := by decide +kernel
theorem dX1_touches_16 : decode cX1_touches 16 = .ok (.invokevirtual 31, 3) := by decide +kernel
theorem dX1_touches_19 : decode cX1_touches 19 = .ok (.iand, 1) := by decide +kernel
theorem dX1_touches_20 : decode cX1_touches 20 = .ok (.ifCond .eq 5, 3) := by decide +kernel
theorem dX1_touches_23 : decode cX1_touches 23 = .ok (.iconst 1, 1) := by decide +kernel
theorem dX1_touches_24 : decode cX1_touches 24 = .ok (.ireturn, 1) := by decide +kernel
theorem dX1_touches_25 : decode cX1_touches 25 = .ok (.iinc 2 1, 3) := by decide +kernel
theorem dX1_touches_28 : decode cX1_touches 28 = .ok (.goto (-26), 3) := by decide +kernel
theorem dX1_touches_31 : decode cX1_touches 31 = .ok (.iconst 0, 1) := by decide +kernel
theorem dX1_touches_32 : decode cX1_touches 32 = .ok (.ireturn, 1) := by decide +kernel
set_option maxRecDepth 20000 in
theorem ggX1_border_J6_bitCount_0f7a4 : GoodIn wsX1_border wsJ6_bitCount_0f7a4 := goodIn_r _ [5, 6, 7, 8] (by decide +kernel) (by decide +kernel)
set_option maxRecDepth 20000 in
theorem gX1_border_J6_bitCount_0f7a4 : GoodIn wsX1_border (va_wsS RX1 34 yJ6_bitCount_0f7a4 wsJ6_bitCount_0f7a4) := goodIn_app (goodIn_of _ (by decide +kernel)) ggX1_border_J6_bitCount_0f7a4
set_option maxRecDepth 20000 in
theorem ggX1_border_X1_row : GoodIn wsX1_border wsX1_row := goodIn_r _ [13, 1, 18] (by decide +kernel) (by decide +kernel)
set_option maxRecDepth 20000 in
theorem gX1_border_X1_row : GoodIn wsX1_border (wsV RX1 20 RX1 yX1_row wsX1_row) := goodIn_app (goodIn_of _ (by decide +kernel)) ggX1_border_X1_row
set_option maxRecDepth 20000 in
theorem ggX1_border_X1_darkCells : GoodIn wsX1_border wsX1_darkCells := goodIn_r _ [17, 1, 2, 3, 4, 5, 6, 7, 8, 18] (by decide +kernel) (by decide +kernel)
set_option maxRecDepth 20000 in
theorem gX1_border_X1_darkCells : GoodIn wsX1_border (wsV RX1 39 RX1 yX1_darkCells wsX1_darkCells) := goodIn_app (goodIn_of _ (by decide +kernel)) ggX1_border_X1_darkCells
theorem dX1_border_0 : decode cX1_border 0 = .ok (.iconst 0, 1) := by decide +kernel
theorem dX1_border_1 : decode cX1_border 1 = .ok (.istore_n 1, 1) := by decide +kernel
theorem dX1_border_2 : decode cX1_border 2 = .ok (.iconst 0, 1) := by decide +kernel
theorem dX1_border_3 : decode cX1_border 3 = .ok (.istore_n 2, 1) := by decide +kernel
theorem dX1_border_4 : decode cX1_border 4 = .ok (.iload_n 2, 1) := by decide +kernel
theorem dX1_border_5 : decode cX1_border 5 = .ok (.bipush 16, 2) := by decide +kernel
theorem dX1_border_7 : decode cX1_border 7 = .ok (.if_icmp .ge 50, 3) := by decide +kernel
theorem dX1_border_10 : decode cX1_border 10 = .ok (.iload_n 1, 1) := by decide +kernel
theorem dX1_border_11 : decode cX1_border 11 = .ok (.aload_n 0, 1) := by decide +kernel
theorem dX1_border_12 : decode cX1_border 12 = .ok (.getfield 9, 3) := by decide +kernel
theorem dX1_border_15 : decode cX1_border 15 = .ok (.iload_n 2, 1) := by decide +kernel
theorem dX1_border_16 : decode cX1_border 16 = .ok (.iaload, 1) := by decide +kernel
theorem dX1_border_17 : decode cX1_border 17 = .ok (.aload_n 0, 1) := by decide +kernel
theorem dX1_border_18 : decode cX1_border 18 = .ok (.getfield 9, 3) := by decide +kernel
theorem dX1_border_21 : decode cX1_border 21 = .ok (.iload_n 2, 1) := by decide +kernel
theorem dX1_border_22 : decode cX1_border 22 = .ok (.iaload, 1) := by decide +kernel
theorem dX1_border_23 : decode cX1_border 23 = .ok (.iconst 1, 1) := by decide +kernel
theorem dX1_border_24 : decode cX1_border 24 = .ok (.ishl, 1) := by decide +kernel
theorem dX1_border_25 : decode cX1_border 25 = .ok (.iand, 1) := by decide +kernel
theorem dX1_border_26 : decode cX1_border 26 = .ok (.invokestatic 34, 3) := by decide +kernel
theorem dX1_border_29 : decode cX1_border 29 = .ok (.iadd, 1) := by decide +kernel
theorem dX1_border_30 : decode cX1_border 30 = .ok (.istore_n 1, 1) := by decide +kernel
theorem dX1_border_31 : decode cX1_border 31 = .ok (.iload_n 1, 1) := by decide +kernel
theorem dX1_border_32 : decode cX1_border 32 = .ok (.aload_n 0, 1) := by decide +kernel
theorem dX1_border_33 : decode cX1_border 33 = .ok (.getfield 9, 3) := by decide +kernel
theorem dX1_border_36 : decode cX1_border 36 = .ok (.iload_n 2, 1) := by decide +kernel
theorem dX1_border_37 : decode cX1_border 37 = .ok (.iaload, 1) := by decide +kernel
theorem dX1_border_38 : decode cX1_border 38 = .ok (.aload_n 0, 1) := by decide +kernel
theorem dX1_border_39 : decode cX1_border 39 = .ok (.iload_n 2, 1) := by decide +kernel
theorem dX1_border_40 : decode cX1_border 40 = .ok (.iconst 1, 1) := by decide +kernel
theorem dX1_border_41 : decode cX1_border 41 = .ok (.iadd, 1) := by decide +kernel
theorem dX1_border_42 : decode cX1_border 42 = .ok (.invokevirtual 20, 3) := by decide +kernel
theorem dX1_border_45 : decode cX1_border 45 = .ok (.iand, 1) := by decide +kernel
theorem dX1_border_46 : decode cX1_border 46 = .ok (.invokestatic 34, 3) := by decide +kernel
theorem dX1_border_49 : decode cX1_border 49 = .ok (.iadd, 1) := by decide +kernel
theorem dX1_border_50 : decode cX1_border 50 = .ok (.istore_n 1, 1) := by decide +kernel
theorem dX1_border_51 : decode cX1_border 51 = .ok (.iinc 2 1, 3) := by decide +kernel
theorem dX1_border_54 : decode cX1_border 54 = .ok (.goto (-50), 3) := by decide +kernel
theorem dX1_border_57 : decode cX1_border 57 = .ok (.iconst 4, 1) := by decide +kernel
theorem dX1_border_58 : decode cX1_border 58 = .ok (.aload_n 0, 1) := by decide +kernel
theorem dX1_border_59 : decode cX1_border 59 = .ok (.invokevirtual 39, 3) := by decide +kernel
theorem dX1_border_62 : decode cX1_border 62 = .ok (.imul, 1) := by decide +kernel
theorem dX1_border_63 : decode cX1_border 63 = .ok (.iconst 2, 1) := by decide +kernel
theorem dX1_border_64 : decode cX1_border 64 = .ok (.iload_n 1, 1) := by decide +kernel
theorem dX1_border_65 : decode cX1_border 65 = .ok (.imul, 1) := by decide +kernel
theorem dX1_border_66 : decode cX1_border 66 = .ok (.isub, 1) := by decide +kernel
theorem dX1_border_67 : decode cX1_border 67 = .ok (.ireturn, 1) := by decide +kernel
set_option maxRecDepth 20000 in
theorem ggX1_signOfSquare_X1_row : GoodIn wsX1_signOfSquare wsX1_row := goodIn_r _ [5, 6, 7] (by decide +kernel) (by decide +kernel)
set_option maxRecDepth 20000 in
theorem gX1_signOfSquare_X1_row : GoodIn wsX1_signOfSquare (wsV RX1 20 RX1 yX1_row wsX1_row) := goodIn_app (goodIn_of _ (by decide +kernel)) ggX1_signOfSquare_X1_row
theorem dX1_signOfSquare_0 : decode cX1_signOfSquare 0 = .ok (.iconst 1, 1) := by decide +kernel
theorem dX1_signOfSquare_1 : decode cX1_signOfSquare 1 = .ok (.iload_n 3, 1) := by decide +kernel
theorem dX1_signOfSquare_2 : decode cX1_signOfSquare 2 = .ok (.ishl, 1) := by decide +kernel
theorem dX1_signOfSquare_3 : decode cX1_signOfSquare 3 = .ok (.iconst 1, 1) := by decide +kernel
theorem dX1_signOfSquare_4 : decode cX1_signOfSquare 4 = .ok (.isub, 1) := by decide +kernel
theorem dX1_signOfSquare_5 : decode cX1_signOfSquare 5 = .ok (.iload_n 1, 1) := by decide +kernel
theorem dX1_signOfSquare_6 : decode cX1_signOfSquare 6 = .ok (.ishl, 1) := by decide +kernel
theorem dX1_signOfSquare_7 : decode cX1_signOfSquare 7 = .ok (.istore 4, 2) := by decide +kernel
theorem dX1_signOfSquare_9 : decode cX1_signOfSquare 9 = .ok (.aload_n 0, 1) := by decide +kernel
theorem dX1_signOfSquare_10 : decode cX1_signOfSquare 10 = .ok (.iload_n 2, 1) := by decide +kernel
theorem dX1_signOfSquare_11 : decode cX1_signOfSquare 11 = .ok (.invokevirtual 20, 3) := by decide +kernel
theorem dX1_signOfSquare_14 : decode cX1_signOfSquare 14 = .ok (.iload 4, 2) := by decide +kernel
theorem dX1_signOfSquare_16 : decode cX1_signOfSquare 16 = .ok (.iand, 1) := by decide +kernel
theorem dX1_signOfSquare_17 : decode cX1_signOfSquare 17 = .ok (.istore 5, 2) := by decide +kernel
theorem dX1_signOfSquare_19 : decode cX1_signOfSquare 19 = .ok (.iload 5, 2) := by decide +kernel
theorem dX1_signOfSquare_21 : decode cX1_signOfSquare 21 = .ok (.ifCond .eq 12, 3) := by decide +kernel
theorem dX1_signOfSquare_24 : decode cX1_signOfSquare 24 = .ok (.iload 5, 2) := by decide +kernel
theorem dX1_signOfSquare_26 : decode cX1_signOfSquare 26 = .ok (.iload 4, 2) := by decide +kernel
theorem dX1_signOfSquare_28 : decode cX1_signOfSquare 28 = .ok (.if_icmp .eq 5, 3) := by decide +kernel
theorem dX1_signOfSquare_31 : decode cX1_signOfSquare 31 = .ok (.iconst 2, 1) := by decide +kernel
theorem dX1_signOfSquare_32 : decode cX1_signOfSquare 32 = .ok (.ireturn, 1) := by decide +kernel
theorem dX1_signOfSquare_33 : decode cX1_signOfSquare 33 = .ok (.iload_n 2, 1) := by decide +kernel
theorem dX1_signOfSquare_34 : decode cX1_signOfSquare 34 = .ok (.iconst 1, 1) := by decide +kernel
theorem dX1_signOfSquare_35 : decode cX1_signOfSquare 35 = .ok (.iadd, 1) := by decide +kernel
theorem dX1_signOfSquare_36 : decode cX1_signOfSquare 36 = .ok (.istore 6, 2) := by decide +kernel
theorem dX1_signOfSquare_38 : decode cX1_signOfSquare 38 = .ok (.iload 6, 2) := by decide +kernel
theorem dX1_signOfSquare_40 : decode cX1_signOfSquare 40 = .ok (.iload_n 2, 1) := by decide +kernel
theorem dX1_signOfSquare_41 : decode cX1_signOfSquare 41 = .ok (.iload_n 3, 1) := by decide +kernel
theorem dX1_signOfSquare_42 : decode cX1_signOfSquare 42 = .ok (.iadd, 1) := by decide +kernel
theorem dX1_signOfSquare_43 : decode cX1_signOfSquare 43 = .ok (.if_icmp .ge 32, 3) := by decide +kernel
theorem dX1_signOfSquare_46 : decode cX1_signOfSquare 46 = .ok (.iload 6, 2) := by decide +kernel
theorem dX1_signOfSquare_48 : decode cX1_signOfSquare 48 = .ok (.bipush 16, 2) := by decide +kernel
theorem dX1_signOfSquare_50 : decode cX1_signOfSquare 50 = .ok (.if_icmp .ge 25, 3) := by decide +kernel
theorem dX1_signOfSquare_53 : decode cX1_signOfSquare 53 = .ok (.aload_n 0, 1) := by decide +kernel
theorem dX1_signOfSquare_54 : decode cX1_signOfSquare 54 = .ok (.iload 6, 2) := by decide +kernel
theorem dX1_signOfSquare_56 : decode cX1_signOfSquare 56 = .ok (.invokevirtual 20, 3) := by decide +kernel
theorem dX1_signOfSquare_59 : decode cX1_signOfSquare 59 = .ok (.iload 4, 2) := by decide +kernel
theorem dX1_signOfSquare_61 : decode cX1_signOfSquare 61 = .ok (.iand, 1) := by decide +kernel
theorem dX1_signOfSquare_62 : decode cX1_signOfSquare 62 = .ok (.iload 5, 2) := by decide +kernel
theorem dX1_signOfSquare_64 : decode cX1_signOfSquare 64 = .ok (.if_icmp .eq 5, 3) := by decide +kernel
theorem dX1_signOfSquare_67 : decode cX1_signOfSquare 67 = .ok (.iconst 2, 1) := by decide +kernel
theorem dX1_signOfSquare_68 : decode cX1_signOfSquare 68 = .ok (.ireturn, 1) := by decide +kernel
theorem dX1_signOfSquare_69 : decode cX1_signOfSquare 69 = .ok (.iinc 6 1, 3) := by decide +kernel
theorem dX1_signOfSquare_72 : decode cX1_signOfSquare 72 = .ok (.goto (-34), 3) := by decide +kernel
theorem dX1_signOfSquare_75 : decode cX1_signOfSquare 75 = .ok (.iload 5, 2) := by decide +kernel
theorem dX1_signOfSquare_77 : decode cX1_signOfSquare 77 = .ok (.ifCond .ne 7, 3) := by decide +kernel
theorem dX1_signOfSquare_80 : decode cX1_signOfSquare 80 = .ok (.iconst 0, 1) := by decide +kernel
theorem dX1_signOfSquare_81 : decode cX1_signOfSquare 81 = .ok (.goto 4, 3) := by decide +kernel
theorem dX1_signOfSquare_84 : decode cX1_signOfSquare 84 = .ok (.iconst 1, 1) := by decide +kernel
theorem dX1_signOfSquare_85 : decode cX1_signOfSquare 85 = .ok (.ireturn, 1) := by decide +kernel
set_option maxRecDepth 20000 in
theorem ggX1_sideOfBlock_X1_signOfSquare : GoodIn wsX1_sideOfBlock wsX1_signOfSquare := goodIn_r _ [5, 6, 7, 8, 4, 9, 10, 11] (by decide +kernel) (by decide +kernel)
set_option maxRecDepth 20000 in
theorem gX1_sideOfBlock_X1_signOfSquare : GoodIn wsX1_sideOfBlock (wsV RX1 43 RX1 yX1_signOfSquare wsX1_signOfSquare) := goodIn_app (goodIn_of _ (by decide +kernel)) ggX1_sideOfBlock_X1_signOfSquare
theorem dX1_sideOfBlock_0 : decode cX1_sideOfBlock 0 = .ok (.bipush 16, 2) := by decide +kernel
theorem dX1_sideOfBlock_2 : decode cX1_sideOfBlock 2 = .ok (.istore_n 3, 1) := by decide +kernel
theorem dX1_sideOfBlock_3 : decode cX1_sideOfBlock 3 = .ok (.iload_n 3, 1) := by decide +kernel
theorem dX1_sideOfBlock_4 : decode cX1_sideOfBlock 4 = .ok (.iconst 1, 1) := by decide +kernel
theorem dX1_sideOfBlock_5 : decode cX1_sideOfBlock 5 = .ok (.if_icmp .le 29, 3) := by decide +kernel
theorem dX1_sideOfBlock_8 : decode cX1_sideOfBlock 8 = .ok (.aload_n 0, 1) := by decide +kernel
theorem dX1_sideOfBlock_9 : decode cX1_sideOfBlock 9 = .ok (.iload_n 1, 1) := by decide +kernel
theorem dX1_sideOfBlock_10 : decode cX1_sideOfBlock 10 = .ok (.iload_n 3, 1) := by decide +kernel
theorem dX1_sideOfBlock_11 : decode cX1_sideOfBlock 11 = .ok (.ineg, 1) := by decide +kernel
theorem dX1_sideOfBlock_12 : decode cX1_sideOfBlock 12 = .ok (.iand, 1) := by decide +kernel
theorem dX1_sideOfBlock_13 : decode cX1_sideOfBlock 13 = .ok (.iload_n 2, 1) := by decide +kernel
theorem dX1_sideOfBlock_14 : decode cX1_sideOfBlock 14 = .ok (.iload_n 3, 1) := by decide +kernel
theorem dX1_sideOfBlock_15 : decode cX1_sideOfBlock 15 = .ok (.ineg, 1) := by decide +kernel
theorem dX1_sideOfBlock_16 : decode cX1_sideOfBlock 16 = .ok (.iand, 1) := by decide +kernel
theorem dX1_sideOfBlock_17 : decode cX1_sideOfBlock 17 = .ok (.iload_n 3, 1) := by decide +kernel
theorem dX1_sideOfBlock_18 : decode cX1_sideOfBlock 18 = .ok (.invokevirtual 43, 3) := by decide +kernel
theorem dX1_sideOfBlock_21 : decode cX1_sideOfBlock 21 = .ok (.iconst 2, 1) := by decide +kernel
theorem dX1_sideOfBlock_22 : decode cX1_sideOfBlock 22 = .ok (.if_icmp .eq 5, 3) := by decide +kernel
theorem dX1_sideOfBlock_25 : decode cX1_sideOfBlock 25 = .ok (.iload_n 3, 1) := by decide +kernel
theorem dX1_sideOfBlock_26 : decode cX1_sideOfBlock 26 = .ok (.ireturn, 1) := by decide +kernel
theorem dX1_sideOfBlock_27 : decode cX1_sideOfBlock 27 = .ok (.iload_n 3, 1) := by decide +kernel
theorem dX1_sideOfBlock_28 : decode cX1_sideOfBlock 28 = .ok (.iconst 2, 1) := by decide +kernel
theorem dX1_sideOfBlock_29 : decode cX1_sideOfBlock 29 = .ok (.idiv, 1) := by decide +kernel
theorem dX1_sideOfBlock_30 : decode cX1_sideOfBlock 30 = .ok (.istore_n 3, 1) := by decide +kernel
theorem dX1_sideOfBlock_31 : decode cX1_sideOfBlock 31 = .ok (.goto (-28), 3) := by decide +kernel
theorem dX1_sideOfBlock_34 : decode cX1_sideOfBlock 34 = .ok (.iconst 1, 1) := by decide +kernel
theorem dX1_sideOfBlock_35 : decode cX1_sideOfBlock 35 = .ok (.ireturn, 1) := by decide +kernel
set_option maxRecDepth 20000 in
theorem ggX1_distanceFrom_X1_gapInRow : GoodIn wsX1_distanceFrom wsX1_gapInRow := goodIn_r _ [9] (by decide +kernel) (by decide +kernel)
set_option maxRecDepth 20000 in
theorem gX1_distanceFrom_X1_gapInRow : GoodIn wsX1_distanceFrom (va_wsS RX1 47 yX1_gapInRow wsX1_gapInRow) := goodIn_app (goodIn_of _ (by decide +kernel)) ggX1_distanceFrom_X1_gapInRow
theorem dX1_distanceFrom_0 : decode cX1_distanceFrom 0 = .ok (.iconst (-1), 1) := by decide +kernel
theorem dX1_distanceFrom_1 : decode cX1_distanceFrom 1 = .ok (.istore_n 3, 1) := by decide +kernel
theorem dX1_distanceFrom_2 : decode cX1_distanceFrom 2 = .ok (.iconst 0, 1) := by decide +kernel
theorem dX1_distanceFrom_3 : decode cX1_distanceFrom 3 = .ok (.istore 4, 2) := by decide +kernel
theorem dX1_distanceFrom_5 : decode cX1_distanceFrom 5 = .ok (.iload 4, 2) := by decide +kernel
theorem dX1_distanceFrom_7 : decode cX1_distanceFrom 7 = .ok (.bipush 16, 2) := by decide +kernel
theorem dX1_distanceFrom_9 : decode cX1_distanceFrom 9 = .ok (.if_icmp .ge 54, 3) := by decide +kernel
theorem dX1_distanceFrom_12 : decode cX1_distanceFrom 12 = .ok (.aload_n 0, 1) := by decide +kernel
theorem dX1_distanceFrom_13 : decode cX1_distanceFrom 13 = .ok (.getfield 9, 3) := by decide +kernel
theorem dX1_distanceFrom_16 : decode cX1_distanceFrom 16 = .ok (.iload 4, 2) := by decide +kernel
theorem dX1_distanceFrom_18 : decode cX1_distanceFrom 18 = .ok (.iaload, 1) := by decide +kernel
theorem dX1_distanceFrom_19 : decode cX1_distanceFrom 19 = .ok (.iload_n 1, 1) := by decide +kernel
theorem dX1_distanceFrom_20 : decode cX1_distanceFrom 20 = .ok (.invokestatic 47, 3) := by decide +kernel
theorem dX1_distanceFrom_23 : decode cX1_distanceFrom 23 = .ok (.istore 5, 2) := by decide +kernel
theorem dX1_distanceFrom_25 : decode cX1_distanceFrom 25 = .ok (.iload 5, 2) := by decide +kernel
theorem dX1_distanceFrom_27 : decode cX1_distanceFrom 27 = .ok (.iload 4, 2) := by decide +kernel
theorem dX1_distanceFrom_29 : decode cX1_distanceFrom 29 = .ok (.iload_n 2, 1) := by decide +kernel
theorem dX1_distanceFrom_30 : decode cX1_distanceFrom 30 = .ok (.isub, 1) := by decide +kernel
theorem dX1_distanceFrom_31 : decode cX1_distanceFrom 31 = .ok (.invokestatic 51, 3) := by decide +kernel
theorem dX1_distanceFrom_34 : decode cX1_distanceFrom 34 = .ok (.iadd, 1) := by decide +kernel
theorem dX1_distanceFrom_35 : decode cX1_distanceFrom 35 = .ok (.istore 6, 2) := by decide +kernel
theorem dX1_distanceFrom_37 : decode cX1_distanceFrom 37 = .ok (.iload 5, 2) := by decide +kernel
theorem dX1_distanceFrom_39 : decode cX1_distanceFrom 39 = .ok (.iconst (-1), 1) := by decide +kernel
theorem dX1_distanceFrom_40 : decode cX1_distanceFrom 40 = .ok (.if_icmp .eq 17, 3) := by decide +kernel
theorem dX1_distanceFrom_43 : decode cX1_distanceFrom 43 = .ok (.iload_n 3, 1) := by decide +kernel
theorem dX1_distanceFrom_44 : decode cX1_distanceFrom 44 = .ok (.iconst (-1), 1) := by decide +kernel
theorem dX1_distanceFrom_45 : decode cX1_distanceFrom 45 = .ok (.if_icmp .eq 9, 3) := by decide +kernel
theorem dX1_distanceFrom_48 : decode cX1_distanceFrom 48 = .ok (.iload 6, 2) := by decide +kernel
theorem dX1_distanceFrom_50 : decode cX1_distanceFrom 50 = .ok (.iload_n 3, 1) := by decide +kernel
theorem dX1_distanceFrom_51 : decode cX1_distanceFrom 51 = .ok (.if_icmp .ge 6, 3) := by decide +kernel
theorem dX1_distanceFrom_54 : decode cX1_distanceFrom 54 = .ok (.iload 6, 2) := by decide +kernel
theorem dX1_distanceFrom_56 : decode cX1_distanceFrom 56 = .ok (.istore_n 3, 1) := by decide +kernel
theorem dX1_distanceFrom_57 : decode cX1_distanceFrom 57 = .ok (.iinc 4 1, 3) := by decide +kernel
theorem dX1_distanceFrom_60 : decode cX1_distanceFrom 60 = .ok (.goto (-55), 3) := by decide +kernel
theorem dX1_distanceFrom_63 : decode cX1_distanceFrom 63 = .ok (.iload_n 3, 1) := by decide +kernel
theorem dX1_distanceFrom_64 : decode cX1_distanceFrom 64 = .ok (.ireturn, 1) := by decide +kernel
theorem dX1_gapInRow_0 : decode cX1_gapInRow 0 = .ok (.iconst 1, 1) := by decide +kernel
theorem dX1_gapInRow_1 : decode cX1_gapInRow 1 = .ok (.iload_n 1, 1) := by decide +kernel
theorem dX1_gapInRow_2 : decode cX1_gapInRow 2 = .ok (.ishl, 1) := by decide +kernel
theorem dX1_gapInRow_3 : decode cX1_gapInRow 3 = .ok (.istore_n 2, 1) := by decide +kernel
theorem dX1_gapInRow_4 : decode cX1_gapInRow 4 = .ok (.iconst 0, 1) := by decide +kernel
theorem dX1_gapInRow_5 : decode cX1_gapInRow 5 = .ok (.istore_n 3, 1) := by decide +kernel
theorem dX1_gapInRow_6 : decode cX1_gapInRow 6 = .ok (.iload_n 3, 1) := by decide +kernel
theorem dX1_gapInRow_7 : decode cX1_gapInRow 7 = .ok (.bipush 16, 2) := by decide +kernel
theorem dX1_gapInRow_9 : decode cX1_gapInRow 9 = .ok (.if_icmp .ge 31, 3) := by decide +kernel
theorem dX1_gapInRow_12 : decode cX1_gapInRow 12 = .ok (.iload_n 0, 1) := by decide +kernel
theorem dX1_gapInRow_13 : decode cX1_gapInRow 13 = .ok (.ifCond .eq 27, 3) := by decide +kernel
theorem dX1_gapInRow_16 : decode cX1_gapInRow 16 = .ok (.iload_n 0, 1) := by decide +kernel
theorem dX1_gapInRow_17 : decode cX1_gapInRow 17 = .ok (.iload_n 2, 1) := by decide +kernel
theorem dX1_gapInRow_18 : decode cX1_gapInRow 18 = .ok (.iand, 1) := by decide +kernel
theorem dX1_gapInRow_19 : decode cX1_gapInRow 19 = .ok (.ifCond .eq 5, 3) := by decide +kernel
theorem dX1_gapInRow_22 : decode cX1_gapInRow 22 = .ok (.iload_n 3, 1) := by decide +kernel
theorem dX1_gapInRow_23 : decode cX1_gapInRow 23 = .ok (.ireturn, 1) := by decide +kernel
theorem dX1_gapInRow_24 : decode cX1_gapInRow 24 = .ok (.iload_n 2, 1) := by decide +kernel
theorem dX1_gapInRow_25 : decode cX1_gapInRow 25 = .ok (.iload_n 2, 1) := by decide +kernel
theorem dX1_gapInRow_26 : decode cX1_gapInRow 26 = .ok (.iconst 1, 1) := by decide +kernel
theorem dX1_gapInRow_27 : decode cX1_gapInRow 27 = .ok (.ishl, 1) := by decide +kernel
theorem dX1_gapInRow_28 : decode cX1_gapInRow 28 = .ok (.iload_n 2, 1) := by decide +kernel
theorem dX1_gapInRow_29 : decode cX1_gapInRow 29 = .ok (.iconst 1, 1) := by decide +kernel
theorem dX1_gapInRow_30 : decode cX1_gapInRow 30 = .ok (.iushr, 1) := by decide +kernel
theorem dX1_gapInRow_31 : decode cX1_gapInRow 31 = .ok (.ior, 1) := by decide +kernel
theorem dX1_gapInRow_32 : decode cX1_gapInRow 32 = .ok (.ior, 1) := by decide +kernel
theorem dX1_gapInRow_33 : decode cX1_gapInRow 33 = .ok (.istore_n 2, 1) := by decide +kernel
theorem dX1_gapInRow_34 : decode cX1_gapInRow 34 = .ok (.iinc 3 1, 3) := by decide +kernel
theorem dX1_gapInRow_37 : decode cX1_gapInRow 37 = .ok (.goto (-31), 3) := by decide +kernel
theorem dX1_gapInRow_40 : decode cX1_gapInRow 40 = .ok (.iconst (-1), 1) := by decide +kernel
theorem dX1_gapInRow_41 : decode cX1_gapInRow 41 = .ok (.ireturn, 1) := by decide +kernel
set_option maxRecDepth 20000 in
theorem ggX2_init_X1_init : GoodIn wsX2_init wsX1_init := goodIn_r _ [14, 15, 2, 3, 8, 16, 21] (by decide +kernel) (by decide +kernel)
set_option maxRecDepth 20000 in
theorem gX2_init_X1_init_n11 : GoodIn wsX2_init (wsX1_init) := ggX2_init_X1_init
set_option maxRecDepth 20000 in
theorem ggX2_init_J7_fill_53178 : GoodIn wsX2_init wsJ7_fill_53178 := goodIn_r _ [20] (by decide +kernel) (by decide +kernel)
set_option maxRecDepth 20000 in
theorem gX2_init_J7_fill_53178 : GoodIn wsX2_init (va_wsS RX2 32 yJ7_fill_53178 wsJ7_fill_53178) := goodIn_app (goodIn_of _ (by decide +kernel)) ggX2_init_J7_fill_53178
theorem dX2_init_0 : decode cX2_init 0 = .ok (.aload_n 0, 1) := by decide +kernel
theorem dX2_init_1 : decode cX2_init 1 = .ok (.invokespecial 3, 3) := by decide +kernel
theorem dX2_init_4 : decode cX2_init 4 = .ok (.aload_n 0, 1) := by decide +kernel
theorem dX2_init_5 : decode cX2_init 5 = .ok (.new 9, 3) := by decide +kernel
theorem dX2_init_8 : decode cX2_init 8 = .ok (.dup, 1) := by decide +kernel
theorem dX2_init_9 : decode cX2_init 9 = .ok (.invokespecial 11, 3) := by decide +kernel
theorem dX2_init_12 : decode cX2_init 12 = .ok (.putfield 12, 3) := by decide +kernel
theorem dX2_init_15 : decode cX2_init 15 = .ok (.aload_n 0, 1) := by decide +kernel
theorem dX2_init_16 : decode cX2_init 16 = .ok (.sipush 256, 3) := by decide +kernel
theorem dX2_init_19 : decode cX2_init 19 = .ok (.newarray .int, 2) := by decide +kernel
theorem dX2_init_21 : decode cX2_init 21 = .ok (.putfield 18, 3) := by decide +kernel
theorem dX2_init_24 : decode cX2_init 24 = .ok (.aload_n 0, 1) := by decide +kernel
theorem dX2_init_25 : decode cX2_init 25 = .ok (.sipush 256, 3) := by decide +kernel
theorem dX2_init_28 : decode cX2_init 28 = .ok (.newarray .int, 2) := by decide +kernel
theorem dX2_init_30 : decode cX2_init 30 = .ok (.putfield 22, 3) := by decide +kernel
theorem dX2_init_33 : decode cX2_init 33 = .ok (.aload_n 0, 1) := by decide +kernel
theorem dX2_init_34 : decode cX2_init 34 = .ok (.sipush 768, 3) := by decide +kernel
theorem dX2_init_37 : decode cX2_init 37 = .ok (.newarray .int, 2) := by decide +kernel
theorem dX2_init_39 : decode cX2_init 39 = .ok (.putfield 25, 3) := by decide +kernel
theorem dX2_init_42 : decode cX2_init 42 = .ok (.aload_n 0, 1) := by decide +kernel
theorem dX2_init_43 : decode cX2_init 43 = .ok (.iconst 0, 1) := by decide +kernel
theorem dX2_init_44 : decode cX2_init 44 = .ok (.putfield 28, 3) := by decide +kernel
theorem dX2_init_47 : decode cX2_init 47 = .ok (.aload_n 0, 1) := by decide +kernel
theorem dX2_init_48 : decode cX2_init 48 = .ok (.getfield 18, 3) := by decide +kernel
theorem dX2_init_51 : decode cX2_init 51 = .ok (.iconst (-1), 1) := by decide +kernel
theorem dX2_init_52 : decode cX2_init 52 = .ok (.invokestatic 32, 3) := by decide +kernel
theorem dX2_init_55 : decode cX2_init 55 = .ok (.return_, 1) := by decide +kernel
set_option maxRecDepth 20000 in
theorem ggX2_look_X1_sameAs : GoodIn wsX2_look wsX1_sameAs := goodIn_r _ [8, 9, 57] (by decide +kernel) (by decide +kernel)
set_option maxRecDepth 20000 in
theorem gX2_look_X1_sameAs : GoodIn wsX2_look (wsV RX2 38 RX1 yX1_sameAs wsX1_sameAs) := goodIn_app (goodIn_of _ (by decide +kernel)) ggX2_look_X1_sameAs
set_option maxRecDepth 20000 in
theorem ggX2_look_X1_take : GoodIn wsX2_look wsX1_take := goodIn_r _ [13, 9, 57] (by decide +kernel) (by decide +kernel)
set_option maxRecDepth 20000 in
theorem gX2_look_X1_take : GoodIn wsX2_look (wsV RX2 42 RX1 yX1_take wsX1_take) := goodIn_app (goodIn_of _ (by decide +kernel)) ggX2_look_X1_take
set_option maxRecDepth 20000 in
theorem ggX2_look_J7_fill_53178 : GoodIn wsX2_look wsJ7_fill_53178 := goodIn_r _ [17] (by decide +kernel) (by decide +kernel)
set_option maxRecDepth 20000 in
theorem gX2_look_J7_fill_53178 : GoodIn wsX2_look (va_wsS RX2 32 yJ7_fill_53178 wsJ7_fill_53178) := goodIn_app (goodIn_of _ (by decide +kernel)) ggX2_look_J7_fill_53178
set_option maxRecDepth 20000 in
theorem ggX2_look_X1_isDark : GoodIn wsX2_look wsX1_isDark := goodIn_r _ [21, 9, 57] (by decide +kernel) (by decide +kernel)
set_option maxRecDepth 20000 in
theorem gX2_look_X1_isDark : GoodIn wsX2_look (wsV RX2 46 RX1 yX1_isDark wsX1_isDark) := goodIn_app (goodIn_of _ (by decide +kernel)) ggX2_look_X1_isDark
set_option maxRecDepth 20000 in
theorem ggX2_look_X2_gather : GoodIn wsX2_look wsX2_gather := goodIn_r _ [26, 27, 28, 29, 30, 25, 31, 3, 32, 33, 34, 35, 36, 1, 2, 18, 19, 20, 7, 21, 9, 37, 38, 39, 40, 41, 42, 43, 44, 45, 46, 47, 48, 49, 50, 51, 52, 53, 54, 55, 56, 57] (by decide +kernel) (by decide +kernel)
set_option maxRecDepth 20000 in
theorem gX2_look_X2_gather : GoodIn wsX2_look (wsV RX2 50 RX2 yX2_gather wsX2_gather) := goodIn_app (goodIn_of _ (by decide +kernel)) ggX2_look_X2_gather
theorem dX2_look_0 : decode cX2_look 0 = .ok (.aload_n 0, 1) := by decide +kernel
theorem dX2_look_1 : decode cX2_look 1 = .ok (.getfield 12, 3) := by decide +kernel
theorem dX2_look_4 : decode cX2_look 4 = .ok (.aload_n 1, 1) := by decide +kernel
theorem dX2_look_5 : decode cX2_look 5 = .ok (.invokevirtual 38, 3) := by decide +kernel
theorem dX2_look_8 : decode cX2_look 8 = .ok (.ifCond .eq 4, 3) := by decide +kernel
theorem dX2_look_11 : decode cX2_look 11 = .ok (.return_, 1) := by decide +kernel
theorem dX2_look_12 : decode cX2_look 12 = .ok (.aload_n 0, 1) := by decide +kernel
theorem dX2_look_13 : decode cX2_look 13 = .ok (.getfield 12, 3) := by decide +kernel
theorem dX2_look_16 : decode cX2_look 16 = .ok (.aload_n 1, 1) := by decide +kernel
theorem dX2_look_17 : decode cX2_look 17 = .ok (.invokevirtual 42, 3) := by decide +kernel
theorem dX2_look_20 : decode cX2_look 20 = .ok (.aload_n 0, 1) := by decide +kernel
theorem dX2_look_21 : decode cX2_look 21 = .ok (.getfield 18, 3) := by decide +kernel
theorem dX2_look_24 : decode cX2_look 24 = .ok (.iconst (-1), 1) := by decide +kernel
theorem dX2_look_25 : decode cX2_look 25 = .ok (.invokestatic 32, 3) := by decide +kernel
theorem dX2_look_28 : decode cX2_look 28 = .ok (.aload_n 0, 1) := by decide +kernel
theorem dX2_look_29 : decode cX2_look 29 = .ok (.iconst 0, 1) := by decide +kernel
theorem dX2_look_30 : decode cX2_look 30 = .ok (.putfield 28, 3) := by decide +kernel
theorem dX2_look_33 : decode cX2_look 33 = .ok (.iconst 0, 1) := by decide +kernel
theorem dX2_look_34 : decode cX2_look 34 = .ok (.istore_n 2, 1) := by decide +kernel
theorem dX2_look_35 : decode cX2_look 35 = .ok (.iload_n 2, 1) := by decide +kernel
theorem dX2_look_36 : decode cX2_look 36 = .ok (.sipush 256, 3) := by decide +kernel
theorem dX2_look_39 : decode cX2_look 39 = .ok (.if_icmp .ge 62, 3) := by decide +kernel
theorem dX2_look_42 : decode cX2_look 42 = .ok (.aload_n 0, 1) := by decide +kernel
theorem dX2_look_43 : decode cX2_look 43 = .ok (.getfield 18, 3) := by decide +kernel
theorem dX2_look_46 : decode cX2_look 46 = .ok (.iload_n 2, 1) := by decide +kernel
theorem dX2_look_47 : decode cX2_look 47 = .ok (.iaload, 1) := by decide +kernel
theorem dX2_look_48 : decode cX2_look 48 = .ok (.iconst (-1), 1) := by decide +kernel
theorem dX2_look_49 : decode cX2_look 49 = .ok (.if_icmp .ne 46, 3) := by decide +kernel
theorem dX2_look_52 : decode cX2_look 52 = .ok (.aload_n 0, 1) := by decide +kernel
theorem dX2_look_53 : decode cX2_look 53 = .ok (.getfield 12, 3) := by decide +kernel
theorem dX2_look_56 : decode cX2_look 56 = .ok (.iload_n 2, 1) := by decide +kernel
theorem dX2_look_57 : decode cX2_look 57 = .ok (.bipush 16, 2) := by decide +kernel
theorem dX2_look_59 : decode cX2_look 59 = .ok (.irem, 1) := by decide +kernel
theorem dX2_look_60 : decode cX2_look 60 = .ok (.iload_n 2, 1) := by decide +kernel
theorem dX2_look_61 : decode cX2_look 61 = .ok (.bipush 16, 2) := by decide +kernel
theorem dX2_look_63 : decode cX2_look 63 = .ok (.idiv, 1) := by decide +kernel
theorem dX2_look_64 : decode cX2_look 64 = .ok (.invokevirtual 46, 3) := by decide +kernel
theorem dX2_look_67 : decode cX2_look 67 = .ok (.ifCond .eq 28, 3) := by decide +kernel
theorem dX2_look_70 : decode cX2_look 70 = .ok (.aload_n 0, 1) := by decide +kernel
theorem dX2_look_71 : decode cX2_look 71 = .ok (.getfield 28, 3) := by decide +kernel
theorem dX2_look_74 : decode cX2_look 74 = .ok (.sipush 128, 3) := by decide +kernel
theorem dX2_look_77 : decode cX2_look 77 = .ok (.if_icmp .ge 18, 3) := by decide +kernel
theorem dX2_look_80 : decode cX2_look 80 = .ok (.aload_n 0, 1) := by decide +kernel
theorem dX2_look_81 : decode cX2_look 81 = .ok (.iload_n 2, 1) := by decide +kernel
theorem dX2_look_82 : decode cX2_look 82 = .ok (.invokevirtual 50, 3) := by decide +kernel
theorem dX2_look_85 : decode cX2_look 85 = .ok (.aload_n 0, 1) := by decide +kernel
theorem dX2_look_86 : decode cX2_look 86 = .ok (.dup, 1) := by decide +kernel
theorem dX2_look_87 : decode cX2_look 87 = .ok (.getfield 28, 3) := by decide +kernel
theorem dX2_look_90 : decode cX2_look 90 = .ok (.iconst 1, 1) := by decide +kernel
theorem dX2_look_91 : decode cX2_look 91 = .ok (.iadd, 1) := by decide +kernel
theorem dX2_look_92 : decode cX2_look 92 = .ok (.putfield 28, 3) := by decide +kernel
theorem dX2_look_95 : decode cX2_look 95 = .ok (.iinc 2 1, 3) := by decide +kernel
theorem dX2_look_98 : decode cX2_look 98 = .ok (.goto (-63), 3) := by decide +kernel
theorem dX2_look_101 : decode cX2_look 101 = .ok (.return_, 1) := by decide +kernel
set_option maxRecDepth 20000 in
theorem ggX2_gather_X2_beginFigures : GoodIn wsX2_gather wsX2_beginFigures := goodIn_r _ [6, 7, 8, 36, 37, 38, 39, 40] (by decide +kernel) (by decide +kernel)
set_option maxRecDepth 20000 in
theorem gX2_gather_X2_beginFigures : GoodIn wsX2_gather (wsV RX2 54 RX2 yX2_beginFigures wsX2_beginFigures) := goodIn_app (goodIn_of _ (by decide +kernel)) ggX2_gather_X2_beginFigures
set_option maxRecDepth 20000 in
theorem ggX2_gather_X2_reach : GoodIn wsX2_gather wsX2_reach := goodIn_r _ [12, 13, 8, 7, 14, 1, 15, 16, 17, 18, 19, 20, 21, 22, 23, 5, 24, 36, 37, 38, 39, 40, 41] (by decide +kernel) (by decide +kernel)
set_option maxRecDepth 20000 in
theorem gX2_gather_X2_reach : GoodIn wsX2_gather (wsV RX2 58 RX2 yX2_reach wsX2_reach) := goodIn_app (goodIn_of _ (by decide +kernel)) ggX2_gather_X2_reach
set_option maxRecDepth 20000 in
theorem ggX2_gather_X2_noteFigures : GoodIn wsX2_gather wsX2_noteFigures := goodIn_r _ [28, 7, 8, 29, 30, 31, 32, 33, 34, 35, 36, 37, 38, 39, 40] (by decide +kernel) (by decide +kernel)
set_option maxRecDepth 20000 in
theorem gX2_gather_X2_noteFigures : GoodIn wsX2_gather (wsV RX2 62 RX2 yX2_noteFigures wsX2_noteFigures) := goodIn_app (goodIn_of _ (by decide +kernel)) ggX2_gather_X2_noteFigures
theorem dX2_gather_0 : decode cX2_gather 0 = .ok (.iload_n 1, 1) := by decide +kernel
theorem dX2_gather_1 : decode cX2_gather 1 = .ok (.bipush 16, 2) := by decide +kernel
theorem dX2_gather_3 : decode cX2_gather 3 = .ok (.irem, 1) := by decide +kernel
theorem dX2_gather_4 : decode cX2_gather 4 = .ok (.istore_n 2, 1) := by decide +kernel
theorem dX2_gather_5 : decode cX2_gather 5 = .ok (.iload_n 1, 1) := by decide +kernel
theorem dX2_gather_6 : decode cX2_gather 6 = .ok (.bipush 16, 2) := by decide +kernel
theorem dX2_gather_8 : decode cX2_gather 8 = .ok (.idiv, 1) := by decide +kernel
theorem dX2_gather_9 : decode cX2_gather 9 = .ok (.istore_n 3, 1) := by decide +kernel
theorem dX2_gather_10 : decode cX2_gather 10 = .ok (.aload_n 0, 1) := by decide +kernel
theorem dX2_gather_11 : decode cX2_gather 11 = .ok (.iload_n 2, 1) := by decide +kernel
theorem dX2_gather_12 : decode cX2_gather 12 = .ok (.iload_n 3, 1) := by decide +kernel
theorem dX2_gather_13 : decode cX2_gather 13 = .ok (.invokevirtual 54, 3) := by decide +kernel
theorem dX2_gather_16 : decode cX2_gather 16 = .ok (.aload_n 0, 1) := by decide +kernel
theorem dX2_gather_17 : decode cX2_gather 17 = .ok (.iload_n 2, 1) := by decide +kernel
theorem dX2_gather_18 : decode cX2_gather 18 = .ok (.iload_n 3, 1) := by decide +kernel
theorem dX2_gather_19 : decode cX2_gather 19 = .ok (.iconst 0, 1) := by decide +kernel
theorem dX2_gather_20 : decode cX2_gather 20 = .ok (.invokevirtual 58, 3) := by decide +kernel
theorem dX2_gather_23 : decode cX2_gather 23 = .ok (.istore 4, 2) := by decide +kernel
theorem dX2_gather_25 : decode cX2_gather 25 = .ok (.iconst 0, 1) := by decide +kernel
theorem dX2_gather_26 : decode cX2_gather 26 = .ok (.istore 5, 2) := by decide +kernel
theorem dX2_gather_28 : decode cX2_gather 28 = .ok (.iload 5, 2) := by decide +kernel
theorem dX2_gather_30 : decode cX2_gather 30 = .ok (.iload 4, 2) := by decide +kernel
theorem dX2_gather_32 : decode cX2_gather 32 = .ok (.if_icmp .ge 93, 3) := by decide +kernel
theorem dX2_gather_35 : decode cX2_gather 35 = .ok (.iload 5, 2) := by decide +kernel
theorem dX2_gather_37 : decode cX2_gather 37 = .ok (.sipush 256, 3) := by decide +kernel
theorem dX2_gather_40 : decode cX2_gather 40 = .ok (.if_icmp .ge 85, 3) := by decide +kernel
theorem dX2_gather_43 : decode cX2_gather 43 = .ok (.aload_n 0, 1) := by decide +kernel
theorem dX2_gather_44 : decode cX2_gather 44 = .ok (.getfield 22, 3) := by decide +kernel
theorem dX2_gather_47 : decode cX2_gather 47 = .ok (.iload 5, 2) := by decide +kernel
theorem dX2_gather_49 : decode cX2_gather 49 = .ok (.iaload, 1) := by decide +kernel
theorem dX2_gather_50 : decode cX2_gather 50 = .ok (.bipush 16, 2) := by decide +kernel
theorem dX2_gather_52 : decode cX2_gather 52 = .ok (.irem, 1) := by decide +kernel
theorem dX2_gather_53 : decode cX2_gather 53 = .ok (.istore_n 2, 1) := by decide +kernel
theorem dX2_gather_54 : decode cX2_gather 54 = .ok (.aload_n 0, 1) := by decide +kernel
theorem dX2_gather_55 : decode cX2_gather 55 = .ok (.getfield 22, 3) := by decide +kernel
theorem dX2_gather_58 : decode cX2_gather 58 = .ok (.iload 5, 2) := by decide +kernel
theorem dX2_gather_60 : decode cX2_gather 60 = .ok (.iaload, 1) := by decide +kernel
theorem dX2_gather_61 : decode cX2_gather 61 = .ok (.bipush 16, 2) := by decide +kernel
theorem dX2_gather_63 : decode cX2_gather 63 = .ok (.idiv, 1) := by decide +kernel
theorem dX2_gather_64 : decode cX2_gather 64 = .ok (.istore_n 3, 1) := by decide +kernel
theorem dX2_gather_65 : decode cX2_gather 65 = .ok (.aload_n 0, 1) := by decide +kernel
theorem dX2_gather_66 : decode cX2_gather 66 = .ok (.iload_n 2, 1) := by decide +kernel
theorem dX2_gather_67 : decode cX2_gather 67 = .ok (.iload_n 3, 1) := by decide +kernel
theorem dX2_gather_68 : decode cX2_gather 68 = .ok (.invokevirtual 62, 3) := by decide +kernel
theorem dX2_gather_71 : decode cX2_gather 71 = .ok (.aload_n 0, 1) := by decide +kernel
theorem dX2_gather_72 : decode cX2_gather 72 = .ok (.iload_n 2, 1) := by decide +kernel
theorem dX2_gather_73 : decode cX2_gather 73 = .ok (.iload_n 3, 1) := by decide +kernel
theorem dX2_gather_74 : decode cX2_gather 74 = .ok (.iconst 1, 1) := by decide +kernel
theorem dX2_gather_75 : decode cX2_gather 75 = .ok (.isub, 1) := by decide +kernel
theorem dX2_gather_76 : decode cX2_gather 76 = .ok (.iload 4, 2) := by decide +kernel
theorem dX2_gather_78 : decode cX2_gather 78 = .ok (.invokevirtual 58, 3) := by decide +kernel
theorem dX2_gather_81 : decode cX2_gather 81 = .ok (.istore 4, 2) := by decide +kernel
theorem dX2_gather_83 : decode cX2_gather 83 = .ok (.aload_n 0, 1) := by decide +kernel
theorem dX2_gather_84 : decode cX2_gather 84 = .ok (.iload_n 2, 1) := by decide +kernel
theorem dX2_gather_85 : decode cX2_gather 85 = .ok (.iconst 1, 1) := by decide +kernel
theorem dX2_gather_86 : decode cX2_gather 86 = .ok (.isub, 1) := by decide +kernel
theorem dX2_gather_87 : decode cX2_gather 87 = .ok (.iload_n 3, 1) := by decide +kernel
theorem dX2_gather_88 : decode cX2_gather 88 = .ok (.iload 4, 2) := by decide +kernel
theorem dX2_gather_90 : decode cX2_gather 90 = .ok (.invokevirtual 58, 3) := by decide +kernel
theorem dX2_gather_93 : decode cX2_gather 93 = .ok (.istore 4, 2) := by decide +kernel
theorem dX2_gather_95 : decode cX2_gather 95 = .ok (.aload_n 0, 1) := by decide +kernel
theorem dX2_gather_96 : decode cX2_gather 96 = .ok (.iload_n 2, 1) := by decide +kernel
theorem dX2_gather_97 : decode cX2_gather 97 = .ok (.iconst 1, 1) := by decide +kernel
theorem dX2_gather_98 : decode cX2_gather 98 = .ok (.iadd, 1) := by decide +kernel
theorem dX2_gather_99 : decode cX2_gather 99 = .ok (.iload_n 3, 1) := by decide +kernel
theorem dX2_gather_100 : decode cX2_gather 100 = .ok (.iload 4, 2) := by decide +kernel
theorem dX2_gather_102 : decode cX2_gather 102 = .ok (.invokevirtual 58, 3) := by decide +kernel
theorem dX2_gather_105 : decode cX2_gather 105 = .ok (.istore 4, 2) := by decide +kernel
theorem dX2_gather_107 : decode cX2_gather 107 = .ok (.aload_n 0, 1) := by decide +kernel
theorem dX2_gather_108 : decode cX2_gather 108 = .ok (.iload_n 2, 1) := by decide +kernel
theorem dX2_gather_109 : decode cX2_gather 109 = .ok (.iload_n 3, 1) := by decide +kernel
theorem dX2_gather_110 : decode cX2_gather 110 = .ok (.iconst 1, 1) := by decide +kernel
theorem dX2_gather_111 : decode cX2_gather 111 = .ok (.iadd, 1) := by decide +kernel
theorem dX2_gather_112 : decode cX2_gather 112 = .ok (.iload 4, 2) := by decide +kernel
theorem dX2_gather_114 : decode cX2_gather 114 = .ok (.invokevirtual 58, 3) := by decide +kernel
theorem dX2_gather_117 : decode cX2_gather 117 = .ok (.istore 4, 2) := by decide +kernel
theorem dX2_gather_119 : decode cX2_gather 119 = .ok (.iinc 5 1, 3) := by decide +kernel
theorem dX2_gather_122 : decode cX2_gather 122 = .ok (.goto (-94), 3) := by decide +kernel
theorem dX2_gather_125 : decode cX2_gather 125 = .ok (.return_, 1) := by decide +kernel
set_option maxRecDepth 20000 in
theorem ggX2_reach_X1_isDark : GoodIn wsX2_reach wsX1_isDark := goodIn_r _ [10, 11, 22] (by decide +kernel) (by decide +kernel)
set_option maxRecDepth 20000 in
theorem gX2_reach_X1_isDark : GoodIn wsX2_reach (wsV RX2 46 RX1 yX1_isDark wsX1_isDark) := goodIn_app (goodIn_of _ (by decide +kernel)) ggX2_reach_X1_isDark
set_option maxRecDepth 20000 in
theorem ggX2_reach_X2_labelAt : GoodIn wsX2_reach wsX2_labelAt := goodIn_r _ [16, 4, 17, 18, 19, 20, 21] (by decide +kernel) (by decide +kernel)
set_option maxRecDepth 20000 in
theorem gX2_reach_X2_labelAt : GoodIn wsX2_reach (wsV RX2 65 RX2 yX2_labelAt wsX2_labelAt) := goodIn_app (goodIn_of _ (by decide +kernel)) ggX2_reach_X2_labelAt
theorem dX2_reach_0 : decode cX2_reach 0 = .ok (.aload_n 0, 1) := by decide +kernel
theorem dX2_reach_1 : decode cX2_reach 1 = .ok (.getfield 12, 3) := by decide +kernel
theorem dX2_reach_4 : decode cX2_reach 4 = .ok (.iload_n 1, 1) := by decide +kernel
theorem dX2_reach_5 : decode cX2_reach 5 = .ok (.iload_n 2, 1) := by decide +kernel
theorem dX2_reach_6 : decode cX2_reach 6 = .ok (.invokevirtual 46, 3) := by decide +kernel
theorem dX2_reach_9 : decode cX2_reach 9 = .ok (.ifCond .ne 23, 3) := by decide +kernel
theorem dX2_reach_12 : decode cX2_reach 12 = .ok (.aload_n 0, 1) := by decide +kernel
theorem dX2_reach_13 : decode cX2_reach 13 = .ok (.getfield 25, 3) := by decide +kernel
theorem dX2_reach_16 : decode cX2_reach 16 = .ok (.aload_n 0, 1) := by decide +kernel
theorem dX2_reach_17 : decode cX2_reach 17 = .ok (.getfield 28, 3) := by decide +kernel
theorem dX2_reach_20 : decode cX2_reach 20 = .ok (.bipush 6, 2) := by decide +kernel
theorem dX2_reach_22 : decode cX2_reach 22 = .ok (.imul, 1) := by decide +kernel
theorem dX2_reach_23 : decode cX2_reach 23 = .ok (.iconst 1, 1) := by decide +kernel
theorem dX2_reach_24 : decode cX2_reach 24 = .ok (.iadd, 1) := by decide +kernel
theorem dX2_reach_25 : decode cX2_reach 25 = .ok (.dup2, 1) := by decide +kernel
theorem dX2_reach_26 : decode cX2_reach 26 = .ok (.iaload, 1) := by decide +kernel
theorem dX2_reach_27 : decode cX2_reach 27 = .ok (.iconst 1, 1) := by decide +kernel
theorem dX2_reach_28 : decode cX2_reach 28 = .ok (.iadd, 1) := by decide +kernel
theorem dX2_reach_29 : decode cX2_reach 29 = .ok (.iastore, 1) := by decide +kernel
theorem dX2_reach_30 : decode cX2_reach 30 = .ok (.iload_n 3, 1) := by decide +kernel
theorem dX2_reach_31 : decode cX2_reach 31 = .ok (.ireturn, 1) := by decide +kernel
theorem dX2_reach_32 : decode cX2_reach 32 = .ok (.aload_n 0, 1) := by decide +kernel
theorem dX2_reach_33 : decode cX2_reach 33 = .ok (.iload_n 1, 1) := by decide +kernel
theorem dX2_reach_34 : decode cX2_reach 34 = .ok (.iload_n 2, 1) := by decide +kernel
theorem dX2_reach_35 : decode cX2_reach 35 = .ok (.invokevirtual 65, 3) := by decide +kernel
theorem dX2_reach_38 : decode cX2_reach 38 = .ok (.iconst (-1), 1) := by decide +kernel
theorem dX2_reach_39 : decode cX2_reach 39 = .ok (.if_icmp .ne 10, 3) := by decide +kernel
theorem dX2_reach_42 : decode cX2_reach 42 = .ok (.iload_n 3, 1) := by decide +kernel
theorem dX2_reach_43 : decode cX2_reach 43 = .ok (.sipush 256, 3) := by decide +kernel
theorem dX2_reach_46 : decode cX2_reach 46 = .ok (.if_icmp .lt 5, 3) := by decide +kernel
theorem dX2_reach_49 : decode cX2_reach 49 = .ok (.iload_n 3, 1) := by decide +kernel
theorem dX2_reach_50 : decode cX2_reach 50 = .ok (.ireturn, 1) := by decide +kernel
theorem dX2_reach_51 : decode cX2_reach 51 = .ok (.aload_n 0, 1) := by decide +kernel
theorem dX2_reach_52 : decode cX2_reach 52 = .ok (.getfield 18, 3) := by decide +kernel
theorem dX2_reach_55 : decode cX2_reach 55 = .ok (.iload_n 2, 1) := by decide +kernel
theorem dX2_reach_56 : decode cX2_reach 56 = .ok (.bipush 16, 2) := by decide +kernel
theorem dX2_reach_58 : decode cX2_reach 58 = .ok (.imul, 1) := by decide +kernel
theorem dX2_reach_59 : decode cX2_reach 59 = .ok (.iload_n 1, 1) := by decide +kernel
theorem dX2_reach_60 : decode cX2_reach 60 = .ok (.iadd, 1) := by decide +kernel
theorem dX2_reach_61 : decode cX2_reach 61 = .ok (.aload_n 0, 1) := by decide +kernel
theorem dX2_reach_62 : decode cX2_reach 62 = .ok (.getfield 28, 3) := by decide +kernel
theorem dX2_reach_65 : decode cX2_reach 65 = .ok (.iastore, 1) := by decide +kernel
theorem dX2_reach_66 : decode cX2_reach 66 = .ok (.aload_n 0, 1) := by decide +kernel
theorem dX2_reach_67 : decode cX2_reach 67 = .ok (.getfield 22, 3) := by decide +kernel
theorem dX2_reach_70 : decode cX2_reach 70 = .ok (.iload_n 3, 1) := by decide +kernel
theorem dX2_reach_71 : decode cX2_reach 71 = .ok (.iload_n 2, 1) := by decide +kernel
theorem dX2_reach_72 : decode cX2_reach 72 = .ok (.bipush 16, 2) := by decide +kernel
theorem dX2_reach_74 : decode cX2_reach 74 = .ok (.imul, 1) := by decide +kernel
theorem dX2_reach_75 : decode cX2_reach 75 = .ok (.iload_n 1, 1) := by decide +kernel
theorem dX2_reach_76 : decode cX2_reach 76 = .ok (.iadd, 1) := by decide +kernel
theorem dX2_reach_77 : decode cX2_reach 77 = .ok (.iastore, 1) := by decide +kernel
theorem dX2_reach_78 : decode cX2_reach 78 = .ok (.iload_n 3, 1) := by decide +kernel
theorem dX2_reach_79 : decode cX2_reach 79 = .ok (.iconst 1, 1) := by decide +kernel
theorem dX2_reach_80 : decode cX2_reach 80 = .ok (.iadd, 1) := by decide +kernel
theorem dX2_reach_81 : decode cX2_reach 81 = .ok (.ireturn, 1) := by decide +kernel
theorem dX2_beginFigures_0 : decode cX2_beginFigures 0 = .ok (.aload_n 0, 1) := by decide +kernel
theorem dX2_beginFigures_1 : decode cX2_beginFigures 1 = .ok (.getfield 28, 3) := by decide +kernel
theorem dX2_beginFigures_4 : decode cX2_beginFigures 4 = .ok (.bipush 6, 2) := by decide +kernel
theorem dX2_beginFigures_6 : decode cX2_beginFigures 6 = .ok (.imul, 1) := by decide +kernel
theorem dX2_beginFigures_7 : decode cX2_beginFigures 7 = .ok (.istore_n 3, 1) := by decide +kernel
theorem dX2_beginFigures_8 : decode cX2_beginFigures 8 = .ok (.aload_n 0, 1) := by decide +kernel
theorem dX2_beginFigures_9 : decode cX2_beginFigures 9 = .ok (.getfield 25, 3) := by decide +kernel
theorem dX2_beginFigures_12 : decode cX2_beginFigures 12 = .ok (.iload_n 3, 1) := by decide +kernel
theorem dX2_beginFigures_13 : decode cX2_beginFigures 13 = .ok (.iconst 0, 1) := by decide +kernel
theorem dX2_beginFigures_14 : decode cX2_beginFigures 14 = .ok (.iadd, 1) := by decide +kernel
theorem dX2_beginFigures_15 : decode cX2_beginFigures 15 = .ok (.iconst 0, 1) := by decide +kernel
theorem dX2_beginFigures_16 : decode cX2_beginFigures 16 = .ok (.iastore, 1) := by decide +kernel
theorem dX2_beginFigures_17 : decode cX2_beginFigures 17 = .ok (.aload_n 0, 1) := by decide +kernel
theorem dX2_beginFigures_18 : decode cX2_beginFigures 18 = .ok (.getfield 25, 3) := by decide +kernel
theorem dX2_beginFigures_21 : decode cX2_beginFigures 21 = .ok (.iload_n 3, 1) := by decide +kernel
theorem dX2_beginFigures_22 : decode cX2_beginFigures 22 = .ok (.iconst 1, 1) := by decide +kernel
theorem dX2_beginFigures_23 : decode cX2_beginFigures 23 = .ok (.iadd, 1) := by decide +kernel
theorem dX2_beginFigures_24 : decode cX2_beginFigures 24 = .ok (.iconst 0, 1) := by decide +kernel
theorem dX2_beginFigures_25 : decode cX2_beginFigures 25 = .ok (.iastore, 1) := by decide +kernel
theorem dX2_beginFigures_26 : decode cX2_beginFigures 26 = .ok (.aload_n 0, 1) := by decide +kernel
theorem dX2_beginFigures_27 : decode cX2_beginFigures 27 = .ok (.getfield 25, 3) := by decide +kernel
theorem dX2_beginFigures_30 : decode cX2_beginFigures 30 = .ok (.iload_n 3, 1) := by decide +kernel
theorem dX2_beginFigures_31 : decode cX2_beginFigures 31 = .ok (.iconst 2, 1) := by decide +kernel
theorem dX2_beginFigures_32 : decode cX2_beginFigures 32 = .ok (.iadd, 1) := by decide +kernel
theorem dX2_beginFigures_33 : decode cX2_beginFigures 33 = .ok (.iload_n 1, 1) := by decide +kernel
theorem dX2_beginFigures_34 : decode cX2_beginFigures 34 = .ok (.iastore, 1) := by decide +kernel
theorem dX2_beginFigures_35 : decode cX2_beginFigures 35 = .ok (.aload_n 0, 1) := by decide +kernel
theorem dX2_beginFigures_36 : decode cX2_beginFigures 36 = .ok (.getfield 25, 3) := by decide +kernel
theorem dX2_beginFigures_39 : decode cX2_beginFigures 39 = .ok (.iload_n 3, 1) := by decide +kernel
theorem dX2_beginFigures_40 : decode cX2_beginFigures 40 = .ok (.iconst 3, 1) := by decide +kernel
theorem dX2_beginFigures_41 : decode cX2_beginFigures 41 = .ok (.iadd, 1) := by decide +kernel
theorem dX2_beginFigures_42 : decode cX2_beginFigures 42 = .ok (.iload_n 2, 1) := by decide +kernel
theorem dX2_beginFigures_43 : decode cX2_beginFigures 43 = .ok (.iastore, 1) := by decide +kernel
theorem dX2_beginFigures_44 : decode cX2_beginFigures 44 = .ok (.aload_n 0, 1) := by decide +kernel
theorem dX2_beginFigures_45 : decode cX2_beginFigures 45 = .ok (.getfield 25, 3) := by decide +kernel
theorem dX2_beginFigures_48 : decode cX2_beginFigures 48 = .ok (.iload_n 3, 1) := by decide +kernel
theorem dX2_beginFigures_49 : decode cX2_beginFigures 49 = .ok (.iconst 4, 1) := by decide +kernel
theorem dX2_beginFigures_50 : decode cX2_beginFigures 50 = .ok (.iadd, 1) := by decide +kernel
theorem dX2_beginFigures_51 : decode cX2_beginFigures 51 = .ok (.iload_n 1, 1) := by decide +kernel
theorem dX2_beginFigures_52 : decode cX2_beginFigures 52 = .ok (.iastore, 1) := by decide +kernel
theorem dX2_beginFigures_53 : decode cX2_beginFigures 53 = .ok (.aload_n 0, 1) := by decide +kernel
theorem dX2_beginFigures_54 : decode cX2_beginFigures 54 = .ok (.getfield 25, 3) := by decide +kernel
theorem dX2_beginFigures_57 : decode cX2_beginFigures 57 = .ok (.iload_n 3, 1) := by decide +kernel
theorem dX2_beginFigures_58 : decode cX2_beginFigures 58 = .ok (.iconst 5, 1) := by decide +kernel
theorem dX2_beginFigures_59 : decode cX2_beginFigures 59 = .ok (.iadd, 1) := by decide +kernel
theorem dX2_beginFigures_60 : decode cX2_beginFigures 60 = .ok (.iload_n 2, 1) := by decide +kernel
theorem dX2_beginFigures_61 : decode cX2_beginFigures 61 = .ok (.iastore, 1) := by decide +kernel
theorem dX2_beginFigures_62 : decode cX2_beginFigures 62 = .ok (.return_, 1) := by decide +kernel
theorem dX2_noteFigures_0 : decode cX2_noteFigures 0 = .ok (.aload_n 0, 1) := by decide +kernel
theorem dX2_noteFigures_1 : decode cX2_noteFigures 1 = .ok (.getfield 28, 3) := by decide +kernel
theorem dX2_noteFigures_4 : decode cX2_noteFigures 4 = .ok (.bipush 6, 2) := by decide +kernel
theorem dX2_noteFigures_6 : decode cX2_noteFigures 6 = .ok (.imul, 1) := by decide +kernel
theorem dX2_noteFigures_7 : decode cX2_noteFigures 7 = .ok (.istore_n 3, 1) := by decide +kernel
theorem dX2_noteFigures_8 : decode cX2_noteFigures 8 = .ok (.aload_n 0, 1) := by decide +kernel
theorem dX2_noteFigures_9 : decode cX2_noteFigures 9 = .ok (.getfield 25, 3) := by decide +kernel
theorem dX2_noteFigures_12 : decode cX2_noteFigures 12 = .ok (.iload_n 3, 1) := by decide +kernel
theorem dX2_noteFigures_13 : decode cX2_noteFigures 13 = .ok (.iconst 0, 1) := by decide +kernel
theorem dX2_noteFigures_14 : decode cX2_noteFigures 14 = .ok (.iadd, 1) := by decide +kernel
theorem dX2_noteFigures_15 : decode cX2_noteFigures 15 = .ok (.dup2, 1) := by decide +kernel
theorem dX2_noteFigures_16 : decode cX2_noteFigures 16 = .ok (.iaload, 1) := by decide +kernel
theorem dX2_noteFigures_17 : decode cX2_noteFigures 17 = .ok (.iconst 1, 1) := by decide +kernel
theorem dX2_noteFigures_18 : decode cX2_noteFigures 18 = .ok (.iadd, 1) := by decide +kernel
theorem dX2_noteFigures_19 : decode cX2_noteFigures 19 = .ok (.iastore, 1) := by decide +kernel
theorem dX2_noteFigures_20 : decode cX2_noteFigures 20 = .ok (.aload_n 0, 1) := by decide +kernel
theorem dX2_noteFigures_21 : decode cX2_noteFigures 21 = .ok (.getfield 25, 3) := by decide +kernel
theorem dX2_noteFigures_24 : decode cX2_noteFigures 24 = .ok (.iload_n 3, 1) := by decide +kernel
theorem dX2_noteFigures_25 : decode cX2_noteFigures 25 = .ok (.iconst 2, 1) := by decide +kernel
theorem dX2_noteFigures_26 : decode cX2_noteFigures 26 = .ok (.iadd, 1) := by decide +kernel
theorem dX2_noteFigures_27 : decode cX2_noteFigures 27 = .ok (.aload_n 0, 1) := by decide +kernel
theorem dX2_noteFigures_28 : decode cX2_noteFigures 28 = .ok (.getfield 25, 3) := by decide +kernel
theorem dX2_noteFigures_31 : decode cX2_noteFigures 31 = .ok (.iload_n 3, 1) := by decide +kernel
theorem dX2_noteFigures_32 : decode cX2_noteFigures 32 = .ok (.iconst 2, 1) := by decide +kernel
theorem dX2_noteFigures_33 : decode cX2_noteFigures 33 = .ok (.iadd, 1) := by decide +kernel
theorem dX2_noteFigures_34 : decode cX2_noteFigures 34 = .ok (.iaload, 1) := by decide +kernel
theorem dX2_noteFigures_35 : decode cX2_noteFigures 35 = .ok (.iload_n 1, 1) := by decide +kernel
theorem dX2_noteFigures_36 : decode cX2_noteFigures 36 = .ok (.invokestatic 69, 3) := by decide +kernel
theorem dX2_noteFigures_39 : decode cX2_noteFigures 39 = .ok (.iastore, 1) := by decide +kernel
theorem dX2_noteFigures_40 : decode cX2_noteFigures 40 = .ok (.aload_n 0, 1) := by decide +kernel
theorem dX2_noteFigures_41 : decode cX2_noteFigures 41 = .ok (.getfield 25, 3) := by decide +kernel
theorem dX2_noteFigures_44 : decode cX2_noteFigures 44 = .ok (.iload_n 3, 1) := by decide +kernel
theorem dX2_noteFigures_45 : decode cX2_noteFigures 45 = .ok (.iconst 3, 1) := by decide +kernel
theorem dX2_noteFigures_46 : decode cX2_noteFigures 46 = .ok (.iadd, 1) := by decide +kernel
theorem dX2_noteFigures_47 : decode cX2_noteFigures 47 = .ok (.aload_n 0, 1) := by decide +kernel
theorem dX2_noteFigures_48 : decode cX2_noteFigures 48 = .ok (.getfield 25, 3) := by decide +kernel
theorem dX2_noteFigures_51 : decode cX2_noteFigures 51 = .ok (.iload_n 3, 1) := by decide +kernel
theorem dX2_noteFigures_52 : decode cX2_noteFigures 52 = .ok (.iconst 3, 1) := by decide +kernel
theorem dX2_noteFigures_53 : decode cX2_noteFigures 53 = .ok (.iadd, 1) := by decide +kernel
theorem dX2_noteFigures_54 : decode cX2_noteFigures 54 = .ok (.iaload, 1) := by decide +kernel
theorem dX2_noteFigures_55 : decode cX2_noteFigures 55 = .ok (.iload_n 2, 1) := by decide +kernel
theorem dX2_noteFigures_56 : decode cX2_noteFigures 56 = .ok (.invokestatic 69, 3) := by decide +kernel
theorem dX2_noteFigures_59 : decode cX2_noteFigures 59 = .ok (.iastore, 1) := by decide +kernel
theorem dX2_noteFigures_60 : decode cX2_noteFigures 60 = .ok (.aload_n 0, 1) := by decide +kernel
theorem dX2_noteFigures_61 : decode cX2_noteFigures 61 = .ok (.getfield 25, 3) := by decide +kernel
theorem dX2_noteFigures_64 : decode cX2_noteFigures 64 = .ok (.iload_n 3, 1) := by decide +kernel
theorem dX2_noteFigures_65 : decode cX2_noteFigures 65 = .ok (.iconst 4, 1) := by decide +kernel
theorem dX2_noteFigures_66 : decode cX2_noteFigures 66 = .ok (.iadd, 1) := by decide +kernel
theorem dX2_noteFigures_67 : decode cX2_noteFigures 67 = .ok (.aload_n 0, 1) := by decide +kernel
theorem dX2_noteFigures_68 : decode cX2_noteFigures 68 = .ok (.getfield 25, 3) := by decide +kernel
theorem dX2_noteFigures_71 : decode cX2_noteFigures 71 = .ok (.iload_n 3, 1) := by decide +kernel
theorem dX2_noteFigures_72 : decode cX2_noteFigures 72 = .ok (.iconst 4, 1) := by decide +kernel
theorem dX2_noteFigures_73 : decode cX2_noteFigures 73 = .ok (.iadd, 1) := by decide +kernel
theorem dX2_noteFigures_74 : decode cX2_noteFigures 74 = .ok (.iaload, 1) := by decide +kernel
theorem dX2_noteFigures_75 : decode cX2_noteFigures 75 = .ok (.iload_n 1, 1) := by decide +kernel
theorem dX2_noteFigures_76 : decode cX2_noteFigures 76 = .ok (.invokestatic 74, 3) := by decide +kernel
theorem dX2_noteFigures_79 : decode cX2_noteFigures 79 = .ok (.iastore, 1) := by decide +kernel
theorem dX2_noteFigures_80 : decode cX2_noteFigures 80 = .ok (.aload_n 0, 1) := by decide +kernel
theorem dX2_noteFigures_81 : decode cX2_noteFigures 81 = .ok (.getfield 25, 3) := by decide +kernel
theorem dX2_noteFigures_84 : decode cX2_noteFigures 84 = .ok (.iload_n 3, 1) := by decide +kernel
theorem dX2_noteFigures_85 : decode cX2_noteFigures 85 = .ok (.iconst 5, 1) := by decide +kernel
theorem dX2_noteFigures_86 : decode cX2_noteFigures 86 = .ok (.iadd, 1) := by decide +kernel
theorem dX2_noteFigures_87 : decode cX2_noteFigures 87 = .ok (.aload_n 0, 1) := by decide +kernel
theorem dX2_noteFigures_88 : decode cX2_noteFigures 88 = .ok (.getfield 25, 3) := by decide +kernel
theorem dX2_noteFigures_91 : decode cX2_noteFigures 91 = .ok (.iload_n 3, 1) := by decide +kernel
theorem dX2_noteFigures_92 : decode cX2_noteFigures 92 = .ok (.iconst 5, 1) := by decide +kernel
theorem dX2_noteFigures_93 : decode cX2_noteFigures 93 = .ok (.iadd, 1) := by decide +kernel
theorem dX2_noteFigures_94 : decode cX2_noteFigures 94 = .ok (.iaload, 1) := by decide +kernel
theorem dX2_noteFigures_95 : decode cX2_noteFigures 95 = .ok (.iload_n 2, 1) := by decide +kernel
theorem dX2_noteFigures_96 : decode cX2_noteFigures 96 = .ok (.invokestatic 74, 3) := by decide +kernel
theorem dX2_noteFigures_99 : decode cX2_noteFigures 99 = .ok (.iastore, 1) := by decide +kernel
theorem dX2_noteFigures_100 : decode cX2_noteFigures 100 = .ok (.return_, 1) := by decide +kernel
theorem dX2_labelAt_0 : decode cX2_labelAt 0 = .ok (.iload_n 1, 1) := by decide +kernel
theorem dX2_labelAt_1 : decode cX2_labelAt 1 = .ok (.ifCond .lt 33, 3) := by decide +kernel
theorem dX2_labelAt_4 : decode cX2_labelAt 4 = .ok (.iload_n 1, 1) := by decide +kernel
theorem dX2_labelAt_5 : decode cX2_labelAt 5 = .ok (.bipush 16, 2) := by decide +kernel
theorem dX2_labelAt_7 : decode cX2_labelAt 7 = .ok (.if_icmp .ge 27, 3) := by decide +kernel
theorem dX2_labelAt_10 : decode cX2_labelAt 10 = .ok (.iload_n 2, 1) := by decide +kernel
theorem dX2_labelAt_11 : decode cX2_labelAt 11 = .ok (.ifCond .lt 23, 3) := by decide +kernel
theorem dX2_labelAt_14 : decode cX2_labelAt 14 = .ok (.iload_n 2, 1) := by decide +kernel
theorem dX2_labelAt_15 : decode cX2_labelAt 15 = .ok (.bipush 16, 2) := by decide +kernel
theorem dX2_labelAt_17 : decode cX2_labelAt 17 = .ok (.if_icmp .ge 17, 3) := by decide +kernel
theorem dX2_labelAt_20 : decode cX2_labelAt 20 = .ok (.aload_n 0, 1) := by decide +kernel
theorem dX2_labelAt_21 : decode cX2_labelAt 21 = .ok (.getfield 18, 3) := by decide +kernel
theorem dX2_labelAt_24 : decode cX2_labelAt 24 = .ok (.iload_n 2, 1) := by decide +kernel
theorem dX2_labelAt_25 : decode cX2_labelAt 25 = .ok (.bipush 16, 2) := by decide +kernel
theorem dX2_labelAt_27 : decode cX2_labelAt 27 = .ok (.imul, 1) := by decide +kernel
theorem dX2_labelAt_28 : decode cX2_labelAt 28 = .ok (.iload_n 1, 1) := by decide +kernel
theorem dX2_labelAt_29 : decode cX2_labelAt 29 = .ok (.iadd, 1) := by decide +kernel
theorem dX2_labelAt_30 : decode cX2_labelAt 30 = .ok (.iaload, 1) := by decide +kernel
theorem dX2_labelAt_31 : decode cX2_labelAt 31 = .ok (.goto 4, 3) := by decide +kernel
theorem dX2_labelAt_34 : decode cX2_labelAt 34 = .ok (.iconst (-1), 1) := by decide +kernel
theorem dX2_labelAt_35 : decode cX2_labelAt 35 = .ok (.ireturn, 1) := by decide +kernel
set_option maxRecDepth 20000 in
theorem ggX2_rowOfPart_X2_labelAt : GoodIn wsX2_rowOfPart wsX2_labelAt := goodIn_r _ [5, 6, 7, 8, 9, 10, 11] (by decide +kernel) (by decide +kernel)
set_option maxRecDepth 20000 in
theorem gX2_rowOfPart_X2_labelAt : GoodIn wsX2_rowOfPart (wsV RX2 65 RX2 yX2_labelAt wsX2_labelAt) := goodIn_app (goodIn_of _ (by decide +kernel)) ggX2_rowOfPart_X2_labelAt
theorem dX2_rowOfPart_0 : decode cX2_rowOfPart 0 = .ok (.iconst 0, 1) := by decide +kernel
theorem dX2_rowOfPart_1 : decode cX2_rowOfPart 1 = .ok (.istore_n 3, 1) := by decide +kernel
theorem dX2_rowOfPart_2 : decode cX2_rowOfPart 2 = .ok (.iconst 0, 1) := by decide +kernel
theorem dX2_rowOfPart_3 : decode cX2_rowOfPart 3 = .ok (.istore 4, 2) := by decide +kernel
theorem dX2_rowOfPart_5 : decode cX2_rowOfPart 5 = .ok (.iload 4, 2) := by decide +kernel
theorem dX2_rowOfPart_7 : decode cX2_rowOfPart 7 = .ok (.bipush 16, 2) := by decide +kernel
theorem dX2_rowOfPart_9 : decode cX2_rowOfPart 9 = .ok (.if_icmp .ge 27, 3) := by decide +kernel
theorem dX2_rowOfPart_12 : decode cX2_rowOfPart 12 = .ok (.aload_n 0, 1) := by decide +kernel
theorem dX2_rowOfPart_13 : decode cX2_rowOfPart 13 = .ok (.iload 4, 2) := by decide +kernel
theorem dX2_rowOfPart_15 : decode cX2_rowOfPart 15 = .ok (.iload_n 2, 1) := by decide +kernel
theorem dX2_rowOfPart_16 : decode cX2_rowOfPart 16 = .ok (.invokevirtual 65, 3) := by decide +kernel
theorem dX2_rowOfPart_19 : decode cX2_rowOfPart 19 = .ok (.iload_n 1, 1) := by decide +kernel
theorem dX2_rowOfPart_20 : decode cX2_rowOfPart 20 = .ok (.if_icmp .ne 10, 3) := by decide +kernel
theorem dX2_rowOfPart_23 : decode cX2_rowOfPart 23 = .ok (.iload_n 3, 1) := by decide +kernel
theorem dX2_rowOfPart_24 : decode cX2_rowOfPart 24 = .ok (.iconst 1, 1) := by decide +kernel
theorem dX2_rowOfPart_25 : decode cX2_rowOfPart 25 = .ok (.iload 4, 2) := by decide +kernel
theorem dX2_rowOfPart_27 : decode cX2_rowOfPart 27 = .ok (.ishl, 1) := by decide +kernel
theorem dX2_rowOfPart_28 : decode cX2_rowOfPart 28 = .ok (.ior, 1) := by decide +kernel
theorem dX2_rowOfPart_29 : decode cX2_rowOfPart 29 = .ok (.istore_n 3, 1) := by decide +kernel
theorem dX2_rowOfPart_30 : decode cX2_rowOfPart 30 = .ok (.iinc 4 1, 3) := by decide +kernel
theorem dX2_rowOfPart_33 : decode cX2_rowOfPart 33 = .ok (.goto (-28), 3) := by decide +kernel
theorem dX2_rowOfPart_36 : decode cX2_rowOfPart 36 = .ok (.iload_n 3, 1) := by decide +kernel
theorem dX2_rowOfPart_37 : decode cX2_rowOfPart 37 = .ok (.ireturn, 1) := by decide +kernel
set_option maxRecDepth 20000 in
theorem ggX2_figure_X5_within : GoodIn wsX2_figure wsX5_within := goodIn_r _ [5] (by decide +kernel) (by decide +kernel)
set_option maxRecDepth 20000 in
theorem gX2_figure_X5_within_n77 : GoodIn wsX2_figure (wsX5_within) := ggX2_figure_X5_within
theorem dX2_figure_0 : decode cX2_figure 0 = .ok (.iload_n 1, 1) := by decide +kernel
theorem dX2_figure_1 : decode cX2_figure 1 = .ok (.aload_n 0, 1) := by decide +kernel
theorem dX2_figure_2 : decode cX2_figure 2 = .ok (.getfield 28, 3) := by decide +kernel
theorem dX2_figure_5 : decode cX2_figure 5 = .ok (.invokestatic 77, 3) := by decide +kernel
theorem dX2_figure_8 : decode cX2_figure 8 = .ok (.ifCond .eq 26, 3) := by decide +kernel
theorem dX2_figure_11 : decode cX2_figure 11 = .ok (.iload_n 2, 1) := by decide +kernel
theorem dX2_figure_12 : decode cX2_figure 12 = .ok (.bipush 6, 2) := by decide +kernel
theorem dX2_figure_14 : decode cX2_figure 14 = .ok (.invokestatic 77, 3) := by decide +kernel
theorem dX2_figure_17 : decode cX2_figure 17 = .ok (.ifCond .eq 17, 3) := by decide +kernel
theorem dX2_figure_20 : decode cX2_figure 20 = .ok (.aload_n 0, 1) := by decide +kernel
theorem dX2_figure_21 : decode cX2_figure 21 = .ok (.getfield 25, 3) := by decide +kernel
theorem dX2_figure_24 : decode cX2_figure 24 = .ok (.iload_n 1, 1) := by decide +kernel
theorem dX2_figure_25 : decode cX2_figure 25 = .ok (.bipush 6, 2) := by decide +kernel
theorem dX2_figure_27 : decode cX2_figure 27 = .ok (.imul, 1) := by decide +kernel
theorem dX2_figure_28 : decode cX2_figure 28 = .ok (.iload_n 2, 1) := by decide +kernel
theorem dX2_figure_29 : decode cX2_figure 29 = .ok (.iadd, 1) := by decide +kernel
theorem dX2_figure_30 : decode cX2_figure 30 = .ok (.iaload, 1) := by decide +kernel
theorem dX2_figure_31 : decode cX2_figure 31 = .ok (.goto 5, 3) := by decide +kernel
theorem dX2_figure_34 : decode cX2_figure 34 = .ok (.bipush (-2), 2) := by decide +kernel
theorem dX2_figure_36 : decode cX2_figure 36 = .ok (.ireturn, 1) := by decide +kernel
set_option maxRecDepth 20000 in
theorem ggX2_partsOffTheEdge_X2_figure : GoodIn wsX2_partsOffTheEdge wsX2_figure := goodIn_r _ [6, 1, 7, 8, 9, 10, 11, 12, 13, 14, 15] (by decide +kernel) (by decide +kernel)
set_option maxRecDepth 20000 in
theorem gX2_partsOffTheEdge_X2_figure : GoodIn wsX2_partsOffTheEdge (wsV RX2 80 RX2 yX2_figure wsX2_figure) := goodIn_app (goodIn_of _ (by decide +kernel)) ggX2_partsOffTheEdge_X2_figure
theorem dX2_partsOffTheEdge_0 : decode cX2_partsOffTheEdge 0 = .ok (.iconst 0, 1) := by decide +kernel
theorem dX2_partsOffTheEdge_1 : decode cX2_partsOffTheEdge 1 = .ok (.istore_n 1, 1) := by decide +kernel
theorem dX2_partsOffTheEdge_2 : decode cX2_partsOffTheEdge 2 = .ok (.iconst 0, 1) := by decide +kernel
theorem dX2_partsOffTheEdge_3 : decode cX2_partsOffTheEdge 3 = .ok (.istore_n 2, 1) := by decide +kernel
theorem dX2_partsOffTheEdge_4 : decode cX2_partsOffTheEdge 4 = .ok (.iload_n 2, 1) := by decide +kernel
theorem dX2_partsOffTheEdge_5 : decode cX2_partsOffTheEdge 5 = .ok (.aload_n 0, 1) := by decide +kernel
theorem dX2_partsOffTheEdge_6 : decode cX2_partsOffTheEdge 6 = .ok (.getfield 28, 3) := by decide +kernel
theorem dX2_partsOffTheEdge_9 : decode cX2_partsOffTheEdge 9 = .ok (.if_icmp .ge 74, 3) := by decide +kernel
theorem dX2_partsOffTheEdge_12 : decode cX2_partsOffTheEdge 12 = .ok (.aload_n 0, 1) := by decide +kernel
theorem dX2_partsOffTheEdge_13 : decode cX2_partsOffTheEdge 13 = .ok (.iload_n 2, 1) := by decide +kernel
theorem dX2_partsOffTheEdge_14 : decode cX2_partsOffTheEdge 14 = .ok (.iconst 2, 1) := by decide +kernel
theorem dX2_partsOffTheEdge_15 : decode cX2_partsOffTheEdge 15 = .ok (.invokevirtual 80, 3) := by decide +kernel
theorem dX2_partsOffTheEdge_18 : decode cX2_partsOffTheEdge 18 = .ok (.ifCond .le 16, 3) := by decide +kernel
theorem dX2_partsOffTheEdge_21 : decode cX2_partsOffTheEdge 21 = .ok (.aload_n 0, 1) := by decide +kernel
theorem dX2_partsOffTheEdge_22 : decode cX2_partsOffTheEdge 22 = .ok (.iload_n 2, 1) := by decide +kernel
theorem dX2_partsOffTheEdge_23 : decode cX2_partsOffTheEdge 23 = .ok (.iconst 3, 1) := by decide +kernel
theorem dX2_partsOffTheEdge_24 : decode cX2_partsOffTheEdge 24 = .ok (.invokevirtual 80, 3) := by decide +kernel
theorem dX2_partsOffTheEdge_27 : decode cX2_partsOffTheEdge 27 = .ok (.ifCond .le 7, 3) := by decide +kernel
theorem dX2_partsOffTheEdge_30 : decode cX2_partsOffTheEdge 30 = .ok (.iconst 1, 1) := by decide +kernel
theorem dX2_partsOffTheEdge_31 : decode cX2_partsOffTheEdge 31 = .ok (.goto 4, 3) := by decide +kernel
theorem dX2_partsOffTheEdge_34 : decode cX2_partsOffTheEdge 34 = .ok (.iconst 0, 1) := by decide +kernel
theorem dX2_partsOffTheEdge_35 : decode cX2_partsOffTheEdge 35 = .ok (.istore_n 3, 1) := by decide +kernel
theorem dX2_partsOffTheEdge_36 : decode cX2_partsOffTheEdge 36 = .ok (.aload_n 0, 1) := by decide +kernel
theorem dX2_partsOffTheEdge_37 : decode cX2_partsOffTheEdge 37 = .ok (.iload_n 2, 1) := by decide +kernel
theorem dX2_partsOffTheEdge_38 : decode cX2_partsOffTheEdge 38 = .ok (.iconst 4, 1) := by decide +kernel
theorem dX2_partsOffTheEdge_39 : decode cX2_partsOffTheEdge 39 = .ok (.invokevirtual 80, 3) := by decide +kernel
theorem dX2_partsOffTheEdge_42 : decode cX2_partsOffTheEdge 42 = .ok (.bipush 15, 2) := by decide +kernel
theorem dX2_partsOffTheEdge_44 : decode cX2_partsOffTheEdge 44 = .ok (.if_icmp .ge 18, 3) := by decide +kernel
theorem dX2_partsOffTheEdge_47 : decode cX2_partsOffTheEdge 47 = .ok (.aload_n 0, 1) := by decide +kernel
theorem dX2_partsOffTheEdge_48 : decode cX2_partsOffTheEdge 48 = .ok (.iload_n 2, 1) := by decide +kernel
theorem dX2_partsOffTheEdge_49 : decode cX2_partsOffTheEdge 49 = .ok (.iconst 5, 1) := by decide +kernel
theorem dX2_partsOffTheEdge_50 : decode cX2_partsOffTheEdge 50 = .ok (.invokevirtual 80, 3) := by decide +kernel
theorem dX2_partsOffTheEdge_53 : decode cX2_partsOffTheEdge 53 = .ok (.bipush 15, 2) := by decide +kernel
theorem dX2_partsOffTheEdge_55 : decode cX2_partsOffTheEdge 55 = .ok (.if_icmp .ge 7, 3) := by decide +kernel
theorem dX2_partsOffTheEdge_58 : decode cX2_partsOffTheEdge 58 = .ok (.iconst 1, 1) := by decide +kernel
theorem dX2_partsOffTheEdge_59 : decode cX2_partsOffTheEdge 59 = .ok (.goto 4, 3) := by decide +kernel
theorem dX2_partsOffTheEdge_62 : decode cX2_partsOffTheEdge 62 = .ok (.iconst 0, 1) := by decide +kernel
theorem dX2_partsOffTheEdge_63 : decode cX2_partsOffTheEdge 63 = .ok (.istore 4, 2) := by decide +kernel
theorem dX2_partsOffTheEdge_65 : decode cX2_partsOffTheEdge 65 = .ok (.iload_n 3, 1) := by decide +kernel
theorem dX2_partsOffTheEdge_66 : decode cX2_partsOffTheEdge 66 = .ok (.ifCond .eq 11, 3) := by decide +kernel
theorem dX2_partsOffTheEdge_69 : decode cX2_partsOffTheEdge 69 = .ok (.iload 4, 2) := by decide +kernel
theorem dX2_partsOffTheEdge_71 : decode cX2_partsOffTheEdge 71 = .ok (.ifCond .eq 6, 3) := by decide +kernel
theorem dX2_partsOffTheEdge_74 : decode cX2_partsOffTheEdge 74 = .ok (.iinc 1 1, 3) := by decide +kernel
theorem dX2_partsOffTheEdge_77 : decode cX2_partsOffTheEdge 77 = .ok (.iinc 2 1, 3) := by decide +kernel
theorem dX2_partsOffTheEdge_80 : decode cX2_partsOffTheEdge 80 = .ok (.goto (-76), 3) := by decide +kernel
theorem dX2_partsOffTheEdge_83 : decode cX2_partsOffTheEdge 83 = .ok (.iload_n 1, 1) := by decide +kernel
theorem dX2_partsOffTheEdge_84 : decode cX2_partsOffTheEdge 84 = .ok (.ireturn, 1) := by decide +kernel
theorem dX3_init_0 : decode cX3_init 0 = .ok (.aload_n 0, 1) := by decide +kernel
theorem dX3_init_1 : decode cX3_init 1 = .ok (.invokespecial 3, 3) := by decide +kernel
theorem dX3_init_4 : decode cX3_init 4 = .ok (.aload_n 0, 1) := by decide +kernel
theorem dX3_init_5 : decode cX3_init 5 = .ok (.bipush 60, 2) := by decide +kernel
theorem dX3_init_7 : decode cX3_init 7 = .ok (.newarray .int, 2) := by decide +kernel
theorem dX3_init_9 : decode cX3_init 9 = .ok (.putfield 9, 3) := by decide +kernel
theorem dX3_init_12 : decode cX3_init 12 = .ok (.aload_n 0, 1) := by decide +kernel
theorem dX3_init_13 : decode cX3_init 13 = .ok (.iconst 1, 1) := by decide +kernel
theorem dX3_init_14 : decode cX3_init 14 = .ok (.putfield 15, 3) := by decide +kernel
theorem dX3_init_17 : decode cX3_init 17 = .ok (.aload_n 0, 1) := by decide +kernel
theorem dX3_init_18 : decode cX3_init 18 = .ok (.iconst 0, 1) := by decide +kernel
theorem dX3_init_19 : decode cX3_init 19 = .ok (.putfield 19, 3) := by decide +kernel
theorem dX3_init_22 : decode cX3_init 22 = .ok (.aload_n 0, 1) := by decide +kernel
theorem dX3_init_23 : decode cX3_init 23 = .ok (.iconst 0, 1) := by decide +kernel
theorem dX3_init_24 : decode cX3_init 24 = .ok (.putfield 23, 3) := by decide +kernel
theorem dX3_init_27 : decode cX3_init 27 = .ok (.return_, 1) := by decide +kernel
set_option maxRecDepth 20000 in
theorem ggX3_begin_J7_fill_53178 : GoodIn wsX3_begin wsJ7_fill_53178 := goodIn_r _ [8] (by decide +kernel) (by decide +kernel)
set_option maxRecDepth 20000 in
theorem gX3_begin_J7_fill_53178 : GoodIn wsX3_begin (va_wsS RX3 26 yJ7_fill_53178 wsJ7_fill_53178) := goodIn_app (goodIn_of _ (by decide +kernel)) ggX3_begin_J7_fill_53178
theorem dX3_begin_0 : decode cX3_begin 0 = .ok (.aload_n 0, 1) := by decide +kernel
theorem dX3_begin_1 : decode cX3_begin 1 = .ok (.iconst 0, 1) := by decide +kernel
theorem dX3_begin_2 : decode cX3_begin 2 = .ok (.putfield 15, 3) := by decide +kernel
theorem dX3_begin_5 : decode cX3_begin 5 = .ok (.aload_n 0, 1) := by decide +kernel
theorem dX3_begin_6 : decode cX3_begin 6 = .ok (.iload_n 1, 1) := by decide +kernel
theorem dX3_begin_7 : decode cX3_begin 7 = .ok (.putfield 19, 3) := by decide +kernel
theorem dX3_begin_10 : decode cX3_begin 10 = .ok (.aload_n 0, 1) := by decide +kernel
theorem dX3_begin_11 : decode cX3_begin 11 = .ok (.iload_n 2, 1) := by decide +kernel
theorem dX3_begin_12 : decode cX3_begin 12 = .ok (.putfield 23, 3) := by decide +kernel
theorem dX3_begin_15 : decode cX3_begin 15 = .ok (.aload_n 0, 1) := by decide +kernel
theorem dX3_begin_16 : decode cX3_begin 16 = .ok (.getfield 9, 3) := by decide +kernel
theorem dX3_begin_19 : decode cX3_begin 19 = .ok (.iconst 0, 1) := by decide +kernel
theorem dX3_begin_20 : decode cX3_begin 20 = .ok (.invokestatic 26, 3) := by decide +kernel
theorem dX3_begin_23 : decode cX3_begin 23 = .ok (.return_, 1) := by decide +kernel
set_option maxRecDepth 20000 in
theorem ggX3_item_X5_within : GoodIn wsX3_item wsX5_within := goodIn_r _ [5] (by decide +kernel) (by decide +kernel)
set_option maxRecDepth 20000 in
theorem gX3_item_X5_within_n32 : GoodIn wsX3_item (wsX5_within) := ggX3_item_X5_within
theorem dX3_item_0 : decode cX3_item 0 = .ok (.iload_n 1, 1) := by decide +kernel
theorem dX3_item_1 : decode cX3_item 1 = .ok (.aload_n 0, 1) := by decide +kernel
theorem dX3_item_2 : decode cX3_item 2 = .ok (.getfield 23, 3) := by decide +kernel
theorem dX3_item_5 : decode cX3_item 5 = .ok (.invokestatic 32, 3) := by decide +kernel
theorem dX3_item_8 : decode cX3_item 8 = .ok (.ifCond .eq 21, 3) := by decide +kernel
theorem dX3_item_11 : decode cX3_item 11 = .ok (.iload_n 1, 1) := by decide +kernel
theorem dX3_item_12 : decode cX3_item 12 = .ok (.bipush 60, 2) := by decide +kernel
theorem dX3_item_14 : decode cX3_item 14 = .ok (.invokestatic 32, 3) := by decide +kernel
theorem dX3_item_17 : decode cX3_item 17 = .ok (.ifCond .eq 12, 3) := by decide +kernel
theorem dX3_item_20 : decode cX3_item 20 = .ok (.aload_n 0, 1) := by decide +kernel
theorem dX3_item_21 : decode cX3_item 21 = .ok (.getfield 9, 3) := by decide +kernel
theorem dX3_item_24 : decode cX3_item 24 = .ok (.iload_n 1, 1) := by decide +kernel
theorem dX3_item_25 : decode cX3_item 25 = .ok (.iaload, 1) := by decide +kernel
theorem dX3_item_26 : decode cX3_item 26 = .ok (.goto 4, 3) := by decide +kernel
theorem dX3_item_29 : decode cX3_item 29 = .ok (.iconst 0, 1) := by decide +kernel
theorem dX3_item_30 : decode cX3_item 30 = .ok (.ireturn, 1) := by decide +kernel
set_option maxRecDepth 20000 in
theorem ggX3_setItem_X5_within : GoodIn wsX3_setItem wsX5_within := goodIn_r _ [5] (by decide +kernel) (by decide +kernel)
set_option maxRecDepth 20000 in
theorem gX3_setItem_X5_within_n32 : GoodIn wsX3_setItem (wsX5_within) := ggX3_setItem_X5_within
set_option maxRecDepth 20000 in
theorem ggX3_setItem_X3_narrowed : GoodIn wsX3_setItem wsX3_narrowed := goodIn_r _ [10, 11, 12, 13, 14, 15] (by decide +kernel) (by decide +kernel)
set_option maxRecDepth 20000 in
theorem gX3_setItem_X3_narrowed : GoodIn wsX3_setItem (wsV RX3 36 RX3 yX3_narrowed wsX3_narrowed) := goodIn_app (goodIn_of _ (by decide +kernel)) ggX3_setItem_X3_narrowed
theorem dX3_setItem_0 : decode cX3_setItem 0 = .ok (.iload_n 1, 1) := by decide +kernel
theorem dX3_setItem_1 : decode cX3_setItem 1 = .ok (.aload_n 0, 1) := by decide +kernel
theorem dX3_setItem_2 : decode cX3_setItem 2 = .ok (.getfield 23, 3) := by decide +kernel
theorem dX3_setItem_5 : decode cX3_setItem 5 = .ok (.invokestatic 32, 3) := by decide +kernel
theorem dX3_setItem_8 : decode cX3_setItem 8 = .ok (.ifCond .eq 23, 3) := by decide +kernel
theorem dX3_setItem_11 : decode cX3_setItem 11 = .ok (.iload_n 1, 1) := by decide +kernel
theorem dX3_setItem_12 : decode cX3_setItem 12 = .ok (.bipush 60, 2) := by decide +kernel
theorem dX3_setItem_14 : decode cX3_setItem 14 = .ok (.invokestatic 32, 3) := by decide +kernel
theorem dX3_setItem_17 : decode cX3_setItem 17 = .ok (.ifCond .eq 14, 3) := by decide +kernel
theorem dX3_setItem_20 : decode cX3_setItem 20 = .ok (.aload_n 0, 1) := by decide +kernel
theorem dX3_setItem_21 : decode cX3_setItem 21 = .ok (.getfield 9, 3) := by decide +kernel
theorem dX3_setItem_24 : decode cX3_setItem 24 = .ok (.iload_n 1, 1) := by decide +kernel
theorem dX3_setItem_25 : decode cX3_setItem 25 = .ok (.aload_n 0, 1) := by decide +kernel
theorem dX3_setItem_26 : decode cX3_setItem 26 = .ok (.iload_n 2, 1) := by decide +kernel
theorem dX3_setItem_27 : decode cX3_setItem 27 = .ok (.invokevirtual 36, 3) := by decide +kernel
theorem dX3_setItem_30 : decode cX3_setItem 30 = .ok (.iastore, 1) := by decide +kernel
theorem dX3_setItem_31 : decode cX3_setItem 31 = .ok (.return_, 1) := by decide +kernel
theorem dX3_narrowed_0 : decode cX3_narrowed 0 = .ok (.aload_n 0, 1) := by decide +kernel
theorem dX3_narrowed_1 : decode cX3_narrowed 1 = .ok (.getfield 19, 3) := by decide +kernel
theorem dX3_narrowed_4 : decode cX3_narrowed 4 = .ok (.ifCond .ne 6, 3) := by decide +kernel
theorem dX3_narrowed_7 : decode cX3_narrowed 7 = .ok (.iload_n 1, 1) := by decide +kernel
theorem dX3_narrowed_8 : decode cX3_narrowed 8 = .ok (.i2b, 1) := by decide +kernel
theorem dX3_narrowed_9 : decode cX3_narrowed 9 = .ok (.ireturn, 1) := by decide +kernel
theorem dX3_narrowed_10 : decode cX3_narrowed 10 = .ok (.aload_n 0, 1) := by decide +kernel
theorem dX3_narrowed_11 : decode cX3_narrowed 11 = .ok (.getfield 19, 3) := by decide +kernel
theorem dX3_narrowed_14 : decode cX3_narrowed 14 = .ok (.iconst 1, 1) := by decide +kernel
theorem dX3_narrowed_15 : decode cX3_narrowed 15 = .ok (.if_icmp .ne 8, 3) := by decide +kernel
theorem dX3_narrowed_18 : decode cX3_narrowed 18 = .ok (.iload_n 1, 1) := by decide +kernel
theorem dX3_narrowed_19 : decode cX3_narrowed 19 = .ok (.i2s, 1) := by decide +kernel
theorem dX3_narrowed_20 : decode cX3_narrowed 20 = .ok (.goto 4, 3) := by decide +kernel
theorem dX3_narrowed_23 : decode cX3_narrowed 23 = .ok (.iload_n 1, 1) := by decide +kernel
theorem dX3_narrowed_24 : decode cX3_narrowed 24 = .ok (.ireturn, 1) := by decide +kernel
theorem dX3_hasItems_0 : decode cX3_hasItems 0 = .ok (.iload_n 1, 1) := by decide +kernel
theorem dX3_hasItems_1 : decode cX3_hasItems 1 = .ok (.ifCond .lt 29, 3) := by decide +kernel
theorem dX3_hasItems_4 : decode cX3_hasItems 4 = .ok (.iload_n 2, 1) := by decide +kernel
theorem dX3_hasItems_5 : decode cX3_hasItems 5 = .ok (.ifCond .lt 25, 3) := by decide +kernel
theorem dX3_hasItems_8 : decode cX3_hasItems 8 = .ok (.iload_n 1, 1) := by decide +kernel
theorem dX3_hasItems_9 : decode cX3_hasItems 9 = .ok (.aload_n 0, 1) := by decide +kernel
theorem dX3_hasItems_10 : decode cX3_hasItems 10 = .ok (.getfield 23, 3) := by decide +kernel
theorem dX3_hasItems_13 : decode cX3_hasItems 13 = .ok (.if_icmp .gt 17, 3) := by decide +kernel
theorem dX3_hasItems_16 : decode cX3_hasItems 16 = .ok (.iload_n 2, 1) := by decide +kernel
theorem dX3_hasItems_17 : decode cX3_hasItems 17 = .ok (.aload_n 0, 1) := by decide +kernel
theorem dX3_hasItems_18 : decode cX3_hasItems 18 = .ok (.getfield 23, 3) := by decide +kernel
theorem dX3_hasItems_21 : decode cX3_hasItems 21 = .ok (.iload_n 1, 1) := by decide +kernel
theorem dX3_hasItems_22 : decode cX3_hasItems 22 = .ok (.isub, 1) := by decide +kernel
theorem dX3_hasItems_23 : decode cX3_hasItems 23 = .ok (.if_icmp .gt 7, 3) := by decide +kernel
theorem dX3_hasItems_26 : decode cX3_hasItems 26 = .ok (.iconst 1, 1) := by decide +kernel
theorem dX3_hasItems_27 : decode cX3_hasItems 27 = .ok (.goto 4, 3) := by decide +kernel
theorem dX3_hasItems_30 : decode cX3_hasItems 30 = .ok (.iconst 0, 1) := by decide +kernel
theorem dX3_hasItems_31 : decode cX3_hasItems 31 = .ok (.ireturn, 1) := by decide +kernel
set_option maxRecDepth 20000 in
theorem ggX4_init_X1_init : GoodIn wsX4_init wsX1_init := goodIn_r _ [15, 16, 2, 3, 8, 17, 18] (by decide +kernel) (by decide +kernel)
set_option maxRecDepth 20000 in
theorem gX4_init_X1_init_n11 : GoodIn wsX4_init (wsX1_init) := ggX4_init_X1_init
theorem dX4_init_0 : decode cX4_init 0 = .ok (.aload_n 0, 1) := by decide +kernel
theorem dX4_init_1 : decode cX4_init 1 = .ok (.invokespecial 3, 3) := by decide +kernel
theorem dX4_init_4 : decode cX4_init 4 = .ok (.aload_n 0, 1) := by decide +kernel
theorem dX4_init_5 : decode cX4_init 5 = .ok (.new 9, 3) := by decide +kernel
theorem dX4_init_8 : decode cX4_init 8 = .ok (.dup, 1) := by decide +kernel
theorem dX4_init_9 : decode cX4_init 9 = .ok (.invokespecial 11, 3) := by decide +kernel
theorem dX4_init_12 : decode cX4_init 12 = .ok (.putfield 12, 3) := by decide +kernel
theorem dX4_init_15 : decode cX4_init 15 = .ok (.aload_n 0, 1) := by decide +kernel
theorem dX4_init_16 : decode cX4_init 16 = .ok (.sipush 341, 3) := by decide +kernel
theorem dX4_init_19 : decode cX4_init 19 = .ok (.newarray .int, 2) := by decide +kernel
theorem dX4_init_21 : decode cX4_init 21 = .ok (.putfield 18, 3) := by decide +kernel
theorem dX4_init_24 : decode cX4_init 24 = .ok (.aload_n 0, 1) := by decide +kernel
theorem dX4_init_25 : decode cX4_init 25 = .ok (.iconst 1, 1) := by decide +kernel
theorem dX4_init_26 : decode cX4_init 26 = .ok (.putfield 22, 3) := by decide +kernel
theorem dX4_init_29 : decode cX4_init 29 = .ok (.aload_n 0, 1) := by decide +kernel
theorem dX4_init_30 : decode cX4_init 30 = .ok (.iconst 0, 1) := by decide +kernel
theorem dX4_init_31 : decode cX4_init 31 = .ok (.putfield 26, 3) := by decide +kernel
theorem dX4_init_34 : decode cX4_init 34 = .ok (.aload_n 0, 1) := by decide +kernel
theorem dX4_init_35 : decode cX4_init 35 = .ok (.iconst 0, 1) := by decide +kernel
theorem dX4_init_36 : decode cX4_init 36 = .ok (.putfield 29, 3) := by decide +kernel
theorem dX4_init_39 : decode cX4_init 39 = .ok (.aload_n 0, 1) := by decide +kernel
theorem dX4_init_40 : decode cX4_init 40 = .ok (.iconst 0, 1) := by decide +kernel
theorem dX4_init_41 : decode cX4_init 41 = .ok (.putfield 32, 3) := by decide +kernel
theorem dX4_init_44 : decode cX4_init 44 = .ok (.return_, 1) := by decide +kernel
set_option maxRecDepth 20000 in
theorem ggX4_look_X1_sameAs : GoodIn wsX4_look wsX1_sameAs := goodIn_r _ [10, 11, 46] (by decide +kernel) (by decide +kernel)
set_option maxRecDepth 20000 in
theorem gX4_look_X1_sameAs : GoodIn wsX4_look (wsV RX4 35 RX1 yX1_sameAs wsX1_sameAs) := goodIn_app (goodIn_of _ (by decide +kernel)) ggX4_look_X1_sameAs
set_option maxRecDepth 20000 in
theorem ggX4_look_X1_take : GoodIn wsX4_look wsX1_take := goodIn_r _ [15, 11, 46] (by decide +kernel) (by decide +kernel)
set_option maxRecDepth 20000 in
theorem gX4_look_X1_take : GoodIn wsX4_look (wsV RX4 39 RX1 yX1_take wsX1_take) := goodIn_app (goodIn_of _ (by decide +kernel)) ggX4_look_X1_take
set_option maxRecDepth 20000 in
theorem ggX4_look_X4_tellSquare : GoodIn wsX4_look wsX4_tellSquare := goodIn_r _ [19, 1, 4, 5, 20, 21, 22, 23, 24, 25, 26, 9, 27, 28, 29, 30, 31, 11, 32, 33, 34, 18, 35, 2, 36, 3, 37, 38, 39, 16, 17, 40, 41, 42, 43, 44, 45, 46] (by decide +kernel) (by decide +kernel)
set_option maxRecDepth 20000 in
theorem gX4_look_X4_tellSquare : GoodIn wsX4_look (va_wsS RX4 43 yX4_tellSquare wsX4_tellSquare) := goodIn_app (goodIn_of _ (by decide +kernel)) ggX4_look_X4_tellSquare
theorem dX4_look_0 : decode cX4_look 0 = .ok (.aload_n 0, 1) := by decide +kernel
theorem dX4_look_1 : decode cX4_look 1 = .ok (.getfield 12, 3) := by decide +kernel
theorem dX4_look_4 : decode cX4_look 4 = .ok (.aload_n 1, 1) := by decide +kernel
theorem dX4_look_5 : decode cX4_look 5 = .ok (.invokevirtual 35, 3) := by decide +kernel
theorem dX4_look_8 : decode cX4_look 8 = .ok (.ifCond .eq 4, 3) := by decide +kernel
theorem dX4_look_11 : decode cX4_look 11 = .ok (.return_, 1) := by decide +kernel
theorem dX4_look_12 : decode cX4_look 12 = .ok (.aload_n 0, 1) := by decide +kernel
theorem dX4_look_13 : decode cX4_look 13 = .ok (.getfield 12, 3) := by decide +kernel
theorem dX4_look_16 : decode cX4_look 16 = .ok (.aload_n 1, 1) := by decide +kernel
theorem dX4_look_17 : decode cX4_look 17 = .ok (.invokevirtual 39, 3) := by decide +kernel
theorem dX4_look_20 : decode cX4_look 20 = .ok (.aload_n 0, 1) := by decide +kernel
theorem dX4_look_21 : decode cX4_look 21 = .ok (.iconst 0, 1) := by decide +kernel
theorem dX4_look_22 : decode cX4_look 22 = .ok (.putfield 22, 3) := by decide +kernel
theorem dX4_look_25 : decode cX4_look 25 = .ok (.aload_n 0, 1) := by decide +kernel
theorem dX4_look_26 : decode cX4_look 26 = .ok (.iconst 0, 1) := by decide +kernel
theorem dX4_look_27 : decode cX4_look 27 = .ok (.putfield 26, 3) := by decide +kernel
theorem dX4_look_30 : decode cX4_look 30 = .ok (.aload_n 0, 1) := by decide +kernel
theorem dX4_look_31 : decode cX4_look 31 = .ok (.iconst 0, 1) := by decide +kernel
theorem dX4_look_32 : decode cX4_look 32 = .ok (.putfield 29, 3) := by decide +kernel
theorem dX4_look_35 : decode cX4_look 35 = .ok (.aload_n 0, 1) := by decide +kernel
theorem dX4_look_36 : decode cX4_look 36 = .ok (.iconst 0, 1) := by decide +kernel
theorem dX4_look_37 : decode cX4_look 37 = .ok (.putfield 32, 3) := by decide +kernel
theorem dX4_look_40 : decode cX4_look 40 = .ok (.aload_n 0, 1) := by decide +kernel
theorem dX4_look_41 : decode cX4_look 41 = .ok (.iconst 0, 1) := by decide +kernel
theorem dX4_look_42 : decode cX4_look 42 = .ok (.iconst 0, 1) := by decide +kernel
theorem dX4_look_43 : decode cX4_look 43 = .ok (.bipush 16, 2) := by decide +kernel
theorem dX4_look_45 : decode cX4_look 45 = .ok (.iconst 1, 1) := by decide +kernel
theorem dX4_look_46 : decode cX4_look 46 = .ok (.invokestatic 43, 3) := by decide +kernel
theorem dX4_look_49 : decode cX4_look 49 = .ok (.return_, 1) := by decide +kernel
set_option maxRecDepth 20000 in
theorem ggX4_tellSquare_X1_signOfSquare : GoodIn wsX4_tellSquare wsX1_signOfSquare := goodIn_r _ [12, 13, 14, 15, 11, 16, 17, 37] (by decide +kernel) (by decide +kernel)
set_option maxRecDepth 20000 in
theorem gX4_tellSquare_X1_signOfSquare : GoodIn wsX4_tellSquare (wsV RX4 47 RX1 yX1_signOfSquare wsX1_signOfSquare) := goodIn_app (goodIn_of _ (by decide +kernel)) ggX4_tellSquare_X1_signOfSquare
set_option maxRecDepth 20000 in
theorem ggX4_tellSquare_X4_addSign : GoodIn wsX4_tellSquare wsX4_addSign := goodIn_r _ [22, 23, 24, 25, 26, 27, 28, 31, 32, 33, 34, 35, 36] (by decide +kernel) (by decide +kernel)
set_option maxRecDepth 20000 in
theorem gX4_tellSquare_X4_addSign : GoodIn wsX4_tellSquare (wsV RX4 51 RX4 yX4_addSign wsX4_addSign) := goodIn_app (goodIn_of _ (by decide +kernel)) ggX4_tellSquare_X4_addSign
set_option maxRecDepth 20000 in
theorem ggX4_tellSquare_X4_tellSquare : GoodIn wsX4_tellSquare wsX4_tellSquare := goodIn_r _ [0, 1, 2, 3, 4, 5, 6, 7, 8, 9, 10, 11, 12, 13, 14, 15, 16, 17, 18, 19, 20, 21, 22, 23, 24, 25, 26, 27, 28, 29, 30, 31, 32, 33, 34, 35, 36, 37] (by decide +kernel) (by decide +kernel)
set_option maxRecDepth 20000 in
theorem gX4_tellSquare_X4_tellSquare : GoodIn wsX4_tellSquare (va_wsS RX4 43 yX4_tellSquare wsX4_tellSquare) := goodIn_app (goodIn_of _ (by decide +kernel)) ggX4_tellSquare_X4_tellSquare
theorem dX4_tellSquare_0 : decode cX4_tellSquare 0 = .ok (.aload_n 0, 1) := by decide +kernel
theorem dX4_tellSquare_1 : decode cX4_tellSquare 1 = .ok (.getfield 12, 3) := by decide +kernel
theorem dX4_tellSquare_4 : decode cX4_tellSquare 4 = .ok (.iload_n 1, 1) := by decide +kernel
theorem dX4_tellSquare_5 : decode cX4_tellSquare 5 = .ok (.iload_n 2, 1) := by decide +kernel
theorem dX4_tellSquare_6 : decode cX4_tellSquare 6 = .ok (.iload_n 3, 1) := by decide +kernel
theorem dX4_tellSquare_7 : decode cX4_tellSquare 7 = .ok (.invokevirtual 47, 3) := by decide +kernel
theorem dX4_tellSquare_10 : decode cX4_tellSquare 10 = .ok (.istore 5, 2) := by decide +kernel
theorem dX4_tellSquare_12 : decode cX4_tellSquare 12 = .ok (.aload_n 0, 1) := by decide +kernel
theorem dX4_tellSquare_13 : decode cX4_tellSquare 13 = .ok (.iload 5, 2) := by decide +kernel
theorem dX4_tellSquare_15 : decode cX4_tellSquare 15 = .ok (.invokevirtual 51, 3) := by decide +kernel
theorem dX4_tellSquare_18 : decode cX4_tellSquare 18 = .ok (.iload 5, 2) := by decide +kernel
theorem dX4_tellSquare_20 : decode cX4_tellSquare 20 = .ok (.iconst 2, 1) := by decide +kernel
theorem dX4_tellSquare_21 : decode cX4_tellSquare 21 = .ok (.if_icmp .ne 8, 3) := by decide +kernel
theorem dX4_tellSquare_24 : decode cX4_tellSquare 24 = .ok (.iload_n 3, 1) := by decide +kernel
theorem dX4_tellSquare_25 : decode cX4_tellSquare 25 = .ok (.iconst 1, 1) := by decide +kernel
theorem dX4_tellSquare_26 : decode cX4_tellSquare 26 = .ok (.if_icmp .gt 4, 3) := by decide +kernel
theorem dX4_tellSquare_29 : decode cX4_tellSquare 29 = .ok (.return_, 1) := by decide +kernel
theorem dX4_tellSquare_30 : decode cX4_tellSquare 30 = .ok (.aload_n 0, 1) := by decide +kernel
theorem dX4_tellSquare_31 : decode cX4_tellSquare 31 = .ok (.dup, 1) := by decide +kernel
theorem dX4_tellSquare_32 : decode cX4_tellSquare 32 = .ok (.getfield 29, 3) := by decide +kernel
theorem dX4_tellSquare_35 : decode cX4_tellSquare 35 = .ok (.iconst 1, 1) := by decide +kernel
theorem dX4_tellSquare_36 : decode cX4_tellSquare 36 = .ok (.iadd, 1) := by decide +kernel
theorem dX4_tellSquare_37 : decode cX4_tellSquare 37 = .ok (.putfield 29, 3) := by decide +kernel
theorem dX4_tellSquare_40 : decode cX4_tellSquare 40 = .ok (.aload_n 0, 1) := by decide +kernel
theorem dX4_tellSquare_41 : decode cX4_tellSquare 41 = .ok (.aload_n 0, 1) := by decide +kernel
theorem dX4_tellSquare_42 : decode cX4_tellSquare 42 = .ok (.getfield 32, 3) := by decide +kernel
theorem dX4_tellSquare_45 : decode cX4_tellSquare 45 = .ok (.iload 4, 2) := by decide +kernel
theorem dX4_tellSquare_47 : decode cX4_tellSquare 47 = .ok (.invokestatic 55, 3) := by decide +kernel
theorem dX4_tellSquare_50 : decode cX4_tellSquare 50 = .ok (.putfield 32, 3) := by decide +kernel
theorem dX4_tellSquare_53 : decode cX4_tellSquare 53 = .ok (.iload_n 3, 1) := by decide +kernel
theorem dX4_tellSquare_54 : decode cX4_tellSquare 54 = .ok (.iconst 2, 1) := by decide +kernel
theorem dX4_tellSquare_55 : decode cX4_tellSquare 55 = .ok (.idiv, 1) := by decide +kernel
theorem dX4_tellSquare_56 : decode cX4_tellSquare 56 = .ok (.istore 6, 2) := by decide +kernel
theorem dX4_tellSquare_58 : decode cX4_tellSquare 58 = .ok (.iconst 0, 1) := by decide +kernel
theorem dX4_tellSquare_59 : decode cX4_tellSquare 59 = .ok (.istore 7, 2) := by decide +kernel
theorem dX4_tellSquare_61 : decode cX4_tellSquare 61 = .ok (.iload 7, 2) := by decide +kernel
theorem dX4_tellSquare_63 : decode cX4_tellSquare 63 = .ok (.iconst 4, 1) := by decide +kernel
theorem dX4_tellSquare_64 : decode cX4_tellSquare 64 = .ok (.if_icmp .ge 37, 3) := by decide +kernel
theorem dX4_tellSquare_67 : decode cX4_tellSquare 67 = .ok (.aload_n 0, 1) := by decide +kernel
theorem dX4_tellSquare_68 : decode cX4_tellSquare 68 = .ok (.iload_n 1, 1) := by decide +kernel
theorem dX4_tellSquare_69 : decode cX4_tellSquare 69 = .ok (.iload 7, 2) := by decide +kernel
theorem dX4_tellSquare_71 : decode cX4_tellSquare 71 = .ok (.iconst 2, 1) := by decide +kernel
theorem dX4_tellSquare_72 : decode cX4_tellSquare 72 = .ok (.irem, 1) := by decide +kernel
theorem dX4_tellSquare_73 : decode cX4_tellSquare 73 = .ok (.iload 6, 2) := by decide +kernel
theorem dX4_tellSquare_75 : decode cX4_tellSquare 75 = .ok (.imul, 1) := by decide +kernel
theorem dX4_tellSquare_76 : decode cX4_tellSquare 76 = .ok (.iadd, 1) := by decide +kernel
theorem dX4_tellSquare_77 : decode cX4_tellSquare 77 = .ok (.iload_n 2, 1) := by decide +kernel
theorem dX4_tellSquare_78 : decode cX4_tellSquare 78 = .ok (.iload 7, 2) := by decide +kernel
theorem dX4_tellSquare_80 : decode cX4_tellSquare 80 = .ok (.iconst 2, 1) := by decide +kernel
theorem dX4_tellSquare_81 : decode cX4_tellSquare 81 = .ok (.idiv, 1) := by decide +kernel
theorem dX4_tellSquare_82 : decode cX4_tellSquare 82 = .ok (.iload 6, 2) := by decide +kernel
theorem dX4_tellSquare_84 : decode cX4_tellSquare 84 = .ok (.imul, 1) := by decide +kernel
theorem dX4_tellSquare_85 : decode cX4_tellSquare 85 = .ok (.iadd, 1) := by decide +kernel
theorem dX4_tellSquare_86 : decode cX4_tellSquare 86 = .ok (.iload 6, 2) := by decide +kernel
theorem dX4_tellSquare_88 : decode cX4_tellSquare 88 = .ok (.iload 4, 2) := by decide +kernel
theorem dX4_tellSquare_90 : decode cX4_tellSquare 90 = .ok (.iconst 1, 1) := by decide +kernel
theorem dX4_tellSquare_91 : decode cX4_tellSquare 91 = .ok (.iadd, 1) := by decide +kernel
theorem dX4_tellSquare_92 : decode cX4_tellSquare 92 = .ok (.invokestatic 43, 3) := by decide +kernel
theorem dX4_tellSquare_95 : decode cX4_tellSquare 95 = .ok (.iinc 7 1, 3) := by decide +kernel
theorem dX4_tellSquare_98 : decode cX4_tellSquare 98 = .ok (.goto (-37), 3) := by decide +kernel
theorem dX4_tellSquare_101 : decode cX4_tellSquare 101 = .ok (.return_, 1) := by decide +kernel
set_option maxRecDepth 20000 in
theorem ggX4_addSign_X5_within : GoodIn wsX4_addSign wsX5_within := goodIn_r _ [6] (by decide +kernel) (by decide +kernel)
set_option maxRecDepth 20000 in
theorem gX4_addSign_X5_within_n61 : GoodIn wsX4_addSign (wsX5_within) := ggX4_addSign_X5_within
theorem dX4_addSign_0 : decode cX4_addSign 0 = .ok (.aload_n 0, 1) := by decide +kernel
theorem dX4_addSign_1 : decode cX4_addSign 1 = .ok (.getfield 22, 3) := by decide +kernel
theorem dX4_addSign_4 : decode cX4_addSign 4 = .ok (.sipush 341, 3) := by decide +kernel
theorem dX4_addSign_7 : decode cX4_addSign 7 = .ok (.invokestatic 61, 3) := by decide +kernel
theorem dX4_addSign_10 : decode cX4_addSign 10 = .ok (.ifCond .eq 23, 3) := by decide +kernel
theorem dX4_addSign_13 : decode cX4_addSign 13 = .ok (.aload_n 0, 1) := by decide +kernel
theorem dX4_addSign_14 : decode cX4_addSign 14 = .ok (.getfield 18, 3) := by decide +kernel
theorem dX4_addSign_17 : decode cX4_addSign 17 = .ok (.aload_n 0, 1) := by decide +kernel
theorem dX4_addSign_18 : decode cX4_addSign 18 = .ok (.getfield 22, 3) := by decide +kernel
theorem dX4_addSign_21 : decode cX4_addSign 21 = .ok (.iload_n 1, 1) := by decide +kernel
theorem dX4_addSign_22 : decode cX4_addSign 22 = .ok (.iastore, 1) := by decide +kernel
theorem dX4_addSign_23 : decode cX4_addSign 23 = .ok (.aload_n 0, 1) := by decide +kernel
theorem dX4_addSign_24 : decode cX4_addSign 24 = .ok (.dup, 1) := by decide +kernel
theorem dX4_addSign_25 : decode cX4_addSign 25 = .ok (.getfield 22, 3) := by decide +kernel
theorem dX4_addSign_28 : decode cX4_addSign 28 = .ok (.iconst 1, 1) := by decide +kernel
theorem dX4_addSign_29 : decode cX4_addSign 29 = .ok (.iadd, 1) := by decide +kernel
theorem dX4_addSign_30 : decode cX4_addSign 30 = .ok (.putfield 22, 3) := by decide +kernel
theorem dX4_addSign_33 : decode cX4_addSign 33 = .ok (.iload_n 1, 1) := by decide +kernel
theorem dX4_addSign_34 : decode cX4_addSign 34 = .ok (.iconst 1, 1) := by decide +kernel
theorem dX4_addSign_35 : decode cX4_addSign 35 = .ok (.if_icmp .ne 13, 3) := by decide +kernel
theorem dX4_addSign_38 : decode cX4_addSign 38 = .ok (.aload_n 0, 1) := by decide +kernel
theorem dX4_addSign_39 : decode cX4_addSign 39 = .ok (.dup, 1) := by decide +kernel
theorem dX4_addSign_40 : decode cX4_addSign 40 = .ok (.getfield 26, 3) := by decide +kernel
theorem dX4_addSign_43 : decode cX4_addSign 43 = .ok (.iconst 1, 1) := by decide +kernel
theorem dX4_addSign_44 : decode cX4_addSign 44 = .ok (.iadd, 1) := by decide +kernel
theorem dX4_addSign_45 : decode cX4_addSign 45 = .ok (.putfield 26, 3) := by decide +kernel
theorem dX4_addSign_48 : decode cX4_addSign 48 = .ok (.return_, 1) := by decide +kernel
set_option maxRecDepth 20000 in
theorem ggX4_sign_X5_within : GoodIn wsX4_sign wsX5_within := goodIn_r _ [5] (by decide +kernel) (by decide +kernel)
set_option maxRecDepth 20000 in
theorem gX4_sign_X5_within_n61 : GoodIn wsX4_sign (wsX5_within) := ggX4_sign_X5_within
theorem dX4_sign_0 : decode cX4_sign 0 = .ok (.iload_n 1, 1) := by decide +kernel
theorem dX4_sign_1 : decode cX4_sign 1 = .ok (.aload_n 0, 1) := by decide +kernel
theorem dX4_sign_2 : decode cX4_sign 2 = .ok (.getfield 22, 3) := by decide +kernel
theorem dX4_sign_5 : decode cX4_sign 5 = .ok (.invokestatic 61, 3) := by decide +kernel
theorem dX4_sign_8 : decode cX4_sign 8 = .ok (.ifCond .eq 22, 3) := by decide +kernel
theorem dX4_sign_11 : decode cX4_sign 11 = .ok (.iload_n 1, 1) := by decide +kernel
theorem dX4_sign_12 : decode cX4_sign 12 = .ok (.sipush 341, 3) := by decide +kernel
theorem dX4_sign_15 : decode cX4_sign 15 = .ok (.invokestatic 61, 3) := by decide +kernel
theorem dX4_sign_18 : decode cX4_sign 18 = .ok (.ifCond .eq 12, 3) := by decide +kernel
theorem dX4_sign_21 : decode cX4_sign 21 = .ok (.aload_n 0, 1) := by decide +kernel
theorem dX4_sign_22 : decode cX4_sign 22 = .ok (.getfield 18, 3) := by decide +kernel
theorem dX4_sign_25 : decode cX4_sign 25 = .ok (.iload_n 1, 1) := by decide +kernel
theorem dX4_sign_26 : decode cX4_sign 26 = .ok (.iaload, 1) := by decide +kernel
theorem dX4_sign_27 : decode cX4_sign 27 = .ok (.goto 4, 3) := by decide +kernel
theorem dX4_sign_30 : decode cX4_sign 30 = .ok (.iconst (-1), 1) := by decide +kernel
theorem dX4_sign_31 : decode cX4_sign 31 = .ok (.ireturn, 1) := by decide +kernel
end
section
set_option maxRecDepth 20000 in
theorem ggX5_init_X0_init : GoodIn wsX5_init wsX0_init := goodIn_r _ [29, 30, 2, 3, 31, 32, 33, 34, 35, 80, 81, 82, 83] (by decide +kernel) (by decide +kernel)
set_option maxRecDepth 20000 in
theorem gX5_init_X0_init_n23 : GoodIn wsX5_init (wsX0_init) := ggX5_init_X0_init
set_option maxRecDepth 20000 in
theorem ggX5_init_X1_init : GoodIn wsX5_init wsX1_init := goodIn_r _ [37, 38, 2, 3, 31, 39, 84] (by decide +kernel) (by decide +kernel)
set_option maxRecDepth 20000 in
theorem gX5_init_X1_init_n28 : GoodIn wsX5_init (wsX1_init) := ggX5_init_X1_init
set_option maxRecDepth 20000 in
theorem ggX5_init_X2_init : GoodIn wsX5_init wsX2_init := goodIn_r _ [42, 43, 2, 3, 44, 12, 13, 45, 31, 46, 47, 48, 49, 36, 37, 38, 39, 50, 51, 52, 53, 84, 85, 86, 87, 88, 89] (by decide +kernel) (by decide +kernel)
set_option maxRecDepth 20000 in
theorem gX5_init_X2_init : GoodIn wsX5_init (wsX2_init) := ggX5_init_X2_init
set_option maxRecDepth 20000 in
theorem ggX5_init_X4_init : GoodIn wsX5_init wsX4_init := goodIn_r _ [55, 56, 2, 3, 57, 12, 13, 58, 31, 59, 60, 61, 62, 63, 36, 37, 38, 39, 84, 90, 91, 92, 93, 94, 95] (by decide +kernel) (by decide +kernel)
set_option maxRecDepth 20000 in
theorem gX5_init_X4_init_n48 : GoodIn wsX5_init (wsX4_init) := ggX5_init_X4_init
set_option maxRecDepth 20000 in
theorem ggX5_init_X3_init : GoodIn wsX5_init wsX3_init := goodIn_r _ [65, 66, 2, 3, 31, 67, 68, 69, 70, 96, 97, 98, 99] (by decide +kernel) (by decide +kernel)
set_option maxRecDepth 20000 in
theorem gX5_init_X3_init_n57 : GoodIn wsX5_init (wsX3_init) := ggX5_init_X3_init
theorem dX5_init_0 : decode cX5_init 0 = .ok (.aload_n 0, 1) := by decide +kernel
theorem dX5_init_1 : decode cX5_init 1 = .ok (.invokespecial 1, 3) := by decide +kernel
theorem dX5_init_4 : decode cX5_init 4 = .ok (.aload_n 0, 1) := by decide +kernel
theorem dX5_init_5 : decode cX5_init 5 = .ok (.iconst 4, 1) := by decide +kernel
theorem dX5_init_6 : decode cX5_init 6 = .ok (.anewarray 9, 3) := by decide +kernel
theorem dX5_init_9 : decode cX5_init 9 = .ok (.putfield 11, 3) := by decide +kernel
theorem dX5_init_12 : decode cX5_init 12 = .ok (.aload_n 0, 1) := by decide +kernel
theorem dX5_init_13 : decode cX5_init 13 = .ok (.iconst 4, 1) := by decide +kernel
theorem dX5_init_14 : decode cX5_init 14 = .ok (.anewarray 15, 3) := by decide +kernel
theorem dX5_init_17 : decode cX5_init 17 = .ok (.putfield 17, 3) := by decide +kernel
theorem dX5_init_20 : decode cX5_init 20 = .ok (.aload_n 0, 1) := by decide +kernel
theorem dX5_init_21 : decode cX5_init 21 = .ok (.new 21, 3) := by decide +kernel
theorem dX5_init_24 : decode cX5_init 24 = .ok (.dup, 1) := by decide +kernel
theorem dX5_init_25 : decode cX5_init 25 = .ok (.invokespecial 23, 3) := by decide +kernel
theorem dX5_init_28 : decode cX5_init 28 = .ok (.putfield 24, 3) := by decide +kernel
theorem dX5_init_31 : decode cX5_init 31 = .ok (.aload_n 0, 1) := by decide +kernel
theorem dX5_init_32 : decode cX5_init 32 = .ok (.new 9, 3) := by decide +kernel
theorem dX5_init_35 : decode cX5_init 35 = .ok (.dup, 1) := by decide +kernel
theorem dX5_init_36 : decode cX5_init 36 = .ok (.invokespecial 28, 3) := by decide +kernel
theorem dX5_init_39 : decode cX5_init 39 = .ok (.putfield 29, 3) := by decide +kernel
theorem dX5_init_42 : decode cX5_init 42 = .ok (.aload_n 0, 1) := by decide +kernel
theorem dX5_init_43 : decode cX5_init 43 = .ok (.new 9, 3) := by decide +kernel
theorem dX5_init_46 : decode cX5_init 46 = .ok (.dup, 1) := by decide +kernel
theorem dX5_init_47 : decode cX5_init 47 = .ok (.invokespecial 28, 3) := by decide +kernel
theorem dX5_init_50 : decode cX5_init 50 = .ok (.putfield 33, 3) := by decide +kernel
theorem dX5_init_53 : decode cX5_init 53 = .ok (.aload_n 0, 1) := by decide +kernel
theorem dX5_init_54 : decode cX5_init 54 = .ok (.new 36, 3) := by decide +kernel
theorem dX5_init_57 : decode cX5_init 57 = .ok (.dup, 1) := by decide +kernel
theorem dX5_init_58 : decode cX5_init 58 = .ok (.invokespecial 38, 3) := by decide +kernel
theorem dX5_init_61 : decode cX5_init 61 = .ok (.putfield 39, 3) := by decide +kernel
theorem dX5_init_64 : decode cX5_init 64 = .ok (.aload_n 0, 1) := by decide +kernel
theorem dX5_init_65 : decode cX5_init 65 = .ok (.new 36, 3) := by decide +kernel
theorem dX5_init_68 : decode cX5_init 68 = .ok (.dup, 1) := by decide +kernel
theorem dX5_init_69 : decode cX5_init 69 = .ok (.invokespecial 38, 3) := by decide +kernel
theorem dX5_init_72 : decode cX5_init 72 = .ok (.putfield 43, 3) := by decide +kernel
theorem dX5_init_75 : decode cX5_init 75 = .ok (.aload_n 0, 1) := by decide +kernel
theorem dX5_init_76 : decode cX5_init 76 = .ok (.new 46, 3) := by decide +kernel
theorem dX5_init_79 : decode cX5_init 79 = .ok (.dup, 1) := by decide +kernel
theorem dX5_init_80 : decode cX5_init 80 = .ok (.invokespecial 48, 3) := by decide +kernel
theorem dX5_init_83 : decode cX5_init 83 = .ok (.putfield 49, 3) := by decide +kernel
theorem dX5_init_86 : decode cX5_init 86 = .ok (.aload_n 0, 1) := by decide +kernel
theorem dX5_init_87 : decode cX5_init 87 = .ok (.iconst 0, 1) := by decide +kernel
theorem dX5_init_88 : decode cX5_init 88 = .ok (.putfield 53, 3) := by decide +kernel
theorem dX5_init_91 : decode cX5_init 91 = .ok (.iconst 0, 1) := by decide +kernel
theorem dX5_init_92 : decode cX5_init 92 = .ok (.istore_n 1, 1) := by decide +kernel
theorem dX5_init_93 : decode cX5_init 93 = .ok (.iload_n 1, 1) := by decide +kernel
theorem dX5_init_94 : decode cX5_init 94 = .ok (.iconst 4, 1) := by decide +kernel
theorem dX5_init_95 : decode cX5_init 95 = .ok (.if_icmp .ge 22, 3) := by decide +kernel
theorem dX5_init_98 : decode cX5_init 98 = .ok (.aload_n 0, 1) := by decide +kernel
theorem dX5_init_99 : decode cX5_init 99 = .ok (.getfield 11, 3) := by decide +kernel
theorem dX5_init_102 : decode cX5_init 102 = .ok (.iload_n 1, 1) := by decide +kernel
theorem dX5_init_103 : decode cX5_init 103 = .ok (.new 9, 3) := by decide +kernel
theorem dX5_init_106 : decode cX5_init 106 = .ok (.dup, 1) := by decide +kernel
theorem dX5_init_107 : decode cX5_init 107 = .ok (.invokespecial 28, 3) := by decide +kernel
theorem dX5_init_110 : decode cX5_init 110 = .ok (.aastore, 1) := by decide +kernel
theorem dX5_init_111 : decode cX5_init 111 = .ok (.iinc 1 1, 3) := by decide +kernel
theorem dX5_init_114 : decode cX5_init 114 = .ok (.goto (-21), 3) := by decide +kernel
theorem dX5_init_117 : decode cX5_init 117 = .ok (.iconst 0, 1) := by decide +kernel
theorem dX5_init_118 : decode cX5_init 118 = .ok (.istore_n 1, 1) := by decide +kernel
theorem dX5_init_119 : decode cX5_init 119 = .ok (.iload_n 1, 1) := by decide +kernel
theorem dX5_init_120 : decode cX5_init 120 = .ok (.iconst 4, 1) := by decide +kernel
theorem dX5_init_121 : decode cX5_init 121 = .ok (.if_icmp .ge 22, 3) := by decide +kernel
theorem dX5_init_124 : decode cX5_init 124 = .ok (.aload_n 0, 1) := by decide +kernel
theorem dX5_init_125 : decode cX5_init 125 = .ok (.getfield 17, 3) := by decide +kernel
theorem dX5_init_128 : decode cX5_init 128 = .ok (.iload_n 1, 1) := by decide +kernel
theorem dX5_init_129 : decode cX5_init 129 = .ok (.new 15, 3) := by decide +kernel
theorem dX5_init_132 : decode cX5_init 132 = .ok (.dup, 1) := by decide +kernel
theorem dX5_init_133 : decode cX5_init 133 = .ok (.invokespecial 57, 3) := by decide +kernel
theorem dX5_init_136 : decode cX5_init 136 = .ok (.aastore, 1) := by decide +kernel
theorem dX5_init_137 : decode cX5_init 137 = .ok (.iinc 1 1, 3) := by decide +kernel
theorem dX5_init_140 : decode cX5_init 140 = .ok (.goto (-21), 3) := by decide +kernel
theorem dX5_init_143 : decode cX5_init 143 = .ok (.return_, 1) := by decide +kernel
set_option maxRecDepth 20000 in
theorem ggX5_fill_X5_isMask : GoodIn wsX5_fill wsX5_isMask := goodIn_r _ [6, 7, 8, 5, 9] (by decide +kernel) (by decide +kernel)
set_option maxRecDepth 20000 in
theorem gX5_fill_X5_isMask : GoodIn wsX5_fill (va_wsS RX5 58 yX5_isMask wsX5_isMask) := goodIn_app (goodIn_of _ (by decide +kernel)) ggX5_fill_X5_isMask
set_option maxRecDepth 20000 in
theorem ggX5_fill_X5_isCell : GoodIn wsX5_fill wsX5_isCell := goodIn_r _ [12, 7, 8, 5, 9] (by decide +kernel) (by decide +kernel)
set_option maxRecDepth 20000 in
theorem gX5_fill_X5_isCell : GoodIn wsX5_fill (va_wsS RX5 62 yX5_isCell wsX5_isCell) := goodIn_app (goodIn_of _ (by decide +kernel)) ggX5_fill_X5_isCell
set_option maxRecDepth 20000 in
theorem ggX5_fill_X5_within : GoodIn wsX5_fill wsX5_within := goodIn_r _ [9] (by decide +kernel) (by decide +kernel)
set_option maxRecDepth 20000 in
theorem gX5_fill_X5_within : GoodIn wsX5_fill (va_wsS RX5 66 yX5_within wsX5_within) := goodIn_app (goodIn_of _ (by decide +kernel)) ggX5_fill_X5_within
set_option maxRecDepth 20000 in
theorem ggX5_fill_X1_take : GoodIn wsX5_fill wsX1_take := goodIn_r _ [17, 18, 71] (by decide +kernel) (by decide +kernel)
set_option maxRecDepth 20000 in
theorem gX5_fill_X1_take : GoodIn wsX5_fill (wsV RX5 69 RX1 yX1_take wsX1_take) := goodIn_app (goodIn_of _ (by decide +kernel)) ggX5_fill_X1_take
set_option maxRecDepth 20000 in
theorem ggX5_fill_X1_paint : GoodIn wsX5_fill wsX1_paint := goodIn_r _ [22, 23, 24, 25, 16, 26, 18, 27, 28, 29, 30, 31, 8, 5, 9, 71] (by decide +kernel) (by decide +kernel)
set_option maxRecDepth 20000 in
theorem gX5_fill_X1_paint : GoodIn wsX5_fill (wsV RX5 73 RX1 yX1_paint wsX1_paint) := goodIn_app (goodIn_of _ (by decide +kernel)) ggX5_fill_X1_paint
set_option maxRecDepth 20000 in
theorem ggX5_fill_X5_become : GoodIn wsX5_fill wsX5_become := goodIn_r _ [35, 36, 2, 1, 37, 38, 39, 40, 41, 42, 43, 44, 45, 46, 47, 48, 49, 50, 24, 25, 16, 26, 18, 13, 14, 15, 17, 51, 52, 53, 54, 55, 56, 57, 58, 59, 60, 61, 62, 63, 64, 65, 66, 67, 68, 69, 70, 72, 73, 74, 75, 71] (by decide +kernel) (by decide +kernel)
set_option maxRecDepth 20000 in
theorem gX5_fill_X5_become : GoodIn wsX5_fill (wsV RX5 77 RX5 yX5_become wsX5_become) := goodIn_app (goodIn_of _ (by decide +kernel)) ggX5_fill_X5_become
theorem dX5_fill_0 : decode cX5_fill 0 = .ok (.iload_n 1, 1) := by decide +kernel
theorem dX5_fill_1 : decode cX5_fill 1 = .ok (.invokestatic 58, 3) := by decide +kernel
theorem dX5_fill_4 : decode cX5_fill 4 = .ok (.ifCond .eq 40, 3) := by decide +kernel
theorem dX5_fill_7 : decode cX5_fill 7 = .ok (.iload_n 2, 1) := by decide +kernel
theorem dX5_fill_8 : decode cX5_fill 8 = .ok (.iload_n 3, 1) := by decide +kernel
theorem dX5_fill_9 : decode cX5_fill 9 = .ok (.invokestatic 62, 3) := by decide +kernel
theorem dX5_fill_12 : decode cX5_fill 12 = .ok (.ifCond .eq 32, 3) := by decide +kernel
theorem dX5_fill_15 : decode cX5_fill 15 = .ok (.iload 4, 2) := by decide +kernel
theorem dX5_fill_17 : decode cX5_fill 17 = .ok (.bipush 17, 2) := by decide +kernel
theorem dX5_fill_19 : decode cX5_fill 19 = .ok (.invokestatic 66, 3) := by decide +kernel
theorem dX5_fill_22 : decode cX5_fill 22 = .ok (.ifCond .eq 22, 3) := by decide +kernel
theorem dX5_fill_25 : decode cX5_fill 25 = .ok (.iload 5, 2) := by decide +kernel
theorem dX5_fill_27 : decode cX5_fill 27 = .ok (.bipush 17, 2) := by decide +kernel
theorem dX5_fill_29 : decode cX5_fill 29 = .ok (.invokestatic 66, 3) := by decide +kernel
theorem dX5_fill_32 : decode cX5_fill 32 = .ok (.ifCond .eq 12, 3) := by decide +kernel
theorem dX5_fill_35 : decode cX5_fill 35 = .ok (.iload 6, 2) := by decide +kernel
theorem dX5_fill_37 : decode cX5_fill 37 = .ok (.iconst 2, 1) := by decide +kernel
theorem dX5_fill_38 : decode cX5_fill 38 = .ok (.invokestatic 66, 3) := by decide +kernel
theorem dX5_fill_41 : decode cX5_fill 41 = .ok (.ifCond .ne 6, 3) := by decide +kernel
theorem dX5_fill_44 : decode cX5_fill 44 = .ok (.bipush (-2), 2) := by decide +kernel
theorem dX5_fill_46 : decode cX5_fill 46 = .ok (.ireturn, 1) := by decide +kernel
theorem dX5_fill_47 : decode cX5_fill 47 = .ok (.aload_n 0, 1) := by decide +kernel
theorem dX5_fill_48 : decode cX5_fill 48 = .ok (.getfield 29, 3) := by decide +kernel
theorem dX5_fill_51 : decode cX5_fill 51 = .ok (.aload_n 0, 1) := by decide +kernel
theorem dX5_fill_52 : decode cX5_fill 52 = .ok (.getfield 11, 3) := by decide +kernel
theorem dX5_fill_55 : decode cX5_fill 55 = .ok (.iload_n 1, 1) := by decide +kernel
theorem dX5_fill_56 : decode cX5_fill 56 = .ok (.aaload, 1) := by decide +kernel
theorem dX5_fill_57 : decode cX5_fill 57 = .ok (.invokevirtual 69, 3) := by decide +kernel
theorem dX5_fill_60 : decode cX5_fill 60 = .ok (.aload_n 0, 1) := by decide +kernel
theorem dX5_fill_61 : decode cX5_fill 61 = .ok (.getfield 29, 3) := by decide +kernel
theorem dX5_fill_64 : decode cX5_fill 64 = .ok (.iload_n 2, 1) := by decide +kernel
theorem dX5_fill_65 : decode cX5_fill 65 = .ok (.iload_n 3, 1) := by decide +kernel
theorem dX5_fill_66 : decode cX5_fill 66 = .ok (.iload 4, 2) := by decide +kernel
theorem dX5_fill_68 : decode cX5_fill 68 = .ok (.iload 5, 2) := by decide +kernel
theorem dX5_fill_70 : decode cX5_fill 70 = .ok (.iload 6, 2) := by decide +kernel
theorem dX5_fill_72 : decode cX5_fill 72 = .ok (.invokevirtual 73, 3) := by decide +kernel
theorem dX5_fill_75 : decode cX5_fill 75 = .ok (.aload_n 0, 1) := by decide +kernel
theorem dX5_fill_76 : decode cX5_fill 76 = .ok (.iload_n 1, 1) := by decide +kernel
theorem dX5_fill_77 : decode cX5_fill 77 = .ok (.invokevirtual 77, 3) := by decide +kernel
theorem dX5_fill_80 : decode cX5_fill 80 = .ok (.ireturn, 1) := by decide +kernel
set_option maxRecDepth 20000 in
theorem ggX5_dots_X5_isMask : GoodIn wsX5_dots wsX5_isMask := goodIn_r _ [7, 8, 9, 6, 10] (by decide +kernel) (by decide +kernel)
set_option maxRecDepth 20000 in
theorem gX5_dots_X5_isMask : GoodIn wsX5_dots (va_wsS RX5 58 yX5_isMask wsX5_isMask) := goodIn_app (goodIn_of _ (by decide +kernel)) ggX5_dots_X5_isMask
set_option maxRecDepth 20000 in
theorem ggX5_dots_X5_within : GoodIn wsX5_dots wsX5_within := goodIn_r _ [10] (by decide +kernel) (by decide +kernel)
set_option maxRecDepth 20000 in
theorem gX5_dots_X5_within : GoodIn wsX5_dots (va_wsS RX5 66 yX5_within wsX5_within) := goodIn_app (goodIn_of _ (by decide +kernel)) ggX5_dots_X5_within
set_option maxRecDepth 20000 in
theorem ggX5_dots_X1_take : GoodIn wsX5_dots wsX1_take := goodIn_r _ [15, 16, 69] (by decide +kernel) (by decide +kernel)
set_option maxRecDepth 20000 in
theorem gX5_dots_X1_take : GoodIn wsX5_dots (wsV RX5 69 RX1 yX1_take wsX1_take) := goodIn_app (goodIn_of _ (by decide +kernel)) ggX5_dots_X1_take
set_option maxRecDepth 20000 in
theorem ggX5_dots_X1_flip : GoodIn wsX5_dots wsX1_flip := goodIn_r _ [20, 21, 22, 23, 14, 24, 16, 25, 26, 27, 28, 29, 9, 6, 10, 69] (by decide +kernel) (by decide +kernel)
set_option maxRecDepth 20000 in
theorem gX5_dots_X1_flip : GoodIn wsX5_dots (wsV RX5 82 RX1 yX1_flip wsX1_flip) := goodIn_app (goodIn_of _ (by decide +kernel)) ggX5_dots_X1_flip
set_option maxRecDepth 20000 in
theorem ggX5_dots_X5_become : GoodIn wsX5_dots wsX5_become := goodIn_r _ [33, 34, 2, 1, 35, 36, 37, 38, 39, 40, 41, 42, 43, 44, 45, 46, 47, 48, 22, 23, 14, 24, 16, 11, 12, 13, 15, 49, 50, 51, 52, 53, 54, 55, 56, 57, 58, 59, 60, 61, 62, 63, 64, 65, 66, 67, 68, 70, 71, 72, 73, 69] (by decide +kernel) (by decide +kernel)
set_option maxRecDepth 20000 in
theorem gX5_dots_X5_become : GoodIn wsX5_dots (wsV RX5 77 RX5 yX5_become wsX5_become) := goodIn_app (goodIn_of _ (by decide +kernel)) ggX5_dots_X5_become
theorem dX5_dots_0 : decode cX5_dots 0 = .ok (.iload_n 1, 1) := by decide +kernel
theorem dX5_dots_1 : decode cX5_dots 1 = .ok (.invokestatic 58, 3) := by decide +kernel
theorem dX5_dots_4 : decode cX5_dots 4 = .ok (.ifCond .eq 13, 3) := by decide +kernel
theorem dX5_dots_7 : decode cX5_dots 7 = .ok (.iload_n 3, 1) := by decide +kernel
theorem dX5_dots_8 : decode cX5_dots 8 = .ok (.sipush 256, 3) := by decide +kernel
theorem dX5_dots_11 : decode cX5_dots 11 = .ok (.invokestatic 66, 3) := by decide +kernel
theorem dX5_dots_14 : decode cX5_dots 14 = .ok (.ifCond .ne 6, 3) := by decide +kernel
theorem dX5_dots_17 : decode cX5_dots 17 = .ok (.bipush (-2), 2) := by decide +kernel
theorem dX5_dots_19 : decode cX5_dots 19 = .ok (.ireturn, 1) := by decide +kernel
theorem dX5_dots_20 : decode cX5_dots 20 = .ok (.aload_n 0, 1) := by decide +kernel
theorem dX5_dots_21 : decode cX5_dots 21 = .ok (.getfield 29, 3) := by decide +kernel
theorem dX5_dots_24 : decode cX5_dots 24 = .ok (.aload_n 0, 1) := by decide +kernel
theorem dX5_dots_25 : decode cX5_dots 25 = .ok (.getfield 11, 3) := by decide +kernel
theorem dX5_dots_28 : decode cX5_dots 28 = .ok (.iload_n 1, 1) := by decide +kernel
theorem dX5_dots_29 : decode cX5_dots 29 = .ok (.aaload, 1) := by decide +kernel
theorem dX5_dots_30 : decode cX5_dots 30 = .ok (.invokevirtual 69, 3) := by decide +kernel
theorem dX5_dots_33 : decode cX5_dots 33 = .ok (.iload_n 2, 1) := by decide +kernel
theorem dX5_dots_34 : decode cX5_dots 34 = .ok (.istore 4, 2) := by decide +kernel
theorem dX5_dots_36 : decode cX5_dots 36 = .ok (.iconst 0, 1) := by decide +kernel
theorem dX5_dots_37 : decode cX5_dots 37 = .ok (.istore 5, 2) := by decide +kernel
theorem dX5_dots_39 : decode cX5_dots 39 = .ok (.iload 5, 2) := by decide +kernel
theorem dX5_dots_41 : decode cX5_dots 41 = .ok (.iload_n 3, 1) := by decide +kernel
theorem dX5_dots_42 : decode cX5_dots 42 = .ok (.if_icmp .ge 48, 3) := by decide +kernel
theorem dX5_dots_45 : decode cX5_dots 45 = .ok (.ldc 81, 2) := by decide +kernel
theorem dX5_dots_47 : decode cX5_dots 47 = .ok (.iload 4, 2) := by decide +kernel
theorem dX5_dots_49 : decode cX5_dots 49 = .ok (.imul, 1) := by decide +kernel
theorem dX5_dots_50 : decode cX5_dots 50 = .ok (.sipush 12345, 3) := by decide +kernel
theorem dX5_dots_53 : decode cX5_dots 53 = .ok (.iadd, 1) := by decide +kernel
theorem dX5_dots_54 : decode cX5_dots 54 = .ok (.istore 4, 2) := by decide +kernel
theorem dX5_dots_56 : decode cX5_dots 56 = .ok (.iload 4, 2) := by decide +kernel
theorem dX5_dots_58 : decode cX5_dots 58 = .ok (.bipush 16, 2) := by decide +kernel
theorem dX5_dots_60 : decode cX5_dots 60 = .ok (.iushr, 1) := by decide +kernel
theorem dX5_dots_61 : decode cX5_dots 61 = .ok (.sipush 256, 3) := by decide +kernel
theorem dX5_dots_64 : decode cX5_dots 64 = .ok (.irem, 1) := by decide +kernel
theorem dX5_dots_65 : decode cX5_dots 65 = .ok (.istore 6, 2) := by decide +kernel
theorem dX5_dots_67 : decode cX5_dots 67 = .ok (.aload_n 0, 1) := by decide +kernel
theorem dX5_dots_68 : decode cX5_dots 68 = .ok (.getfield 29, 3) := by decide +kernel
theorem dX5_dots_71 : decode cX5_dots 71 = .ok (.iload 6, 2) := by decide +kernel
theorem dX5_dots_73 : decode cX5_dots 73 = .ok (.bipush 16, 2) := by decide +kernel
theorem dX5_dots_75 : decode cX5_dots 75 = .ok (.irem, 1) := by decide +kernel
theorem dX5_dots_76 : decode cX5_dots 76 = .ok (.iload 6, 2) := by decide +kernel
theorem dX5_dots_78 : decode cX5_dots 78 = .ok (.bipush 16, 2) := by decide +kernel
theorem dX5_dots_80 : decode cX5_dots 80 = .ok (.idiv, 1) := by decide +kernel
theorem dX5_dots_81 : decode cX5_dots 81 = .ok (.invokevirtual 82, 3) := by decide +kernel
theorem dX5_dots_84 : decode cX5_dots 84 = .ok (.iinc 5 1, 3) := by decide +kernel
theorem dX5_dots_87 : decode cX5_dots 87 = .ok (.goto (-48), 3) := by decide +kernel
theorem dX5_dots_90 : decode cX5_dots 90 = .ok (.aload_n 0, 1) := by decide +kernel
theorem dX5_dots_91 : decode cX5_dots 91 = .ok (.iload_n 1, 1) := by decide +kernel
theorem dX5_dots_92 : decode cX5_dots 92 = .ok (.invokevirtual 77, 3) := by decide +kernel
theorem dX5_dots_95 : decode cX5_dots 95 = .ok (.ireturn, 1) := by decide +kernel
set_option maxRecDepth 20000 in
theorem ggX5_join_X5_within : GoodIn wsX5_join wsX5_within := goodIn_r _ [6] (by decide +kernel) (by decide +kernel)
set_option maxRecDepth 20000 in
theorem gX5_join_X5_within : GoodIn wsX5_join (va_wsS RX5 66 yX5_within wsX5_within) := goodIn_app (goodIn_of _ (by decide +kernel)) ggX5_join_X5_within
set_option maxRecDepth 20000 in
theorem ggX5_join_X5_isMask : GoodIn wsX5_join wsX5_isMask := goodIn_r _ [9, 3, 4, 5, 6] (by decide +kernel) (by decide +kernel)
set_option maxRecDepth 20000 in
theorem gX5_join_X5_isMask : GoodIn wsX5_join (va_wsS RX5 58 yX5_isMask wsX5_isMask) := goodIn_app (goodIn_of _ (by decide +kernel)) ggX5_join_X5_isMask
set_option maxRecDepth 20000 in
theorem ggX5_join_X1_row : GoodIn wsX5_join wsX1_row := goodIn_r _ [14, 15, 67] (by decide +kernel) (by decide +kernel)
set_option maxRecDepth 20000 in
theorem gX5_join_X1_row : GoodIn wsX5_join (wsV RX5 86 RX1 yX1_row wsX1_row) := goodIn_app (goodIn_of _ (by decide +kernel)) ggX5_join_X1_row
set_option maxRecDepth 20000 in
theorem ggX5_join_X5_joinedRow : GoodIn wsX5_join wsX5_joinedRow := goodIn_r _ [18] (by decide +kernel) (by decide +kernel)
set_option maxRecDepth 20000 in
theorem gX5_join_X5_joinedRow : GoodIn wsX5_join (va_wsS RX5 89 yX5_joinedRow wsX5_joinedRow) := goodIn_app (goodIn_of _ (by decide +kernel)) ggX5_join_X5_joinedRow
set_option maxRecDepth 20000 in
theorem ggX5_join_X1_setRow : GoodIn wsX5_join wsX1_setRow := goodIn_r _ [22, 15, 23, 4, 5, 6, 67] (by decide +kernel) (by decide +kernel)
set_option maxRecDepth 20000 in
theorem gX5_join_X1_setRow : GoodIn wsX5_join (wsV RX5 93 RX1 yX1_setRow wsX1_setRow) := goodIn_app (goodIn_of _ (by decide +kernel)) ggX5_join_X1_setRow
set_option maxRecDepth 20000 in
theorem ggX5_join_X5_become : GoodIn wsX5_join wsX5_become := goodIn_r _ [27, 28, 2, 1, 29, 30, 31, 32, 33, 34, 35, 36, 37, 38, 39, 40, 41, 42, 11, 12, 13, 14, 15, 43, 44, 45, 46, 47, 48, 49, 50, 51, 52, 53, 54, 55, 56, 57, 58, 59, 60, 61, 62, 63, 64, 65, 66, 68, 69, 70, 71, 67] (by decide +kernel) (by decide +kernel)
set_option maxRecDepth 20000 in
theorem gX5_join_X5_become : GoodIn wsX5_join (wsV RX5 77 RX5 yX5_become wsX5_become) := goodIn_app (goodIn_of _ (by decide +kernel)) ggX5_join_X5_become
theorem dX5_join_0 : decode cX5_join 0 = .ok (.iload_n 1, 1) := by decide +kernel
theorem dX5_join_1 : decode cX5_join 1 = .ok (.iconst 4, 1) := by decide +kernel
theorem dX5_join_2 : decode cX5_join 2 = .ok (.invokestatic 66, 3) := by decide +kernel
theorem dX5_join_5 : decode cX5_join 5 = .ok (.ifCond .eq 25, 3) := by decide +kernel
theorem dX5_join_8 : decode cX5_join 8 = .ok (.iload_n 2, 1) := by decide +kernel
theorem dX5_join_9 : decode cX5_join 9 = .ok (.invokestatic 58, 3) := by decide +kernel
theorem dX5_join_12 : decode cX5_join 12 = .ok (.ifCond .eq 18, 3) := by decide +kernel
theorem dX5_join_15 : decode cX5_join 15 = .ok (.iload_n 3, 1) := by decide +kernel
theorem dX5_join_16 : decode cX5_join 16 = .ok (.invokestatic 58, 3) := by decide +kernel
theorem dX5_join_19 : decode cX5_join 19 = .ok (.ifCond .eq 11, 3) := by decide +kernel
theorem dX5_join_22 : decode cX5_join 22 = .ok (.iload 4, 2) := by decide +kernel
theorem dX5_join_24 : decode cX5_join 24 = .ok (.invokestatic 58, 3) := by decide +kernel
theorem dX5_join_27 : decode cX5_join 27 = .ok (.ifCond .ne 6, 3) := by decide +kernel
theorem dX5_join_30 : decode cX5_join 30 = .ok (.bipush (-2), 2) := by decide +kernel
theorem dX5_join_32 : decode cX5_join 32 = .ok (.ireturn, 1) := by decide +kernel
theorem dX5_join_33 : decode cX5_join 33 = .ok (.iconst 0, 1) := by decide +kernel
theorem dX5_join_34 : decode cX5_join 34 = .ok (.istore 5, 2) := by decide +kernel
theorem dX5_join_36 : decode cX5_join 36 = .ok (.iload 5, 2) := by decide +kernel
theorem dX5_join_38 : decode cX5_join 38 = .ok (.bipush 16, 2) := by decide +kernel
theorem dX5_join_40 : decode cX5_join 40 = .ok (.if_icmp .ge 44, 3) := by decide +kernel
theorem dX5_join_43 : decode cX5_join 43 = .ok (.aload_n 0, 1) := by decide +kernel
theorem dX5_join_44 : decode cX5_join 44 = .ok (.getfield 29, 3) := by decide +kernel
theorem dX5_join_47 : decode cX5_join 47 = .ok (.iload 5, 2) := by decide +kernel
theorem dX5_join_49 : decode cX5_join 49 = .ok (.iload_n 1, 1) := by decide +kernel
theorem dX5_join_50 : decode cX5_join 50 = .ok (.aload_n 0, 1) := by decide +kernel
theorem dX5_join_51 : decode cX5_join 51 = .ok (.getfield 11, 3) := by decide +kernel
theorem dX5_join_54 : decode cX5_join 54 = .ok (.iload_n 2, 1) := by decide +kernel
theorem dX5_join_55 : decode cX5_join 55 = .ok (.aaload, 1) := by decide +kernel
theorem dX5_join_56 : decode cX5_join 56 = .ok (.iload 5, 2) := by decide +kernel
theorem dX5_join_58 : decode cX5_join 58 = .ok (.invokevirtual 86, 3) := by decide +kernel
theorem dX5_join_61 : decode cX5_join 61 = .ok (.aload_n 0, 1) := by decide +kernel
theorem dX5_join_62 : decode cX5_join 62 = .ok (.getfield 11, 3) := by decide +kernel
theorem dX5_join_65 : decode cX5_join 65 = .ok (.iload_n 3, 1) := by decide +kernel
theorem dX5_join_66 : decode cX5_join 66 = .ok (.aaload, 1) := by decide +kernel
theorem dX5_join_67 : decode cX5_join 67 = .ok (.iload 5, 2) := by decide +kernel
theorem dX5_join_69 : decode cX5_join 69 = .ok (.invokevirtual 86, 3) := by decide +kernel
theorem dX5_join_72 : decode cX5_join 72 = .ok (.invokestatic 89, 3) := by decide +kernel
theorem dX5_join_75 : decode cX5_join 75 = .ok (.invokevirtual 93, 3) := by decide +kernel
theorem dX5_join_78 : decode cX5_join 78 = .ok (.iinc 5 1, 3) := by decide +kernel
theorem dX5_join_81 : decode cX5_join 81 = .ok (.goto (-45), 3) := by decide +kernel
theorem dX5_join_84 : decode cX5_join 84 = .ok (.aload_n 0, 1) := by decide +kernel
theorem dX5_join_85 : decode cX5_join 85 = .ok (.iload 4, 2) := by decide +kernel
theorem dX5_join_87 : decode cX5_join 87 = .ok (.invokevirtual 77, 3) := by decide +kernel
theorem dX5_join_90 : decode cX5_join 90 = .ok (.ireturn, 1) := by decide +kernel
theorem dX5_joinedRow_0 : decode cX5_joinedRow 0 = .ok (.iload_n 0, 1) := by decide +kernel
theorem dX5_joinedRow_1 : decode cX5_joinedRow 1 = .ok (.tableswitch 41 0 2 #[27, 31, 35], 27) := by decide +kernel
theorem dX5_joinedRow_28 : decode cX5_joinedRow 28 = .ok (.iload_n 1, 1) := by decide +kernel
theorem dX5_joinedRow_29 : decode cX5_joinedRow 29 = .ok (.iload_n 2, 1) := by decide +kernel
theorem dX5_joinedRow_30 : decode cX5_joinedRow 30 = .ok (.ior, 1) := by decide +kernel
theorem dX5_joinedRow_31 : decode cX5_joinedRow 31 = .ok (.ireturn, 1) := by decide +kernel
theorem dX5_joinedRow_32 : decode cX5_joinedRow 32 = .ok (.iload_n 1, 1) := by decide +kernel
theorem dX5_joinedRow_33 : decode cX5_joinedRow 33 = .ok (.iload_n 2, 1) := by decide +kernel
theorem dX5_joinedRow_34 : decode cX5_joinedRow 34 = .ok (.iand, 1) := by decide +kernel
theorem dX5_joinedRow_35 : decode cX5_joinedRow 35 = .ok (.ireturn, 1) := by decide +kernel
theorem dX5_joinedRow_36 : decode cX5_joinedRow 36 = .ok (.iload_n 1, 1) := by decide +kernel
theorem dX5_joinedRow_37 : decode cX5_joinedRow 37 = .ok (.iload_n 2, 1) := by decide +kernel
theorem dX5_joinedRow_38 : decode cX5_joinedRow 38 = .ok (.iconst (-1), 1) := by decide +kernel
theorem dX5_joinedRow_39 : decode cX5_joinedRow 39 = .ok (.ixor, 1) := by decide +kernel
theorem dX5_joinedRow_40 : decode cX5_joinedRow 40 = .ok (.iand, 1) := by decide +kernel
theorem dX5_joinedRow_41 : decode cX5_joinedRow 41 = .ok (.ireturn, 1) := by decide +kernel
theorem dX5_joinedRow_42 : decode cX5_joinedRow 42 = .ok (.iload_n 1, 1) := by decide +kernel
theorem dX5_joinedRow_43 : decode cX5_joinedRow 43 = .ok (.iload_n 2, 1) := by decide +kernel
theorem dX5_joinedRow_44 : decode cX5_joinedRow 44 = .ok (.ixor, 1) := by decide +kernel
theorem dX5_joinedRow_45 : decode cX5_joinedRow 45 = .ok (.ireturn, 1) := by decide +kernel
set_option maxRecDepth 20000 in
theorem ggX5_over_X5_isMask : GoodIn wsX5_over wsX5_isMask := goodIn_r _ [6, 7, 8, 5, 9] (by decide +kernel) (by decide +kernel)
set_option maxRecDepth 20000 in
theorem gX5_over_X5_isMask : GoodIn wsX5_over (va_wsS RX5 58 yX5_isMask wsX5_isMask) := goodIn_app (goodIn_of _ (by decide +kernel)) ggX5_over_X5_isMask
set_option maxRecDepth 20000 in
theorem ggX5_over_X1_takeTurnedOver : GoodIn wsX5_over wsX1_takeTurnedOver := goodIn_r _ [14, 15, 16, 63] (by decide +kernel) (by decide +kernel)
set_option maxRecDepth 20000 in
theorem gX5_over_X1_takeTurnedOver : GoodIn wsX5_over (wsV RX5 96 RX1 yX1_takeTurnedOver wsX1_takeTurnedOver) := goodIn_app (goodIn_of _ (by decide +kernel)) ggX5_over_X1_takeTurnedOver
set_option maxRecDepth 20000 in
theorem ggX5_over_X5_become : GoodIn wsX5_over wsX5_become := goodIn_r _ [20, 21, 2, 1, 22, 23, 24, 25, 26, 27, 28, 29, 30, 31, 32, 33, 34, 35, 36, 37, 13, 38, 15, 39, 40, 41, 42, 43, 44, 45, 46, 47, 48, 49, 50, 51, 52, 53, 54, 55, 56, 57, 58, 59, 60, 61, 62, 64, 65, 66, 67, 63] (by decide +kernel) (by decide +kernel)
set_option maxRecDepth 20000 in
theorem gX5_over_X5_become : GoodIn wsX5_over (wsV RX5 77 RX5 yX5_become wsX5_become) := goodIn_app (goodIn_of _ (by decide +kernel)) ggX5_over_X5_become
theorem dX5_over_0 : decode cX5_over 0 = .ok (.iload_n 1, 1) := by decide +kernel
theorem dX5_over_1 : decode cX5_over 1 = .ok (.invokestatic 58, 3) := by decide +kernel
theorem dX5_over_4 : decode cX5_over 4 = .ok (.ifCond .eq 10, 3) := by decide +kernel
theorem dX5_over_7 : decode cX5_over 7 = .ok (.iload_n 2, 1) := by decide +kernel
theorem dX5_over_8 : decode cX5_over 8 = .ok (.invokestatic 58, 3) := by decide +kernel
theorem dX5_over_11 : decode cX5_over 11 = .ok (.ifCond .ne 6, 3) := by decide +kernel
theorem dX5_over_14 : decode cX5_over 14 = .ok (.bipush (-2), 2) := by decide +kernel
theorem dX5_over_16 : decode cX5_over 16 = .ok (.ireturn, 1) := by decide +kernel
theorem dX5_over_17 : decode cX5_over 17 = .ok (.aload_n 0, 1) := by decide +kernel
theorem dX5_over_18 : decode cX5_over 18 = .ok (.getfield 29, 3) := by decide +kernel
theorem dX5_over_21 : decode cX5_over 21 = .ok (.aload_n 0, 1) := by decide +kernel
theorem dX5_over_22 : decode cX5_over 22 = .ok (.getfield 11, 3) := by decide +kernel
theorem dX5_over_25 : decode cX5_over 25 = .ok (.iload_n 1, 1) := by decide +kernel
theorem dX5_over_26 : decode cX5_over 26 = .ok (.aaload, 1) := by decide +kernel
theorem dX5_over_27 : decode cX5_over 27 = .ok (.invokevirtual 96, 3) := by decide +kernel
theorem dX5_over_30 : decode cX5_over 30 = .ok (.aload_n 0, 1) := by decide +kernel
theorem dX5_over_31 : decode cX5_over 31 = .ok (.iload_n 2, 1) := by decide +kernel
theorem dX5_over_32 : decode cX5_over 32 = .ok (.invokevirtual 77, 3) := by decide +kernel
theorem dX5_over_35 : decode cX5_over 35 = .ok (.ireturn, 1) := by decide +kernel
set_option maxRecDepth 20000 in
theorem ggX5_move_X5_isMask : GoodIn wsX5_move wsX5_isMask := goodIn_r _ [6, 7, 8, 5, 9] (by decide +kernel) (by decide +kernel)
set_option maxRecDepth 20000 in
theorem gX5_move_X5_isMask : GoodIn wsX5_move (va_wsS RX5 58 yX5_isMask wsX5_isMask) := goodIn_app (goodIn_of _ (by decide +kernel)) ggX5_move_X5_isMask
set_option maxRecDepth 20000 in
theorem ggX5_move_X5_isMove : GoodIn wsX5_move wsX5_isMove := goodIn_r _ [12] (by decide +kernel) (by decide +kernel)
set_option maxRecDepth 20000 in
theorem gX5_move_X5_isMove : GoodIn wsX5_move (va_wsS RX5 99 yX5_isMove wsX5_isMove) := goodIn_app (goodIn_of _ (by decide +kernel)) ggX5_move_X5_isMove
set_option maxRecDepth 20000 in
theorem ggX5_move_X1_row : GoodIn wsX5_move wsX1_row := goodIn_r _ [17, 18, 67] (by decide +kernel) (by decide +kernel)
set_option maxRecDepth 20000 in
theorem gX5_move_X1_row : GoodIn wsX5_move (wsV RX5 86 RX1 yX1_row wsX1_row) := goodIn_app (goodIn_of _ (by decide +kernel)) ggX5_move_X1_row
set_option maxRecDepth 20000 in
theorem ggX5_move_X1_setRow : GoodIn wsX5_move wsX1_setRow := goodIn_r _ [22, 18, 23, 8, 5, 9, 67] (by decide +kernel) (by decide +kernel)
set_option maxRecDepth 20000 in
theorem gX5_move_X1_setRow : GoodIn wsX5_move (wsV RX5 93 RX1 yX1_setRow wsX1_setRow) := goodIn_app (goodIn_of _ (by decide +kernel)) ggX5_move_X1_setRow
set_option maxRecDepth 20000 in
theorem ggX5_move_X5_become : GoodIn wsX5_move wsX5_become := goodIn_r _ [27, 28, 1, 2, 29, 30, 31, 32, 33, 34, 35, 36, 37, 38, 39, 40, 41, 42, 14, 15, 16, 17, 18, 43, 44, 45, 46, 47, 48, 49, 50, 51, 52, 53, 54, 55, 56, 57, 58, 59, 60, 61, 62, 63, 64, 65, 66, 68, 69, 70, 71, 67] (by decide +kernel) (by decide +kernel)
set_option maxRecDepth 20000 in
theorem gX5_move_X5_become : GoodIn wsX5_move (wsV RX5 77 RX5 yX5_become wsX5_become) := goodIn_app (goodIn_of _ (by decide +kernel)) ggX5_move_X5_become
theorem dX5_move_0 : decode cX5_move 0 = .ok (.iload_n 1, 1) := by decide +kernel
theorem dX5_move_1 : decode cX5_move 1 = .ok (.invokestatic 58, 3) := by decide +kernel
theorem dX5_move_4 : decode cX5_move 4 = .ok (.ifCond .eq 25, 3) := by decide +kernel
theorem dX5_move_7 : decode cX5_move 7 = .ok (.iload_n 2, 1) := by decide +kernel
theorem dX5_move_8 : decode cX5_move 8 = .ok (.invokestatic 99, 3) := by decide +kernel
theorem dX5_move_11 : decode cX5_move 11 = .ok (.ifCond .eq 18, 3) := by decide +kernel
theorem dX5_move_14 : decode cX5_move 14 = .ok (.iload_n 3, 1) := by decide +kernel
theorem dX5_move_15 : decode cX5_move 15 = .ok (.invokestatic 99, 3) := by decide +kernel
theorem dX5_move_18 : decode cX5_move 18 = .ok (.ifCond .eq 11, 3) := by decide +kernel
theorem dX5_move_21 : decode cX5_move 21 = .ok (.iload 4, 2) := by decide +kernel
theorem dX5_move_23 : decode cX5_move 23 = .ok (.invokestatic 58, 3) := by decide +kernel
theorem dX5_move_26 : decode cX5_move 26 = .ok (.ifCond .ne 6, 3) := by decide +kernel
theorem dX5_move_29 : decode cX5_move 29 = .ok (.bipush (-2), 2) := by decide +kernel
theorem dX5_move_31 : decode cX5_move 31 = .ok (.ireturn, 1) := by decide +kernel
theorem dX5_move_32 : decode cX5_move 32 = .ok (.iconst 0, 1) := by decide +kernel
theorem dX5_move_33 : decode cX5_move 33 = .ok (.istore 5, 2) := by decide +kernel
theorem dX5_move_35 : decode cX5_move 35 = .ok (.iload 5, 2) := by decide +kernel
theorem dX5_move_37 : decode cX5_move 37 = .ok (.bipush 16, 2) := by decide +kernel
theorem dX5_move_39 : decode cX5_move 39 = .ok (.if_icmp .ge 49, 3) := by decide +kernel
theorem dX5_move_42 : decode cX5_move 42 = .ok (.aload_n 0, 1) := by decide +kernel
theorem dX5_move_43 : decode cX5_move 43 = .ok (.getfield 11, 3) := by decide +kernel
theorem dX5_move_46 : decode cX5_move 46 = .ok (.iload_n 1, 1) := by decide +kernel
theorem dX5_move_47 : decode cX5_move 47 = .ok (.aaload, 1) := by decide +kernel
theorem dX5_move_48 : decode cX5_move 48 = .ok (.iload 5, 2) := by decide +kernel
theorem dX5_move_50 : decode cX5_move 50 = .ok (.iload_n 3, 1) := by decide +kernel
theorem dX5_move_51 : decode cX5_move 51 = .ok (.isub, 1) := by decide +kernel
theorem dX5_move_52 : decode cX5_move 52 = .ok (.invokevirtual 86, 3) := by decide +kernel
theorem dX5_move_55 : decode cX5_move 55 = .ok (.istore 6, 2) := by decide +kernel
theorem dX5_move_57 : decode cX5_move 57 = .ok (.aload_n 0, 1) := by decide +kernel
theorem dX5_move_58 : decode cX5_move 58 = .ok (.getfield 29, 3) := by decide +kernel
theorem dX5_move_61 : decode cX5_move 61 = .ok (.iload 5, 2) := by decide +kernel
theorem dX5_move_63 : decode cX5_move 63 = .ok (.iload_n 2, 1) := by decide +kernel
theorem dX5_move_64 : decode cX5_move 64 = .ok (.ifCond .ge 11, 3) := by decide +kernel
theorem dX5_move_67 : decode cX5_move 67 = .ok (.iload 6, 2) := by decide +kernel
theorem dX5_move_69 : decode cX5_move 69 = .ok (.iload_n 2, 1) := by decide +kernel
theorem dX5_move_70 : decode cX5_move 70 = .ok (.ineg, 1) := by decide +kernel
theorem dX5_move_71 : decode cX5_move 71 = .ok (.iushr, 1) := by decide +kernel
theorem dX5_move_72 : decode cX5_move 72 = .ok (.goto 7, 3) := by decide +kernel
theorem dX5_move_75 : decode cX5_move 75 = .ok (.iload 6, 2) := by decide +kernel
theorem dX5_move_77 : decode cX5_move 77 = .ok (.iload_n 2, 1) := by decide +kernel
theorem dX5_move_78 : decode cX5_move 78 = .ok (.ishl, 1) := by decide +kernel
theorem dX5_move_79 : decode cX5_move 79 = .ok (.invokevirtual 93, 3) := by decide +kernel
theorem dX5_move_82 : decode cX5_move 82 = .ok (.iinc 5 1, 3) := by decide +kernel
theorem dX5_move_85 : decode cX5_move 85 = .ok (.goto (-50), 3) := by decide +kernel
theorem dX5_move_88 : decode cX5_move 88 = .ok (.aload_n 0, 1) := by decide +kernel
theorem dX5_move_89 : decode cX5_move 89 = .ok (.iload 4, 2) := by decide +kernel
theorem dX5_move_91 : decode cX5_move 91 = .ok (.invokevirtual 77, 3) := by decide +kernel
theorem dX5_move_94 : decode cX5_move 94 = .ok (.ireturn, 1) := by decide +kernel
set_option maxRecDepth 20000 in
theorem ggX5_turn_X5_isMask : GoodIn wsX5_turn wsX5_isMask := goodIn_r _ [7, 8, 9, 6, 10] (by decide +kernel) (by decide +kernel)
set_option maxRecDepth 20000 in
theorem gX5_turn_X5_isMask : GoodIn wsX5_turn (va_wsS RX5 58 yX5_isMask wsX5_isMask) := goodIn_app (goodIn_of _ (by decide +kernel)) ggX5_turn_X5_isMask
set_option maxRecDepth 20000 in
theorem ggX5_turn_X5_within : GoodIn wsX5_turn wsX5_within := goodIn_r _ [10] (by decide +kernel) (by decide +kernel)
set_option maxRecDepth 20000 in
theorem gX5_turn_X5_within : GoodIn wsX5_turn (va_wsS RX5 66 yX5_within wsX5_within) := goodIn_app (goodIn_of _ (by decide +kernel)) ggX5_turn_X5_within
set_option maxRecDepth 20000 in
theorem ggX5_turn_X1_take : GoodIn wsX5_turn wsX1_take := goodIn_r _ [15, 16, 67] (by decide +kernel) (by decide +kernel)
set_option maxRecDepth 20000 in
theorem gX5_turn_X1_take : GoodIn wsX5_turn (wsV RX5 69 RX1 yX1_take wsX1_take) := goodIn_app (goodIn_of _ (by decide +kernel)) ggX5_turn_X1_take
set_option maxRecDepth 20000 in
theorem ggX5_turn_X1_takeTurnedRight : GoodIn wsX5_turn wsX1_takeTurnedRight := goodIn_r _ [20, 16, 21, 22, 23, 14, 24, 67] (by decide +kernel) (by decide +kernel)
set_option maxRecDepth 20000 in
theorem gX5_turn_X1_takeTurnedRight : GoodIn wsX5_turn (wsV RX5 102 RX1 yX1_takeTurnedRight wsX1_takeTurnedRight) := goodIn_app (goodIn_of _ (by decide +kernel)) ggX5_turn_X1_takeTurnedRight
set_option maxRecDepth 20000 in
theorem ggX5_turn_X5_become : GoodIn wsX5_turn wsX5_become := goodIn_r _ [28, 29, 2, 1, 30, 31, 32, 33, 34, 35, 36, 37, 38, 39, 40, 41, 42, 43, 44, 45, 14, 46, 16, 11, 12, 13, 15, 47, 48, 49, 50, 51, 52, 53, 54, 55, 56, 57, 58, 59, 60, 61, 62, 63, 64, 65, 66, 68, 69, 70, 71, 67] (by decide +kernel) (by decide +kernel)
set_option maxRecDepth 20000 in
theorem gX5_turn_X5_become : GoodIn wsX5_turn (wsV RX5 77 RX5 yX5_become wsX5_become) := goodIn_app (goodIn_of _ (by decide +kernel)) ggX5_turn_X5_become
theorem dX5_turn_0 : decode cX5_turn 0 = .ok (.iload_n 1, 1) := by decide +kernel
theorem dX5_turn_1 : decode cX5_turn 1 = .ok (.invokestatic 58, 3) := by decide +kernel
theorem dX5_turn_4 : decode cX5_turn 4 = .ok (.ifCond .eq 18, 3) := by decide +kernel
theorem dX5_turn_7 : decode cX5_turn 7 = .ok (.iload_n 2, 1) := by decide +kernel
theorem dX5_turn_8 : decode cX5_turn 8 = .ok (.iconst 4, 1) := by decide +kernel
theorem dX5_turn_9 : decode cX5_turn 9 = .ok (.invokestatic 66, 3) := by decide +kernel
theorem dX5_turn_12 : decode cX5_turn 12 = .ok (.ifCond .eq 10, 3) := by decide +kernel
theorem dX5_turn_15 : decode cX5_turn 15 = .ok (.iload_n 3, 1) := by decide +kernel
theorem dX5_turn_16 : decode cX5_turn 16 = .ok (.invokestatic 58, 3) := by decide +kernel
theorem dX5_turn_19 : decode cX5_turn 19 = .ok (.ifCond .ne 6, 3) := by decide +kernel
theorem dX5_turn_22 : decode cX5_turn 22 = .ok (.bipush (-2), 2) := by decide +kernel
theorem dX5_turn_24 : decode cX5_turn 24 = .ok (.ireturn, 1) := by decide +kernel
theorem dX5_turn_25 : decode cX5_turn 25 = .ok (.aload_n 0, 1) := by decide +kernel
theorem dX5_turn_26 : decode cX5_turn 26 = .ok (.getfield 29, 3) := by decide +kernel
theorem dX5_turn_29 : decode cX5_turn 29 = .ok (.aload_n 0, 1) := by decide +kernel
theorem dX5_turn_30 : decode cX5_turn 30 = .ok (.getfield 11, 3) := by decide +kernel
theorem dX5_turn_33 : decode cX5_turn 33 = .ok (.iload_n 1, 1) := by decide +kernel
theorem dX5_turn_34 : decode cX5_turn 34 = .ok (.aaload, 1) := by decide +kernel
theorem dX5_turn_35 : decode cX5_turn 35 = .ok (.invokevirtual 69, 3) := by decide +kernel
theorem dX5_turn_38 : decode cX5_turn 38 = .ok (.iconst 0, 1) := by decide +kernel
theorem dX5_turn_39 : decode cX5_turn 39 = .ok (.istore 4, 2) := by decide +kernel
theorem dX5_turn_41 : decode cX5_turn 41 = .ok (.iload 4, 2) := by decide +kernel
theorem dX5_turn_43 : decode cX5_turn 43 = .ok (.iload_n 2, 1) := by decide +kernel
theorem dX5_turn_44 : decode cX5_turn 44 = .ok (.if_icmp .ge 31, 3) := by decide +kernel
theorem dX5_turn_47 : decode cX5_turn 47 = .ok (.aload_n 0, 1) := by decide +kernel
theorem dX5_turn_48 : decode cX5_turn 48 = .ok (.getfield 33, 3) := by decide +kernel
theorem dX5_turn_51 : decode cX5_turn 51 = .ok (.aload_n 0, 1) := by decide +kernel
theorem dX5_turn_52 : decode cX5_turn 52 = .ok (.getfield 29, 3) := by decide +kernel
theorem dX5_turn_55 : decode cX5_turn 55 = .ok (.invokevirtual 102, 3) := by decide +kernel
theorem dX5_turn_58 : decode cX5_turn 58 = .ok (.aload_n 0, 1) := by decide +kernel
theorem dX5_turn_59 : decode cX5_turn 59 = .ok (.getfield 29, 3) := by decide +kernel
theorem dX5_turn_62 : decode cX5_turn 62 = .ok (.aload_n 0, 1) := by decide +kernel
theorem dX5_turn_63 : decode cX5_turn 63 = .ok (.getfield 33, 3) := by decide +kernel
theorem dX5_turn_66 : decode cX5_turn 66 = .ok (.invokevirtual 69, 3) := by decide +kernel
theorem dX5_turn_69 : decode cX5_turn 69 = .ok (.iinc 4 1, 3) := by decide +kernel
theorem dX5_turn_72 : decode cX5_turn 72 = .ok (.goto (-31), 3) := by decide +kernel
theorem dX5_turn_75 : decode cX5_turn 75 = .ok (.aload_n 0, 1) := by decide +kernel
theorem dX5_turn_76 : decode cX5_turn 76 = .ok (.iload_n 3, 1) := by decide +kernel
theorem dX5_turn_77 : decode cX5_turn 77 = .ok (.invokevirtual 77, 3) := by decide +kernel
theorem dX5_turn_80 : decode cX5_turn 80 = .ok (.ireturn, 1) := by decide +kernel
set_option maxRecDepth 20000 in
theorem ggX5_band_X5_isMask : GoodIn wsX5_band wsX5_isMask := goodIn_r _ [7, 8, 9, 6, 10] (by decide +kernel) (by decide +kernel)
set_option maxRecDepth 20000 in
theorem gX5_band_X5_isMask : GoodIn wsX5_band (va_wsS RX5 58 yX5_isMask wsX5_isMask) := goodIn_app (goodIn_of _ (by decide +kernel)) ggX5_band_X5_isMask
set_option maxRecDepth 20000 in
theorem ggX5_band_X5_within : GoodIn wsX5_band wsX5_within := goodIn_r _ [10] (by decide +kernel) (by decide +kernel)
set_option maxRecDepth 20000 in
theorem gX5_band_X5_within : GoodIn wsX5_band (va_wsS RX5 66 yX5_within wsX5_within) := goodIn_app (goodIn_of _ (by decide +kernel)) ggX5_band_X5_within
set_option maxRecDepth 20000 in
theorem ggX5_band_X1_take : GoodIn wsX5_band wsX1_take := goodIn_r _ [15, 16, 69] (by decide +kernel) (by decide +kernel)
set_option maxRecDepth 20000 in
theorem gX5_band_X1_take : GoodIn wsX5_band (wsV RX5 69 RX1 yX1_take wsX1_take) := goodIn_app (goodIn_of _ (by decide +kernel)) ggX5_band_X1_take
set_option maxRecDepth 20000 in
theorem ggX5_band_X1_takeWidened : GoodIn wsX5_band wsX1_takeWidened := goodIn_r _ [20, 16, 21, 22, 23, 14, 24, 25, 26, 27, 28, 29, 69] (by decide +kernel) (by decide +kernel)
set_option maxRecDepth 20000 in
theorem gX5_band_X1_takeWidened : GoodIn wsX5_band (wsV RX5 105 RX1 yX1_takeWidened wsX1_takeWidened) := goodIn_app (goodIn_of _ (by decide +kernel)) ggX5_band_X1_takeWidened
set_option maxRecDepth 20000 in
theorem ggX5_band_X5_become : GoodIn wsX5_band wsX5_become := goodIn_r _ [33, 34, 2, 1, 35, 36, 37, 38, 39, 40, 41, 42, 43, 44, 45, 46, 47, 48, 27, 28, 14, 29, 16, 11, 12, 13, 15, 49, 50, 51, 52, 53, 54, 55, 56, 57, 58, 59, 60, 61, 62, 63, 64, 65, 66, 67, 68, 70, 71, 72, 73, 69] (by decide +kernel) (by decide +kernel)
set_option maxRecDepth 20000 in
theorem gX5_band_X5_become : GoodIn wsX5_band (wsV RX5 77 RX5 yX5_become wsX5_become) := goodIn_app (goodIn_of _ (by decide +kernel)) ggX5_band_X5_become
theorem dX5_band_0 : decode cX5_band 0 = .ok (.iload_n 1, 1) := by decide +kernel
theorem dX5_band_1 : decode cX5_band 1 = .ok (.invokestatic 58, 3) := by decide +kernel
theorem dX5_band_4 : decode cX5_band 4 = .ok (.ifCond .eq 19, 3) := by decide +kernel
theorem dX5_band_7 : decode cX5_band 7 = .ok (.iload_n 2, 1) := by decide +kernel
theorem dX5_band_8 : decode cX5_band 8 = .ok (.bipush 31, 2) := by decide +kernel
theorem dX5_band_10 : decode cX5_band 10 = .ok (.invokestatic 66, 3) := by decide +kernel
theorem dX5_band_13 : decode cX5_band 13 = .ok (.ifCond .eq 10, 3) := by decide +kernel
theorem dX5_band_16 : decode cX5_band 16 = .ok (.iload_n 3, 1) := by decide +kernel
theorem dX5_band_17 : decode cX5_band 17 = .ok (.invokestatic 58, 3) := by decide +kernel
theorem dX5_band_20 : decode cX5_band 20 = .ok (.ifCond .ne 6, 3) := by decide +kernel
theorem dX5_band_23 : decode cX5_band 23 = .ok (.bipush (-2), 2) := by decide +kernel
theorem dX5_band_25 : decode cX5_band 25 = .ok (.ireturn, 1) := by decide +kernel
theorem dX5_band_26 : decode cX5_band 26 = .ok (.aload_n 0, 1) := by decide +kernel
theorem dX5_band_27 : decode cX5_band 27 = .ok (.getfield 29, 3) := by decide +kernel
theorem dX5_band_30 : decode cX5_band 30 = .ok (.aload_n 0, 1) := by decide +kernel
theorem dX5_band_31 : decode cX5_band 31 = .ok (.getfield 11, 3) := by decide +kernel
theorem dX5_band_34 : decode cX5_band 34 = .ok (.iload_n 1, 1) := by decide +kernel
theorem dX5_band_35 : decode cX5_band 35 = .ok (.aaload, 1) := by decide +kernel
theorem dX5_band_36 : decode cX5_band 36 = .ok (.invokevirtual 69, 3) := by decide +kernel
theorem dX5_band_39 : decode cX5_band 39 = .ok (.iconst 0, 1) := by decide +kernel
theorem dX5_band_40 : decode cX5_band 40 = .ok (.istore 4, 2) := by decide +kernel
theorem dX5_band_42 : decode cX5_band 42 = .ok (.iload 4, 2) := by decide +kernel
theorem dX5_band_44 : decode cX5_band 44 = .ok (.iload_n 2, 1) := by decide +kernel
theorem dX5_band_45 : decode cX5_band 45 = .ok (.if_icmp .ge 31, 3) := by decide +kernel
theorem dX5_band_48 : decode cX5_band 48 = .ok (.aload_n 0, 1) := by decide +kernel
theorem dX5_band_49 : decode cX5_band 49 = .ok (.getfield 33, 3) := by decide +kernel
theorem dX5_band_52 : decode cX5_band 52 = .ok (.aload_n 0, 1) := by decide +kernel
theorem dX5_band_53 : decode cX5_band 53 = .ok (.getfield 29, 3) := by decide +kernel
theorem dX5_band_56 : decode cX5_band 56 = .ok (.invokevirtual 105, 3) := by decide +kernel
theorem dX5_band_59 : decode cX5_band 59 = .ok (.aload_n 0, 1) := by decide +kernel
theorem dX5_band_60 : decode cX5_band 60 = .ok (.getfield 29, 3) := by decide +kernel
theorem dX5_band_63 : decode cX5_band 63 = .ok (.aload_n 0, 1) := by decide +kernel
theorem dX5_band_64 : decode cX5_band 64 = .ok (.getfield 33, 3) := by decide +kernel
theorem dX5_band_67 : decode cX5_band 67 = .ok (.invokevirtual 69, 3) := by decide +kernel
theorem dX5_band_70 : decode cX5_band 70 = .ok (.iinc 4 1, 3) := by decide +kernel
theorem dX5_band_73 : decode cX5_band 73 = .ok (.goto (-31), 3) := by decide +kernel
theorem dX5_band_76 : decode cX5_band 76 = .ok (.aload_n 0, 1) := by decide +kernel
theorem dX5_band_77 : decode cX5_band 77 = .ok (.iload_n 3, 1) := by decide +kernel
theorem dX5_band_78 : decode cX5_band 78 = .ok (.invokevirtual 77, 3) := by decide +kernel
theorem dX5_band_81 : decode cX5_band 81 = .ok (.ireturn, 1) := by decide +kernel
set_option maxRecDepth 20000 in
theorem ggX5_pick_X5_isMask : GoodIn wsX5_pick wsX5_isMask := goodIn_r _ [7, 8, 9, 6, 10] (by decide +kernel) (by decide +kernel)
set_option maxRecDepth 20000 in
theorem gX5_pick_X5_isMask : GoodIn wsX5_pick (va_wsS RX5 58 yX5_isMask wsX5_isMask) := goodIn_app (goodIn_of _ (by decide +kernel)) ggX5_pick_X5_isMask
set_option maxRecDepth 20000 in
theorem ggX5_pick_X5_isCell : GoodIn wsX5_pick wsX5_isCell := goodIn_r _ [13, 8, 9, 6, 10] (by decide +kernel) (by decide +kernel)
set_option maxRecDepth 20000 in
theorem gX5_pick_X5_isCell : GoodIn wsX5_pick (va_wsS RX5 62 yX5_isCell wsX5_isCell) := goodIn_app (goodIn_of _ (by decide +kernel)) ggX5_pick_X5_isCell
set_option maxRecDepth 20000 in
theorem ggX5_pick_X2_look : GoodIn wsX5_pick wsX2_look := goodIn_r _ [18, 19, 20, 21, 22, 23, 24, 25, 26, 27, 28, 29, 30, 31, 32, 33, 34, 35, 36, 37, 38, 39, 40, 41, 42, 17, 43, 44, 45, 46, 47, 48, 49, 50, 51, 52, 53, 54, 55, 56, 57, 58, 59, 60, 61, 62, 63, 64, 65, 66, 67, 68, 119, 120, 121, 122, 123, 124] (by decide +kernel) (by decide +kernel)
set_option maxRecDepth 20000 in
theorem gX5_pick_X2_look : GoodIn wsX5_pick (wsV RX5 108 RX2 yX2_look wsX2_look) := goodIn_app (goodIn_of _ (by decide +kernel)) ggX5_pick_X2_look
set_option maxRecDepth 20000 in
theorem ggX5_pick_X2_labelAt : GoodIn wsX5_pick wsX2_labelAt := goodIn_r _ [57, 20, 119, 120, 121, 122, 123] (by decide +kernel) (by decide +kernel)
set_option maxRecDepth 20000 in
theorem gX5_pick_X2_labelAt : GoodIn wsX5_pick (wsV RX5 111 RX2 yX2_labelAt wsX2_labelAt) := goodIn_app (goodIn_of _ (by decide +kernel)) ggX5_pick_X2_labelAt
set_option maxRecDepth 20000 in
theorem ggX5_pick_X2_rowOfPart : GoodIn wsX5_pick wsX2_rowOfPart := goodIn_r _ [73, 54, 55, 56, 17, 57, 20, 119, 120, 121, 122, 123] (by decide +kernel) (by decide +kernel)
set_option maxRecDepth 20000 in
theorem gX5_pick_X2_rowOfPart : GoodIn wsX5_pick (wsV RX5 115 RX2 yX2_rowOfPart wsX2_rowOfPart) := goodIn_app (goodIn_of _ (by decide +kernel)) ggX5_pick_X2_rowOfPart
set_option maxRecDepth 20000 in
theorem ggX5_pick_X1_setRow : GoodIn wsX5_pick wsX1_setRow := goodIn_r _ [77, 27, 78, 9, 6, 10, 124] (by decide +kernel) (by decide +kernel)
set_option maxRecDepth 20000 in
theorem gX5_pick_X1_setRow : GoodIn wsX5_pick (wsV RX5 93 RX1 yX1_setRow wsX1_setRow) := goodIn_app (goodIn_of _ (by decide +kernel)) ggX5_pick_X1_setRow
set_option maxRecDepth 20000 in
theorem ggX5_pick_X5_become : GoodIn wsX5_pick wsX5_become := goodIn_r _ [82, 83, 2, 3, 84, 85, 86, 87, 88, 89, 90, 91, 92, 93, 63, 64, 65, 94, 95, 96, 25, 97, 27, 98, 29, 30, 31, 99, 100, 101, 102, 103, 104, 105, 106, 107, 108, 109, 110, 111, 112, 113, 114, 115, 116, 117, 118, 125, 126, 127, 128, 124] (by decide +kernel) (by decide +kernel)
set_option maxRecDepth 20000 in
theorem gX5_pick_X5_become : GoodIn wsX5_pick (wsV RX5 77 RX5 yX5_become wsX5_become) := goodIn_app (goodIn_of _ (by decide +kernel)) ggX5_pick_X5_become
theorem dX5_pick_0 : decode cX5_pick 0 = .ok (.iload_n 1, 1) := by decide +kernel
theorem dX5_pick_1 : decode cX5_pick 1 = .ok (.invokestatic 58, 3) := by decide +kernel
theorem dX5_pick_4 : decode cX5_pick 4 = .ok (.ifCond .eq 19, 3) := by decide +kernel
theorem dX5_pick_7 : decode cX5_pick 7 = .ok (.iload_n 2, 1) := by decide +kernel
theorem dX5_pick_8 : decode cX5_pick 8 = .ok (.iload_n 3, 1) := by decide +kernel
theorem dX5_pick_9 : decode cX5_pick 9 = .ok (.invokestatic 62, 3) := by decide +kernel
theorem dX5_pick_12 : decode cX5_pick 12 = .ok (.ifCond .eq 11, 3) := by decide +kernel
theorem dX5_pick_15 : decode cX5_pick 15 = .ok (.iload 4, 2) := by decide +kernel
theorem dX5_pick_17 : decode cX5_pick 17 = .ok (.invokestatic 58, 3) := by decide +kernel
theorem dX5_pick_20 : decode cX5_pick 20 = .ok (.ifCond .ne 6, 3) := by decide +kernel
theorem dX5_pick_23 : decode cX5_pick 23 = .ok (.bipush (-2), 2) := by decide +kernel
theorem dX5_pick_25 : decode cX5_pick 25 = .ok (.ireturn, 1) := by decide +kernel
theorem dX5_pick_26 : decode cX5_pick 26 = .ok (.aload_n 0, 1) := by decide +kernel
theorem dX5_pick_27 : decode cX5_pick 27 = .ok (.getfield 39, 3) := by decide +kernel
theorem dX5_pick_30 : decode cX5_pick 30 = .ok (.aload_n 0, 1) := by decide +kernel
theorem dX5_pick_31 : decode cX5_pick 31 = .ok (.getfield 11, 3) := by decide +kernel
theorem dX5_pick_34 : decode cX5_pick 34 = .ok (.iload_n 1, 1) := by decide +kernel
theorem dX5_pick_35 : decode cX5_pick 35 = .ok (.aaload, 1) := by decide +kernel
theorem dX5_pick_36 : decode cX5_pick 36 = .ok (.invokevirtual 108, 3) := by decide +kernel
theorem dX5_pick_39 : decode cX5_pick 39 = .ok (.aload_n 0, 1) := by decide +kernel
theorem dX5_pick_40 : decode cX5_pick 40 = .ok (.getfield 39, 3) := by decide +kernel
theorem dX5_pick_43 : decode cX5_pick 43 = .ok (.iload_n 2, 1) := by decide +kernel
theorem dX5_pick_44 : decode cX5_pick 44 = .ok (.iload_n 3, 1) := by decide +kernel
theorem dX5_pick_45 : decode cX5_pick 45 = .ok (.invokevirtual 111, 3) := by decide +kernel
theorem dX5_pick_48 : decode cX5_pick 48 = .ok (.istore 5, 2) := by decide +kernel
theorem dX5_pick_50 : decode cX5_pick 50 = .ok (.iload 5, 2) := by decide +kernel
theorem dX5_pick_52 : decode cX5_pick 52 = .ok (.iconst (-1), 1) := by decide +kernel
theorem dX5_pick_53 : decode cX5_pick 53 = .ok (.if_icmp .ne 6, 3) := by decide +kernel
theorem dX5_pick_56 : decode cX5_pick 56 = .ok (.bipush (-3), 2) := by decide +kernel
theorem dX5_pick_58 : decode cX5_pick 58 = .ok (.ireturn, 1) := by decide +kernel
theorem dX5_pick_59 : decode cX5_pick 59 = .ok (.iconst 0, 1) := by decide +kernel
theorem dX5_pick_60 : decode cX5_pick 60 = .ok (.istore 6, 2) := by decide +kernel
theorem dX5_pick_62 : decode cX5_pick 62 = .ok (.iload 6, 2) := by decide +kernel
theorem dX5_pick_64 : decode cX5_pick 64 = .ok (.bipush 16, 2) := by decide +kernel
theorem dX5_pick_66 : decode cX5_pick 66 = .ok (.if_icmp .ge 29, 3) := by decide +kernel
theorem dX5_pick_69 : decode cX5_pick 69 = .ok (.aload_n 0, 1) := by decide +kernel
theorem dX5_pick_70 : decode cX5_pick 70 = .ok (.getfield 29, 3) := by decide +kernel
theorem dX5_pick_73 : decode cX5_pick 73 = .ok (.iload 6, 2) := by decide +kernel
theorem dX5_pick_75 : decode cX5_pick 75 = .ok (.aload_n 0, 1) := by decide +kernel
theorem dX5_pick_76 : decode cX5_pick 76 = .ok (.getfield 39, 3) := by decide +kernel
theorem dX5_pick_79 : decode cX5_pick 79 = .ok (.iload 5, 2) := by decide +kernel
theorem dX5_pick_81 : decode cX5_pick 81 = .ok (.iload 6, 2) := by decide +kernel
theorem dX5_pick_83 : decode cX5_pick 83 = .ok (.invokevirtual 115, 3) := by decide +kernel
theorem dX5_pick_86 : decode cX5_pick 86 = .ok (.invokevirtual 93, 3) := by decide +kernel
theorem dX5_pick_89 : decode cX5_pick 89 = .ok (.iinc 6 1, 3) := by decide +kernel
theorem dX5_pick_92 : decode cX5_pick 92 = .ok (.goto (-30), 3) := by decide +kernel
theorem dX5_pick_95 : decode cX5_pick 95 = .ok (.aload_n 0, 1) := by decide +kernel
theorem dX5_pick_96 : decode cX5_pick 96 = .ok (.iload 4, 2) := by decide +kernel
theorem dX5_pick_98 : decode cX5_pick 98 = .ok (.invokevirtual 77, 3) := by decide +kernel
theorem dX5_pick_101 : decode cX5_pick 101 = .ok (.ireturn, 1) := by decide +kernel
set_option maxRecDepth 20000 in
theorem ggX5_read_X5_isMask : GoodIn wsX5_read wsX5_isMask := goodIn_r _ [6, 7, 8, 5, 9] (by decide +kernel) (by decide +kernel)
set_option maxRecDepth 20000 in
theorem gX5_read_X5_isMask : GoodIn wsX5_read (va_wsS RX5 58 yX5_isMask wsX5_isMask) := goodIn_app (goodIn_of _ (by decide +kernel)) ggX5_read_X5_isMask
set_option maxRecDepth 20000 in
theorem ggX5_read_X5_isSheet : GoodIn wsX5_read wsX5_isSheet := goodIn_r _ [12, 7, 8, 5, 9] (by decide +kernel) (by decide +kernel)
set_option maxRecDepth 20000 in
theorem gX5_read_X5_isSheet : GoodIn wsX5_read (va_wsS RX5 118 yX5_isSheet wsX5_isSheet) := goodIn_app (goodIn_of _ (by decide +kernel)) ggX5_read_X5_isSheet
set_option maxRecDepth 20000 in
theorem ggX5_read_X5_found : GoodIn wsX5_read wsX5_found := goodIn_r _ [16, 17, 78, 79, 80, 81, 82, 83, 84, 85, 86] (by decide +kernel) (by decide +kernel)
set_option maxRecDepth 20000 in
theorem gX5_read_X5_found : GoodIn wsX5_read (wsV RX5 125 RX5 yX5_found wsX5_found) := goodIn_app (goodIn_of _ (by decide +kernel)) ggX5_read_X5_found
set_option maxRecDepth 20000 in
theorem ggX5_read_X5_readSquare : GoodIn wsX5_read wsX5_readSquare := goodIn_r _ [20, 21, 22, 23, 24, 25, 26, 27, 8, 5, 9, 28, 29, 30, 31, 32, 33, 34, 35, 36, 37, 38, 39, 40, 41, 42, 18, 19, 87, 88, 89, 90, 91] (by decide +kernel) (by decide +kernel)
set_option maxRecDepth 20000 in
theorem gX5_read_X5_readSquare : GoodIn wsX5_read (va_wsS RX5 128 yX5_readSquare wsX5_readSquare) := goodIn_app (goodIn_of _ (by decide +kernel)) ggX5_read_X5_readSquare
set_option maxRecDepth 20000 in
theorem ggX5_read_X5_become : GoodIn wsX5_read wsX5_become := goodIn_r _ [46, 47, 48, 2, 49, 50, 51, 52, 53, 54, 55, 56, 57, 58, 59, 60, 61, 62, 34, 35, 31, 36, 37, 63, 64, 65, 66, 67, 68, 69, 70, 71, 72, 73, 74, 75, 76, 77, 78, 79, 80, 81, 82, 83, 84, 85, 86, 92, 93, 94, 95, 91] (by decide +kernel) (by decide +kernel)
set_option maxRecDepth 20000 in
theorem gX5_read_X5_become : GoodIn wsX5_read (wsV RX5 77 RX5 yX5_become wsX5_become) := goodIn_app (goodIn_of _ (by decide +kernel)) ggX5_read_X5_become
theorem dX5_read_0 : decode cX5_read 0 = .ok (.iload_n 1, 1) := by decide +kernel
theorem dX5_read_1 : decode cX5_read 1 = .ok (.invokestatic 58, 3) := by decide +kernel
theorem dX5_read_4 : decode cX5_read 4 = .ok (.ifCond .eq 10, 3) := by decide +kernel
theorem dX5_read_7 : decode cX5_read 7 = .ok (.iload_n 2, 1) := by decide +kernel
theorem dX5_read_8 : decode cX5_read 8 = .ok (.invokestatic 118, 3) := by decide +kernel
theorem dX5_read_11 : decode cX5_read 11 = .ok (.ifCond .ne 6, 3) := by decide +kernel
theorem dX5_read_14 : decode cX5_read 14 = .ok (.bipush (-2), 2) := by decide +kernel
theorem dX5_read_16 : decode cX5_read 16 = .ok (.ireturn, 1) := by decide +kernel
theorem dX5_read_17 : decode cX5_read 17 = .ok (.aload_n 0, 1) := by decide +kernel
theorem dX5_read_18 : decode cX5_read 18 = .ok (.getfield 17, 3) := by decide +kernel
theorem dX5_read_21 : decode cX5_read 21 = .ok (.iload_n 2, 1) := by decide +kernel
theorem dX5_read_22 : decode cX5_read 22 = .ok (.aaload, 1) := by decide +kernel
theorem dX5_read_23 : decode cX5_read 23 = .ok (.getfield 121, 3) := by decide +kernel
theorem dX5_read_26 : decode cX5_read 26 = .ok (.ifCond .eq 9, 3) := by decide +kernel
theorem dX5_read_29 : decode cX5_read 29 = .ok (.aload_n 0, 1) := by decide +kernel
theorem dX5_read_30 : decode cX5_read 30 = .ok (.iconst 1, 1) := by decide +kernel
theorem dX5_read_31 : decode cX5_read 31 = .ok (.invokevirtual 125, 3) := by decide +kernel
theorem dX5_read_34 : decode cX5_read 34 = .ok (.ireturn, 1) := by decide +kernel
theorem dX5_read_35 : decode cX5_read 35 = .ok (.aload_n 0, 1) := by decide +kernel
theorem dX5_read_36 : decode cX5_read 36 = .ok (.getfield 17, 3) := by decide +kernel
theorem dX5_read_39 : decode cX5_read 39 = .ok (.iload_n 2, 1) := by decide +kernel
theorem dX5_read_40 : decode cX5_read 40 = .ok (.aaload, 1) := by decide +kernel
theorem dX5_read_41 : decode cX5_read 41 = .ok (.iconst 0, 1) := by decide +kernel
theorem dX5_read_42 : decode cX5_read 42 = .ok (.aload_n 0, 1) := by decide +kernel
theorem dX5_read_43 : decode cX5_read 43 = .ok (.getfield 29, 3) := by decide +kernel
theorem dX5_read_46 : decode cX5_read 46 = .ok (.iconst 0, 1) := by decide +kernel
theorem dX5_read_47 : decode cX5_read 47 = .ok (.iconst 0, 1) := by decide +kernel
theorem dX5_read_48 : decode cX5_read 48 = .ok (.bipush 16, 2) := by decide +kernel
theorem dX5_read_50 : decode cX5_read 50 = .ok (.invokestatic 128, 3) := by decide +kernel
theorem dX5_read_53 : decode cX5_read 53 = .ok (.istore_n 3, 1) := by decide +kernel
theorem dX5_read_54 : decode cX5_read 54 = .ok (.iload_n 3, 1) := by decide +kernel
theorem dX5_read_55 : decode cX5_read 55 = .ok (.iconst (-1), 1) := by decide +kernel
theorem dX5_read_56 : decode cX5_read 56 = .ok (.if_icmp .ne 6, 3) := by decide +kernel
theorem dX5_read_59 : decode cX5_read 59 = .ok (.bipush (-3), 2) := by decide +kernel
theorem dX5_read_61 : decode cX5_read 61 = .ok (.ireturn, 1) := by decide +kernel
theorem dX5_read_62 : decode cX5_read 62 = .ok (.aload_n 0, 1) := by decide +kernel
theorem dX5_read_63 : decode cX5_read 63 = .ok (.iload_n 1, 1) := by decide +kernel
theorem dX5_read_64 : decode cX5_read 64 = .ok (.invokevirtual 77, 3) := by decide +kernel
theorem dX5_read_67 : decode cX5_read 67 = .ok (.pop, 1) := by decide +kernel
theorem dX5_read_68 : decode cX5_read 68 = .ok (.iload_n 3, 1) := by decide +kernel
theorem dX5_read_69 : decode cX5_read 69 = .ok (.ireturn, 1) := by decide +kernel
set_option maxRecDepth 20000 in
theorem ggX5_readSquare_X3_item : GoodIn wsX5_readSquare wsX3_item := goodIn_r _ [5, 6, 7, 8, 9, 10, 28, 29, 30, 31] (by decide +kernel) (by decide +kernel)
set_option maxRecDepth 20000 in
theorem gX5_readSquare_X3_item : GoodIn wsX5_readSquare (wsV RX5 135 RX3 yX3_item wsX3_item) := goodIn_app (goodIn_of _ (by decide +kernel)) ggX5_readSquare_X3_item
set_option maxRecDepth 20000 in
theorem ggX5_readSquare_X1_paint : GoodIn wsX5_readSquare wsX1_paint := goodIn_r _ [15, 16, 17, 18, 14, 19, 20, 21, 22, 23, 24, 25, 8, 9, 10, 32] (by decide +kernel) (by decide +kernel)
set_option maxRecDepth 20000 in
theorem gX5_readSquare_X1_paint : GoodIn wsX5_readSquare (wsV RX5 73 RX1 yX1_paint wsX1_paint) := goodIn_app (goodIn_of _ (by decide +kernel)) ggX5_readSquare_X1_paint
set_option maxRecDepth 20000 in
theorem ggX5_readSquare_X5_readSquare : GoodIn wsX5_readSquare wsX5_readSquare := goodIn_r _ [0, 1, 2, 3, 4, 5, 6, 7, 8, 9, 10, 11, 12, 13, 14, 15, 16, 17, 18, 19, 20, 21, 22, 23, 24, 25, 26, 27, 28, 29, 30, 31, 32] (by decide +kernel) (by decide +kernel)
set_option maxRecDepth 20000 in
theorem gX5_readSquare_X5_readSquare : GoodIn wsX5_readSquare (va_wsS RX5 128 yX5_readSquare wsX5_readSquare) := goodIn_app (goodIn_of _ (by decide +kernel)) ggX5_readSquare_X5_readSquare
theorem dX5_readSquare_0 : decode cX5_readSquare 0 = .ok (.iload_n 1, 1) := by decide +kernel
theorem dX5_readSquare_1 : decode cX5_readSquare 1 = .ok (.aload_n 0, 1) := by decide +kernel
theorem dX5_readSquare_2 : decode cX5_readSquare 2 = .ok (.getfield 132, 3) := by decide +kernel
theorem dX5_readSquare_5 : decode cX5_readSquare 5 = .ok (.if_icmp .lt 5, 3) := by decide +kernel
theorem dX5_readSquare_8 : decode cX5_readSquare 8 = .ok (.iconst (-1), 1) := by decide +kernel
theorem dX5_readSquare_9 : decode cX5_readSquare 9 = .ok (.ireturn, 1) := by decide +kernel
theorem dX5_readSquare_10 : decode cX5_readSquare 10 = .ok (.aload_n 0, 1) := by decide +kernel
theorem dX5_readSquare_11 : decode cX5_readSquare 11 = .ok (.iload_n 1, 1) := by decide +kernel
theorem dX5_readSquare_12 : decode cX5_readSquare 12 = .ok (.invokevirtual 135, 3) := by decide +kernel
theorem dX5_readSquare_15 : decode cX5_readSquare 15 = .ok (.istore 6, 2) := by decide +kernel
theorem dX5_readSquare_17 : decode cX5_readSquare 17 = .ok (.iload 6, 2) := by decide +kernel
theorem dX5_readSquare_19 : decode cX5_readSquare 19 = .ok (.ifCond .eq 9, 3) := by decide +kernel
theorem dX5_readSquare_22 : decode cX5_readSquare 22 = .ok (.iload 6, 2) := by decide +kernel
theorem dX5_readSquare_24 : decode cX5_readSquare 24 = .ok (.iconst 1, 1) := by decide +kernel
theorem dX5_readSquare_25 : decode cX5_readSquare 25 = .ok (.if_icmp .ne 20, 3) := by decide +kernel
theorem dX5_readSquare_28 : decode cX5_readSquare 28 = .ok (.aload_n 2, 1) := by decide +kernel
theorem dX5_readSquare_29 : decode cX5_readSquare 29 = .ok (.iload_n 3, 1) := by decide +kernel
theorem dX5_readSquare_30 : decode cX5_readSquare 30 = .ok (.iload 4, 2) := by decide +kernel
theorem dX5_readSquare_32 : decode cX5_readSquare 32 = .ok (.iload 5, 2) := by decide +kernel
theorem dX5_readSquare_34 : decode cX5_readSquare 34 = .ok (.iload 5, 2) := by decide +kernel
theorem dX5_readSquare_36 : decode cX5_readSquare 36 = .ok (.iload 6, 2) := by decide +kernel
theorem dX5_readSquare_38 : decode cX5_readSquare 38 = .ok (.invokevirtual 73, 3) := by decide +kernel
theorem dX5_readSquare_41 : decode cX5_readSquare 41 = .ok (.iload_n 1, 1) := by decide +kernel
theorem dX5_readSquare_42 : decode cX5_readSquare 42 = .ok (.iconst 1, 1) := by decide +kernel
theorem dX5_readSquare_43 : decode cX5_readSquare 43 = .ok (.iadd, 1) := by decide +kernel
theorem dX5_readSquare_44 : decode cX5_readSquare 44 = .ok (.ireturn, 1) := by decide +kernel
theorem dX5_readSquare_45 : decode cX5_readSquare 45 = .ok (.iload 6, 2) := by decide +kernel
theorem dX5_readSquare_47 : decode cX5_readSquare 47 = .ok (.iconst 2, 1) := by decide +kernel
theorem dX5_readSquare_48 : decode cX5_readSquare 48 = .ok (.if_icmp .ne 9, 3) := by decide +kernel
theorem dX5_readSquare_51 : decode cX5_readSquare 51 = .ok (.iload 5, 2) := by decide +kernel
theorem dX5_readSquare_53 : decode cX5_readSquare 53 = .ok (.iconst 1, 1) := by decide +kernel
theorem dX5_readSquare_54 : decode cX5_readSquare 54 = .ok (.if_icmp .gt 5, 3) := by decide +kernel
theorem dX5_readSquare_57 : decode cX5_readSquare 57 = .ok (.iconst (-1), 1) := by decide +kernel
theorem dX5_readSquare_58 : decode cX5_readSquare 58 = .ok (.ireturn, 1) := by decide +kernel
theorem dX5_readSquare_59 : decode cX5_readSquare 59 = .ok (.iload 5, 2) := by decide +kernel
theorem dX5_readSquare_61 : decode cX5_readSquare 61 = .ok (.iconst 2, 1) := by decide +kernel
theorem dX5_readSquare_62 : decode cX5_readSquare 62 = .ok (.idiv, 1) := by decide +kernel
theorem dX5_readSquare_63 : decode cX5_readSquare 63 = .ok (.istore 7, 2) := by decide +kernel
theorem dX5_readSquare_65 : decode cX5_readSquare 65 = .ok (.iload_n 1, 1) := by decide +kernel
theorem dX5_readSquare_66 : decode cX5_readSquare 66 = .ok (.iconst 1, 1) := by decide +kernel
theorem dX5_readSquare_67 : decode cX5_readSquare 67 = .ok (.iadd, 1) := by decide +kernel
theorem dX5_readSquare_68 : decode cX5_readSquare 68 = .ok (.istore 8, 2) := by decide +kernel
theorem dX5_readSquare_70 : decode cX5_readSquare 70 = .ok (.iconst 0, 1) := by decide +kernel
theorem dX5_readSquare_71 : decode cX5_readSquare 71 = .ok (.istore 9, 2) := by decide +kernel
theorem dX5_readSquare_73 : decode cX5_readSquare 73 = .ok (.iload 9, 2) := by decide +kernel
theorem dX5_readSquare_75 : decode cX5_readSquare 75 = .ok (.iconst 4, 1) := by decide +kernel
theorem dX5_readSquare_76 : decode cX5_readSquare 76 = .ok (.if_icmp .ge 45, 3) := by decide +kernel
theorem dX5_readSquare_79 : decode cX5_readSquare 79 = .ok (.iload 8, 2) := by decide +kernel
theorem dX5_readSquare_81 : decode cX5_readSquare 81 = .ok (.iconst (-1), 1) := by decide +kernel
theorem dX5_readSquare_82 : decode cX5_readSquare 82 = .ok (.if_icmp .eq 39, 3) := by decide +kernel
theorem dX5_readSquare_85 : decode cX5_readSquare 85 = .ok (.aload_n 0, 1) := by decide +kernel
theorem dX5_readSquare_86 : decode cX5_readSquare 86 = .ok (.iload 8, 2) := by decide +kernel
theorem dX5_readSquare_88 : decode cX5_readSquare 88 = .ok (.aload_n 2, 1) := by decide +kernel
theorem dX5_readSquare_89 : decode cX5_readSquare 89 = .ok (.iload_n 3, 1) := by decide +kernel
theorem dX5_readSquare_90 : decode cX5_readSquare 90 = .ok (.iload 9, 2) := by decide +kernel
theorem dX5_readSquare_92 : decode cX5_readSquare 92 = .ok (.iconst 2, 1) := by decide +kernel
theorem dX5_readSquare_93 : decode cX5_readSquare 93 = .ok (.irem, 1) := by decide +kernel
theorem dX5_readSquare_94 : decode cX5_readSquare 94 = .ok (.iload 7, 2) := by decide +kernel
theorem dX5_readSquare_96 : decode cX5_readSquare 96 = .ok (.imul, 1) := by decide +kernel
theorem dX5_readSquare_97 : decode cX5_readSquare 97 = .ok (.iadd, 1) := by decide +kernel
theorem dX5_readSquare_98 : decode cX5_readSquare 98 = .ok (.iload 4, 2) := by decide +kernel
theorem dX5_readSquare_100 : decode cX5_readSquare 100 = .ok (.iload 9, 2) := by decide +kernel
theorem dX5_readSquare_102 : decode cX5_readSquare 102 = .ok (.iconst 2, 1) := by decide +kernel
theorem dX5_readSquare_103 : decode cX5_readSquare 103 = .ok (.idiv, 1) := by decide +kernel
theorem dX5_readSquare_104 : decode cX5_readSquare 104 = .ok (.iload 7, 2) := by decide +kernel
theorem dX5_readSquare_106 : decode cX5_readSquare 106 = .ok (.imul, 1) := by decide +kernel
theorem dX5_readSquare_107 : decode cX5_readSquare 107 = .ok (.iadd, 1) := by decide +kernel
theorem dX5_readSquare_108 : decode cX5_readSquare 108 = .ok (.iload 7, 2) := by decide +kernel
theorem dX5_readSquare_110 : decode cX5_readSquare 110 = .ok (.invokestatic 128, 3) := by decide +kernel
theorem dX5_readSquare_113 : decode cX5_readSquare 113 = .ok (.istore 8, 2) := by decide +kernel
theorem dX5_readSquare_115 : decode cX5_readSquare 115 = .ok (.iinc 9 1, 3) := by decide +kernel
theorem dX5_readSquare_118 : decode cX5_readSquare 118 = .ok (.goto (-45), 3) := by decide +kernel
theorem dX5_readSquare_121 : decode cX5_readSquare 121 = .ok (.iload 8, 2) := by decide +kernel
theorem dX5_readSquare_123 : decode cX5_readSquare 123 = .ok (.ireturn, 1) := by decide +kernel
set_option maxRecDepth 20000 in
theorem ggX5_back_X0_undo : GoodIn wsX5_back wsX0_undo := goodIn_r _ [8, 9, 10, 11, 12, 13, 14, 15, 16, 17, 18, 19, 20, 21, 22, 40, 41, 42, 43, 44] (by decide +kernel) (by decide +kernel)
set_option maxRecDepth 20000 in
theorem gX5_back_X0_undo : GoodIn wsX5_back (wsV RX5 141 RX0 yX0_undo wsX0_undo) := goodIn_app (goodIn_of _ (by decide +kernel)) ggX5_back_X0_undo
set_option maxRecDepth 20000 in
theorem ggX5_back_X5_isMask : GoodIn wsX5_back wsX5_isMask := goodIn_r _ [25, 26, 20, 21, 22] (by decide +kernel) (by decide +kernel)
set_option maxRecDepth 20000 in
theorem gX5_back_X5_isMask : GoodIn wsX5_back (va_wsS RX5 58 yX5_isMask wsX5_isMask) := goodIn_app (goodIn_of _ (by decide +kernel)) ggX5_back_X5_isMask
set_option maxRecDepth 20000 in
theorem ggX5_back_X1_take : GoodIn wsX5_back wsX1_take := goodIn_r _ [30, 18, 44] (by decide +kernel) (by decide +kernel)
set_option maxRecDepth 20000 in
theorem gX5_back_X1_take : GoodIn wsX5_back (wsV RX5 69 RX1 yX1_take wsX1_take) := goodIn_app (goodIn_of _ (by decide +kernel)) ggX5_back_X1_take
theorem dX5_back_0 : decode cX5_back 0 = .ok (.aload_n 0, 1) := by decide +kernel
theorem dX5_back_1 : decode cX5_back 1 = .ok (.getfield 24, 3) := by decide +kernel
theorem dX5_back_4 : decode cX5_back 4 = .ok (.getfield 138, 3) := by decide +kernel
theorem dX5_back_7 : decode cX5_back 7 = .ok (.ifCond .ne 6, 3) := by decide +kernel
theorem dX5_back_10 : decode cX5_back 10 = .ok (.bipush (-3), 2) := by decide +kernel
theorem dX5_back_12 : decode cX5_back 12 = .ok (.ireturn, 1) := by decide +kernel
theorem dX5_back_13 : decode cX5_back 13 = .ok (.aload_n 0, 1) := by decide +kernel
theorem dX5_back_14 : decode cX5_back 14 = .ok (.getfield 24, 3) := by decide +kernel
theorem dX5_back_17 : decode cX5_back 17 = .ok (.aload_n 0, 1) := by decide +kernel
theorem dX5_back_18 : decode cX5_back 18 = .ok (.getfield 29, 3) := by decide +kernel
theorem dX5_back_21 : decode cX5_back 21 = .ok (.invokevirtual 141, 3) := by decide +kernel
theorem dX5_back_24 : decode cX5_back 24 = .ok (.istore_n 1, 1) := by decide +kernel
theorem dX5_back_25 : decode cX5_back 25 = .ok (.iload_n 1, 1) := by decide +kernel
theorem dX5_back_26 : decode cX5_back 26 = .ok (.invokestatic 58, 3) := by decide +kernel
theorem dX5_back_29 : decode cX5_back 29 = .ok (.ifCond .eq 16, 3) := by decide +kernel
theorem dX5_back_32 : decode cX5_back 32 = .ok (.aload_n 0, 1) := by decide +kernel
theorem dX5_back_33 : decode cX5_back 33 = .ok (.getfield 11, 3) := by decide +kernel
theorem dX5_back_36 : decode cX5_back 36 = .ok (.iload_n 1, 1) := by decide +kernel
theorem dX5_back_37 : decode cX5_back 37 = .ok (.aaload, 1) := by decide +kernel
theorem dX5_back_38 : decode cX5_back 38 = .ok (.aload_n 0, 1) := by decide +kernel
theorem dX5_back_39 : decode cX5_back 39 = .ok (.getfield 29, 3) := by decide +kernel
theorem dX5_back_42 : decode cX5_back 42 = .ok (.invokevirtual 69, 3) := by decide +kernel
theorem dX5_back_45 : decode cX5_back 45 = .ok (.aload_n 0, 1) := by decide +kernel
theorem dX5_back_46 : decode cX5_back 46 = .ok (.getfield 24, 3) := by decide +kernel
theorem dX5_back_49 : decode cX5_back 49 = .ok (.getfield 138, 3) := by decide +kernel
theorem dX5_back_52 : decode cX5_back 52 = .ok (.ireturn, 1) := by decide +kernel
set_option maxRecDepth 20000 in
theorem ggX5_become_X0_keep : GoodIn wsX5_become wsX0_keep := goodIn_r _ [8, 9, 10, 11, 12, 13, 14, 15, 16, 17, 18, 19, 20, 21, 22, 47, 48, 49, 50, 51] (by decide +kernel) (by decide +kernel)
set_option maxRecDepth 20000 in
theorem gX5_become_X0_keep : GoodIn wsX5_become (wsV RX5 145 RX0 yX0_keep wsX0_keep) := goodIn_app (goodIn_of _ (by decide +kernel)) ggX5_become_X0_keep
set_option maxRecDepth 20000 in
theorem ggX5_become_X1_take : GoodIn wsX5_become wsX1_take := goodIn_r _ [26, 22, 51] (by decide +kernel) (by decide +kernel)
set_option maxRecDepth 20000 in
theorem gX5_become_X1_take : GoodIn wsX5_become (wsV RX5 69 RX1 yX1_take wsX1_take) := goodIn_app (goodIn_of _ (by decide +kernel)) ggX5_become_X1_take
set_option maxRecDepth 20000 in
theorem ggX5_become_X1_darkCells : GoodIn wsX5_become wsX1_darkCells := goodIn_r _ [30, 22, 31, 32, 33, 34, 35, 36, 37, 51] (by decide +kernel) (by decide +kernel)
set_option maxRecDepth 20000 in
theorem gX5_become_X1_darkCells : GoodIn wsX5_become (wsV RX5 149 RX1 yX1_darkCells wsX1_darkCells) := goodIn_app (goodIn_of _ (by decide +kernel)) ggX5_become_X1_darkCells
theorem dX5_become_0 : decode cX5_become 0 = .ok (.aload_n 0, 1) := by decide +kernel
theorem dX5_become_1 : decode cX5_become 1 = .ok (.getfield 24, 3) := by decide +kernel
theorem dX5_become_4 : decode cX5_become 4 = .ok (.iload_n 1, 1) := by decide +kernel
theorem dX5_become_5 : decode cX5_become 5 = .ok (.aload_n 0, 1) := by decide +kernel
theorem dX5_become_6 : decode cX5_become 6 = .ok (.getfield 11, 3) := by decide +kernel
theorem dX5_become_9 : decode cX5_become 9 = .ok (.iload_n 1, 1) := by decide +kernel
theorem dX5_become_10 : decode cX5_become 10 = .ok (.aaload, 1) := by decide +kernel
theorem dX5_become_11 : decode cX5_become 11 = .ok (.invokevirtual 145, 3) := by decide +kernel
theorem dX5_become_14 : decode cX5_become 14 = .ok (.aload_n 0, 1) := by decide +kernel
theorem dX5_become_15 : decode cX5_become 15 = .ok (.getfield 11, 3) := by decide +kernel
theorem dX5_become_18 : decode cX5_become 18 = .ok (.iload_n 1, 1) := by decide +kernel
theorem dX5_become_19 : decode cX5_become 19 = .ok (.aaload, 1) := by decide +kernel
theorem dX5_become_20 : decode cX5_become 20 = .ok (.aload_n 0, 1) := by decide +kernel
theorem dX5_become_21 : decode cX5_become 21 = .ok (.getfield 29, 3) := by decide +kernel
theorem dX5_become_24 : decode cX5_become 24 = .ok (.invokevirtual 69, 3) := by decide +kernel
theorem dX5_become_27 : decode cX5_become 27 = .ok (.aload_n 0, 1) := by decide +kernel
theorem dX5_become_28 : decode cX5_become 28 = .ok (.getfield 29, 3) := by decide +kernel
theorem dX5_become_31 : decode cX5_become 31 = .ok (.invokevirtual 149, 3) := by decide +kernel
theorem dX5_become_34 : decode cX5_become 34 = .ok (.ireturn, 1) := by decide +kernel
set_option maxRecDepth 20000 in
theorem ggX5_cell_X5_isMask : GoodIn wsX5_cell wsX5_isMask := goodIn_r _ [5, 6, 7, 4, 8] (by decide +kernel) (by decide +kernel)
set_option maxRecDepth 20000 in
theorem gX5_cell_X5_isMask : GoodIn wsX5_cell (va_wsS RX5 58 yX5_isMask wsX5_isMask) := goodIn_app (goodIn_of _ (by decide +kernel)) ggX5_cell_X5_isMask
set_option maxRecDepth 20000 in
theorem ggX5_cell_X5_isCell : GoodIn wsX5_cell wsX5_isCell := goodIn_r _ [11, 6, 7, 4, 8] (by decide +kernel) (by decide +kernel)
set_option maxRecDepth 20000 in
theorem gX5_cell_X5_isCell : GoodIn wsX5_cell (va_wsS RX5 62 yX5_isCell wsX5_isCell) := goodIn_app (goodIn_of _ (by decide +kernel)) ggX5_cell_X5_isCell
set_option maxRecDepth 20000 in
theorem ggX5_cell_X1_isDark : GoodIn wsX5_cell wsX1_isDark := goodIn_r _ [16, 17, 27] (by decide +kernel) (by decide +kernel)
set_option maxRecDepth 20000 in
theorem gX5_cell_X1_isDark : GoodIn wsX5_cell (wsV RX5 153 RX1 yX1_isDark wsX1_isDark) := goodIn_app (goodIn_of _ (by decide +kernel)) ggX5_cell_X1_isDark
theorem dX5_cell_0 : decode cX5_cell 0 = .ok (.iload_n 1, 1) := by decide +kernel
theorem dX5_cell_1 : decode cX5_cell 1 = .ok (.invokestatic 58, 3) := by decide +kernel
theorem dX5_cell_4 : decode cX5_cell 4 = .ok (.ifCond .eq 11, 3) := by decide +kernel
theorem dX5_cell_7 : decode cX5_cell 7 = .ok (.iload_n 2, 1) := by decide +kernel
theorem dX5_cell_8 : decode cX5_cell 8 = .ok (.iload_n 3, 1) := by decide +kernel
theorem dX5_cell_9 : decode cX5_cell 9 = .ok (.invokestatic 62, 3) := by decide +kernel
theorem dX5_cell_12 : decode cX5_cell 12 = .ok (.ifCond .ne 6, 3) := by decide +kernel
theorem dX5_cell_15 : decode cX5_cell 15 = .ok (.bipush (-2), 2) := by decide +kernel
theorem dX5_cell_17 : decode cX5_cell 17 = .ok (.ireturn, 1) := by decide +kernel
theorem dX5_cell_18 : decode cX5_cell 18 = .ok (.aload_n 0, 1) := by decide +kernel
theorem dX5_cell_19 : decode cX5_cell 19 = .ok (.getfield 11, 3) := by decide +kernel
theorem dX5_cell_22 : decode cX5_cell 22 = .ok (.iload_n 1, 1) := by decide +kernel
theorem dX5_cell_23 : decode cX5_cell 23 = .ok (.aaload, 1) := by decide +kernel
theorem dX5_cell_24 : decode cX5_cell 24 = .ok (.iload_n 2, 1) := by decide +kernel
theorem dX5_cell_25 : decode cX5_cell 25 = .ok (.iload_n 3, 1) := by decide +kernel
theorem dX5_cell_26 : decode cX5_cell 26 = .ok (.invokevirtual 153, 3) := by decide +kernel
theorem dX5_cell_29 : decode cX5_cell 29 = .ok (.ifCond .eq 7, 3) := by decide +kernel
theorem dX5_cell_32 : decode cX5_cell 32 = .ok (.iconst 1, 1) := by decide +kernel
theorem dX5_cell_33 : decode cX5_cell 33 = .ok (.goto 4, 3) := by decide +kernel
theorem dX5_cell_36 : decode cX5_cell 36 = .ok (.iconst 0, 1) := by decide +kernel
theorem dX5_cell_37 : decode cX5_cell 37 = .ok (.ireturn, 1) := by decide +kernel
set_option maxRecDepth 20000 in
theorem ggX5_block_X5_isMask : GoodIn wsX5_block wsX5_isMask := goodIn_r _ [5, 6, 7, 4, 8] (by decide +kernel) (by decide +kernel)
set_option maxRecDepth 20000 in
theorem gX5_block_X5_isMask : GoodIn wsX5_block (va_wsS RX5 58 yX5_isMask wsX5_isMask) := goodIn_app (goodIn_of _ (by decide +kernel)) ggX5_block_X5_isMask
set_option maxRecDepth 20000 in
theorem ggX5_block_X5_isCell : GoodIn wsX5_block wsX5_isCell := goodIn_r _ [11, 6, 7, 4, 8] (by decide +kernel) (by decide +kernel)
set_option maxRecDepth 20000 in
theorem gX5_block_X5_isCell : GoodIn wsX5_block (va_wsS RX5 62 yX5_isCell wsX5_isCell) := goodIn_app (goodIn_of _ (by decide +kernel)) ggX5_block_X5_isCell
set_option maxRecDepth 20000 in
theorem ggX5_block_X5_within : GoodIn wsX5_block wsX5_within := goodIn_r _ [8] (by decide +kernel) (by decide +kernel)
set_option maxRecDepth 20000 in
theorem gX5_block_X5_within : GoodIn wsX5_block (va_wsS RX5 66 yX5_within wsX5_within) := goodIn_app (goodIn_of _ (by decide +kernel)) ggX5_block_X5_within
set_option maxRecDepth 20000 in
theorem ggX5_block_X1_sideOfBlock : GoodIn wsX5_block wsX1_sideOfBlock := goodIn_r _ [16, 17, 18, 19, 15, 20, 21, 22, 23, 24, 25, 35] (by decide +kernel) (by decide +kernel)
set_option maxRecDepth 20000 in
theorem gX5_block_X1_sideOfBlock : GoodIn wsX5_block (wsV RX5 156 RX1 yX1_sideOfBlock wsX1_sideOfBlock) := goodIn_app (goodIn_of _ (by decide +kernel)) ggX5_block_X1_sideOfBlock
theorem dX5_block_0 : decode cX5_block 0 = .ok (.iload_n 1, 1) := by decide +kernel
theorem dX5_block_1 : decode cX5_block 1 = .ok (.invokestatic 58, 3) := by decide +kernel
theorem dX5_block_4 : decode cX5_block 4 = .ok (.ifCond .eq 20, 3) := by decide +kernel
theorem dX5_block_7 : decode cX5_block 7 = .ok (.iload_n 2, 1) := by decide +kernel
theorem dX5_block_8 : decode cX5_block 8 = .ok (.iload_n 3, 1) := by decide +kernel
theorem dX5_block_9 : decode cX5_block 9 = .ok (.invokestatic 62, 3) := by decide +kernel
theorem dX5_block_12 : decode cX5_block 12 = .ok (.ifCond .eq 12, 3) := by decide +kernel
theorem dX5_block_15 : decode cX5_block 15 = .ok (.iload 4, 2) := by decide +kernel
theorem dX5_block_17 : decode cX5_block 17 = .ok (.iconst 3, 1) := by decide +kernel
theorem dX5_block_18 : decode cX5_block 18 = .ok (.invokestatic 66, 3) := by decide +kernel
theorem dX5_block_21 : decode cX5_block 21 = .ok (.ifCond .ne 6, 3) := by decide +kernel
theorem dX5_block_24 : decode cX5_block 24 = .ok (.bipush (-2), 2) := by decide +kernel
theorem dX5_block_26 : decode cX5_block 26 = .ok (.ireturn, 1) := by decide +kernel
theorem dX5_block_27 : decode cX5_block 27 = .ok (.aload_n 0, 1) := by decide +kernel
theorem dX5_block_28 : decode cX5_block 28 = .ok (.getfield 11, 3) := by decide +kernel
theorem dX5_block_31 : decode cX5_block 31 = .ok (.iload_n 1, 1) := by decide +kernel
theorem dX5_block_32 : decode cX5_block 32 = .ok (.aaload, 1) := by decide +kernel
theorem dX5_block_33 : decode cX5_block 33 = .ok (.iload_n 2, 1) := by decide +kernel
theorem dX5_block_34 : decode cX5_block 34 = .ok (.iload_n 3, 1) := by decide +kernel
theorem dX5_block_35 : decode cX5_block 35 = .ok (.invokevirtual 156, 3) := by decide +kernel
theorem dX5_block_38 : decode cX5_block 38 = .ok (.istore 5, 2) := by decide +kernel
theorem dX5_block_40 : decode cX5_block 40 = .ok (.iload 4, 2) := by decide +kernel
theorem dX5_block_42 : decode cX5_block 42 = .ok (.lookupswitch 38 #[(0, 26), (1, 32)], 26) := by decide +kernel
theorem dX5_block_68 : decode cX5_block 68 = .ok (.iload_n 2, 1) := by decide +kernel
theorem dX5_block_69 : decode cX5_block 69 = .ok (.iload 5, 2) := by decide +kernel
theorem dX5_block_71 : decode cX5_block 71 = .ok (.ineg, 1) := by decide +kernel
theorem dX5_block_72 : decode cX5_block 72 = .ok (.iand, 1) := by decide +kernel
theorem dX5_block_73 : decode cX5_block 73 = .ok (.ireturn, 1) := by decide +kernel
theorem dX5_block_74 : decode cX5_block 74 = .ok (.iload_n 3, 1) := by decide +kernel
theorem dX5_block_75 : decode cX5_block 75 = .ok (.iload 5, 2) := by decide +kernel
theorem dX5_block_77 : decode cX5_block 77 = .ok (.ineg, 1) := by decide +kernel
theorem dX5_block_78 : decode cX5_block 78 = .ok (.iand, 1) := by decide +kernel
theorem dX5_block_79 : decode cX5_block 79 = .ok (.ireturn, 1) := by decide +kernel
theorem dX5_block_80 : decode cX5_block 80 = .ok (.iload 5, 2) := by decide +kernel
theorem dX5_block_82 : decode cX5_block 82 = .ok (.ireturn, 1) := by decide +kernel
set_option maxRecDepth 20000 in
theorem ggX5_blocks_X5_isMask : GoodIn wsX5_blocks wsX5_isMask := goodIn_r _ [6, 7, 8, 5, 9] (by decide +kernel) (by decide +kernel)
set_option maxRecDepth 20000 in
theorem gX5_blocks_X5_isMask : GoodIn wsX5_blocks (va_wsS RX5 58 yX5_isMask wsX5_isMask) := goodIn_app (goodIn_of _ (by decide +kernel)) ggX5_blocks_X5_isMask
set_option maxRecDepth 20000 in
theorem ggX5_blocks_X5_within : GoodIn wsX5_blocks wsX5_within := goodIn_r _ [9] (by decide +kernel) (by decide +kernel)
set_option maxRecDepth 20000 in
theorem gX5_blocks_X5_within : GoodIn wsX5_blocks (va_wsS RX5 66 yX5_within wsX5_within) := goodIn_app (goodIn_of _ (by decide +kernel)) ggX5_blocks_X5_within
set_option maxRecDepth 20000 in
theorem ggX5_blocks_X4_look : GoodIn wsX5_blocks wsX4_look := goodIn_r _ [14, 15, 16, 17, 18, 19, 20, 21, 22, 23, 24, 25, 26, 27, 28, 29, 30, 31, 13, 32, 33, 34, 35, 36, 37, 38, 39, 40, 41, 42, 43, 44, 45, 46, 47, 48, 49, 8, 5, 9, 59, 60, 61, 62, 63, 64, 65] (by decide +kernel) (by decide +kernel)
set_option maxRecDepth 20000 in
theorem gX5_blocks_X4_look : GoodIn wsX5_blocks (wsV RX5 159 RX4 yX4_look wsX4_look) := goodIn_app (goodIn_of _ (by decide +kernel)) ggX5_blocks_X4_look
theorem dX5_blocks_0 : decode cX5_blocks 0 = .ok (.iload_n 1, 1) := by decide +kernel
theorem dX5_blocks_1 : decode cX5_blocks 1 = .ok (.invokestatic 58, 3) := by decide +kernel
theorem dX5_blocks_4 : decode cX5_blocks 4 = .ok (.ifCond .eq 11, 3) := by decide +kernel
theorem dX5_blocks_7 : decode cX5_blocks 7 = .ok (.iload_n 2, 1) := by decide +kernel
theorem dX5_blocks_8 : decode cX5_blocks 8 = .ok (.iconst 4, 1) := by decide +kernel
theorem dX5_blocks_9 : decode cX5_blocks 9 = .ok (.invokestatic 66, 3) := by decide +kernel
theorem dX5_blocks_12 : decode cX5_blocks 12 = .ok (.ifCond .ne 6, 3) := by decide +kernel
theorem dX5_blocks_15 : decode cX5_blocks 15 = .ok (.bipush (-2), 2) := by decide +kernel
theorem dX5_blocks_17 : decode cX5_blocks 17 = .ok (.ireturn, 1) := by decide +kernel
theorem dX5_blocks_18 : decode cX5_blocks 18 = .ok (.aload_n 0, 1) := by decide +kernel
theorem dX5_blocks_19 : decode cX5_blocks 19 = .ok (.getfield 49, 3) := by decide +kernel
theorem dX5_blocks_22 : decode cX5_blocks 22 = .ok (.aload_n 0, 1) := by decide +kernel
theorem dX5_blocks_23 : decode cX5_blocks 23 = .ok (.getfield 11, 3) := by decide +kernel
theorem dX5_blocks_26 : decode cX5_blocks 26 = .ok (.iload_n 1, 1) := by decide +kernel
theorem dX5_blocks_27 : decode cX5_blocks 27 = .ok (.aaload, 1) := by decide +kernel
theorem dX5_blocks_28 : decode cX5_blocks 28 = .ok (.invokevirtual 159, 3) := by decide +kernel
theorem dX5_blocks_31 : decode cX5_blocks 31 = .ok (.iload_n 2, 1) := by decide +kernel
theorem dX5_blocks_32 : decode cX5_blocks 32 = .ok (.tableswitch 60 0 2 #[28, 44, 52], 28) := by decide +kernel
theorem dX5_blocks_60 : decode cX5_blocks 60 = .ok (.aload_n 0, 1) := by decide +kernel
theorem dX5_blocks_61 : decode cX5_blocks 61 = .ok (.getfield 49, 3) := by decide +kernel
theorem dX5_blocks_64 : decode cX5_blocks 64 = .ok (.getfield 160, 3) := by decide +kernel
theorem dX5_blocks_67 : decode cX5_blocks 67 = .ok (.aload_n 0, 1) := by decide +kernel
theorem dX5_blocks_68 : decode cX5_blocks 68 = .ok (.getfield 49, 3) := by decide +kernel
theorem dX5_blocks_71 : decode cX5_blocks 71 = .ok (.getfield 163, 3) := by decide +kernel
theorem dX5_blocks_74 : decode cX5_blocks 74 = .ok (.isub, 1) := by decide +kernel
theorem dX5_blocks_75 : decode cX5_blocks 75 = .ok (.ireturn, 1) := by decide +kernel
theorem dX5_blocks_76 : decode cX5_blocks 76 = .ok (.aload_n 0, 1) := by decide +kernel
theorem dX5_blocks_77 : decode cX5_blocks 77 = .ok (.getfield 49, 3) := by decide +kernel
theorem dX5_blocks_80 : decode cX5_blocks 80 = .ok (.getfield 166, 3) := by decide +kernel
theorem dX5_blocks_83 : decode cX5_blocks 83 = .ok (.ireturn, 1) := by decide +kernel
theorem dX5_blocks_84 : decode cX5_blocks 84 = .ok (.aload_n 0, 1) := by decide +kernel
theorem dX5_blocks_85 : decode cX5_blocks 85 = .ok (.getfield 49, 3) := by decide +kernel
theorem dX5_blocks_88 : decode cX5_blocks 88 = .ok (.getfield 163, 3) := by decide +kernel
theorem dX5_blocks_91 : decode cX5_blocks 91 = .ok (.ireturn, 1) := by decide +kernel
theorem dX5_blocks_92 : decode cX5_blocks 92 = .ok (.aload_n 0, 1) := by decide +kernel
theorem dX5_blocks_93 : decode cX5_blocks 93 = .ok (.getfield 49, 3) := by decide +kernel
theorem dX5_blocks_96 : decode cX5_blocks 96 = .ok (.getfield 169, 3) := by decide +kernel
theorem dX5_blocks_99 : decode cX5_blocks 99 = .ok (.ireturn, 1) := by decide +kernel
set_option maxRecDepth 20000 in
theorem ggX5_shown_X5_isMask : GoodIn wsX5_shown wsX5_isMask := goodIn_r _ [6, 7, 8, 5, 9] (by decide +kernel) (by decide +kernel)
set_option maxRecDepth 20000 in
theorem gX5_shown_X5_isMask : GoodIn wsX5_shown (va_wsS RX5 58 yX5_isMask wsX5_isMask) := goodIn_app (goodIn_of _ (by decide +kernel)) ggX5_shown_X5_isMask
set_option maxRecDepth 20000 in
theorem ggX5_shown_X5_within : GoodIn wsX5_shown wsX5_within := goodIn_r _ [9] (by decide +kernel) (by decide +kernel)
set_option maxRecDepth 20000 in
theorem gX5_shown_X5_within : GoodIn wsX5_shown (va_wsS RX5 66 yX5_within wsX5_within) := goodIn_app (goodIn_of _ (by decide +kernel)) ggX5_shown_X5_within
set_option maxRecDepth 20000 in
theorem ggX5_shown_X4_look : GoodIn wsX5_shown wsX4_look := goodIn_r _ [14, 15, 16, 17, 18, 19, 20, 21, 22, 23, 24, 25, 26, 27, 28, 29, 30, 31, 13, 32, 33, 34, 35, 36, 37, 38, 39, 40, 41, 42, 43, 44, 45, 46, 47, 48, 49, 8, 5, 9, 63, 64, 65, 66, 67, 68, 69] (by decide +kernel) (by decide +kernel)
set_option maxRecDepth 20000 in
theorem gX5_shown_X4_look : GoodIn wsX5_shown (wsV RX5 159 RX4 yX4_look wsX4_look) := goodIn_app (goodIn_of _ (by decide +kernel)) ggX5_shown_X4_look
set_option maxRecDepth 20000 in
theorem ggX5_shown_X4_sign : GoodIn wsX5_shown wsX4_sign := goodIn_r _ [53, 16, 49, 8, 5, 9, 63, 64, 65, 66, 67, 68] (by decide +kernel) (by decide +kernel)
set_option maxRecDepth 20000 in
theorem gX5_shown_X4_sign : GoodIn wsX5_shown (wsV RX5 172 RX4 yX4_sign wsX4_sign) := goodIn_app (goodIn_of _ (by decide +kernel)) ggX5_shown_X4_sign
theorem dX5_shown_0 : decode cX5_shown 0 = .ok (.iload_n 1, 1) := by decide +kernel
theorem dX5_shown_1 : decode cX5_shown 1 = .ok (.invokestatic 58, 3) := by decide +kernel
theorem dX5_shown_4 : decode cX5_shown 4 = .ok (.ifCond .eq 18, 3) := by decide +kernel
theorem dX5_shown_7 : decode cX5_shown 7 = .ok (.iload_n 2, 1) := by decide +kernel
theorem dX5_shown_8 : decode cX5_shown 8 = .ok (.iconst (-1), 1) := by decide +kernel
theorem dX5_shown_9 : decode cX5_shown 9 = .ok (.if_icmp .eq 16, 3) := by decide +kernel
theorem dX5_shown_12 : decode cX5_shown 12 = .ok (.iload_n 2, 1) := by decide +kernel
theorem dX5_shown_13 : decode cX5_shown 13 = .ok (.sipush 341, 3) := by decide +kernel
theorem dX5_shown_16 : decode cX5_shown 16 = .ok (.invokestatic 66, 3) := by decide +kernel
theorem dX5_shown_19 : decode cX5_shown 19 = .ok (.ifCond .ne 6, 3) := by decide +kernel
theorem dX5_shown_22 : decode cX5_shown 22 = .ok (.bipush (-2), 2) := by decide +kernel
theorem dX5_shown_24 : decode cX5_shown 24 = .ok (.ireturn, 1) := by decide +kernel
theorem dX5_shown_25 : decode cX5_shown 25 = .ok (.aload_n 0, 1) := by decide +kernel
theorem dX5_shown_26 : decode cX5_shown 26 = .ok (.getfield 49, 3) := by decide +kernel
theorem dX5_shown_29 : decode cX5_shown 29 = .ok (.aload_n 0, 1) := by decide +kernel
theorem dX5_shown_30 : decode cX5_shown 30 = .ok (.getfield 11, 3) := by decide +kernel
theorem dX5_shown_33 : decode cX5_shown 33 = .ok (.iload_n 1, 1) := by decide +kernel
theorem dX5_shown_34 : decode cX5_shown 34 = .ok (.aaload, 1) := by decide +kernel
theorem dX5_shown_35 : decode cX5_shown 35 = .ok (.invokevirtual 159, 3) := by decide +kernel
theorem dX5_shown_38 : decode cX5_shown 38 = .ok (.iload_n 2, 1) := by decide +kernel
theorem dX5_shown_39 : decode cX5_shown 39 = .ok (.iconst (-1), 1) := by decide +kernel
theorem dX5_shown_40 : decode cX5_shown 40 = .ok (.if_icmp .ne 13, 3) := by decide +kernel
theorem dX5_shown_43 : decode cX5_shown 43 = .ok (.aload_n 0, 1) := by decide +kernel
theorem dX5_shown_44 : decode cX5_shown 44 = .ok (.getfield 49, 3) := by decide +kernel
theorem dX5_shown_47 : decode cX5_shown 47 = .ok (.getfield 160, 3) := by decide +kernel
theorem dX5_shown_50 : decode cX5_shown 50 = .ok (.goto 11, 3) := by decide +kernel
theorem dX5_shown_53 : decode cX5_shown 53 = .ok (.aload_n 0, 1) := by decide +kernel
theorem dX5_shown_54 : decode cX5_shown 54 = .ok (.getfield 49, 3) := by decide +kernel
theorem dX5_shown_57 : decode cX5_shown 57 = .ok (.iload_n 2, 1) := by decide +kernel
theorem dX5_shown_58 : decode cX5_shown 58 = .ok (.invokevirtual 172, 3) := by decide +kernel
theorem dX5_shown_61 : decode cX5_shown 61 = .ok (.ireturn, 1) := by decide +kernel
set_option maxRecDepth 20000 in
theorem ggX5_all_X5_isMask : GoodIn wsX5_all wsX5_isMask := goodIn_r _ [8, 9, 10, 7, 11] (by decide +kernel) (by decide +kernel)
set_option maxRecDepth 20000 in
theorem gX5_all_X5_isMask : GoodIn wsX5_all (va_wsS RX5 58 yX5_isMask wsX5_isMask) := goodIn_app (goodIn_of _ (by decide +kernel)) ggX5_all_X5_isMask
set_option maxRecDepth 20000 in
theorem ggX5_all_X5_within : GoodIn wsX5_all wsX5_within := goodIn_r _ [11] (by decide +kernel) (by decide +kernel)
set_option maxRecDepth 20000 in
theorem gX5_all_X5_within : GoodIn wsX5_all (va_wsS RX5 66 yX5_within wsX5_within) := goodIn_app (goodIn_of _ (by decide +kernel)) ggX5_all_X5_within
set_option maxRecDepth 20000 in
theorem ggX5_all_X2_look : GoodIn wsX5_all wsX2_look := goodIn_r _ [16, 17, 18, 19, 20, 21, 22, 23, 24, 25, 26, 27, 28, 29, 30, 31, 32, 33, 34, 35, 36, 37, 38, 39, 40, 15, 41, 42, 43, 44, 45, 46, 47, 48, 49, 50, 51, 52, 53, 54, 55, 56, 57, 58, 59, 60, 61, 62, 63, 64, 65, 66, 109, 110, 111, 112, 113, 114] (by decide +kernel) (by decide +kernel)
set_option maxRecDepth 20000 in
theorem gX5_all_X2_look : GoodIn wsX5_all (wsV RX5 108 RX2 yX2_look wsX2_look) := goodIn_app (goodIn_of _ (by decide +kernel)) ggX5_all_X2_look
set_option maxRecDepth 20000 in
theorem ggX5_all_X1_border : GoodIn wsX5_all wsX1_border := goodIn_r _ [70, 25, 71, 72, 73, 74, 75, 76, 77, 78, 79, 80, 23, 81, 82, 83, 84, 85, 114] (by decide +kernel) (by decide +kernel)
set_option maxRecDepth 20000 in
theorem gX5_all_X1_border : GoodIn wsX5_all (wsV RX5 178 RX1 yX1_border wsX1_border) := goodIn_app (goodIn_of _ (by decide +kernel)) ggX5_all_X1_border
set_option maxRecDepth 20000 in
theorem ggX5_all_X1_takeTurnedOver : GoodIn wsX5_all wsX1_takeTurnedOver := goodIn_r _ [89, 25, 90, 114] (by decide +kernel) (by decide +kernel)
set_option maxRecDepth 20000 in
theorem gX5_all_X1_takeTurnedOver : GoodIn wsX5_all (wsV RX5 96 RX1 yX1_takeTurnedOver wsX1_takeTurnedOver) := goodIn_app (goodIn_of _ (by decide +kernel)) ggX5_all_X1_takeTurnedOver
set_option maxRecDepth 20000 in
theorem ggX5_all_X2_partsOffTheEdge : GoodIn wsX5_all wsX2_partsOffTheEdge := goodIn_r _ [94, 19, 95, 96, 97, 15, 98, 47, 10, 7, 11, 109, 110, 111, 112, 113] (by decide +kernel) (by decide +kernel)
set_option maxRecDepth 20000 in
theorem gX5_all_X2_partsOffTheEdge : GoodIn wsX5_all (wsV RX5 181 RX2 yX2_partsOffTheEdge wsX2_partsOffTheEdge) := goodIn_app (goodIn_of _ (by decide +kernel)) ggX5_all_X2_partsOffTheEdge
set_option maxRecDepth 20000 in
theorem ggX5_all_X1_darkCells : GoodIn wsX5_all wsX1_darkCells := goodIn_r _ [85, 25, 71, 72, 73, 74, 75, 76, 77, 114] (by decide +kernel) (by decide +kernel)
set_option maxRecDepth 20000 in
theorem gX5_all_X1_darkCells : GoodIn wsX5_all (wsV RX5 149 RX1 yX1_darkCells wsX1_darkCells) := goodIn_app (goodIn_of _ (by decide +kernel)) ggX5_all_X1_darkCells
theorem dX5_all_0 : decode cX5_all 0 = .ok (.iload_n 1, 1) := by decide +kernel
theorem dX5_all_1 : decode cX5_all 1 = .ok (.invokestatic 58, 3) := by decide +kernel
theorem dX5_all_4 : decode cX5_all 4 = .ok (.ifCond .eq 11, 3) := by decide +kernel
theorem dX5_all_7 : decode cX5_all 7 = .ok (.iload_n 2, 1) := by decide +kernel
theorem dX5_all_8 : decode cX5_all 8 = .ok (.iconst 4, 1) := by decide +kernel
theorem dX5_all_9 : decode cX5_all 9 = .ok (.invokestatic 66, 3) := by decide +kernel
theorem dX5_all_12 : decode cX5_all 12 = .ok (.ifCond .ne 6, 3) := by decide +kernel
theorem dX5_all_15 : decode cX5_all 15 = .ok (.bipush (-2), 2) := by decide +kernel
theorem dX5_all_17 : decode cX5_all 17 = .ok (.ireturn, 1) := by decide +kernel
theorem dX5_all_18 : decode cX5_all 18 = .ok (.iload_n 2, 1) := by decide +kernel
theorem dX5_all_19 : decode cX5_all 19 = .ok (.tableswitch 88 0 2 #[25, 46, 56], 25) := by decide +kernel
theorem dX5_all_44 : decode cX5_all 44 = .ok (.aload_n 0, 1) := by decide +kernel
theorem dX5_all_45 : decode cX5_all 45 = .ok (.getfield 39, 3) := by decide +kernel
theorem dX5_all_48 : decode cX5_all 48 = .ok (.aload_n 0, 1) := by decide +kernel
theorem dX5_all_49 : decode cX5_all 49 = .ok (.getfield 11, 3) := by decide +kernel
theorem dX5_all_52 : decode cX5_all 52 = .ok (.iload_n 1, 1) := by decide +kernel
theorem dX5_all_53 : decode cX5_all 53 = .ok (.aaload, 1) := by decide +kernel
theorem dX5_all_54 : decode cX5_all 54 = .ok (.invokevirtual 108, 3) := by decide +kernel
theorem dX5_all_57 : decode cX5_all 57 = .ok (.aload_n 0, 1) := by decide +kernel
theorem dX5_all_58 : decode cX5_all 58 = .ok (.getfield 39, 3) := by decide +kernel
theorem dX5_all_61 : decode cX5_all 61 = .ok (.getfield 175, 3) := by decide +kernel
theorem dX5_all_64 : decode cX5_all 64 = .ok (.ireturn, 1) := by decide +kernel
theorem dX5_all_65 : decode cX5_all 65 = .ok (.aload_n 0, 1) := by decide +kernel
theorem dX5_all_66 : decode cX5_all 66 = .ok (.getfield 11, 3) := by decide +kernel
theorem dX5_all_69 : decode cX5_all 69 = .ok (.iload_n 1, 1) := by decide +kernel
theorem dX5_all_70 : decode cX5_all 70 = .ok (.aaload, 1) := by decide +kernel
theorem dX5_all_71 : decode cX5_all 71 = .ok (.invokevirtual 178, 3) := by decide +kernel
theorem dX5_all_74 : decode cX5_all 74 = .ok (.ireturn, 1) := by decide +kernel
theorem dX5_all_75 : decode cX5_all 75 = .ok (.aload_n 0, 1) := by decide +kernel
theorem dX5_all_76 : decode cX5_all 76 = .ok (.getfield 33, 3) := by decide +kernel
theorem dX5_all_79 : decode cX5_all 79 = .ok (.aload_n 0, 1) := by decide +kernel
theorem dX5_all_80 : decode cX5_all 80 = .ok (.getfield 11, 3) := by decide +kernel
theorem dX5_all_83 : decode cX5_all 83 = .ok (.iload_n 1, 1) := by decide +kernel
theorem dX5_all_84 : decode cX5_all 84 = .ok (.aaload, 1) := by decide +kernel
theorem dX5_all_85 : decode cX5_all 85 = .ok (.invokevirtual 96, 3) := by decide +kernel
theorem dX5_all_88 : decode cX5_all 88 = .ok (.aload_n 0, 1) := by decide +kernel
theorem dX5_all_89 : decode cX5_all 89 = .ok (.getfield 43, 3) := by decide +kernel
theorem dX5_all_92 : decode cX5_all 92 = .ok (.aload_n 0, 1) := by decide +kernel
theorem dX5_all_93 : decode cX5_all 93 = .ok (.getfield 33, 3) := by decide +kernel
theorem dX5_all_96 : decode cX5_all 96 = .ok (.invokevirtual 108, 3) := by decide +kernel
theorem dX5_all_99 : decode cX5_all 99 = .ok (.aload_n 0, 1) := by decide +kernel
theorem dX5_all_100 : decode cX5_all 100 = .ok (.getfield 43, 3) := by decide +kernel
theorem dX5_all_103 : decode cX5_all 103 = .ok (.invokevirtual 181, 3) := by decide +kernel
theorem dX5_all_106 : decode cX5_all 106 = .ok (.ireturn, 1) := by decide +kernel
theorem dX5_all_107 : decode cX5_all 107 = .ok (.aload_n 0, 1) := by decide +kernel
theorem dX5_all_108 : decode cX5_all 108 = .ok (.getfield 11, 3) := by decide +kernel
theorem dX5_all_111 : decode cX5_all 111 = .ok (.iload_n 1, 1) := by decide +kernel
theorem dX5_all_112 : decode cX5_all 112 = .ok (.aaload, 1) := by decide +kernel
theorem dX5_all_113 : decode cX5_all 113 = .ok (.invokevirtual 149, 3) := by decide +kernel
theorem dX5_all_116 : decode cX5_all 116 = .ok (.ireturn, 1) := by decide +kernel
set_option maxRecDepth 20000 in
theorem ggX5_label_X5_isMask : GoodIn wsX5_label wsX5_isMask := goodIn_r _ [6, 7, 8, 5, 9] (by decide +kernel) (by decide +kernel)
set_option maxRecDepth 20000 in
theorem gX5_label_X5_isMask : GoodIn wsX5_label (va_wsS RX5 58 yX5_isMask wsX5_isMask) := goodIn_app (goodIn_of _ (by decide +kernel)) ggX5_label_X5_isMask
set_option maxRecDepth 20000 in
theorem ggX5_label_X5_isCell : GoodIn wsX5_label wsX5_isCell := goodIn_r _ [12, 7, 8, 5, 9] (by decide +kernel) (by decide +kernel)
set_option maxRecDepth 20000 in
theorem gX5_label_X5_isCell : GoodIn wsX5_label (va_wsS RX5 62 yX5_isCell wsX5_isCell) := goodIn_app (goodIn_of _ (by decide +kernel)) ggX5_label_X5_isCell
set_option maxRecDepth 20000 in
theorem ggX5_label_X2_look : GoodIn wsX5_label wsX2_look := goodIn_r _ [17, 18, 19, 20, 21, 22, 23, 24, 25, 26, 27, 28, 29, 30, 31, 32, 33, 34, 35, 36, 37, 38, 39, 40, 41, 16, 42, 43, 44, 45, 46, 47, 48, 49, 50, 51, 52, 53, 54, 55, 56, 57, 58, 59, 60, 61, 62, 63, 64, 65, 66, 67, 78, 79, 80, 81, 82, 83] (by decide +kernel) (by decide +kernel)
set_option maxRecDepth 20000 in
theorem gX5_label_X2_look : GoodIn wsX5_label (wsV RX5 108 RX2 yX2_look wsX2_look) := goodIn_app (goodIn_of _ (by decide +kernel)) ggX5_label_X2_look
set_option maxRecDepth 20000 in
theorem ggX5_label_X2_labelAt : GoodIn wsX5_label wsX2_labelAt := goodIn_r _ [56, 19, 78, 79, 80, 81, 82] (by decide +kernel) (by decide +kernel)
set_option maxRecDepth 20000 in
theorem gX5_label_X2_labelAt : GoodIn wsX5_label (wsV RX5 111 RX2 yX2_labelAt wsX2_labelAt) := goodIn_app (goodIn_of _ (by decide +kernel)) ggX5_label_X2_labelAt
theorem dX5_label_0 : decode cX5_label 0 = .ok (.iload_n 1, 1) := by decide +kernel
theorem dX5_label_1 : decode cX5_label 1 = .ok (.invokestatic 58, 3) := by decide +kernel
theorem dX5_label_4 : decode cX5_label 4 = .ok (.ifCond .eq 11, 3) := by decide +kernel
theorem dX5_label_7 : decode cX5_label 7 = .ok (.iload_n 2, 1) := by decide +kernel
theorem dX5_label_8 : decode cX5_label 8 = .ok (.iload_n 3, 1) := by decide +kernel
theorem dX5_label_9 : decode cX5_label 9 = .ok (.invokestatic 62, 3) := by decide +kernel
theorem dX5_label_12 : decode cX5_label 12 = .ok (.ifCond .ne 6, 3) := by decide +kernel
theorem dX5_label_15 : decode cX5_label 15 = .ok (.bipush (-2), 2) := by decide +kernel
theorem dX5_label_17 : decode cX5_label 17 = .ok (.ireturn, 1) := by decide +kernel
theorem dX5_label_18 : decode cX5_label 18 = .ok (.aload_n 0, 1) := by decide +kernel
theorem dX5_label_19 : decode cX5_label 19 = .ok (.getfield 39, 3) := by decide +kernel
theorem dX5_label_22 : decode cX5_label 22 = .ok (.aload_n 0, 1) := by decide +kernel
theorem dX5_label_23 : decode cX5_label 23 = .ok (.getfield 11, 3) := by decide +kernel
theorem dX5_label_26 : decode cX5_label 26 = .ok (.iload_n 1, 1) := by decide +kernel
theorem dX5_label_27 : decode cX5_label 27 = .ok (.aaload, 1) := by decide +kernel
theorem dX5_label_28 : decode cX5_label 28 = .ok (.invokevirtual 108, 3) := by decide +kernel
theorem dX5_label_31 : decode cX5_label 31 = .ok (.aload_n 0, 1) := by decide +kernel
theorem dX5_label_32 : decode cX5_label 32 = .ok (.getfield 39, 3) := by decide +kernel
theorem dX5_label_35 : decode cX5_label 35 = .ok (.iload_n 2, 1) := by decide +kernel
theorem dX5_label_36 : decode cX5_label 36 = .ok (.iload_n 3, 1) := by decide +kernel
theorem dX5_label_37 : decode cX5_label 37 = .ok (.invokevirtual 111, 3) := by decide +kernel
theorem dX5_label_40 : decode cX5_label 40 = .ok (.ireturn, 1) := by decide +kernel
set_option maxRecDepth 20000 in
theorem ggX5_part_X5_isMask : GoodIn wsX5_part wsX5_isMask := goodIn_r _ [6, 7, 8, 5, 9] (by decide +kernel) (by decide +kernel)
set_option maxRecDepth 20000 in
theorem gX5_part_X5_isMask : GoodIn wsX5_part (va_wsS RX5 58 yX5_isMask wsX5_isMask) := goodIn_app (goodIn_of _ (by decide +kernel)) ggX5_part_X5_isMask
set_option maxRecDepth 20000 in
theorem ggX5_part_X5_within : GoodIn wsX5_part wsX5_within := goodIn_r _ [9] (by decide +kernel) (by decide +kernel)
set_option maxRecDepth 20000 in
theorem gX5_part_X5_within : GoodIn wsX5_part (va_wsS RX5 66 yX5_within wsX5_within) := goodIn_app (goodIn_of _ (by decide +kernel)) ggX5_part_X5_within
set_option maxRecDepth 20000 in
theorem ggX5_part_X2_look : GoodIn wsX5_part wsX2_look := goodIn_r _ [14, 15, 16, 17, 18, 19, 20, 21, 22, 23, 24, 25, 26, 27, 28, 29, 30, 31, 32, 33, 34, 35, 36, 37, 38, 13, 39, 40, 41, 42, 43, 44, 45, 46, 47, 48, 49, 50, 51, 52, 53, 54, 55, 56, 57, 58, 59, 60, 61, 62, 63, 64, 78, 79, 80, 81, 82, 83] (by decide +kernel) (by decide +kernel)
set_option maxRecDepth 20000 in
theorem gX5_part_X2_look : GoodIn wsX5_part (wsV RX5 108 RX2 yX2_look wsX2_look) := goodIn_app (goodIn_of _ (by decide +kernel)) ggX5_part_X2_look
set_option maxRecDepth 20000 in
theorem ggX5_part_X2_figure : GoodIn wsX5_part wsX2_figure := goodIn_r _ [68, 17, 45, 8, 5, 9, 78, 79, 80, 81, 82] (by decide +kernel) (by decide +kernel)
set_option maxRecDepth 20000 in
theorem gX5_part_X2_figure : GoodIn wsX5_part (wsV RX5 184 RX2 yX2_figure wsX2_figure) := goodIn_app (goodIn_of _ (by decide +kernel)) ggX5_part_X2_figure
theorem dX5_part_0 : decode cX5_part 0 = .ok (.iload_n 1, 1) := by decide +kernel
theorem dX5_part_1 : decode cX5_part 1 = .ok (.invokestatic 58, 3) := by decide +kernel
theorem dX5_part_4 : decode cX5_part 4 = .ok (.ifCond .eq 12, 3) := by decide +kernel
theorem dX5_part_7 : decode cX5_part 7 = .ok (.iload_n 3, 1) := by decide +kernel
theorem dX5_part_8 : decode cX5_part 8 = .ok (.bipush 6, 2) := by decide +kernel
theorem dX5_part_10 : decode cX5_part 10 = .ok (.invokestatic 66, 3) := by decide +kernel
theorem dX5_part_13 : decode cX5_part 13 = .ok (.ifCond .ne 6, 3) := by decide +kernel
theorem dX5_part_16 : decode cX5_part 16 = .ok (.bipush (-2), 2) := by decide +kernel
theorem dX5_part_18 : decode cX5_part 18 = .ok (.ireturn, 1) := by decide +kernel
theorem dX5_part_19 : decode cX5_part 19 = .ok (.aload_n 0, 1) := by decide +kernel
theorem dX5_part_20 : decode cX5_part 20 = .ok (.getfield 39, 3) := by decide +kernel
theorem dX5_part_23 : decode cX5_part 23 = .ok (.aload_n 0, 1) := by decide +kernel
theorem dX5_part_24 : decode cX5_part 24 = .ok (.getfield 11, 3) := by decide +kernel
theorem dX5_part_27 : decode cX5_part 27 = .ok (.iload_n 1, 1) := by decide +kernel
theorem dX5_part_28 : decode cX5_part 28 = .ok (.aaload, 1) := by decide +kernel
theorem dX5_part_29 : decode cX5_part 29 = .ok (.invokevirtual 108, 3) := by decide +kernel
theorem dX5_part_32 : decode cX5_part 32 = .ok (.iload_n 2, 1) := by decide +kernel
theorem dX5_part_33 : decode cX5_part 33 = .ok (.aload_n 0, 1) := by decide +kernel
theorem dX5_part_34 : decode cX5_part 34 = .ok (.getfield 39, 3) := by decide +kernel
theorem dX5_part_37 : decode cX5_part 37 = .ok (.getfield 175, 3) := by decide +kernel
theorem dX5_part_40 : decode cX5_part 40 = .ok (.invokestatic 66, 3) := by decide +kernel
theorem dX5_part_43 : decode cX5_part 43 = .ok (.ifCond .ne 6, 3) := by decide +kernel
theorem dX5_part_46 : decode cX5_part 46 = .ok (.bipush (-2), 2) := by decide +kernel
theorem dX5_part_48 : decode cX5_part 48 = .ok (.ireturn, 1) := by decide +kernel
theorem dX5_part_49 : decode cX5_part 49 = .ok (.aload_n 0, 1) := by decide +kernel
theorem dX5_part_50 : decode cX5_part 50 = .ok (.getfield 39, 3) := by decide +kernel
theorem dX5_part_53 : decode cX5_part 53 = .ok (.iload_n 2, 1) := by decide +kernel
theorem dX5_part_54 : decode cX5_part 54 = .ok (.iload_n 3, 1) := by decide +kernel
theorem dX5_part_55 : decode cX5_part 55 = .ok (.invokevirtual 184, 3) := by decide +kernel
theorem dX5_part_58 : decode cX5_part 58 = .ok (.ireturn, 1) := by decide +kernel
set_option maxRecDepth 20000 in
theorem ggX5_near_X5_isMask : GoodIn wsX5_near wsX5_isMask := goodIn_r _ [5, 6, 7, 4, 8] (by decide +kernel) (by decide +kernel)
set_option maxRecDepth 20000 in
theorem gX5_near_X5_isMask : GoodIn wsX5_near (va_wsS RX5 58 yX5_isMask wsX5_isMask) := goodIn_app (goodIn_of _ (by decide +kernel)) ggX5_near_X5_isMask
set_option maxRecDepth 20000 in
theorem ggX5_near_X5_isCell : GoodIn wsX5_near wsX5_isCell := goodIn_r _ [11, 6, 7, 4, 8] (by decide +kernel) (by decide +kernel)
set_option maxRecDepth 20000 in
theorem gX5_near_X5_isCell : GoodIn wsX5_near (va_wsS RX5 62 yX5_isCell wsX5_isCell) := goodIn_app (goodIn_of _ (by decide +kernel)) ggX5_near_X5_isCell
set_option maxRecDepth 20000 in
theorem ggX5_near_X1_distanceFrom : GoodIn wsX5_near wsX1_distanceFrom := goodIn_r _ [16, 17, 18, 19, 20, 21, 22, 23, 15, 24, 34] (by decide +kernel) (by decide +kernel)
set_option maxRecDepth 20000 in
theorem gX5_near_X1_distanceFrom : GoodIn wsX5_near (wsV RX5 187 RX1 yX1_distanceFrom wsX1_distanceFrom) := goodIn_app (goodIn_of _ (by decide +kernel)) ggX5_near_X1_distanceFrom
theorem dX5_near_0 : decode cX5_near 0 = .ok (.iload_n 1, 1) := by decide +kernel
theorem dX5_near_1 : decode cX5_near 1 = .ok (.invokestatic 58, 3) := by decide +kernel
theorem dX5_near_4 : decode cX5_near 4 = .ok (.ifCond .eq 11, 3) := by decide +kernel
theorem dX5_near_7 : decode cX5_near 7 = .ok (.iload_n 2, 1) := by decide +kernel
theorem dX5_near_8 : decode cX5_near 8 = .ok (.iload_n 3, 1) := by decide +kernel
theorem dX5_near_9 : decode cX5_near 9 = .ok (.invokestatic 62, 3) := by decide +kernel
theorem dX5_near_12 : decode cX5_near 12 = .ok (.ifCond .ne 6, 3) := by decide +kernel
theorem dX5_near_15 : decode cX5_near 15 = .ok (.bipush (-2), 2) := by decide +kernel
theorem dX5_near_17 : decode cX5_near 17 = .ok (.ireturn, 1) := by decide +kernel
theorem dX5_near_18 : decode cX5_near 18 = .ok (.aload_n 0, 1) := by decide +kernel
theorem dX5_near_19 : decode cX5_near 19 = .ok (.getfield 11, 3) := by decide +kernel
theorem dX5_near_22 : decode cX5_near 22 = .ok (.iload_n 1, 1) := by decide +kernel
theorem dX5_near_23 : decode cX5_near 23 = .ok (.aaload, 1) := by decide +kernel
theorem dX5_near_24 : decode cX5_near 24 = .ok (.iload_n 2, 1) := by decide +kernel
theorem dX5_near_25 : decode cX5_near 25 = .ok (.iload_n 3, 1) := by decide +kernel
theorem dX5_near_26 : decode cX5_near 26 = .ok (.invokevirtual 187, 3) := by decide +kernel
theorem dX5_near_29 : decode cX5_near 29 = .ok (.ireturn, 1) := by decide +kernel
set_option maxRecDepth 20000 in
theorem ggX5_both_X5_isMask : GoodIn wsX5_both wsX5_isMask := goodIn_r _ [5, 6, 7, 4, 8] (by decide +kernel) (by decide +kernel)
set_option maxRecDepth 20000 in
theorem gX5_both_X5_isMask : GoodIn wsX5_both (va_wsS RX5 58 yX5_isMask wsX5_isMask) := goodIn_app (goodIn_of _ (by decide +kernel)) ggX5_both_X5_isMask
set_option maxRecDepth 20000 in
theorem ggX5_both_X5_within : GoodIn wsX5_both wsX5_within := goodIn_r _ [8] (by decide +kernel) (by decide +kernel)
set_option maxRecDepth 20000 in
theorem gX5_both_X5_within : GoodIn wsX5_both (va_wsS RX5 66 yX5_within wsX5_within) := goodIn_app (goodIn_of _ (by decide +kernel)) ggX5_both_X5_within
set_option maxRecDepth 20000 in
theorem ggX5_both_X1_sameAs : GoodIn wsX5_both wsX1_sameAs := goodIn_r _ [13, 14, 52] (by decide +kernel) (by decide +kernel)
set_option maxRecDepth 20000 in
theorem gX5_both_X1_sameAs : GoodIn wsX5_both (wsV RX5 190 RX1 yX1_sameAs wsX1_sameAs) := goodIn_app (goodIn_of _ (by decide +kernel)) ggX5_both_X1_sameAs
set_option maxRecDepth 20000 in
theorem ggX5_both_X1_darkCellsIn : GoodIn wsX5_both wsX1_darkCellsIn := goodIn_r _ [18, 14, 19, 20, 21, 22, 23, 24, 25, 52] (by decide +kernel) (by decide +kernel)
set_option maxRecDepth 20000 in
theorem gX5_both_X1_darkCellsIn : GoodIn wsX5_both (wsV RX5 194 RX1 yX1_darkCellsIn wsX1_darkCellsIn) := goodIn_app (goodIn_of _ (by decide +kernel)) ggX5_both_X1_darkCellsIn
set_option maxRecDepth 20000 in
theorem ggX5_both_X1_darkCells : GoodIn wsX5_both wsX1_darkCells := goodIn_r _ [29, 14, 19, 20, 21, 22, 23, 24, 25, 52] (by decide +kernel) (by decide +kernel)
set_option maxRecDepth 20000 in
theorem gX5_both_X1_darkCells : GoodIn wsX5_both (wsV RX5 149 RX1 yX1_darkCells wsX1_darkCells) := goodIn_app (goodIn_of _ (by decide +kernel)) ggX5_both_X1_darkCells
set_option maxRecDepth 20000 in
theorem ggX5_both_X1_touches : GoodIn wsX5_both wsX1_touches := goodIn_r _ [33, 14, 34, 35, 36, 12, 37, 38, 39, 40, 41, 42, 52] (by decide +kernel) (by decide +kernel)
set_option maxRecDepth 20000 in
theorem gX5_both_X1_touches : GoodIn wsX5_both (wsV RX5 197 RX1 yX1_touches wsX1_touches) := goodIn_app (goodIn_of _ (by decide +kernel)) ggX5_both_X1_touches
theorem dX5_both_0 : decode cX5_both 0 = .ok (.iload_n 1, 1) := by decide +kernel
theorem dX5_both_1 : decode cX5_both 1 = .ok (.invokestatic 58, 3) := by decide +kernel
theorem dX5_both_4 : decode cX5_both 4 = .ok (.ifCond .eq 18, 3) := by decide +kernel
theorem dX5_both_7 : decode cX5_both 7 = .ok (.iload_n 2, 1) := by decide +kernel
theorem dX5_both_8 : decode cX5_both 8 = .ok (.invokestatic 58, 3) := by decide +kernel
theorem dX5_both_11 : decode cX5_both 11 = .ok (.ifCond .eq 11, 3) := by decide +kernel
theorem dX5_both_14 : decode cX5_both 14 = .ok (.iload_n 3, 1) := by decide +kernel
theorem dX5_both_15 : decode cX5_both 15 = .ok (.iconst 4, 1) := by decide +kernel
theorem dX5_both_16 : decode cX5_both 16 = .ok (.invokestatic 66, 3) := by decide +kernel
theorem dX5_both_19 : decode cX5_both 19 = .ok (.ifCond .ne 6, 3) := by decide +kernel
theorem dX5_both_22 : decode cX5_both 22 = .ok (.bipush (-2), 2) := by decide +kernel
theorem dX5_both_24 : decode cX5_both 24 = .ok (.ireturn, 1) := by decide +kernel
theorem dX5_both_25 : decode cX5_both 25 = .ok (.iload_n 3, 1) := by decide +kernel
theorem dX5_both_26 : decode cX5_both 26 = .ok (.tableswitch 99 0 2 #[26, 50, 83], 26) := by decide +kernel
theorem dX5_both_52 : decode cX5_both 52 = .ok (.aload_n 0, 1) := by decide +kernel
theorem dX5_both_53 : decode cX5_both 53 = .ok (.getfield 11, 3) := by decide +kernel
theorem dX5_both_56 : decode cX5_both 56 = .ok (.iload_n 1, 1) := by decide +kernel
theorem dX5_both_57 : decode cX5_both 57 = .ok (.aaload, 1) := by decide +kernel
theorem dX5_both_58 : decode cX5_both 58 = .ok (.aload_n 0, 1) := by decide +kernel
theorem dX5_both_59 : decode cX5_both 59 = .ok (.getfield 11, 3) := by decide +kernel
theorem dX5_both_62 : decode cX5_both 62 = .ok (.iload_n 2, 1) := by decide +kernel
theorem dX5_both_63 : decode cX5_both 63 = .ok (.aaload, 1) := by decide +kernel
theorem dX5_both_64 : decode cX5_both 64 = .ok (.invokevirtual 190, 3) := by decide +kernel
theorem dX5_both_67 : decode cX5_both 67 = .ok (.ifCond .eq 7, 3) := by decide +kernel
theorem dX5_both_70 : decode cX5_both 70 = .ok (.iconst 1, 1) := by decide +kernel
theorem dX5_both_71 : decode cX5_both 71 = .ok (.goto 4, 3) := by decide +kernel
theorem dX5_both_74 : decode cX5_both 74 = .ok (.iconst 0, 1) := by decide +kernel
theorem dX5_both_75 : decode cX5_both 75 = .ok (.ireturn, 1) := by decide +kernel
theorem dX5_both_76 : decode cX5_both 76 = .ok (.aload_n 0, 1) := by decide +kernel
theorem dX5_both_77 : decode cX5_both 77 = .ok (.getfield 11, 3) := by decide +kernel
theorem dX5_both_80 : decode cX5_both 80 = .ok (.iload_n 1, 1) := by decide +kernel
theorem dX5_both_81 : decode cX5_both 81 = .ok (.aaload, 1) := by decide +kernel
theorem dX5_both_82 : decode cX5_both 82 = .ok (.aload_n 0, 1) := by decide +kernel
theorem dX5_both_83 : decode cX5_both 83 = .ok (.getfield 11, 3) := by decide +kernel
theorem dX5_both_86 : decode cX5_both 86 = .ok (.iload_n 2, 1) := by decide +kernel
theorem dX5_both_87 : decode cX5_both 87 = .ok (.aaload, 1) := by decide +kernel
theorem dX5_both_88 : decode cX5_both 88 = .ok (.invokevirtual 194, 3) := by decide +kernel
theorem dX5_both_91 : decode cX5_both 91 = .ok (.aload_n 0, 1) := by decide +kernel
theorem dX5_both_92 : decode cX5_both 92 = .ok (.getfield 11, 3) := by decide +kernel
theorem dX5_both_95 : decode cX5_both 95 = .ok (.iload_n 1, 1) := by decide +kernel
theorem dX5_both_96 : decode cX5_both 96 = .ok (.aaload, 1) := by decide +kernel
theorem dX5_both_97 : decode cX5_both 97 = .ok (.invokevirtual 149, 3) := by decide +kernel
theorem dX5_both_100 : decode cX5_both 100 = .ok (.if_icmp .ne 7, 3) := by decide +kernel
theorem dX5_both_103 : decode cX5_both 103 = .ok (.iconst 1, 1) := by decide +kernel
theorem dX5_both_104 : decode cX5_both 104 = .ok (.goto 4, 3) := by decide +kernel
theorem dX5_both_107 : decode cX5_both 107 = .ok (.iconst 0, 1) := by decide +kernel
theorem dX5_both_108 : decode cX5_both 108 = .ok (.ireturn, 1) := by decide +kernel
theorem dX5_both_109 : decode cX5_both 109 = .ok (.aload_n 0, 1) := by decide +kernel
theorem dX5_both_110 : decode cX5_both 110 = .ok (.getfield 11, 3) := by decide +kernel
theorem dX5_both_113 : decode cX5_both 113 = .ok (.iload_n 1, 1) := by decide +kernel
theorem dX5_both_114 : decode cX5_both 114 = .ok (.aaload, 1) := by decide +kernel
theorem dX5_both_115 : decode cX5_both 115 = .ok (.aload_n 0, 1) := by decide +kernel
theorem dX5_both_116 : decode cX5_both 116 = .ok (.getfield 11, 3) := by decide +kernel
theorem dX5_both_119 : decode cX5_both 119 = .ok (.iload_n 2, 1) := by decide +kernel
theorem dX5_both_120 : decode cX5_both 120 = .ok (.aaload, 1) := by decide +kernel
theorem dX5_both_121 : decode cX5_both 121 = .ok (.invokevirtual 194, 3) := by decide +kernel
theorem dX5_both_124 : decode cX5_both 124 = .ok (.ireturn, 1) := by decide +kernel
theorem dX5_both_125 : decode cX5_both 125 = .ok (.aload_n 0, 1) := by decide +kernel
theorem dX5_both_126 : decode cX5_both 126 = .ok (.getfield 11, 3) := by decide +kernel
theorem dX5_both_129 : decode cX5_both 129 = .ok (.iload_n 1, 1) := by decide +kernel
theorem dX5_both_130 : decode cX5_both 130 = .ok (.aaload, 1) := by decide +kernel
theorem dX5_both_131 : decode cX5_both 131 = .ok (.aload_n 0, 1) := by decide +kernel
theorem dX5_both_132 : decode cX5_both 132 = .ok (.getfield 11, 3) := by decide +kernel
theorem dX5_both_135 : decode cX5_both 135 = .ok (.iload_n 2, 1) := by decide +kernel
theorem dX5_both_136 : decode cX5_both 136 = .ok (.aaload, 1) := by decide +kernel
theorem dX5_both_137 : decode cX5_both 137 = .ok (.invokevirtual 197, 3) := by decide +kernel
theorem dX5_both_140 : decode cX5_both 140 = .ok (.ifCond .eq 7, 3) := by decide +kernel
theorem dX5_both_143 : decode cX5_both 143 = .ok (.iconst 1, 1) := by decide +kernel
theorem dX5_both_144 : decode cX5_both 144 = .ok (.goto 4, 3) := by decide +kernel
theorem dX5_both_147 : decode cX5_both 147 = .ok (.iconst 0, 1) := by decide +kernel
theorem dX5_both_148 : decode cX5_both 148 = .ok (.ireturn, 1) := by decide +kernel
set_option maxRecDepth 20000 in
theorem ggX5_sheet_X5_isSheet : GoodIn wsX5_sheet wsX5_isSheet := goodIn_r _ [5, 6, 7, 4, 8] (by decide +kernel) (by decide +kernel)
set_option maxRecDepth 20000 in
theorem gX5_sheet_X5_isSheet : GoodIn wsX5_sheet (va_wsS RX5 118 yX5_isSheet wsX5_isSheet) := goodIn_app (goodIn_of _ (by decide +kernel)) ggX5_sheet_X5_isSheet
set_option maxRecDepth 20000 in
theorem ggX5_sheet_X5_within : GoodIn wsX5_sheet wsX5_within := goodIn_r _ [8] (by decide +kernel) (by decide +kernel)
set_option maxRecDepth 20000 in
theorem gX5_sheet_X5_within : GoodIn wsX5_sheet (va_wsS RX5 66 yX5_within wsX5_within) := goodIn_app (goodIn_of _ (by decide +kernel)) ggX5_sheet_X5_within
set_option maxRecDepth 20000 in
theorem ggX5_sheet_X5_found : GoodIn wsX5_sheet wsX5_found := goodIn_r _ [12, 13, 27, 28, 29, 30, 31, 32, 33, 34, 35] (by decide +kernel) (by decide +kernel)
set_option maxRecDepth 20000 in
theorem gX5_sheet_X5_found : GoodIn wsX5_sheet (wsV RX5 125 RX5 yX5_found wsX5_found) := goodIn_app (goodIn_of _ (by decide +kernel)) ggX5_sheet_X5_found
set_option maxRecDepth 20000 in
theorem ggX5_sheet_X3_begin : GoodIn wsX5_sheet wsX3_begin := goodIn_r _ [18, 19, 20, 21, 22, 23, 24, 25, 26, 36, 37, 38, 39] (by decide +kernel) (by decide +kernel)
set_option maxRecDepth 20000 in
theorem gX5_sheet_X3_begin : GoodIn wsX5_sheet (wsV RX5 200 RX3 yX3_begin wsX3_begin) := goodIn_app (goodIn_of _ (by decide +kernel)) ggX5_sheet_X3_begin
theorem dX5_sheet_0 : decode cX5_sheet 0 = .ok (.iload_n 1, 1) := by decide +kernel
theorem dX5_sheet_1 : decode cX5_sheet 1 = .ok (.invokestatic 118, 3) := by decide +kernel
theorem dX5_sheet_4 : decode cX5_sheet 4 = .ok (.ifCond .eq 17, 3) := by decide +kernel
theorem dX5_sheet_7 : decode cX5_sheet 7 = .ok (.iload_n 2, 1) := by decide +kernel
theorem dX5_sheet_8 : decode cX5_sheet 8 = .ok (.iconst 3, 1) := by decide +kernel
theorem dX5_sheet_9 : decode cX5_sheet 9 = .ok (.invokestatic 66, 3) := by decide +kernel
theorem dX5_sheet_12 : decode cX5_sheet 12 = .ok (.ifCond .eq 9, 3) := by decide +kernel
theorem dX5_sheet_15 : decode cX5_sheet 15 = .ok (.iload_n 3, 1) := by decide +kernel
theorem dX5_sheet_16 : decode cX5_sheet 16 = .ok (.bipush 60, 2) := by decide +kernel
theorem dX5_sheet_18 : decode cX5_sheet 18 = .ok (.if_icmp .le 6, 3) := by decide +kernel
theorem dX5_sheet_21 : decode cX5_sheet 21 = .ok (.bipush (-2), 2) := by decide +kernel
theorem dX5_sheet_23 : decode cX5_sheet 23 = .ok (.ireturn, 1) := by decide +kernel
theorem dX5_sheet_24 : decode cX5_sheet 24 = .ok (.iload_n 3, 1) := by decide +kernel
theorem dX5_sheet_25 : decode cX5_sheet 25 = .ok (.ifCond .ge 9, 3) := by decide +kernel
theorem dX5_sheet_28 : decode cX5_sheet 28 = .ok (.aload_n 0, 1) := by decide +kernel
theorem dX5_sheet_29 : decode cX5_sheet 29 = .ok (.iconst 5, 1) := by decide +kernel
theorem dX5_sheet_30 : decode cX5_sheet 30 = .ok (.invokevirtual 125, 3) := by decide +kernel
theorem dX5_sheet_33 : decode cX5_sheet 33 = .ok (.ireturn, 1) := by decide +kernel
theorem dX5_sheet_34 : decode cX5_sheet 34 = .ok (.aload_n 0, 1) := by decide +kernel
theorem dX5_sheet_35 : decode cX5_sheet 35 = .ok (.getfield 17, 3) := by decide +kernel
theorem dX5_sheet_38 : decode cX5_sheet 38 = .ok (.iload_n 1, 1) := by decide +kernel
theorem dX5_sheet_39 : decode cX5_sheet 39 = .ok (.aaload, 1) := by decide +kernel
theorem dX5_sheet_40 : decode cX5_sheet 40 = .ok (.iload_n 2, 1) := by decide +kernel
theorem dX5_sheet_41 : decode cX5_sheet 41 = .ok (.iload_n 3, 1) := by decide +kernel
theorem dX5_sheet_42 : decode cX5_sheet 42 = .ok (.invokevirtual 200, 3) := by decide +kernel
theorem dX5_sheet_45 : decode cX5_sheet 45 = .ok (.iload_n 3, 1) := by decide +kernel
theorem dX5_sheet_46 : decode cX5_sheet 46 = .ok (.ireturn, 1) := by decide +kernel
set_option maxRecDepth 20000 in
theorem ggX5_lose_X5_isSheet : GoodIn wsX5_lose wsX5_isSheet := goodIn_r _ [5, 6, 7, 4, 8] (by decide +kernel) (by decide +kernel)
set_option maxRecDepth 20000 in
theorem gX5_lose_X5_isSheet : GoodIn wsX5_lose (va_wsS RX5 118 yX5_isSheet wsX5_isSheet) := goodIn_app (goodIn_of _ (by decide +kernel)) ggX5_lose_X5_isSheet
set_option maxRecDepth 20000 in
theorem ggX5_lose_X5_found : GoodIn wsX5_lose wsX5_found := goodIn_r _ [12, 13, 14, 15, 16, 17, 18, 19, 20, 21, 22] (by decide +kernel) (by decide +kernel)
set_option maxRecDepth 20000 in
theorem gX5_lose_X5_found : GoodIn wsX5_lose (wsV RX5 125 RX5 yX5_found wsX5_found) := goodIn_app (goodIn_of _ (by decide +kernel)) ggX5_lose_X5_found
theorem dX5_lose_0 : decode cX5_lose 0 = .ok (.iload_n 1, 1) := by decide +kernel
theorem dX5_lose_1 : decode cX5_lose 1 = .ok (.invokestatic 118, 3) := by decide +kernel
theorem dX5_lose_4 : decode cX5_lose 4 = .ok (.ifCond .ne 6, 3) := by decide +kernel
theorem dX5_lose_7 : decode cX5_lose 7 = .ok (.bipush (-2), 2) := by decide +kernel
theorem dX5_lose_9 : decode cX5_lose 9 = .ok (.ireturn, 1) := by decide +kernel
theorem dX5_lose_10 : decode cX5_lose 10 = .ok (.aload_n 0, 1) := by decide +kernel
theorem dX5_lose_11 : decode cX5_lose 11 = .ok (.getfield 17, 3) := by decide +kernel
theorem dX5_lose_14 : decode cX5_lose 14 = .ok (.iload_n 1, 1) := by decide +kernel
theorem dX5_lose_15 : decode cX5_lose 15 = .ok (.aaload, 1) := by decide +kernel
theorem dX5_lose_16 : decode cX5_lose 16 = .ok (.getfield 121, 3) := by decide +kernel
theorem dX5_lose_19 : decode cX5_lose 19 = .ok (.ifCond .eq 9, 3) := by decide +kernel
theorem dX5_lose_22 : decode cX5_lose 22 = .ok (.aload_n 0, 1) := by decide +kernel
theorem dX5_lose_23 : decode cX5_lose 23 = .ok (.iconst 1, 1) := by decide +kernel
theorem dX5_lose_24 : decode cX5_lose 24 = .ok (.invokevirtual 125, 3) := by decide +kernel
theorem dX5_lose_27 : decode cX5_lose 27 = .ok (.ireturn, 1) := by decide +kernel
theorem dX5_lose_28 : decode cX5_lose 28 = .ok (.aload_n 0, 1) := by decide +kernel
theorem dX5_lose_29 : decode cX5_lose 29 = .ok (.getfield 17, 3) := by decide +kernel
theorem dX5_lose_32 : decode cX5_lose 32 = .ok (.iload_n 1, 1) := by decide +kernel
theorem dX5_lose_33 : decode cX5_lose 33 = .ok (.aaload, 1) := by decide +kernel
theorem dX5_lose_34 : decode cX5_lose 34 = .ok (.iconst 1, 1) := by decide +kernel
theorem dX5_lose_35 : decode cX5_lose 35 = .ok (.putfield 121, 3) := by decide +kernel
theorem dX5_lose_38 : decode cX5_lose 38 = .ok (.aload_n 0, 1) := by decide +kernel
theorem dX5_lose_39 : decode cX5_lose 39 = .ok (.getfield 17, 3) := by decide +kernel
theorem dX5_lose_42 : decode cX5_lose 42 = .ok (.iload_n 1, 1) := by decide +kernel
theorem dX5_lose_43 : decode cX5_lose 43 = .ok (.aaload, 1) := by decide +kernel
theorem dX5_lose_44 : decode cX5_lose 44 = .ok (.getfield 132, 3) := by decide +kernel
theorem dX5_lose_47 : decode cX5_lose 47 = .ok (.ireturn, 1) := by decide +kernel
set_option maxRecDepth 20000 in
theorem ggX5_lay_X5_isSheet : GoodIn wsX5_lay wsX5_isSheet := goodIn_r _ [5, 6, 7, 4, 8] (by decide +kernel) (by decide +kernel)
set_option maxRecDepth 20000 in
theorem gX5_lay_X5_isSheet : GoodIn wsX5_lay (va_wsS RX5 118 yX5_isSheet wsX5_isSheet) := goodIn_app (goodIn_of _ (by decide +kernel)) ggX5_lay_X5_isSheet
set_option maxRecDepth 20000 in
theorem ggX5_lay_X5_within : GoodIn wsX5_lay wsX5_within := goodIn_r _ [8] (by decide +kernel) (by decide +kernel)
set_option maxRecDepth 20000 in
theorem gX5_lay_X5_within : GoodIn wsX5_lay (va_wsS RX5 66 yX5_within wsX5_within) := goodIn_app (goodIn_of _ (by decide +kernel)) ggX5_lay_X5_within
set_option maxRecDepth 20000 in
theorem ggX5_lay_X5_findingAt : GoodIn wsX5_lay wsX5_findingAt := goodIn_r _ [11, 6, 7, 4, 8, 38, 39, 40, 41] (by decide +kernel) (by decide +kernel)
set_option maxRecDepth 20000 in
theorem gX5_lay_X5_findingAt : GoodIn wsX5_lay (va_wsS RX5 203 yX5_findingAt wsX5_findingAt) := goodIn_app (goodIn_of _ (by decide +kernel)) ggX5_lay_X5_findingAt
set_option maxRecDepth 20000 in
theorem ggX5_lay_X5_found : GoodIn wsX5_lay wsX5_found := goodIn_r _ [15, 16, 29, 30, 31, 32, 33, 34, 35, 36, 37] (by decide +kernel) (by decide +kernel)
set_option maxRecDepth 20000 in
theorem gX5_lay_X5_found : GoodIn wsX5_lay (wsV RX5 125 RX5 yX5_found wsX5_found) := goodIn_app (goodIn_of _ (by decide +kernel)) ggX5_lay_X5_found
set_option maxRecDepth 20000 in
theorem ggX5_lay_X3_setItem : GoodIn wsX5_lay wsX3_setItem := goodIn_r _ [21, 22, 23, 7, 4, 8, 24, 25, 26, 20, 27, 28, 38, 39, 40, 41] (by decide +kernel) (by decide +kernel)
set_option maxRecDepth 20000 in
theorem gX5_lay_X3_setItem : GoodIn wsX5_lay (wsV RX5 207 RX3 yX3_setItem wsX3_setItem) := goodIn_app (goodIn_of _ (by decide +kernel)) ggX5_lay_X3_setItem
theorem dX5_lay_0 : decode cX5_lay 0 = .ok (.iload_n 1, 1) := by decide +kernel
theorem dX5_lay_1 : decode cX5_lay 1 = .ok (.invokestatic 118, 3) := by decide +kernel
theorem dX5_lay_4 : decode cX5_lay 4 = .ok (.ifCond .eq 11, 3) := by decide +kernel
theorem dX5_lay_7 : decode cX5_lay 7 = .ok (.iload_n 2, 1) := by decide +kernel
theorem dX5_lay_8 : decode cX5_lay 8 = .ok (.iconst 3, 1) := by decide +kernel
theorem dX5_lay_9 : decode cX5_lay 9 = .ok (.invokestatic 66, 3) := by decide +kernel
theorem dX5_lay_12 : decode cX5_lay 12 = .ok (.ifCond .ne 6, 3) := by decide +kernel
theorem dX5_lay_15 : decode cX5_lay 15 = .ok (.bipush (-2), 2) := by decide +kernel
theorem dX5_lay_17 : decode cX5_lay 17 = .ok (.ireturn, 1) := by decide +kernel
theorem dX5_lay_18 : decode cX5_lay 18 = .ok (.aload_n 0, 1) := by decide +kernel
theorem dX5_lay_19 : decode cX5_lay 19 = .ok (.getfield 17, 3) := by decide +kernel
theorem dX5_lay_22 : decode cX5_lay 22 = .ok (.iload_n 1, 1) := by decide +kernel
theorem dX5_lay_23 : decode cX5_lay 23 = .ok (.aaload, 1) := by decide +kernel
theorem dX5_lay_24 : decode cX5_lay 24 = .ok (.iload_n 2, 1) := by decide +kernel
theorem dX5_lay_25 : decode cX5_lay 25 = .ok (.iload_n 3, 1) := by decide +kernel
theorem dX5_lay_26 : decode cX5_lay 26 = .ok (.invokestatic 203, 3) := by decide +kernel
theorem dX5_lay_29 : decode cX5_lay 29 = .ok (.istore 5, 2) := by decide +kernel
theorem dX5_lay_31 : decode cX5_lay 31 = .ok (.iload 5, 2) := by decide +kernel
theorem dX5_lay_33 : decode cX5_lay 33 = .ok (.ifCond .eq 10, 3) := by decide +kernel
theorem dX5_lay_36 : decode cX5_lay 36 = .ok (.aload_n 0, 1) := by decide +kernel
theorem dX5_lay_37 : decode cX5_lay 37 = .ok (.iload 5, 2) := by decide +kernel
theorem dX5_lay_39 : decode cX5_lay 39 = .ok (.invokevirtual 125, 3) := by decide +kernel
theorem dX5_lay_42 : decode cX5_lay 42 = .ok (.ireturn, 1) := by decide +kernel
theorem dX5_lay_43 : decode cX5_lay 43 = .ok (.aload_n 0, 1) := by decide +kernel
theorem dX5_lay_44 : decode cX5_lay 44 = .ok (.getfield 17, 3) := by decide +kernel
theorem dX5_lay_47 : decode cX5_lay 47 = .ok (.iload_n 1, 1) := by decide +kernel
theorem dX5_lay_48 : decode cX5_lay 48 = .ok (.aaload, 1) := by decide +kernel
theorem dX5_lay_49 : decode cX5_lay 49 = .ok (.iload_n 3, 1) := by decide +kernel
theorem dX5_lay_50 : decode cX5_lay 50 = .ok (.iload 4, 2) := by decide +kernel
theorem dX5_lay_52 : decode cX5_lay 52 = .ok (.invokevirtual 207, 3) := by decide +kernel
theorem dX5_lay_55 : decode cX5_lay 55 = .ok (.iconst 1, 1) := by decide +kernel
theorem dX5_lay_56 : decode cX5_lay 56 = .ok (.ireturn, 1) := by decide +kernel
set_option maxRecDepth 20000 in
theorem ggX5_get_X5_isSheet : GoodIn wsX5_get wsX5_isSheet := goodIn_r _ [7, 8, 9, 6, 10] (by decide +kernel) (by decide +kernel)
set_option maxRecDepth 20000 in
theorem gX5_get_X5_isSheet : GoodIn wsX5_get (va_wsS RX5 118 yX5_isSheet wsX5_isSheet) := goodIn_app (goodIn_of _ (by decide +kernel)) ggX5_get_X5_isSheet
set_option maxRecDepth 20000 in
theorem ggX5_get_X5_within : GoodIn wsX5_get wsX5_within := goodIn_r _ [10] (by decide +kernel) (by decide +kernel)
set_option maxRecDepth 20000 in
theorem gX5_get_X5_within : GoodIn wsX5_get (va_wsS RX5 66 yX5_within wsX5_within) := goodIn_app (goodIn_of _ (by decide +kernel)) ggX5_get_X5_within
set_option maxRecDepth 20000 in
theorem ggX5_get_X5_findingAt : GoodIn wsX5_get wsX5_findingAt := goodIn_r _ [13, 8, 9, 6, 10, 30, 31, 32, 33] (by decide +kernel) (by decide +kernel)
set_option maxRecDepth 20000 in
theorem gX5_get_X5_findingAt : GoodIn wsX5_get (va_wsS RX5 203 yX5_findingAt wsX5_findingAt) := goodIn_app (goodIn_of _ (by decide +kernel)) ggX5_get_X5_findingAt
set_option maxRecDepth 20000 in
theorem ggX5_get_X3_item : GoodIn wsX5_get wsX3_item := goodIn_r _ [18, 19, 20, 9, 6, 10, 30, 31, 32, 33] (by decide +kernel) (by decide +kernel)
set_option maxRecDepth 20000 in
theorem gX5_get_X3_item : GoodIn wsX5_get (wsV RX5 135 RX3 yX3_item wsX3_item) := goodIn_app (goodIn_of _ (by decide +kernel)) ggX5_get_X3_item
theorem dX5_get_0 : decode cX5_get 0 = .ok (.iload_n 1, 1) := by decide +kernel
theorem dX5_get_1 : decode cX5_get 1 = .ok (.invokestatic 118, 3) := by decide +kernel
theorem dX5_get_4 : decode cX5_get 4 = .ok (.ifCond .eq 11, 3) := by decide +kernel
theorem dX5_get_7 : decode cX5_get 7 = .ok (.iload_n 2, 1) := by decide +kernel
theorem dX5_get_8 : decode cX5_get 8 = .ok (.iconst 3, 1) := by decide +kernel
theorem dX5_get_9 : decode cX5_get 9 = .ok (.invokestatic 66, 3) := by decide +kernel
theorem dX5_get_12 : decode cX5_get 12 = .ok (.ifCond .ne 6, 3) := by decide +kernel
theorem dX5_get_15 : decode cX5_get 15 = .ok (.ldc 210, 2) := by decide +kernel
theorem dX5_get_17 : decode cX5_get 17 = .ok (.ireturn, 1) := by decide +kernel
theorem dX5_get_18 : decode cX5_get 18 = .ok (.aload_n 0, 1) := by decide +kernel
theorem dX5_get_19 : decode cX5_get 19 = .ok (.getfield 17, 3) := by decide +kernel
theorem dX5_get_22 : decode cX5_get 22 = .ok (.iload_n 1, 1) := by decide +kernel
theorem dX5_get_23 : decode cX5_get 23 = .ok (.aaload, 1) := by decide +kernel
theorem dX5_get_24 : decode cX5_get 24 = .ok (.iload_n 2, 1) := by decide +kernel
theorem dX5_get_25 : decode cX5_get 25 = .ok (.iload_n 3, 1) := by decide +kernel
theorem dX5_get_26 : decode cX5_get 26 = .ok (.invokestatic 203, 3) := by decide +kernel
theorem dX5_get_29 : decode cX5_get 29 = .ok (.istore 4, 2) := by decide +kernel
theorem dX5_get_31 : decode cX5_get 31 = .ok (.iload 4, 2) := by decide +kernel
theorem dX5_get_33 : decode cX5_get 33 = .ok (.ifCond .eq 12, 3) := by decide +kernel
theorem dX5_get_36 : decode cX5_get 36 = .ok (.aload_n 0, 1) := by decide +kernel
theorem dX5_get_37 : decode cX5_get 37 = .ok (.iload 4, 2) := by decide +kernel
theorem dX5_get_39 : decode cX5_get 39 = .ok (.putfield 53, 3) := by decide +kernel
theorem dX5_get_42 : decode cX5_get 42 = .ok (.ldc 210, 2) := by decide +kernel
theorem dX5_get_44 : decode cX5_get 44 = .ok (.ireturn, 1) := by decide +kernel
theorem dX5_get_45 : decode cX5_get 45 = .ok (.aload_n 0, 1) := by decide +kernel
theorem dX5_get_46 : decode cX5_get 46 = .ok (.getfield 17, 3) := by decide +kernel
theorem dX5_get_49 : decode cX5_get 49 = .ok (.iload_n 1, 1) := by decide +kernel
theorem dX5_get_50 : decode cX5_get 50 = .ok (.aaload, 1) := by decide +kernel
theorem dX5_get_51 : decode cX5_get 51 = .ok (.iload_n 3, 1) := by decide +kernel
theorem dX5_get_52 : decode cX5_get 52 = .ok (.invokevirtual 135, 3) := by decide +kernel
theorem dX5_get_55 : decode cX5_get 55 = .ok (.ireturn, 1) := by decide +kernel
set_option maxRecDepth 20000 in
theorem ggX5_findingAt_X5_within : GoodIn wsX5_findingAt wsX5_within := goodIn_r _ [4] (by decide +kernel) (by decide +kernel)
set_option maxRecDepth 20000 in
theorem gX5_findingAt_X5_within : GoodIn wsX5_findingAt (va_wsS RX5 66 yX5_within wsX5_within) := goodIn_app (goodIn_of _ (by decide +kernel)) ggX5_findingAt_X5_within
theorem dX5_findingAt_0 : decode cX5_findingAt 0 = .ok (.aload_n 0, 1) := by decide +kernel
theorem dX5_findingAt_1 : decode cX5_findingAt 1 = .ok (.getfield 121, 3) := by decide +kernel
theorem dX5_findingAt_4 : decode cX5_findingAt 4 = .ok (.ifCond .eq 5, 3) := by decide +kernel
theorem dX5_findingAt_7 : decode cX5_findingAt 7 = .ok (.iconst 1, 1) := by decide +kernel
theorem dX5_findingAt_8 : decode cX5_findingAt 8 = .ok (.ireturn, 1) := by decide +kernel
theorem dX5_findingAt_9 : decode cX5_findingAt 9 = .ok (.aload_n 0, 1) := by decide +kernel
theorem dX5_findingAt_10 : decode cX5_findingAt 10 = .ok (.getfield 211, 3) := by decide +kernel
theorem dX5_findingAt_13 : decode cX5_findingAt 13 = .ok (.iload_n 1, 1) := by decide +kernel
theorem dX5_findingAt_14 : decode cX5_findingAt 14 = .ok (.if_icmp .eq 5, 3) := by decide +kernel
theorem dX5_findingAt_17 : decode cX5_findingAt 17 = .ok (.iconst 3, 1) := by decide +kernel
theorem dX5_findingAt_18 : decode cX5_findingAt 18 = .ok (.ireturn, 1) := by decide +kernel
theorem dX5_findingAt_19 : decode cX5_findingAt 19 = .ok (.iload_n 2, 1) := by decide +kernel
theorem dX5_findingAt_20 : decode cX5_findingAt 20 = .ok (.aload_n 0, 1) := by decide +kernel
theorem dX5_findingAt_21 : decode cX5_findingAt 21 = .ok (.getfield 132, 3) := by decide +kernel
theorem dX5_findingAt_24 : decode cX5_findingAt 24 = .ok (.invokestatic 66, 3) := by decide +kernel
theorem dX5_findingAt_27 : decode cX5_findingAt 27 = .ok (.ifCond .eq 7, 3) := by decide +kernel
theorem dX5_findingAt_30 : decode cX5_findingAt 30 = .ok (.iconst 0, 1) := by decide +kernel
theorem dX5_findingAt_31 : decode cX5_findingAt 31 = .ok (.goto 4, 3) := by decide +kernel
theorem dX5_findingAt_34 : decode cX5_findingAt 34 = .ok (.iconst 2, 1) := by decide +kernel
theorem dX5_findingAt_35 : decode cX5_findingAt 35 = .ok (.ireturn, 1) := by decide +kernel
set_option maxRecDepth 20000 in
theorem ggX5_copy_X5_isSheet : GoodIn wsX5_copy wsX5_isSheet := goodIn_r _ [9, 10, 11, 8, 12] (by decide +kernel) (by decide +kernel)
set_option maxRecDepth 20000 in
theorem gX5_copy_X5_isSheet : GoodIn wsX5_copy (va_wsS RX5 118 yX5_isSheet wsX5_isSheet) := goodIn_app (goodIn_of _ (by decide +kernel)) ggX5_copy_X5_isSheet
set_option maxRecDepth 20000 in
theorem ggX5_copy_X5_found : GoodIn wsX5_copy wsX5_found := goodIn_r _ [16, 17, 24, 25, 26, 27, 28, 29, 30, 31, 32] (by decide +kernel) (by decide +kernel)
set_option maxRecDepth 20000 in
theorem gX5_copy_X5_found : GoodIn wsX5_copy (wsV RX5 125 RX5 yX5_found wsX5_found) := goodIn_app (goodIn_of _ (by decide +kernel)) ggX5_copy_X5_found
set_option maxRecDepth 20000 in
theorem ggX5_copy_X3_hasItems : GoodIn wsX5_copy wsX3_hasItems := goodIn_r _ [22, 23, 33, 34, 35, 36] (by decide +kernel) (by decide +kernel)
set_option maxRecDepth 20000 in
theorem gX5_copy_X3_hasItems : GoodIn wsX5_copy (wsV RX5 214 RX3 yX3_hasItems wsX3_hasItems) := goodIn_app (goodIn_of _ (by decide +kernel)) ggX5_copy_X3_hasItems
theorem dX5_copy_0 : decode cX5_copy 0 = .ok (.iload_n 1, 1) := by decide +kernel
theorem dX5_copy_1 : decode cX5_copy 1 = .ok (.invokestatic 118, 3) := by decide +kernel
theorem dX5_copy_4 : decode cX5_copy 4 = .ok (.ifCond .eq 10, 3) := by decide +kernel
theorem dX5_copy_7 : decode cX5_copy 7 = .ok (.iload_n 3, 1) := by decide +kernel
theorem dX5_copy_8 : decode cX5_copy 8 = .ok (.invokestatic 118, 3) := by decide +kernel
theorem dX5_copy_11 : decode cX5_copy 11 = .ok (.ifCond .ne 6, 3) := by decide +kernel
theorem dX5_copy_14 : decode cX5_copy 14 = .ok (.bipush (-2), 2) := by decide +kernel
theorem dX5_copy_16 : decode cX5_copy 16 = .ok (.ireturn, 1) := by decide +kernel
theorem dX5_copy_17 : decode cX5_copy 17 = .ok (.aload_n 0, 1) := by decide +kernel
theorem dX5_copy_18 : decode cX5_copy 18 = .ok (.getfield 17, 3) := by decide +kernel
theorem dX5_copy_21 : decode cX5_copy 21 = .ok (.iload_n 1, 1) := by decide +kernel
theorem dX5_copy_22 : decode cX5_copy 22 = .ok (.aaload, 1) := by decide +kernel
theorem dX5_copy_23 : decode cX5_copy 23 = .ok (.getfield 121, 3) := by decide +kernel
theorem dX5_copy_26 : decode cX5_copy 26 = .ok (.ifCond .ne 15, 3) := by decide +kernel
theorem dX5_copy_29 : decode cX5_copy 29 = .ok (.aload_n 0, 1) := by decide +kernel
theorem dX5_copy_30 : decode cX5_copy 30 = .ok (.getfield 17, 3) := by decide +kernel
theorem dX5_copy_33 : decode cX5_copy 33 = .ok (.iload_n 3, 1) := by decide +kernel
theorem dX5_copy_34 : decode cX5_copy 34 = .ok (.aaload, 1) := by decide +kernel
theorem dX5_copy_35 : decode cX5_copy 35 = .ok (.getfield 121, 3) := by decide +kernel
theorem dX5_copy_38 : decode cX5_copy 38 = .ok (.ifCond .eq 9, 3) := by decide +kernel
theorem dX5_copy_41 : decode cX5_copy 41 = .ok (.aload_n 0, 1) := by decide +kernel
theorem dX5_copy_42 : decode cX5_copy 42 = .ok (.iconst 1, 1) := by decide +kernel
theorem dX5_copy_43 : decode cX5_copy 43 = .ok (.invokevirtual 125, 3) := by decide +kernel
theorem dX5_copy_46 : decode cX5_copy 46 = .ok (.ireturn, 1) := by decide +kernel
theorem dX5_copy_47 : decode cX5_copy 47 = .ok (.aload_n 0, 1) := by decide +kernel
theorem dX5_copy_48 : decode cX5_copy 48 = .ok (.getfield 17, 3) := by decide +kernel
theorem dX5_copy_51 : decode cX5_copy 51 = .ok (.iload_n 1, 1) := by decide +kernel
theorem dX5_copy_52 : decode cX5_copy 52 = .ok (.aaload, 1) := by decide +kernel
theorem dX5_copy_53 : decode cX5_copy 53 = .ok (.getfield 211, 3) := by decide +kernel
theorem dX5_copy_56 : decode cX5_copy 56 = .ok (.aload_n 0, 1) := by decide +kernel
theorem dX5_copy_57 : decode cX5_copy 57 = .ok (.getfield 17, 3) := by decide +kernel
theorem dX5_copy_60 : decode cX5_copy 60 = .ok (.iload_n 3, 1) := by decide +kernel
theorem dX5_copy_61 : decode cX5_copy 61 = .ok (.aaload, 1) := by decide +kernel
theorem dX5_copy_62 : decode cX5_copy 62 = .ok (.getfield 211, 3) := by decide +kernel
theorem dX5_copy_65 : decode cX5_copy 65 = .ok (.if_icmp .eq 9, 3) := by decide +kernel
theorem dX5_copy_68 : decode cX5_copy 68 = .ok (.aload_n 0, 1) := by decide +kernel
theorem dX5_copy_69 : decode cX5_copy 69 = .ok (.iconst 4, 1) := by decide +kernel
theorem dX5_copy_70 : decode cX5_copy 70 = .ok (.invokevirtual 125, 3) := by decide +kernel
theorem dX5_copy_73 : decode cX5_copy 73 = .ok (.ireturn, 1) := by decide +kernel
theorem dX5_copy_74 : decode cX5_copy 74 = .ok (.aload_n 0, 1) := by decide +kernel
theorem dX5_copy_75 : decode cX5_copy 75 = .ok (.getfield 17, 3) := by decide +kernel
theorem dX5_copy_78 : decode cX5_copy 78 = .ok (.iload_n 1, 1) := by decide +kernel
theorem dX5_copy_79 : decode cX5_copy 79 = .ok (.aaload, 1) := by decide +kernel
theorem dX5_copy_80 : decode cX5_copy 80 = .ok (.iload_n 2, 1) := by decide +kernel
theorem dX5_copy_81 : decode cX5_copy 81 = .ok (.iload 5, 2) := by decide +kernel
theorem dX5_copy_83 : decode cX5_copy 83 = .ok (.invokevirtual 214, 3) := by decide +kernel
theorem dX5_copy_86 : decode cX5_copy 86 = .ok (.ifCond .eq 19, 3) := by decide +kernel
theorem dX5_copy_89 : decode cX5_copy 89 = .ok (.aload_n 0, 1) := by decide +kernel
theorem dX5_copy_90 : decode cX5_copy 90 = .ok (.getfield 17, 3) := by decide +kernel
theorem dX5_copy_93 : decode cX5_copy 93 = .ok (.iload_n 3, 1) := by decide +kernel
theorem dX5_copy_94 : decode cX5_copy 94 = .ok (.aaload, 1) := by decide +kernel
theorem dX5_copy_95 : decode cX5_copy 95 = .ok (.iload 4, 2) := by decide +kernel
theorem dX5_copy_97 : decode cX5_copy 97 = .ok (.iload 5, 2) := by decide +kernel
theorem dX5_copy_99 : decode cX5_copy 99 = .ok (.invokevirtual 214, 3) := by decide +kernel
theorem dX5_copy_102 : decode cX5_copy 102 = .ok (.ifCond .ne 9, 3) := by decide +kernel
theorem dX5_copy_105 : decode cX5_copy 105 = .ok (.aload_n 0, 1) := by decide +kernel
theorem dX5_copy_106 : decode cX5_copy 106 = .ok (.iconst 2, 1) := by decide +kernel
theorem dX5_copy_107 : decode cX5_copy 107 = .ok (.invokevirtual 125, 3) := by decide +kernel
theorem dX5_copy_110 : decode cX5_copy 110 = .ok (.ireturn, 1) := by decide +kernel
theorem dX5_copy_111 : decode cX5_copy 111 = .ok (.aload_n 0, 1) := by decide +kernel
theorem dX5_copy_112 : decode cX5_copy 112 = .ok (.getfield 17, 3) := by decide +kernel
theorem dX5_copy_115 : decode cX5_copy 115 = .ok (.iload_n 1, 1) := by decide +kernel
theorem dX5_copy_116 : decode cX5_copy 116 = .ok (.aaload, 1) := by decide +kernel
theorem dX5_copy_117 : decode cX5_copy 117 = .ok (.getfield 217, 3) := by decide +kernel
theorem dX5_copy_120 : decode cX5_copy 120 = .ok (.iload_n 2, 1) := by decide +kernel
theorem dX5_copy_121 : decode cX5_copy 121 = .ok (.aload_n 0, 1) := by decide +kernel
theorem dX5_copy_122 : decode cX5_copy 122 = .ok (.getfield 17, 3) := by decide +kernel
theorem dX5_copy_125 : decode cX5_copy 125 = .ok (.iload_n 3, 1) := by decide +kernel
theorem dX5_copy_126 : decode cX5_copy 126 = .ok (.aaload, 1) := by decide +kernel
theorem dX5_copy_127 : decode cX5_copy 127 = .ok (.getfield 217, 3) := by decide +kernel
theorem dX5_copy_130 : decode cX5_copy 130 = .ok (.iload 4, 2) := by decide +kernel
theorem dX5_copy_132 : decode cX5_copy 132 = .ok (.iload 5, 2) := by decide +kernel
theorem dX5_copy_134 : decode cX5_copy 134 = .ok (.invokestatic 221, 3) := by decide +kernel
theorem dX5_copy_137 : decode cX5_copy 137 = .ok (.iconst 1, 1) := by decide +kernel
theorem dX5_copy_138 : decode cX5_copy 138 = .ok (.ireturn, 1) := by decide +kernel
set_option maxRecDepth 20000 in
theorem ggX5_write_X5_isMask : GoodIn wsX5_write wsX5_isMask := goodIn_r _ [14, 15, 16, 13, 17] (by decide +kernel) (by decide +kernel)
set_option maxRecDepth 20000 in
theorem gX5_write_X5_isMask : GoodIn wsX5_write (va_wsS RX5 58 yX5_isMask wsX5_isMask) := goodIn_app (goodIn_of _ (by decide +kernel)) ggX5_write_X5_isMask
set_option maxRecDepth 20000 in
theorem ggX5_write_X5_within : GoodIn wsX5_write wsX5_within := goodIn_r _ [17] (by decide +kernel) (by decide +kernel)
set_option maxRecDepth 20000 in
theorem gX5_write_X5_within : GoodIn wsX5_write (va_wsS RX5 66 yX5_within wsX5_within) := goodIn_app (goodIn_of _ (by decide +kernel)) ggX5_write_X5_within
set_option maxRecDepth 20000 in
theorem ggX5_write_X5_isSheet : GoodIn wsX5_write wsX5_isSheet := goodIn_r _ [20, 15, 16, 13, 17] (by decide +kernel) (by decide +kernel)
set_option maxRecDepth 20000 in
theorem gX5_write_X5_isSheet : GoodIn wsX5_write (va_wsS RX5 118 yX5_isSheet wsX5_isSheet) := goodIn_app (goodIn_of _ (by decide +kernel)) ggX5_write_X5_isSheet
set_option maxRecDepth 20000 in
theorem ggX5_write_X5_found : GoodIn wsX5_write wsX5_found := goodIn_r _ [24, 25, 79, 80, 81, 82, 83, 84, 85, 86, 87] (by decide +kernel) (by decide +kernel)
set_option maxRecDepth 20000 in
theorem gX5_write_X5_found : GoodIn wsX5_write (wsV RX5 125 RX5 yX5_found wsX5_found) := goodIn_app (goodIn_of _ (by decide +kernel)) ggX5_write_X5_found
set_option maxRecDepth 20000 in
theorem ggX5_write_X4_look : GoodIn wsX5_write wsX4_look := goodIn_r _ [30, 31, 32, 33, 34, 35, 36, 37, 38, 39, 40, 41, 42, 43, 44, 45, 46, 47, 29, 48, 49, 9, 6, 10, 50, 51, 52, 53, 54, 55, 56, 57, 58, 59, 60, 61, 62, 16, 13, 17, 92, 93, 94, 95, 96, 97, 98] (by decide +kernel) (by decide +kernel)
set_option maxRecDepth 20000 in
theorem gX5_write_X4_look : GoodIn wsX5_write (wsV RX5 159 RX4 yX4_look wsX4_look) := goodIn_app (goodIn_of _ (by decide +kernel)) ggX5_write_X4_look
set_option maxRecDepth 20000 in
theorem ggX5_write_X4_sign : GoodIn wsX5_write wsX4_sign := goodIn_r _ [66, 32, 62, 16, 13, 17, 92, 93, 94, 95, 96, 97] (by decide +kernel) (by decide +kernel)
set_option maxRecDepth 20000 in
theorem gX5_write_X4_sign : GoodIn wsX5_write (wsV RX5 172 RX4 yX4_sign wsX4_sign) := goodIn_app (goodIn_of _ (by decide +kernel)) ggX5_write_X4_sign
set_option maxRecDepth 20000 in
theorem ggX5_write_X3_setItem : GoodIn wsX5_write wsX3_setItem := goodIn_r _ [71, 72, 73, 16, 13, 17, 74, 75, 76, 70, 77, 78, 88, 89, 90, 91] (by decide +kernel) (by decide +kernel)
set_option maxRecDepth 20000 in
theorem gX5_write_X3_setItem : GoodIn wsX5_write (wsV RX5 207 RX3 yX3_setItem wsX3_setItem) := goodIn_app (goodIn_of _ (by decide +kernel)) ggX5_write_X3_setItem
theorem dX5_write_0 : decode cX5_write 0 = .ok (.iload_n 1, 1) := by decide +kernel
theorem dX5_write_1 : decode cX5_write 1 = .ok (.invokestatic 58, 3) := by decide +kernel
theorem dX5_write_4 : decode cX5_write 4 = .ok (.ifCond .eq 20, 3) := by decide +kernel
theorem dX5_write_7 : decode cX5_write 7 = .ok (.iload_n 2, 1) := by decide +kernel
theorem dX5_write_8 : decode cX5_write 8 = .ok (.sipush 341, 3) := by decide +kernel
theorem dX5_write_11 : decode cX5_write 11 = .ok (.invokestatic 66, 3) := by decide +kernel
theorem dX5_write_14 : decode cX5_write 14 = .ok (.ifCond .eq 10, 3) := by decide +kernel
theorem dX5_write_17 : decode cX5_write 17 = .ok (.iload_n 3, 1) := by decide +kernel
theorem dX5_write_18 : decode cX5_write 18 = .ok (.invokestatic 118, 3) := by decide +kernel
theorem dX5_write_21 : decode cX5_write 21 = .ok (.ifCond .ne 6, 3) := by decide +kernel
theorem dX5_write_24 : decode cX5_write 24 = .ok (.bipush (-2), 2) := by decide +kernel
theorem dX5_write_26 : decode cX5_write 26 = .ok (.ireturn, 1) := by decide +kernel
theorem dX5_write_27 : decode cX5_write 27 = .ok (.aload_n 0, 1) := by decide +kernel
theorem dX5_write_28 : decode cX5_write 28 = .ok (.getfield 17, 3) := by decide +kernel
theorem dX5_write_31 : decode cX5_write 31 = .ok (.iload_n 3, 1) := by decide +kernel
theorem dX5_write_32 : decode cX5_write 32 = .ok (.aaload, 1) := by decide +kernel
theorem dX5_write_33 : decode cX5_write 33 = .ok (.getfield 121, 3) := by decide +kernel
theorem dX5_write_36 : decode cX5_write 36 = .ok (.ifCond .eq 9, 3) := by decide +kernel
theorem dX5_write_39 : decode cX5_write 39 = .ok (.aload_n 0, 1) := by decide +kernel
theorem dX5_write_40 : decode cX5_write 40 = .ok (.iconst 1, 1) := by decide +kernel
theorem dX5_write_41 : decode cX5_write 41 = .ok (.invokevirtual 125, 3) := by decide +kernel
theorem dX5_write_44 : decode cX5_write 44 = .ok (.ireturn, 1) := by decide +kernel
theorem dX5_write_45 : decode cX5_write 45 = .ok (.aload_n 0, 1) := by decide +kernel
theorem dX5_write_46 : decode cX5_write 46 = .ok (.getfield 49, 3) := by decide +kernel
theorem dX5_write_49 : decode cX5_write 49 = .ok (.aload_n 0, 1) := by decide +kernel
theorem dX5_write_50 : decode cX5_write 50 = .ok (.getfield 11, 3) := by decide +kernel
theorem dX5_write_53 : decode cX5_write 53 = .ok (.iload_n 1, 1) := by decide +kernel
theorem dX5_write_54 : decode cX5_write 54 = .ok (.aaload, 1) := by decide +kernel
theorem dX5_write_55 : decode cX5_write 55 = .ok (.invokevirtual 159, 3) := by decide +kernel
theorem dX5_write_58 : decode cX5_write 58 = .ok (.iconst 0, 1) := by decide +kernel
theorem dX5_write_59 : decode cX5_write 59 = .ok (.aload_n 0, 1) := by decide +kernel
theorem dX5_write_60 : decode cX5_write 60 = .ok (.getfield 17, 3) := by decide +kernel
theorem dX5_write_63 : decode cX5_write 63 = .ok (.iload_n 3, 1) := by decide +kernel
theorem dX5_write_64 : decode cX5_write 64 = .ok (.aaload, 1) := by decide +kernel
theorem dX5_write_65 : decode cX5_write 65 = .ok (.getfield 132, 3) := by decide +kernel
theorem dX5_write_68 : decode cX5_write 68 = .ok (.aload_n 0, 1) := by decide +kernel
theorem dX5_write_69 : decode cX5_write 69 = .ok (.getfield 49, 3) := by decide +kernel
theorem dX5_write_72 : decode cX5_write 72 = .ok (.getfield 160, 3) := by decide +kernel
theorem dX5_write_75 : decode cX5_write 75 = .ok (.iload_n 2, 1) := by decide +kernel
theorem dX5_write_76 : decode cX5_write 76 = .ok (.isub, 1) := by decide +kernel
theorem dX5_write_77 : decode cX5_write 77 = .ok (.invokestatic 227, 3) := by decide +kernel
theorem dX5_write_80 : decode cX5_write 80 = .ok (.invokestatic 232, 3) := by decide +kernel
theorem dX5_write_83 : decode cX5_write 83 = .ok (.istore 4, 2) := by decide +kernel
theorem dX5_write_85 : decode cX5_write 85 = .ok (.iconst 0, 1) := by decide +kernel
theorem dX5_write_86 : decode cX5_write 86 = .ok (.istore 5, 2) := by decide +kernel
theorem dX5_write_88 : decode cX5_write 88 = .ok (.iload 5, 2) := by decide +kernel
theorem dX5_write_90 : decode cX5_write 90 = .ok (.iload 4, 2) := by decide +kernel
theorem dX5_write_92 : decode cX5_write 92 = .ok (.if_icmp .ge 31, 3) := by decide +kernel
theorem dX5_write_95 : decode cX5_write 95 = .ok (.aload_n 0, 1) := by decide +kernel
theorem dX5_write_96 : decode cX5_write 96 = .ok (.getfield 17, 3) := by decide +kernel
theorem dX5_write_99 : decode cX5_write 99 = .ok (.iload_n 3, 1) := by decide +kernel
theorem dX5_write_100 : decode cX5_write 100 = .ok (.aaload, 1) := by decide +kernel
theorem dX5_write_101 : decode cX5_write 101 = .ok (.iload 5, 2) := by decide +kernel
theorem dX5_write_103 : decode cX5_write 103 = .ok (.aload_n 0, 1) := by decide +kernel
theorem dX5_write_104 : decode cX5_write 104 = .ok (.getfield 49, 3) := by decide +kernel
theorem dX5_write_107 : decode cX5_write 107 = .ok (.iload_n 2, 1) := by decide +kernel
theorem dX5_write_108 : decode cX5_write 108 = .ok (.iload 5, 2) := by decide +kernel
theorem dX5_write_110 : decode cX5_write 110 = .ok (.iadd, 1) := by decide +kernel
theorem dX5_write_111 : decode cX5_write 111 = .ok (.invokevirtual 172, 3) := by decide +kernel
theorem dX5_write_114 : decode cX5_write 114 = .ok (.invokevirtual 207, 3) := by decide +kernel
theorem dX5_write_117 : decode cX5_write 117 = .ok (.iinc 5 1, 3) := by decide +kernel
theorem dX5_write_120 : decode cX5_write 120 = .ok (.goto (-32), 3) := by decide +kernel
theorem dX5_write_123 : decode cX5_write 123 = .ok (.iload 4, 2) := by decide +kernel
theorem dX5_write_125 : decode cX5_write 125 = .ok (.ireturn, 1) := by decide +kernel
set_option maxRecDepth 20000 in
theorem ggX5_count_X1_darkCells : GoodIn wsX5_count wsX1_darkCells := goodIn_r _ [8, 9, 10, 11, 12, 13, 14, 15, 16, 131] (by decide +kernel) (by decide +kernel)
set_option maxRecDepth 20000 in
theorem gX5_count_X1_darkCells : GoodIn wsX5_count (wsV RX5 149 RX1 yX1_darkCells wsX1_darkCells) := goodIn_app (goodIn_of _ (by decide +kernel)) ggX5_count_X1_darkCells
set_option maxRecDepth 20000 in
theorem ggX5_count_X5_blocksOfAll : GoodIn wsX5_count wsX5_blocksOfAll := goodIn_r _ [21, 22, 1, 23, 24, 25, 26, 27, 28, 29, 30, 31, 32, 33, 34, 35, 7, 36, 9, 37, 38, 39, 40, 41, 42, 43, 44, 45, 46, 47, 48, 49, 50, 51, 52, 53, 54, 55, 56, 57, 58, 59, 60, 61, 20, 62, 118, 119, 120, 121, 122, 123, 124, 125, 126, 132, 133, 134, 135, 136, 137, 131] (by decide +kernel) (by decide +kernel)
set_option maxRecDepth 20000 in
theorem gX5_count_X5_blocksOfAll : GoodIn wsX5_count (wsV RX5 235 RX5 yX5_blocksOfAll wsX5_blocksOfAll) := goodIn_app (goodIn_of _ (by decide +kernel)) ggX5_count_X5_blocksOfAll
set_option maxRecDepth 20000 in
theorem ggX5_count_X5_partsOfAll : GoodIn wsX5_count wsX5_partsOfAll := goodIn_r _ [66, 67, 1, 68, 69, 70, 71, 72, 73, 74, 75, 76, 34, 35, 7, 36, 9, 77, 38, 39, 40, 78, 79, 80, 81, 82, 83, 84, 85, 86, 87, 88, 89, 90, 91, 92, 93, 94, 95, 96, 97, 98, 99, 100, 101, 102, 103, 104, 105, 106, 107, 108, 109, 46, 110, 111, 45, 47, 118, 119, 120, 121, 122, 123, 124, 125, 126, 138, 139, 140, 141, 142, 131] (by decide +kernel) (by decide +kernel)
set_option maxRecDepth 20000 in
theorem gX5_count_X5_partsOfAll : GoodIn wsX5_count (wsV RX5 238 RX5 yX5_partsOfAll wsX5_partsOfAll) := goodIn_app (goodIn_of _ (by decide +kernel)) ggX5_count_X5_partsOfAll
set_option maxRecDepth 20000 in
theorem ggX5_count_X5_cellsDarkInAll : GoodIn wsX5_count wsX5_cellsDarkInAll := goodIn_r _ [115, 1, 116, 53, 54, 7, 55, 9, 117, 11, 12, 13, 14, 15, 16, 118, 119, 120, 121, 122, 123, 124, 125, 126, 131] (by decide +kernel) (by decide +kernel)
set_option maxRecDepth 20000 in
theorem gX5_count_X5_cellsDarkInAll : GoodIn wsX5_count (wsV RX5 241 RX5 yX5_cellsDarkInAll wsX5_cellsDarkInAll) := goodIn_app (goodIn_of _ (by decide +kernel)) ggX5_count_X5_cellsDarkInAll
theorem dX5_count_0 : decode cX5_count 0 = .ok (.iload_n 1, 1) := by decide +kernel
theorem dX5_count_1 : decode cX5_count 1 = .ok (.tableswitch 89 0 8 #[51, 51, 51, 51, 61, 66, 71, 79, 84], 51) := by decide +kernel
theorem dX5_count_52 : decode cX5_count 52 = .ok (.aload_n 0, 1) := by decide +kernel
theorem dX5_count_53 : decode cX5_count 53 = .ok (.getfield 11, 3) := by decide +kernel
theorem dX5_count_56 : decode cX5_count 56 = .ok (.iload_n 1, 1) := by decide +kernel
theorem dX5_count_57 : decode cX5_count 57 = .ok (.aaload, 1) := by decide +kernel
theorem dX5_count_58 : decode cX5_count 58 = .ok (.invokevirtual 149, 3) := by decide +kernel
theorem dX5_count_61 : decode cX5_count 61 = .ok (.ireturn, 1) := by decide +kernel
theorem dX5_count_62 : decode cX5_count 62 = .ok (.aload_n 0, 1) := by decide +kernel
theorem dX5_count_63 : decode cX5_count 63 = .ok (.invokevirtual 235, 3) := by decide +kernel
theorem dX5_count_66 : decode cX5_count 66 = .ok (.ireturn, 1) := by decide +kernel
theorem dX5_count_67 : decode cX5_count 67 = .ok (.aload_n 0, 1) := by decide +kernel
theorem dX5_count_68 : decode cX5_count 68 = .ok (.invokevirtual 238, 3) := by decide +kernel
theorem dX5_count_71 : decode cX5_count 71 = .ok (.ireturn, 1) := by decide +kernel
theorem dX5_count_72 : decode cX5_count 72 = .ok (.aload_n 0, 1) := by decide +kernel
theorem dX5_count_73 : decode cX5_count 73 = .ok (.getfield 24, 3) := by decide +kernel
theorem dX5_count_76 : decode cX5_count 76 = .ok (.getfield 138, 3) := by decide +kernel
theorem dX5_count_79 : decode cX5_count 79 = .ok (.ireturn, 1) := by decide +kernel
theorem dX5_count_80 : decode cX5_count 80 = .ok (.aload_n 0, 1) := by decide +kernel
theorem dX5_count_81 : decode cX5_count 81 = .ok (.invokevirtual 241, 3) := by decide +kernel
theorem dX5_count_84 : decode cX5_count 84 = .ok (.ireturn, 1) := by decide +kernel
theorem dX5_count_85 : decode cX5_count 85 = .ok (.aload_n 0, 1) := by decide +kernel
theorem dX5_count_86 : decode cX5_count 86 = .ok (.getfield 53, 3) := by decide +kernel
theorem dX5_count_89 : decode cX5_count 89 = .ok (.ireturn, 1) := by decide +kernel
theorem dX5_count_90 : decode cX5_count 90 = .ok (.bipush (-2), 2) := by decide +kernel
theorem dX5_count_92 : decode cX5_count 92 = .ok (.ireturn, 1) := by decide +kernel
set_option maxRecDepth 20000 in
theorem ggX5_blocksOfAll_X4_look : GoodIn wsX5_blocksOfAll wsX4_look := goodIn_r _ [7, 8, 9, 10, 11, 12, 13, 14, 15, 16, 17, 18, 19, 20, 21, 22, 23, 24, 6, 25, 26, 27, 28, 29, 30, 31, 32, 33, 34, 35, 36, 37, 38, 39, 40, 41, 42, 43, 44, 45, 55, 56, 57, 58, 59, 60, 61] (by decide +kernel) (by decide +kernel)
set_option maxRecDepth 20000 in
theorem gX5_blocksOfAll_X4_look : GoodIn wsX5_blocksOfAll (wsV RX5 159 RX4 yX4_look wsX4_look) := goodIn_app (goodIn_of _ (by decide +kernel)) ggX5_blocksOfAll_X4_look
theorem dX5_blocksOfAll_0 : decode cX5_blocksOfAll 0 = .ok (.iconst 0, 1) := by decide +kernel
theorem dX5_blocksOfAll_1 : decode cX5_blocksOfAll 1 = .ok (.istore_n 1, 1) := by decide +kernel
theorem dX5_blocksOfAll_2 : decode cX5_blocksOfAll 2 = .ok (.iconst 0, 1) := by decide +kernel
theorem dX5_blocksOfAll_3 : decode cX5_blocksOfAll 3 = .ok (.istore_n 2, 1) := by decide +kernel
theorem dX5_blocksOfAll_4 : decode cX5_blocksOfAll 4 = .ok (.iload_n 2, 1) := by decide +kernel
theorem dX5_blocksOfAll_5 : decode cX5_blocksOfAll 5 = .ok (.iconst 4, 1) := by decide +kernel
theorem dX5_blocksOfAll_6 : decode cX5_blocksOfAll 6 = .ok (.if_icmp .ge 40, 3) := by decide +kernel
theorem dX5_blocksOfAll_9 : decode cX5_blocksOfAll 9 = .ok (.aload_n 0, 1) := by decide +kernel
theorem dX5_blocksOfAll_10 : decode cX5_blocksOfAll 10 = .ok (.getfield 49, 3) := by decide +kernel
theorem dX5_blocksOfAll_13 : decode cX5_blocksOfAll 13 = .ok (.aload_n 0, 1) := by decide +kernel
theorem dX5_blocksOfAll_14 : decode cX5_blocksOfAll 14 = .ok (.getfield 11, 3) := by decide +kernel
theorem dX5_blocksOfAll_17 : decode cX5_blocksOfAll 17 = .ok (.iload_n 2, 1) := by decide +kernel
theorem dX5_blocksOfAll_18 : decode cX5_blocksOfAll 18 = .ok (.aaload, 1) := by decide +kernel
theorem dX5_blocksOfAll_19 : decode cX5_blocksOfAll 19 = .ok (.invokevirtual 159, 3) := by decide +kernel
theorem dX5_blocksOfAll_22 : decode cX5_blocksOfAll 22 = .ok (.iload_n 1, 1) := by decide +kernel
theorem dX5_blocksOfAll_23 : decode cX5_blocksOfAll 23 = .ok (.aload_n 0, 1) := by decide +kernel
theorem dX5_blocksOfAll_24 : decode cX5_blocksOfAll 24 = .ok (.getfield 49, 3) := by decide +kernel
theorem dX5_blocksOfAll_27 : decode cX5_blocksOfAll 27 = .ok (.getfield 160, 3) := by decide +kernel
theorem dX5_blocksOfAll_30 : decode cX5_blocksOfAll 30 = .ok (.aload_n 0, 1) := by decide +kernel
theorem dX5_blocksOfAll_31 : decode cX5_blocksOfAll 31 = .ok (.getfield 49, 3) := by decide +kernel
theorem dX5_blocksOfAll_34 : decode cX5_blocksOfAll 34 = .ok (.getfield 163, 3) := by decide +kernel
theorem dX5_blocksOfAll_37 : decode cX5_blocksOfAll 37 = .ok (.isub, 1) := by decide +kernel
theorem dX5_blocksOfAll_38 : decode cX5_blocksOfAll 38 = .ok (.iadd, 1) := by decide +kernel
theorem dX5_blocksOfAll_39 : decode cX5_blocksOfAll 39 = .ok (.istore_n 1, 1) := by decide +kernel
theorem dX5_blocksOfAll_40 : decode cX5_blocksOfAll 40 = .ok (.iinc 2 1, 3) := by decide +kernel
theorem dX5_blocksOfAll_43 : decode cX5_blocksOfAll 43 = .ok (.goto (-39), 3) := by decide +kernel
theorem dX5_blocksOfAll_46 : decode cX5_blocksOfAll 46 = .ok (.iload_n 1, 1) := by decide +kernel
theorem dX5_blocksOfAll_47 : decode cX5_blocksOfAll 47 = .ok (.ireturn, 1) := by decide +kernel
set_option maxRecDepth 20000 in
theorem ggX5_partsOfAll_X2_look : GoodIn wsX5_partsOfAll wsX2_look := goodIn_r _ [7, 8, 9, 10, 11, 12, 13, 14, 15, 16, 17, 18, 19, 20, 21, 22, 23, 24, 25, 26, 27, 28, 29, 30, 31, 6, 32, 33, 34, 35, 36, 37, 38, 39, 40, 41, 42, 43, 44, 45, 46, 47, 48, 49, 50, 51, 52, 53, 54, 55, 56, 57, 67, 68, 69, 70, 71, 72] (by decide +kernel) (by decide +kernel)
set_option maxRecDepth 20000 in
theorem gX5_partsOfAll_X2_look : GoodIn wsX5_partsOfAll (wsV RX5 108 RX2 yX2_look wsX2_look) := goodIn_app (goodIn_of _ (by decide +kernel)) ggX5_partsOfAll_X2_look
theorem dX5_partsOfAll_0 : decode cX5_partsOfAll 0 = .ok (.iconst 0, 1) := by decide +kernel
theorem dX5_partsOfAll_1 : decode cX5_partsOfAll 1 = .ok (.istore_n 1, 1) := by decide +kernel
theorem dX5_partsOfAll_2 : decode cX5_partsOfAll 2 = .ok (.iconst 0, 1) := by decide +kernel
theorem dX5_partsOfAll_3 : decode cX5_partsOfAll 3 = .ok (.istore_n 2, 1) := by decide +kernel
theorem dX5_partsOfAll_4 : decode cX5_partsOfAll 4 = .ok (.iload_n 2, 1) := by decide +kernel
theorem dX5_partsOfAll_5 : decode cX5_partsOfAll 5 = .ok (.iconst 4, 1) := by decide +kernel
theorem dX5_partsOfAll_6 : decode cX5_partsOfAll 6 = .ok (.if_icmp .ge 32, 3) := by decide +kernel
theorem dX5_partsOfAll_9 : decode cX5_partsOfAll 9 = .ok (.aload_n 0, 1) := by decide +kernel
theorem dX5_partsOfAll_10 : decode cX5_partsOfAll 10 = .ok (.getfield 39, 3) := by decide +kernel
theorem dX5_partsOfAll_13 : decode cX5_partsOfAll 13 = .ok (.aload_n 0, 1) := by decide +kernel
theorem dX5_partsOfAll_14 : decode cX5_partsOfAll 14 = .ok (.getfield 11, 3) := by decide +kernel
theorem dX5_partsOfAll_17 : decode cX5_partsOfAll 17 = .ok (.iload_n 2, 1) := by decide +kernel
theorem dX5_partsOfAll_18 : decode cX5_partsOfAll 18 = .ok (.aaload, 1) := by decide +kernel
theorem dX5_partsOfAll_19 : decode cX5_partsOfAll 19 = .ok (.invokevirtual 108, 3) := by decide +kernel
theorem dX5_partsOfAll_22 : decode cX5_partsOfAll 22 = .ok (.iload_n 1, 1) := by decide +kernel
theorem dX5_partsOfAll_23 : decode cX5_partsOfAll 23 = .ok (.aload_n 0, 1) := by decide +kernel
theorem dX5_partsOfAll_24 : decode cX5_partsOfAll 24 = .ok (.getfield 39, 3) := by decide +kernel
theorem dX5_partsOfAll_27 : decode cX5_partsOfAll 27 = .ok (.getfield 175, 3) := by decide +kernel
theorem dX5_partsOfAll_30 : decode cX5_partsOfAll 30 = .ok (.iadd, 1) := by decide +kernel
theorem dX5_partsOfAll_31 : decode cX5_partsOfAll 31 = .ok (.istore_n 1, 1) := by decide +kernel
theorem dX5_partsOfAll_32 : decode cX5_partsOfAll 32 = .ok (.iinc 2 1, 3) := by decide +kernel
theorem dX5_partsOfAll_35 : decode cX5_partsOfAll 35 = .ok (.goto (-31), 3) := by decide +kernel
theorem dX5_partsOfAll_38 : decode cX5_partsOfAll 38 = .ok (.iload_n 1, 1) := by decide +kernel
theorem dX5_partsOfAll_39 : decode cX5_partsOfAll 39 = .ok (.ireturn, 1) := by decide +kernel
set_option maxRecDepth 20000 in
theorem ggX5_cellsDarkInAll_X1_row : GoodIn wsX5_cellsDarkInAll wsX1_row := goodIn_r _ [6, 7, 24] (by decide +kernel) (by decide +kernel)
set_option maxRecDepth 20000 in
theorem gX5_cellsDarkInAll_X1_row : GoodIn wsX5_cellsDarkInAll (wsV RX5 86 RX1 yX1_row wsX1_row) := goodIn_app (goodIn_of _ (by decide +kernel)) ggX5_cellsDarkInAll_X1_row
set_option maxRecDepth 20000 in
theorem ggX5_cellsDarkInAll_J6_bitCount_0f7a4 : GoodIn wsX5_cellsDarkInAll wsJ6_bitCount_0f7a4 := goodIn_r _ [11, 12, 13, 14] (by decide +kernel) (by decide +kernel)
set_option maxRecDepth 20000 in
theorem gX5_cellsDarkInAll_J6_bitCount_0f7a4 : GoodIn wsX5_cellsDarkInAll (va_wsS RX5 244 yJ6_bitCount_0f7a4 wsJ6_bitCount_0f7a4) := goodIn_app (goodIn_of _ (by decide +kernel)) ggX5_cellsDarkInAll_J6_bitCount_0f7a4
theorem dX5_cellsDarkInAll_0 : decode cX5_cellsDarkInAll 0 = .ok (.iconst 0, 1) := by decide +kernel
theorem dX5_cellsDarkInAll_1 : decode cX5_cellsDarkInAll 1 = .ok (.istore_n 1, 1) := by decide +kernel
theorem dX5_cellsDarkInAll_2 : decode cX5_cellsDarkInAll 2 = .ok (.iconst 0, 1) := by decide +kernel
theorem dX5_cellsDarkInAll_3 : decode cX5_cellsDarkInAll 3 = .ok (.istore_n 2, 1) := by decide +kernel
theorem dX5_cellsDarkInAll_4 : decode cX5_cellsDarkInAll 4 = .ok (.iload_n 2, 1) := by decide +kernel
theorem dX5_cellsDarkInAll_5 : decode cX5_cellsDarkInAll 5 = .ok (.bipush 16, 2) := by decide +kernel
theorem dX5_cellsDarkInAll_7 : decode cX5_cellsDarkInAll 7 = .ok (.if_icmp .ge 58, 3) := by decide +kernel
theorem dX5_cellsDarkInAll_10 : decode cX5_cellsDarkInAll 10 = .ok (.iload_n 1, 1) := by decide +kernel
theorem dX5_cellsDarkInAll_11 : decode cX5_cellsDarkInAll 11 = .ok (.aload_n 0, 1) := by decide +kernel
theorem dX5_cellsDarkInAll_12 : decode cX5_cellsDarkInAll 12 = .ok (.getfield 11, 3) := by decide +kernel
theorem dX5_cellsDarkInAll_15 : decode cX5_cellsDarkInAll 15 = .ok (.iconst 0, 1) := by decide +kernel
theorem dX5_cellsDarkInAll_16 : decode cX5_cellsDarkInAll 16 = .ok (.aaload, 1) := by decide +kernel
theorem dX5_cellsDarkInAll_17 : decode cX5_cellsDarkInAll 17 = .ok (.iload_n 2, 1) := by decide +kernel
theorem dX5_cellsDarkInAll_18 : decode cX5_cellsDarkInAll 18 = .ok (.invokevirtual 86, 3) := by decide +kernel
theorem dX5_cellsDarkInAll_21 : decode cX5_cellsDarkInAll 21 = .ok (.aload_n 0, 1) := by decide +kernel
theorem dX5_cellsDarkInAll_22 : decode cX5_cellsDarkInAll 22 = .ok (.getfield 11, 3) := by decide +kernel
theorem dX5_cellsDarkInAll_25 : decode cX5_cellsDarkInAll 25 = .ok (.iconst 1, 1) := by decide +kernel
theorem dX5_cellsDarkInAll_26 : decode cX5_cellsDarkInAll 26 = .ok (.aaload, 1) := by decide +kernel
theorem dX5_cellsDarkInAll_27 : decode cX5_cellsDarkInAll 27 = .ok (.iload_n 2, 1) := by decide +kernel
theorem dX5_cellsDarkInAll_28 : decode cX5_cellsDarkInAll 28 = .ok (.invokevirtual 86, 3) := by decide +kernel
theorem dX5_cellsDarkInAll_31 : decode cX5_cellsDarkInAll 31 = .ok (.iand, 1) := by decide +kernel
theorem dX5_cellsDarkInAll_32 : decode cX5_cellsDarkInAll 32 = .ok (.aload_n 0, 1) := by decide +kernel
theorem dX5_cellsDarkInAll_33 : decode cX5_cellsDarkInAll 33 = .ok (.getfield 11, 3) := by decide +kernel
theorem dX5_cellsDarkInAll_36 : decode cX5_cellsDarkInAll 36 = .ok (.iconst 2, 1) := by decide +kernel
theorem dX5_cellsDarkInAll_37 : decode cX5_cellsDarkInAll 37 = .ok (.aaload, 1) := by decide +kernel
theorem dX5_cellsDarkInAll_38 : decode cX5_cellsDarkInAll 38 = .ok (.iload_n 2, 1) := by decide +kernel
theorem dX5_cellsDarkInAll_39 : decode cX5_cellsDarkInAll 39 = .ok (.invokevirtual 86, 3) := by decide +kernel
theorem dX5_cellsDarkInAll_42 : decode cX5_cellsDarkInAll 42 = .ok (.iand, 1) := by decide +kernel
theorem dX5_cellsDarkInAll_43 : decode cX5_cellsDarkInAll 43 = .ok (.aload_n 0, 1) := by decide +kernel
theorem dX5_cellsDarkInAll_44 : decode cX5_cellsDarkInAll 44 = .ok (.getfield 11, 3) := by decide +kernel
theorem dX5_cellsDarkInAll_47 : decode cX5_cellsDarkInAll 47 = .ok (.iconst 3, 1) := by decide +kernel
theorem dX5_cellsDarkInAll_48 : decode cX5_cellsDarkInAll 48 = .ok (.aaload, 1) := by decide +kernel
theorem dX5_cellsDarkInAll_49 : decode cX5_cellsDarkInAll 49 = .ok (.iload_n 2, 1) := by decide +kernel
theorem dX5_cellsDarkInAll_50 : decode cX5_cellsDarkInAll 50 = .ok (.invokevirtual 86, 3) := by decide +kernel
theorem dX5_cellsDarkInAll_53 : decode cX5_cellsDarkInAll 53 = .ok (.iand, 1) := by decide +kernel
theorem dX5_cellsDarkInAll_54 : decode cX5_cellsDarkInAll 54 = .ok (.invokestatic 244, 3) := by decide +kernel
theorem dX5_cellsDarkInAll_57 : decode cX5_cellsDarkInAll 57 = .ok (.iadd, 1) := by decide +kernel
theorem dX5_cellsDarkInAll_58 : decode cX5_cellsDarkInAll 58 = .ok (.istore_n 1, 1) := by decide +kernel
theorem dX5_cellsDarkInAll_59 : decode cX5_cellsDarkInAll 59 = .ok (.iinc 2 1, 3) := by decide +kernel
theorem dX5_cellsDarkInAll_62 : decode cX5_cellsDarkInAll 62 = .ok (.goto (-58), 3) := by decide +kernel
theorem dX5_cellsDarkInAll_65 : decode cX5_cellsDarkInAll 65 = .ok (.iload_n 1, 1) := by decide +kernel
theorem dX5_cellsDarkInAll_66 : decode cX5_cellsDarkInAll 66 = .ok (.ireturn, 1) := by decide +kernel
set_option maxRecDepth 20000 in
theorem ggX5_digest_X5_count : GoodIn wsX5_digest wsX5_count := goodIn_r _ [7, 8, 9, 10, 11, 12, 13, 14, 15, 16, 17, 18, 19, 20, 21, 22, 23, 24, 25, 26, 6, 27, 28, 29, 30, 31, 32, 33, 34, 35, 36, 37, 38, 39, 40, 41, 42, 43, 44, 45, 46, 47, 48, 49, 50, 51, 52, 53, 54, 55, 56, 57, 58, 59, 60, 61, 62, 63, 64, 65, 66, 67, 68, 69, 70, 71, 72, 73, 74, 75, 76, 77, 78, 79, 80, 81, 82, 83, 84, 85, 86, 87, 88, 89, 90, 91, 92, 93, 94, 95, 96, 97, 98, 99, 100, 101, 102, 103, 104, 105, 106, 107, 108, 109, 110, 111, 112, 113, 114, 115, 116, 117, 118, 119, 120, 121, 122, 123, 238, 239, 240, 241, 242, 243, 244, 245, 246, 247, 248, 249, 250, 251, 252, 253, 254, 255, 256, 257, 258, 259, 260, 261, 262] (by decide +kernel) (by decide +kernel)
set_option maxRecDepth 20000 in
theorem gX5_digest_X5_count : GoodIn wsX5_digest (wsV RX5 253 RX5 yX5_count wsX5_count) := goodIn_app (goodIn_of _ (by decide +kernel)) ggX5_digest_X5_count
set_option maxRecDepth 20000 in
theorem ggX5_digest_X5_digestOfBlocks : GoodIn wsX5_digest wsX5_digestOfBlocks := goodIn_r _ [127, 2, 128, 129, 130, 6, 131, 28, 8, 132, 133, 134, 135, 67, 68, 29, 30, 31, 32, 33, 34, 35, 36, 37, 38, 39, 40, 41, 14, 42, 16, 43, 44, 45, 46, 47, 48, 49, 50, 51, 52, 53, 54, 55, 56, 57, 58, 59, 60, 61, 62, 63, 64, 65, 66, 136, 137, 138, 139, 73, 140, 141, 74, 75, 76, 77, 78, 79, 80, 81, 82, 83, 84, 85, 86, 87, 88, 89, 90, 91, 92, 93, 94, 95, 96, 97, 98, 99, 100, 101, 102, 103, 104, 105, 106, 107, 108, 109, 110, 111, 112, 113, 114, 115, 116, 117, 142, 143, 144, 145, 17, 18, 19, 20, 21, 22, 23, 146, 12, 13, 15, 147, 148, 149, 150, 151, 152, 153, 154, 155, 156, 157, 158, 159, 11, 160, 161, 162, 163, 164, 165, 166, 167, 238, 239, 240, 241, 242, 243, 244, 245, 246, 252, 253, 254, 255, 256, 257, 251, 258, 259, 260, 261, 262] (by decide +kernel) (by decide +kernel)
set_option maxRecDepth 20000 in
theorem gX5_digest_X5_digestOfBlocks : GoodIn wsX5_digest (wsV RX5 256 RX5 yX5_digestOfBlocks wsX5_digestOfBlocks) := goodIn_app (goodIn_of _ (by decide +kernel)) ggX5_digest_X5_digestOfBlocks
set_option maxRecDepth 20000 in
theorem ggX5_digest_X5_digestOfCells : GoodIn wsX5_digest wsX5_digestOfCells := goodIn_r _ [171, 2, 172, 173, 174, 6, 175, 8, 132, 133, 134, 135, 67, 68, 176, 177, 178, 179, 89, 90, 14, 91, 16, 180, 181, 182, 183, 184, 185, 186, 187, 188, 55, 56, 57, 58, 59, 60, 61, 189, 190, 191, 192, 73, 74, 75, 76, 77, 78, 79, 80, 81, 82, 40, 41, 42, 83, 44, 45, 46, 84, 85, 86, 87, 88, 92, 93, 94, 95, 96, 97, 98, 99, 100, 101, 102, 103, 104, 105, 106, 107, 108, 109, 110, 111, 112, 113, 114, 115, 52, 116, 117, 51, 53, 193, 194, 195, 196, 197, 198, 199, 200, 201, 202, 203, 204, 205, 206, 207, 238, 239, 240, 241, 242, 243, 244, 245, 246, 251, 258, 259, 260, 261, 262] (by decide +kernel) (by decide +kernel)
set_option maxRecDepth 20000 in
theorem gX5_digest_X5_digestOfCells : GoodIn wsX5_digest (wsV RX5 260 RX5 yX5_digestOfCells wsX5_digestOfCells) := goodIn_app (goodIn_of _ (by decide +kernel)) ggX5_digest_X5_digestOfCells
set_option maxRecDepth 20000 in
theorem ggX5_digest_X5_digestOfParts : GoodIn wsX5_digest wsX5_digestOfParts := goodIn_r _ [211, 2, 212, 213, 214, 6, 215, 73, 8, 132, 133, 134, 135, 67, 68, 74, 75, 76, 77, 78, 79, 80, 81, 82, 40, 41, 14, 42, 16, 83, 44, 45, 46, 84, 85, 86, 87, 88, 89, 90, 91, 92, 93, 94, 95, 96, 97, 98, 99, 100, 101, 102, 103, 104, 105, 106, 107, 108, 109, 110, 111, 112, 113, 114, 115, 52, 116, 117, 51, 53, 216, 157, 158, 159, 238, 239, 240, 241, 242, 243, 244, 245, 246, 258, 259, 260, 261, 262, 251] (by decide +kernel) (by decide +kernel)
set_option maxRecDepth 20000 in
theorem gX5_digest_X5_digestOfParts : GoodIn wsX5_digest (wsV RX5 263 RX5 yX5_digestOfParts wsX5_digestOfParts) := goodIn_app (goodIn_of _ (by decide +kernel)) ggX5_digest_X5_digestOfParts
set_option maxRecDepth 20000 in
theorem ggX5_digest_X5_digestOfPairs : GoodIn wsX5_digest wsX5_digestOfPairs := goodIn_r _ [220, 2, 221, 222, 223, 6, 224, 8, 132, 133, 134, 135, 67, 68, 225, 40, 41, 14, 42, 16, 226, 227, 228, 229, 17, 18, 19, 20, 21, 22, 23, 11, 12, 13, 15, 230, 231, 232, 233, 234, 235, 236, 237, 151, 58, 59, 60, 61, 238, 239, 240, 241, 242, 243, 244, 245, 246, 251] (by decide +kernel) (by decide +kernel)
set_option maxRecDepth 20000 in
theorem gX5_digest_X5_digestOfPairs : GoodIn wsX5_digest (wsV RX5 266 RX5 yX5_digestOfPairs wsX5_digestOfPairs) := goodIn_app (goodIn_of _ (by decide +kernel)) ggX5_digest_X5_digestOfPairs
theorem dX5_digest_0 : decode cX5_digest 0 = .ok (.ldc2_w 249, 3) := by decide +kernel
theorem dX5_digest_3 : decode cX5_digest 3 = .ok (.lstore_n 1, 1) := by decide +kernel
theorem dX5_digest_4 : decode cX5_digest 4 = .ok (.iconst 0, 1) := by decide +kernel
theorem dX5_digest_5 : decode cX5_digest 5 = .ok (.istore_n 3, 1) := by decide +kernel
theorem dX5_digest_6 : decode cX5_digest 6 = .ok (.iload_n 3, 1) := by decide +kernel
theorem dX5_digest_7 : decode cX5_digest 7 = .ok (.bipush 7, 2) := by decide +kernel
theorem dX5_digest_9 : decode cX5_digest 9 = .ok (.if_icmp .gt 22, 3) := by decide +kernel
theorem dX5_digest_12 : decode cX5_digest 12 = .ok (.ldc2_w 251, 3) := by decide +kernel
theorem dX5_digest_15 : decode cX5_digest 15 = .ok (.lload_n 1, 1) := by decide +kernel
theorem dX5_digest_16 : decode cX5_digest 16 = .ok (.lmul, 1) := by decide +kernel
theorem dX5_digest_17 : decode cX5_digest 17 = .ok (.aload_n 0, 1) := by decide +kernel
theorem dX5_digest_18 : decode cX5_digest 18 = .ok (.iload_n 3, 1) := by decide +kernel
theorem dX5_digest_19 : decode cX5_digest 19 = .ok (.invokevirtual 253, 3) := by decide +kernel
theorem dX5_digest_22 : decode cX5_digest 22 = .ok (.i2l, 1) := by decide +kernel
theorem dX5_digest_23 : decode cX5_digest 23 = .ok (.ladd, 1) := by decide +kernel
theorem dX5_digest_24 : decode cX5_digest 24 = .ok (.lstore_n 1, 1) := by decide +kernel
theorem dX5_digest_25 : decode cX5_digest 25 = .ok (.iinc 3 1, 3) := by decide +kernel
theorem dX5_digest_28 : decode cX5_digest 28 = .ok (.goto (-22), 3) := by decide +kernel
theorem dX5_digest_31 : decode cX5_digest 31 = .ok (.iconst 0, 1) := by decide +kernel
theorem dX5_digest_32 : decode cX5_digest 32 = .ok (.istore_n 3, 1) := by decide +kernel
theorem dX5_digest_33 : decode cX5_digest 33 = .ok (.iload_n 3, 1) := by decide +kernel
theorem dX5_digest_34 : decode cX5_digest 34 = .ok (.iconst 4, 1) := by decide +kernel
theorem dX5_digest_35 : decode cX5_digest 35 = .ok (.if_icmp .ge 37, 3) := by decide +kernel
theorem dX5_digest_38 : decode cX5_digest 38 = .ok (.aload_n 0, 1) := by decide +kernel
theorem dX5_digest_39 : decode cX5_digest 39 = .ok (.lload_n 1, 1) := by decide +kernel
theorem dX5_digest_40 : decode cX5_digest 40 = .ok (.iload_n 3, 1) := by decide +kernel
theorem dX5_digest_41 : decode cX5_digest 41 = .ok (.invokevirtual 256, 3) := by decide +kernel
theorem dX5_digest_44 : decode cX5_digest 44 = .ok (.lstore_n 1, 1) := by decide +kernel
theorem dX5_digest_45 : decode cX5_digest 45 = .ok (.aload_n 0, 1) := by decide +kernel
theorem dX5_digest_46 : decode cX5_digest 46 = .ok (.lload_n 1, 1) := by decide +kernel
theorem dX5_digest_47 : decode cX5_digest 47 = .ok (.iload_n 3, 1) := by decide +kernel
theorem dX5_digest_48 : decode cX5_digest 48 = .ok (.invokevirtual 260, 3) := by decide +kernel
theorem dX5_digest_51 : decode cX5_digest 51 = .ok (.lstore_n 1, 1) := by decide +kernel
theorem dX5_digest_52 : decode cX5_digest 52 = .ok (.aload_n 0, 1) := by decide +kernel
theorem dX5_digest_53 : decode cX5_digest 53 = .ok (.lload_n 1, 1) := by decide +kernel
theorem dX5_digest_54 : decode cX5_digest 54 = .ok (.iload_n 3, 1) := by decide +kernel
theorem dX5_digest_55 : decode cX5_digest 55 = .ok (.invokevirtual 263, 3) := by decide +kernel
theorem dX5_digest_58 : decode cX5_digest 58 = .ok (.lstore_n 1, 1) := by decide +kernel
theorem dX5_digest_59 : decode cX5_digest 59 = .ok (.aload_n 0, 1) := by decide +kernel
theorem dX5_digest_60 : decode cX5_digest 60 = .ok (.lload_n 1, 1) := by decide +kernel
theorem dX5_digest_61 : decode cX5_digest 61 = .ok (.iload_n 3, 1) := by decide +kernel
theorem dX5_digest_62 : decode cX5_digest 62 = .ok (.invokevirtual 266, 3) := by decide +kernel
theorem dX5_digest_65 : decode cX5_digest 65 = .ok (.lstore_n 1, 1) := by decide +kernel
theorem dX5_digest_66 : decode cX5_digest 66 = .ok (.iinc 3 1, 3) := by decide +kernel
theorem dX5_digest_69 : decode cX5_digest 69 = .ok (.goto (-36), 3) := by decide +kernel
theorem dX5_digest_72 : decode cX5_digest 72 = .ok (.lload_n 1, 1) := by decide +kernel
theorem dX5_digest_73 : decode cX5_digest 73 = .ok (.lreturn, 1) := by decide +kernel
set_option maxRecDepth 20000 in
theorem ggX5_digestOfBlocks_X5_blocks : GoodIn wsX5_digestOfBlocks wsX5_blocks := goodIn_r _ [6, 7, 8, 9, 10, 5, 11, 12, 13, 14, 15, 16, 17, 18, 19, 20, 21, 22, 23, 24, 25, 26, 27, 28, 29, 30, 31, 32, 33, 34, 35, 36, 37, 38, 39, 40, 41, 42, 43, 44, 45, 46, 47, 48, 49, 50, 51, 52, 53, 54, 143, 144, 145, 146, 147, 148, 149, 150, 151, 152, 153, 154, 155, 156, 157, 158] (by decide +kernel) (by decide +kernel)
set_option maxRecDepth 20000 in
theorem gX5_digestOfBlocks_X5_blocks : GoodIn wsX5_digestOfBlocks (wsV RX5 269 RX5 yX5_blocks wsX5_blocks) := goodIn_app (goodIn_of _ (by decide +kernel)) ggX5_digestOfBlocks_X5_blocks
set_option maxRecDepth 20000 in
theorem ggX5_digestOfBlocks_X5_all : GoodIn wsX5_digestOfBlocks wsX5_all := goodIn_r _ [58, 59, 8, 60, 61, 9, 10, 5, 11, 12, 13, 14, 62, 63, 64, 65, 66, 67, 68, 69, 70, 26, 27, 28, 29, 30, 71, 32, 33, 34, 72, 73, 74, 75, 76, 77, 78, 79, 80, 81, 82, 83, 84, 85, 86, 87, 88, 89, 90, 91, 92, 93, 94, 95, 96, 97, 98, 99, 100, 101, 102, 103, 40, 104, 105, 39, 41, 106, 107, 108, 109, 110, 111, 112, 113, 114, 115, 116, 46, 47, 48, 49, 117, 118, 119, 120, 121, 122, 123, 124, 125, 126, 127, 128, 129, 130, 131, 132, 133, 134, 143, 144, 145, 146, 147, 148, 149, 150, 151, 159, 160, 161, 162, 163, 158] (by decide +kernel) (by decide +kernel)
set_option maxRecDepth 20000 in
theorem gX5_digestOfBlocks_X5_all : GoodIn wsX5_digestOfBlocks (wsV RX5 272 RX5 yX5_all wsX5_all) := goodIn_app (goodIn_of _ (by decide +kernel)) ggX5_digestOfBlocks_X5_all
set_option maxRecDepth 20000 in
theorem ggX5_digestOfBlocks_X5_shown : GoodIn wsX5_digestOfBlocks wsX5_shown := goodIn_r _ [138, 7, 8, 9, 10, 5, 11, 12, 13, 14, 15, 16, 17, 18, 19, 20, 21, 22, 23, 24, 25, 26, 27, 28, 29, 30, 31, 32, 33, 34, 35, 36, 37, 38, 39, 40, 41, 42, 43, 44, 45, 46, 47, 48, 49, 50, 51, 52, 53, 54, 139, 140, 141, 142, 143, 144, 145, 146, 147, 148, 149, 150, 151, 152, 153, 154, 155, 156, 157, 158] (by decide +kernel) (by decide +kernel)
set_option maxRecDepth 20000 in
theorem gX5_digestOfBlocks_X5_shown : GoodIn wsX5_digestOfBlocks (wsV RX5 275 RX5 yX5_shown wsX5_shown) := goodIn_app (goodIn_of _ (by decide +kernel)) ggX5_digestOfBlocks_X5_shown
theorem dX5_digestOfBlocks_0 : decode cX5_digestOfBlocks 0 = .ok (.lload_n 1, 1) := by decide +kernel
theorem dX5_digestOfBlocks_1 : decode cX5_digestOfBlocks 1 = .ok (.lstore 4, 2) := by decide +kernel
theorem dX5_digestOfBlocks_3 : decode cX5_digestOfBlocks 3 = .ok (.iconst 0, 1) := by decide +kernel
theorem dX5_digestOfBlocks_4 : decode cX5_digestOfBlocks 4 = .ok (.istore 6, 2) := by decide +kernel
theorem dX5_digestOfBlocks_6 : decode cX5_digestOfBlocks 6 = .ok (.iload 6, 2) := by decide +kernel
theorem dX5_digestOfBlocks_8 : decode cX5_digestOfBlocks 8 = .ok (.iconst 3, 1) := by decide +kernel
theorem dX5_digestOfBlocks_9 : decode cX5_digestOfBlocks 9 = .ok (.if_icmp .gt 26, 3) := by decide +kernel
theorem dX5_digestOfBlocks_12 : decode cX5_digestOfBlocks 12 = .ok (.ldc2_w 251, 3) := by decide +kernel
theorem dX5_digestOfBlocks_15 : decode cX5_digestOfBlocks 15 = .ok (.lload 4, 2) := by decide +kernel
theorem dX5_digestOfBlocks_17 : decode cX5_digestOfBlocks 17 = .ok (.lmul, 1) := by decide +kernel
theorem dX5_digestOfBlocks_18 : decode cX5_digestOfBlocks 18 = .ok (.aload_n 0, 1) := by decide +kernel
theorem dX5_digestOfBlocks_19 : decode cX5_digestOfBlocks 19 = .ok (.iload_n 3, 1) := by decide +kernel
theorem dX5_digestOfBlocks_20 : decode cX5_digestOfBlocks 20 = .ok (.iload 6, 2) := by decide +kernel
theorem dX5_digestOfBlocks_22 : decode cX5_digestOfBlocks 22 = .ok (.invokevirtual 269, 3) := by decide +kernel
theorem dX5_digestOfBlocks_25 : decode cX5_digestOfBlocks 25 = .ok (.i2l, 1) := by decide +kernel
theorem dX5_digestOfBlocks_26 : decode cX5_digestOfBlocks 26 = .ok (.ladd, 1) := by decide +kernel
theorem dX5_digestOfBlocks_27 : decode cX5_digestOfBlocks 27 = .ok (.lstore 4, 2) := by decide +kernel
theorem dX5_digestOfBlocks_29 : decode cX5_digestOfBlocks 29 = .ok (.iinc 6 1, 3) := by decide +kernel
theorem dX5_digestOfBlocks_32 : decode cX5_digestOfBlocks 32 = .ok (.goto (-26), 3) := by decide +kernel
theorem dX5_digestOfBlocks_35 : decode cX5_digestOfBlocks 35 = .ok (.iconst 0, 1) := by decide +kernel
theorem dX5_digestOfBlocks_36 : decode cX5_digestOfBlocks 36 = .ok (.istore 6, 2) := by decide +kernel
theorem dX5_digestOfBlocks_38 : decode cX5_digestOfBlocks 38 = .ok (.iload 6, 2) := by decide +kernel
theorem dX5_digestOfBlocks_40 : decode cX5_digestOfBlocks 40 = .ok (.iconst 3, 1) := by decide +kernel
theorem dX5_digestOfBlocks_41 : decode cX5_digestOfBlocks 41 = .ok (.if_icmp .gt 26, 3) := by decide +kernel
theorem dX5_digestOfBlocks_44 : decode cX5_digestOfBlocks 44 = .ok (.ldc2_w 251, 3) := by decide +kernel
theorem dX5_digestOfBlocks_47 : decode cX5_digestOfBlocks 47 = .ok (.lload 4, 2) := by decide +kernel
theorem dX5_digestOfBlocks_49 : decode cX5_digestOfBlocks 49 = .ok (.lmul, 1) := by decide +kernel
theorem dX5_digestOfBlocks_50 : decode cX5_digestOfBlocks 50 = .ok (.aload_n 0, 1) := by decide +kernel
theorem dX5_digestOfBlocks_51 : decode cX5_digestOfBlocks 51 = .ok (.iload_n 3, 1) := by decide +kernel
theorem dX5_digestOfBlocks_52 : decode cX5_digestOfBlocks 52 = .ok (.iload 6, 2) := by decide +kernel
theorem dX5_digestOfBlocks_54 : decode cX5_digestOfBlocks 54 = .ok (.invokevirtual 272, 3) := by decide +kernel
theorem dX5_digestOfBlocks_57 : decode cX5_digestOfBlocks 57 = .ok (.i2l, 1) := by decide +kernel
theorem dX5_digestOfBlocks_58 : decode cX5_digestOfBlocks 58 = .ok (.ladd, 1) := by decide +kernel
theorem dX5_digestOfBlocks_59 : decode cX5_digestOfBlocks 59 = .ok (.lstore 4, 2) := by decide +kernel
theorem dX5_digestOfBlocks_61 : decode cX5_digestOfBlocks 61 = .ok (.iinc 6 1, 3) := by decide +kernel
theorem dX5_digestOfBlocks_64 : decode cX5_digestOfBlocks 64 = .ok (.goto (-26), 3) := by decide +kernel
theorem dX5_digestOfBlocks_67 : decode cX5_digestOfBlocks 67 = .ok (.iconst (-1), 1) := by decide +kernel
theorem dX5_digestOfBlocks_68 : decode cX5_digestOfBlocks 68 = .ok (.istore 6, 2) := by decide +kernel
theorem dX5_digestOfBlocks_70 : decode cX5_digestOfBlocks 70 = .ok (.iload 6, 2) := by decide +kernel
theorem dX5_digestOfBlocks_72 : decode cX5_digestOfBlocks 72 = .ok (.bipush 40, 2) := by decide +kernel
theorem dX5_digestOfBlocks_74 : decode cX5_digestOfBlocks 74 = .ok (.if_icmp .gt 26, 3) := by decide +kernel
theorem dX5_digestOfBlocks_77 : decode cX5_digestOfBlocks 77 = .ok (.ldc2_w 251, 3) := by decide +kernel
theorem dX5_digestOfBlocks_80 : decode cX5_digestOfBlocks 80 = .ok (.lload 4, 2) := by decide +kernel
theorem dX5_digestOfBlocks_82 : decode cX5_digestOfBlocks 82 = .ok (.lmul, 1) := by decide +kernel
theorem dX5_digestOfBlocks_83 : decode cX5_digestOfBlocks 83 = .ok (.aload_n 0, 1) := by decide +kernel
theorem dX5_digestOfBlocks_84 : decode cX5_digestOfBlocks 84 = .ok (.iload_n 3, 1) := by decide +kernel
theorem dX5_digestOfBlocks_85 : decode cX5_digestOfBlocks 85 = .ok (.iload 6, 2) := by decide +kernel
theorem dX5_digestOfBlocks_87 : decode cX5_digestOfBlocks 87 = .ok (.invokevirtual 275, 3) := by decide +kernel
theorem dX5_digestOfBlocks_90 : decode cX5_digestOfBlocks 90 = .ok (.i2l, 1) := by decide +kernel
theorem dX5_digestOfBlocks_91 : decode cX5_digestOfBlocks 91 = .ok (.ladd, 1) := by decide +kernel
theorem dX5_digestOfBlocks_92 : decode cX5_digestOfBlocks 92 = .ok (.lstore 4, 2) := by decide +kernel
theorem dX5_digestOfBlocks_94 : decode cX5_digestOfBlocks 94 = .ok (.iinc 6 1, 3) := by decide +kernel
theorem dX5_digestOfBlocks_97 : decode cX5_digestOfBlocks 97 = .ok (.goto (-27), 3) := by decide +kernel
theorem dX5_digestOfBlocks_100 : decode cX5_digestOfBlocks 100 = .ok (.lload 4, 2) := by decide +kernel
theorem dX5_digestOfBlocks_102 : decode cX5_digestOfBlocks 102 = .ok (.lreturn, 1) := by decide +kernel
set_option maxRecDepth 20000 in
theorem ggX5_digestOfCells_X5_cell : GoodIn wsX5_digestOfCells wsX5_cell := goodIn_r _ [6, 7, 8, 9, 5, 10, 11, 12, 13, 14, 15, 16, 17, 18, 19, 20, 21, 22, 109, 110, 111, 112, 113, 114, 115, 116, 117, 118] (by decide +kernel) (by decide +kernel)
set_option maxRecDepth 20000 in
theorem gX5_digestOfCells_X5_cell : GoodIn wsX5_digestOfCells (wsV RX5 278 RX5 yX5_cell wsX5_cell) := goodIn_app (goodIn_of _ (by decide +kernel)) ggX5_digestOfCells_X5_cell
set_option maxRecDepth 20000 in
theorem ggX5_digestOfCells_X5_block : GoodIn wsX5_digestOfCells wsX5_block := goodIn_r _ [26, 7, 8, 9, 5, 10, 11, 12, 13, 14, 15, 16, 27, 28, 29, 20, 30, 31, 32, 33, 34, 35, 36, 37, 38, 22, 109, 110, 111, 112, 113, 114, 115, 116, 117, 118] (by decide +kernel) (by decide +kernel)
set_option maxRecDepth 20000 in
theorem gX5_digestOfCells_X5_block : GoodIn wsX5_digestOfCells (wsV RX5 281 RX5 yX5_block wsX5_block) := goodIn_app (goodIn_of _ (by decide +kernel)) ggX5_digestOfCells_X5_block
set_option maxRecDepth 20000 in
theorem ggX5_digestOfCells_X5_label : GoodIn wsX5_digestOfCells wsX5_label := goodIn_r _ [42, 43, 7, 8, 9, 5, 10, 11, 12, 13, 14, 15, 16, 44, 45, 46, 47, 48, 49, 50, 51, 52, 53, 54, 20, 55, 22, 56, 57, 58, 59, 60, 61, 62, 63, 64, 18, 19, 21, 65, 66, 67, 68, 69, 70, 71, 72, 73, 74, 75, 76, 77, 78, 79, 80, 81, 82, 83, 84, 85, 86, 87, 88, 89, 90, 91, 92, 93, 94, 109, 110, 111, 112, 113, 114, 115, 116, 117, 119, 120, 121, 122, 123, 118] (by decide +kernel) (by decide +kernel)
set_option maxRecDepth 20000 in
theorem gX5_digestOfCells_X5_label : GoodIn wsX5_digestOfCells (wsV RX5 285 RX5 yX5_label wsX5_label) := goodIn_app (goodIn_of _ (by decide +kernel)) ggX5_digestOfCells_X5_label
set_option maxRecDepth 20000 in
theorem ggX5_digestOfCells_X5_near : GoodIn wsX5_digestOfCells wsX5_near := goodIn_r _ [98, 7, 8, 9, 5, 10, 11, 12, 13, 14, 15, 16, 99, 100, 101, 20, 102, 22, 103, 104, 89, 105, 106, 107, 108, 109, 110, 111, 112, 113, 114, 115, 116, 117, 118] (by decide +kernel) (by decide +kernel)
set_option maxRecDepth 20000 in
theorem gX5_digestOfCells_X5_near : GoodIn wsX5_digestOfCells (wsV RX5 288 RX5 yX5_near wsX5_near) := goodIn_app (goodIn_of _ (by decide +kernel)) ggX5_digestOfCells_X5_near
theorem dX5_digestOfCells_0 : decode cX5_digestOfCells 0 = .ok (.lload_n 1, 1) := by decide +kernel
theorem dX5_digestOfCells_1 : decode cX5_digestOfCells 1 = .ok (.lstore 4, 2) := by decide +kernel
theorem dX5_digestOfCells_3 : decode cX5_digestOfCells 3 = .ok (.iconst 0, 1) := by decide +kernel
theorem dX5_digestOfCells_4 : decode cX5_digestOfCells 4 = .ok (.istore 6, 2) := by decide +kernel
theorem dX5_digestOfCells_6 : decode cX5_digestOfCells 6 = .ok (.iload 6, 2) := by decide +kernel
theorem dX5_digestOfCells_8 : decode cX5_digestOfCells 8 = .ok (.bipush 16, 2) := by decide +kernel
theorem dX5_digestOfCells_10 : decode cX5_digestOfCells 10 = .ok (.if_icmp .ge 102, 3) := by decide +kernel
theorem dX5_digestOfCells_13 : decode cX5_digestOfCells 13 = .ok (.iconst 0, 1) := by decide +kernel
theorem dX5_digestOfCells_14 : decode cX5_digestOfCells 14 = .ok (.istore 7, 2) := by decide +kernel
theorem dX5_digestOfCells_16 : decode cX5_digestOfCells 16 = .ok (.iload 7, 2) := by decide +kernel
theorem dX5_digestOfCells_18 : decode cX5_digestOfCells 18 = .ok (.bipush 16, 2) := by decide +kernel
theorem dX5_digestOfCells_20 : decode cX5_digestOfCells 20 = .ok (.if_icmp .ge 86, 3) := by decide +kernel
theorem dX5_digestOfCells_23 : decode cX5_digestOfCells 23 = .ok (.ldc2_w 251, 3) := by decide +kernel
theorem dX5_digestOfCells_26 : decode cX5_digestOfCells 26 = .ok (.lload 4, 2) := by decide +kernel
theorem dX5_digestOfCells_28 : decode cX5_digestOfCells 28 = .ok (.lmul, 1) := by decide +kernel
theorem dX5_digestOfCells_29 : decode cX5_digestOfCells 29 = .ok (.aload_n 0, 1) := by decide +kernel
theorem dX5_digestOfCells_30 : decode cX5_digestOfCells 30 = .ok (.iload_n 3, 1) := by decide +kernel
theorem dX5_digestOfCells_31 : decode cX5_digestOfCells 31 = .ok (.iload 7, 2) := by decide +kernel
theorem dX5_digestOfCells_33 : decode cX5_digestOfCells 33 = .ok (.iload 6, 2) := by decide +kernel
theorem dX5_digestOfCells_35 : decode cX5_digestOfCells 35 = .ok (.invokevirtual 278, 3) := by decide +kernel
theorem dX5_digestOfCells_38 : decode cX5_digestOfCells 38 = .ok (.i2l, 1) := by decide +kernel
theorem dX5_digestOfCells_39 : decode cX5_digestOfCells 39 = .ok (.ladd, 1) := by decide +kernel
theorem dX5_digestOfCells_40 : decode cX5_digestOfCells 40 = .ok (.lstore 4, 2) := by decide +kernel
theorem dX5_digestOfCells_42 : decode cX5_digestOfCells 42 = .ok (.ldc2_w 251, 3) := by decide +kernel
theorem dX5_digestOfCells_45 : decode cX5_digestOfCells 45 = .ok (.lload 4, 2) := by decide +kernel
theorem dX5_digestOfCells_47 : decode cX5_digestOfCells 47 = .ok (.lmul, 1) := by decide +kernel
theorem dX5_digestOfCells_48 : decode cX5_digestOfCells 48 = .ok (.aload_n 0, 1) := by decide +kernel
theorem dX5_digestOfCells_49 : decode cX5_digestOfCells 49 = .ok (.iload_n 3, 1) := by decide +kernel
theorem dX5_digestOfCells_50 : decode cX5_digestOfCells 50 = .ok (.iload 7, 2) := by decide +kernel
theorem dX5_digestOfCells_52 : decode cX5_digestOfCells 52 = .ok (.iload 6, 2) := by decide +kernel
theorem dX5_digestOfCells_54 : decode cX5_digestOfCells 54 = .ok (.iconst 2, 1) := by decide +kernel
theorem dX5_digestOfCells_55 : decode cX5_digestOfCells 55 = .ok (.invokevirtual 281, 3) := by decide +kernel
theorem dX5_digestOfCells_58 : decode cX5_digestOfCells 58 = .ok (.i2l, 1) := by decide +kernel
theorem dX5_digestOfCells_59 : decode cX5_digestOfCells 59 = .ok (.ladd, 1) := by decide +kernel
theorem dX5_digestOfCells_60 : decode cX5_digestOfCells 60 = .ok (.lstore 4, 2) := by decide +kernel
theorem dX5_digestOfCells_62 : decode cX5_digestOfCells 62 = .ok (.ldc2_w 251, 3) := by decide +kernel
theorem dX5_digestOfCells_65 : decode cX5_digestOfCells 65 = .ok (.lload 4, 2) := by decide +kernel
theorem dX5_digestOfCells_67 : decode cX5_digestOfCells 67 = .ok (.lmul, 1) := by decide +kernel
theorem dX5_digestOfCells_68 : decode cX5_digestOfCells 68 = .ok (.aload_n 0, 1) := by decide +kernel
theorem dX5_digestOfCells_69 : decode cX5_digestOfCells 69 = .ok (.iload_n 3, 1) := by decide +kernel
theorem dX5_digestOfCells_70 : decode cX5_digestOfCells 70 = .ok (.iload 7, 2) := by decide +kernel
theorem dX5_digestOfCells_72 : decode cX5_digestOfCells 72 = .ok (.iload 6, 2) := by decide +kernel
theorem dX5_digestOfCells_74 : decode cX5_digestOfCells 74 = .ok (.invokevirtual 285, 3) := by decide +kernel
theorem dX5_digestOfCells_77 : decode cX5_digestOfCells 77 = .ok (.i2l, 1) := by decide +kernel
theorem dX5_digestOfCells_78 : decode cX5_digestOfCells 78 = .ok (.ladd, 1) := by decide +kernel
theorem dX5_digestOfCells_79 : decode cX5_digestOfCells 79 = .ok (.lstore 4, 2) := by decide +kernel
theorem dX5_digestOfCells_81 : decode cX5_digestOfCells 81 = .ok (.ldc2_w 251, 3) := by decide +kernel
theorem dX5_digestOfCells_84 : decode cX5_digestOfCells 84 = .ok (.lload 4, 2) := by decide +kernel
theorem dX5_digestOfCells_86 : decode cX5_digestOfCells 86 = .ok (.lmul, 1) := by decide +kernel
theorem dX5_digestOfCells_87 : decode cX5_digestOfCells 87 = .ok (.aload_n 0, 1) := by decide +kernel
theorem dX5_digestOfCells_88 : decode cX5_digestOfCells 88 = .ok (.iload_n 3, 1) := by decide +kernel
theorem dX5_digestOfCells_89 : decode cX5_digestOfCells 89 = .ok (.iload 7, 2) := by decide +kernel
theorem dX5_digestOfCells_91 : decode cX5_digestOfCells 91 = .ok (.iload 6, 2) := by decide +kernel
theorem dX5_digestOfCells_93 : decode cX5_digestOfCells 93 = .ok (.invokevirtual 288, 3) := by decide +kernel
theorem dX5_digestOfCells_96 : decode cX5_digestOfCells 96 = .ok (.i2l, 1) := by decide +kernel
theorem dX5_digestOfCells_97 : decode cX5_digestOfCells 97 = .ok (.ladd, 1) := by decide +kernel
theorem dX5_digestOfCells_98 : decode cX5_digestOfCells 98 = .ok (.lstore 4, 2) := by decide +kernel
theorem dX5_digestOfCells_100 : decode cX5_digestOfCells 100 = .ok (.iinc 7 5, 3) := by decide +kernel
theorem dX5_digestOfCells_103 : decode cX5_digestOfCells 103 = .ok (.goto (-87), 3) := by decide +kernel
theorem dX5_digestOfCells_106 : decode cX5_digestOfCells 106 = .ok (.iinc 6 3, 3) := by decide +kernel
theorem dX5_digestOfCells_109 : decode cX5_digestOfCells 109 = .ok (.goto (-103), 3) := by decide +kernel
theorem dX5_digestOfCells_112 : decode cX5_digestOfCells 112 = .ok (.lload 4, 2) := by decide +kernel
theorem dX5_digestOfCells_114 : decode cX5_digestOfCells 114 = .ok (.lreturn, 1) := by decide +kernel
set_option maxRecDepth 20000 in
theorem ggX5_digestOfParts_X5_part : GoodIn wsX5_digestOfParts wsX5_part := goodIn_r _ [6, 7, 8, 9, 10, 5, 11, 12, 13, 14, 15, 16, 17, 18, 19, 20, 21, 22, 23, 24, 25, 26, 27, 28, 29, 30, 31, 32, 33, 34, 35, 36, 37, 38, 39, 40, 41, 42, 43, 44, 45, 46, 47, 48, 49, 50, 51, 52, 53, 54, 55, 56, 57, 58, 59, 60, 61, 62, 63, 64, 65, 66, 67, 68, 69, 70, 71, 72, 73, 74, 75, 76, 77, 78, 79, 80, 81, 82, 83, 84, 85, 86, 87, 88] (by decide +kernel) (by decide +kernel)
set_option maxRecDepth 20000 in
theorem gX5_digestOfParts_X5_part : GoodIn wsX5_digestOfParts (wsV RX5 291 RX5 yX5_part wsX5_part) := goodIn_app (goodIn_of _ (by decide +kernel)) ggX5_digestOfParts_X5_part
theorem dX5_digestOfParts_0 : decode cX5_digestOfParts 0 = .ok (.lload_n 1, 1) := by decide +kernel
theorem dX5_digestOfParts_1 : decode cX5_digestOfParts 1 = .ok (.lstore 4, 2) := by decide +kernel
theorem dX5_digestOfParts_3 : decode cX5_digestOfParts 3 = .ok (.iconst 0, 1) := by decide +kernel
theorem dX5_digestOfParts_4 : decode cX5_digestOfParts 4 = .ok (.istore 6, 2) := by decide +kernel
theorem dX5_digestOfParts_6 : decode cX5_digestOfParts 6 = .ok (.iload 6, 2) := by decide +kernel
theorem dX5_digestOfParts_8 : decode cX5_digestOfParts 8 = .ok (.iconst 3, 1) := by decide +kernel
theorem dX5_digestOfParts_9 : decode cX5_digestOfParts 9 = .ok (.if_icmp .gt 44, 3) := by decide +kernel
theorem dX5_digestOfParts_12 : decode cX5_digestOfParts 12 = .ok (.iconst 0, 1) := by decide +kernel
theorem dX5_digestOfParts_13 : decode cX5_digestOfParts 13 = .ok (.istore 7, 2) := by decide +kernel
theorem dX5_digestOfParts_15 : decode cX5_digestOfParts 15 = .ok (.iload 7, 2) := by decide +kernel
theorem dX5_digestOfParts_17 : decode cX5_digestOfParts 17 = .ok (.bipush 6, 2) := by decide +kernel
theorem dX5_digestOfParts_19 : decode cX5_digestOfParts 19 = .ok (.if_icmp .ge 28, 3) := by decide +kernel
theorem dX5_digestOfParts_22 : decode cX5_digestOfParts 22 = .ok (.ldc2_w 251, 3) := by decide +kernel
theorem dX5_digestOfParts_25 : decode cX5_digestOfParts 25 = .ok (.lload 4, 2) := by decide +kernel
theorem dX5_digestOfParts_27 : decode cX5_digestOfParts 27 = .ok (.lmul, 1) := by decide +kernel
theorem dX5_digestOfParts_28 : decode cX5_digestOfParts 28 = .ok (.aload_n 0, 1) := by decide +kernel
theorem dX5_digestOfParts_29 : decode cX5_digestOfParts 29 = .ok (.iload_n 3, 1) := by decide +kernel
theorem dX5_digestOfParts_30 : decode cX5_digestOfParts 30 = .ok (.iload 6, 2) := by decide +kernel
theorem dX5_digestOfParts_32 : decode cX5_digestOfParts 32 = .ok (.iload 7, 2) := by decide +kernel
theorem dX5_digestOfParts_34 : decode cX5_digestOfParts 34 = .ok (.invokevirtual 291, 3) := by decide +kernel
theorem dX5_digestOfParts_37 : decode cX5_digestOfParts 37 = .ok (.i2l, 1) := by decide +kernel
theorem dX5_digestOfParts_38 : decode cX5_digestOfParts 38 = .ok (.ladd, 1) := by decide +kernel
theorem dX5_digestOfParts_39 : decode cX5_digestOfParts 39 = .ok (.lstore 4, 2) := by decide +kernel
theorem dX5_digestOfParts_41 : decode cX5_digestOfParts 41 = .ok (.iinc 7 1, 3) := by decide +kernel
theorem dX5_digestOfParts_44 : decode cX5_digestOfParts 44 = .ok (.goto (-29), 3) := by decide +kernel
theorem dX5_digestOfParts_47 : decode cX5_digestOfParts 47 = .ok (.iinc 6 1, 3) := by decide +kernel
theorem dX5_digestOfParts_50 : decode cX5_digestOfParts 50 = .ok (.goto (-44), 3) := by decide +kernel
theorem dX5_digestOfParts_53 : decode cX5_digestOfParts 53 = .ok (.lload 4, 2) := by decide +kernel
theorem dX5_digestOfParts_55 : decode cX5_digestOfParts 55 = .ok (.lreturn, 1) := by decide +kernel
set_option maxRecDepth 20000 in
theorem ggX5_digestOfPairs_X5_both : GoodIn wsX5_digestOfPairs wsX5_both := goodIn_r _ [6, 7, 8, 9, 5, 10, 11, 12, 13, 14, 15, 16, 17, 18, 19, 20, 21, 22, 23, 24, 25, 26, 27, 28, 29, 30, 31, 32, 33, 34, 35, 36, 37, 38, 39, 40, 41, 42, 43, 44, 45, 46, 47, 48, 49, 50, 51, 52, 53, 54, 55, 56, 57] (by decide +kernel) (by decide +kernel)
set_option maxRecDepth 20000 in
theorem gX5_digestOfPairs_X5_both : GoodIn wsX5_digestOfPairs (wsV RX5 294 RX5 yX5_both wsX5_both) := goodIn_app (goodIn_of _ (by decide +kernel)) ggX5_digestOfPairs_X5_both
theorem dX5_digestOfPairs_0 : decode cX5_digestOfPairs 0 = .ok (.lload_n 1, 1) := by decide +kernel
theorem dX5_digestOfPairs_1 : decode cX5_digestOfPairs 1 = .ok (.lstore 4, 2) := by decide +kernel
theorem dX5_digestOfPairs_3 : decode cX5_digestOfPairs 3 = .ok (.iconst 0, 1) := by decide +kernel
theorem dX5_digestOfPairs_4 : decode cX5_digestOfPairs 4 = .ok (.istore 6, 2) := by decide +kernel
theorem dX5_digestOfPairs_6 : decode cX5_digestOfPairs 6 = .ok (.iload 6, 2) := by decide +kernel
theorem dX5_digestOfPairs_8 : decode cX5_digestOfPairs 8 = .ok (.iconst 4, 1) := by decide +kernel
theorem dX5_digestOfPairs_9 : decode cX5_digestOfPairs 9 = .ok (.if_icmp .ge 43, 3) := by decide +kernel
theorem dX5_digestOfPairs_12 : decode cX5_digestOfPairs 12 = .ok (.iconst 0, 1) := by decide +kernel
theorem dX5_digestOfPairs_13 : decode cX5_digestOfPairs 13 = .ok (.istore 7, 2) := by decide +kernel
theorem dX5_digestOfPairs_15 : decode cX5_digestOfPairs 15 = .ok (.iload 7, 2) := by decide +kernel
theorem dX5_digestOfPairs_17 : decode cX5_digestOfPairs 17 = .ok (.iconst 3, 1) := by decide +kernel
theorem dX5_digestOfPairs_18 : decode cX5_digestOfPairs 18 = .ok (.if_icmp .gt 28, 3) := by decide +kernel
theorem dX5_digestOfPairs_21 : decode cX5_digestOfPairs 21 = .ok (.ldc2_w 251, 3) := by decide +kernel
theorem dX5_digestOfPairs_24 : decode cX5_digestOfPairs 24 = .ok (.lload 4, 2) := by decide +kernel
theorem dX5_digestOfPairs_26 : decode cX5_digestOfPairs 26 = .ok (.lmul, 1) := by decide +kernel
theorem dX5_digestOfPairs_27 : decode cX5_digestOfPairs 27 = .ok (.aload_n 0, 1) := by decide +kernel
theorem dX5_digestOfPairs_28 : decode cX5_digestOfPairs 28 = .ok (.iload_n 3, 1) := by decide +kernel
theorem dX5_digestOfPairs_29 : decode cX5_digestOfPairs 29 = .ok (.iload 6, 2) := by decide +kernel
theorem dX5_digestOfPairs_31 : decode cX5_digestOfPairs 31 = .ok (.iload 7, 2) := by decide +kernel
theorem dX5_digestOfPairs_33 : decode cX5_digestOfPairs 33 = .ok (.invokevirtual 294, 3) := by decide +kernel
theorem dX5_digestOfPairs_36 : decode cX5_digestOfPairs 36 = .ok (.i2l, 1) := by decide +kernel
theorem dX5_digestOfPairs_37 : decode cX5_digestOfPairs 37 = .ok (.ladd, 1) := by decide +kernel
theorem dX5_digestOfPairs_38 : decode cX5_digestOfPairs 38 = .ok (.lstore 4, 2) := by decide +kernel
theorem dX5_digestOfPairs_40 : decode cX5_digestOfPairs 40 = .ok (.iinc 7 1, 3) := by decide +kernel
theorem dX5_digestOfPairs_43 : decode cX5_digestOfPairs 43 = .ok (.goto (-28), 3) := by decide +kernel
theorem dX5_digestOfPairs_46 : decode cX5_digestOfPairs 46 = .ok (.iinc 6 1, 3) := by decide +kernel
theorem dX5_digestOfPairs_49 : decode cX5_digestOfPairs 49 = .ok (.goto (-43), 3) := by decide +kernel
theorem dX5_digestOfPairs_52 : decode cX5_digestOfPairs 52 = .ok (.lload 4, 2) := by decide +kernel
theorem dX5_digestOfPairs_54 : decode cX5_digestOfPairs 54 = .ok (.lreturn, 1) := by decide +kernel
theorem dX5_within_0 : decode cX5_within 0 = .ok (.iload_n 0, 1) := by decide +kernel
theorem dX5_within_1 : decode cX5_within 1 = .ok (.ifCond .lt 12, 3) := by decide +kernel
theorem dX5_within_4 : decode cX5_within 4 = .ok (.iload_n 0, 1) := by decide +kernel
theorem dX5_within_5 : decode cX5_within 5 = .ok (.iload_n 1, 1) := by decide +kernel
theorem dX5_within_6 : decode cX5_within 6 = .ok (.if_icmp .ge 7, 3) := by decide +kernel
theorem dX5_within_9 : decode cX5_within 9 = .ok (.iconst 1, 1) := by decide +kernel
theorem dX5_within_10 : decode cX5_within 10 = .ok (.goto 4, 3) := by decide +kernel
theorem dX5_within_13 : decode cX5_within 13 = .ok (.iconst 0, 1) := by decide +kernel
theorem dX5_within_14 : decode cX5_within 14 = .ok (.ireturn, 1) := by decide +kernel
set_option maxRecDepth 20000 in
theorem ggX5_isMask_X5_within : GoodIn wsX5_isMask wsX5_within := goodIn_r _ [4] (by decide +kernel) (by decide +kernel)
set_option maxRecDepth 20000 in
theorem gX5_isMask_X5_within : GoodIn wsX5_isMask (va_wsS RX5 66 yX5_within wsX5_within) := goodIn_app (goodIn_of _ (by decide +kernel)) ggX5_isMask_X5_within
theorem dX5_isMask_0 : decode cX5_isMask 0 = .ok (.iload_n 0, 1) := by decide +kernel
theorem dX5_isMask_1 : decode cX5_isMask 1 = .ok (.iconst 4, 1) := by decide +kernel
theorem dX5_isMask_2 : decode cX5_isMask 2 = .ok (.invokestatic 66, 3) := by decide +kernel
theorem dX5_isMask_5 : decode cX5_isMask 5 = .ok (.ireturn, 1) := by decide +kernel
set_option maxRecDepth 20000 in
theorem ggX5_isCell_X5_within : GoodIn wsX5_isCell wsX5_within := goodIn_r _ [4] (by decide +kernel) (by decide +kernel)
set_option maxRecDepth 20000 in
theorem gX5_isCell_X5_within : GoodIn wsX5_isCell (va_wsS RX5 66 yX5_within wsX5_within) := goodIn_app (goodIn_of _ (by decide +kernel)) ggX5_isCell_X5_within
theorem dX5_isCell_0 : decode cX5_isCell 0 = .ok (.iload_n 0, 1) := by decide +kernel
theorem dX5_isCell_1 : decode cX5_isCell 1 = .ok (.bipush 16, 2) := by decide +kernel
theorem dX5_isCell_3 : decode cX5_isCell 3 = .ok (.invokestatic 66, 3) := by decide +kernel
theorem dX5_isCell_6 : decode cX5_isCell 6 = .ok (.ifCond .eq 16, 3) := by decide +kernel
theorem dX5_isCell_9 : decode cX5_isCell 9 = .ok (.iload_n 1, 1) := by decide +kernel
theorem dX5_isCell_10 : decode cX5_isCell 10 = .ok (.bipush 16, 2) := by decide +kernel
theorem dX5_isCell_12 : decode cX5_isCell 12 = .ok (.invokestatic 66, 3) := by decide +kernel
theorem dX5_isCell_15 : decode cX5_isCell 15 = .ok (.ifCond .eq 7, 3) := by decide +kernel
theorem dX5_isCell_18 : decode cX5_isCell 18 = .ok (.iconst 1, 1) := by decide +kernel
theorem dX5_isCell_19 : decode cX5_isCell 19 = .ok (.goto 4, 3) := by decide +kernel
theorem dX5_isCell_22 : decode cX5_isCell 22 = .ok (.iconst 0, 1) := by decide +kernel
theorem dX5_isCell_23 : decode cX5_isCell 23 = .ok (.ireturn, 1) := by decide +kernel
theorem dX5_isMove_0 : decode cX5_isMove 0 = .ok (.iload_n 0, 1) := by decide +kernel
theorem dX5_isMove_1 : decode cX5_isMove 1 = .ok (.bipush (-16), 2) := by decide +kernel
theorem dX5_isMove_3 : decode cX5_isMove 3 = .ok (.if_icmp .lt 13, 3) := by decide +kernel
theorem dX5_isMove_6 : decode cX5_isMove 6 = .ok (.iload_n 0, 1) := by decide +kernel
theorem dX5_isMove_7 : decode cX5_isMove 7 = .ok (.bipush 16, 2) := by decide +kernel
theorem dX5_isMove_9 : decode cX5_isMove 9 = .ok (.if_icmp .gt 7, 3) := by decide +kernel
theorem dX5_isMove_12 : decode cX5_isMove 12 = .ok (.iconst 1, 1) := by decide +kernel
theorem dX5_isMove_13 : decode cX5_isMove 13 = .ok (.goto 4, 3) := by decide +kernel
theorem dX5_isMove_16 : decode cX5_isMove 16 = .ok (.iconst 0, 1) := by decide +kernel
theorem dX5_isMove_17 : decode cX5_isMove 17 = .ok (.ireturn, 1) := by decide +kernel
set_option maxRecDepth 20000 in
theorem ggX5_isSheet_X5_within : GoodIn wsX5_isSheet wsX5_within := goodIn_r _ [4] (by decide +kernel) (by decide +kernel)
set_option maxRecDepth 20000 in
theorem gX5_isSheet_X5_within : GoodIn wsX5_isSheet (va_wsS RX5 66 yX5_within wsX5_within) := goodIn_app (goodIn_of _ (by decide +kernel)) ggX5_isSheet_X5_within
theorem dX5_isSheet_0 : decode cX5_isSheet 0 = .ok (.iload_n 0, 1) := by decide +kernel
theorem dX5_isSheet_1 : decode cX5_isSheet 1 = .ok (.iconst 4, 1) := by decide +kernel
theorem dX5_isSheet_2 : decode cX5_isSheet 2 = .ok (.invokestatic 66, 3) := by decide +kernel
theorem dX5_isSheet_5 : decode cX5_isSheet 5 = .ok (.ireturn, 1) := by decide +kernel
theorem dX5_found_0 : decode cX5_found 0 = .ok (.aload_n 0, 1) := by decide +kernel
theorem dX5_found_1 : decode cX5_found 1 = .ok (.iload_n 1, 1) := by decide +kernel
theorem dX5_found_2 : decode cX5_found 2 = .ok (.putfield 53, 3) := by decide +kernel
theorem dX5_found_5 : decode cX5_found 5 = .ok (.bipush (-10), 2) := by decide +kernel
theorem dX5_found_7 : decode cX5_found 7 = .ok (.iload_n 1, 1) := by decide +kernel
theorem dX5_found_8 : decode cX5_found 8 = .ok (.isub, 1) := by decide +kernel
theorem dX5_found_9 : decode cX5_found 9 = .ok (.ireturn, 1) := by decide +kernel
end
section
theorem dX6_init_0 : decode cX6_init 0 = .ok (.aload_n 0, 1) := by decide +kernel
theorem dX6_init_1 : decode cX6_init 1 = .ok (.invokespecial 1, 3) := by decide +kernel
theorem dX6_init_4 : decode cX6_init 4 = .ok (.aload_n 0, 1) := by decide +kernel
theorem dX6_init_5 : decode cX6_init 5 = .ok (.iconst 4, 1) := by decide +kernel
theorem dX6_init_6 : decode cX6_init 6 = .ok (.newarray .int, 2) := by decide +kernel
theorem dX6_init_8 : decode cX6_init 8 = .ok (.putfield 7, 3) := by decide +kernel
theorem dX6_init_11 : decode cX6_init 11 = .ok (.aload_n 0, 1) := by decide +kernel
theorem dX6_init_12 : decode cX6_init 12 = .ok (.iconst 4, 1) := by decide +kernel
theorem dX6_init_13 : decode cX6_init 13 = .ok (.newarray .int, 2) := by decide +kernel
theorem dX6_init_15 : decode cX6_init 15 = .ok (.putfield 13, 3) := by decide +kernel
theorem dX6_init_18 : decode cX6_init 18 = .ok (.aload_n 0, 1) := by decide +kernel
theorem dX6_init_19 : decode cX6_init 19 = .ok (.sipush 240, 3) := by decide +kernel
theorem dX6_init_22 : decode cX6_init 22 = .ok (.newarray .int, 2) := by decide +kernel
theorem dX6_init_24 : decode cX6_init 24 = .ok (.putfield 16, 3) := by decide +kernel
theorem dX6_init_27 : decode cX6_init 27 = .ok (.aload_n 0, 1) := by decide +kernel
theorem dX6_init_28 : decode cX6_init 28 = .ok (.bipush 60, 2) := by decide +kernel
theorem dX6_init_30 : decode cX6_init 30 = .ok (.newarray .int, 2) := by decide +kernel
theorem dX6_init_32 : decode cX6_init 32 = .ok (.putfield 19, 3) := by decide +kernel
theorem dX6_init_35 : decode cX6_init 35 = .ok (.aload_n 0, 1) := by decide +kernel
theorem dX6_init_36 : decode cX6_init 36 = .ok (.bipush 64, 2) := by decide +kernel
theorem dX6_init_38 : decode cX6_init 38 = .ok (.newarray .int, 2) := by decide +kernel
theorem dX6_init_40 : decode cX6_init 40 = .ok (.putfield 22, 3) := by decide +kernel
theorem dX6_init_43 : decode cX6_init 43 = .ok (.aload_n 0, 1) := by decide +kernel
theorem dX6_init_44 : decode cX6_init 44 = .ok (.bipush 16, 2) := by decide +kernel
theorem dX6_init_46 : decode cX6_init 46 = .ok (.newarray .int, 2) := by decide +kernel
theorem dX6_init_48 : decode cX6_init 48 = .ok (.putfield 25, 3) := by decide +kernel
theorem dX6_init_51 : decode cX6_init 51 = .ok (.aload_n 0, 1) := by decide +kernel
theorem dX6_init_52 : decode cX6_init 52 = .ok (.bipush 40, 2) := by decide +kernel
theorem dX6_init_54 : decode cX6_init 54 = .ok (.newarray .int, 2) := by decide +kernel
theorem dX6_init_56 : decode cX6_init 56 = .ok (.putfield 28, 3) := by decide +kernel
theorem dX6_init_59 : decode cX6_init 59 = .ok (.aload_n 0, 1) := by decide +kernel
theorem dX6_init_60 : decode cX6_init 60 = .ok (.sipush 640, 3) := by decide +kernel
theorem dX6_init_63 : decode cX6_init 63 = .ok (.newarray .int, 2) := by decide +kernel
theorem dX6_init_65 : decode cX6_init 65 = .ok (.putfield 31, 3) := by decide +kernel
theorem dX6_init_68 : decode cX6_init 68 = .ok (.aload_n 0, 1) := by decide +kernel
theorem dX6_init_69 : decode cX6_init 69 = .ok (.sipush 256, 3) := by decide +kernel
theorem dX6_init_72 : decode cX6_init 72 = .ok (.newarray .int, 2) := by decide +kernel
theorem dX6_init_74 : decode cX6_init 74 = .ok (.putfield 34, 3) := by decide +kernel
theorem dX6_init_77 : decode cX6_init 77 = .ok (.aload_n 0, 1) := by decide +kernel
theorem dX6_init_78 : decode cX6_init 78 = .ok (.sipush 256, 3) := by decide +kernel
theorem dX6_init_81 : decode cX6_init 81 = .ok (.newarray .int, 2) := by decide +kernel
theorem dX6_init_83 : decode cX6_init 83 = .ok (.putfield 37, 3) := by decide +kernel
theorem dX6_init_86 : decode cX6_init 86 = .ok (.aload_n 0, 1) := by decide +kernel
theorem dX6_init_87 : decode cX6_init 87 = .ok (.bipush 16, 2) := by decide +kernel
theorem dX6_init_89 : decode cX6_init 89 = .ok (.newarray .int, 2) := by decide +kernel
theorem dX6_init_91 : decode cX6_init 91 = .ok (.putfield 40, 3) := by decide +kernel
theorem dX6_init_94 : decode cX6_init 94 = .ok (.aload_n 0, 1) := by decide +kernel
theorem dX6_init_95 : decode cX6_init 95 = .ok (.bipush 16, 2) := by decide +kernel
theorem dX6_init_97 : decode cX6_init 97 = .ok (.newarray .int, 2) := by decide +kernel
theorem dX6_init_99 : decode cX6_init 99 = .ok (.putfield 43, 3) := by decide +kernel
theorem dX6_init_102 : decode cX6_init 102 = .ok (.aload_n 0, 1) := by decide +kernel
theorem dX6_init_103 : decode cX6_init 103 = .ok (.bipush 16, 2) := by decide +kernel
theorem dX6_init_105 : decode cX6_init 105 = .ok (.newarray .int, 2) := by decide +kernel
theorem dX6_init_107 : decode cX6_init 107 = .ok (.putfield 46, 3) := by decide +kernel
theorem dX6_init_110 : decode cX6_init 110 = .ok (.aload_n 0, 1) := by decide +kernel
theorem dX6_init_111 : decode cX6_init 111 = .ok (.sipush 341, 3) := by decide +kernel
theorem dX6_init_114 : decode cX6_init 114 = .ok (.newarray .int, 2) := by decide +kernel
theorem dX6_init_116 : decode cX6_init 116 = .ok (.putfield 49, 3) := by decide +kernel
theorem dX6_init_119 : decode cX6_init 119 = .ok (.aload_n 0, 1) := by decide +kernel
theorem dX6_init_120 : decode cX6_init 120 = .ok (.iconst 4, 1) := by decide +kernel
theorem dX6_init_121 : decode cX6_init 121 = .ok (.newarray .int, 2) := by decide +kernel
theorem dX6_init_123 : decode cX6_init 123 = .ok (.putfield 52, 3) := by decide +kernel
theorem dX6_init_126 : decode cX6_init 126 = .ok (.iconst 0, 1) := by decide +kernel
theorem dX6_init_127 : decode cX6_init 127 = .ok (.istore_n 1, 1) := by decide +kernel
theorem dX6_init_128 : decode cX6_init 128 = .ok (.iload_n 1, 1) := by decide +kernel
theorem dX6_init_129 : decode cX6_init 129 = .ok (.iconst 4, 1) := by decide +kernel
theorem dX6_init_130 : decode cX6_init 130 = .ok (.if_icmp .ge 16, 3) := by decide +kernel
theorem dX6_init_133 : decode cX6_init 133 = .ok (.aload_n 0, 1) := by decide +kernel
theorem dX6_init_134 : decode cX6_init 134 = .ok (.getfield 7, 3) := by decide +kernel
theorem dX6_init_137 : decode cX6_init 137 = .ok (.iload_n 1, 1) := by decide +kernel
theorem dX6_init_138 : decode cX6_init 138 = .ok (.iconst (-1), 1) := by decide +kernel
theorem dX6_init_139 : decode cX6_init 139 = .ok (.iastore, 1) := by decide +kernel
theorem dX6_init_140 : decode cX6_init 140 = .ok (.iinc 1 1, 3) := by decide +kernel
theorem dX6_init_143 : decode cX6_init 143 = .ok (.goto (-15), 3) := by decide +kernel
theorem dX6_init_146 : decode cX6_init 146 = .ok (.return_, 1) := by decide +kernel
theorem dX6_in_0 : decode cX6_in 0 = .ok (.lload_n 0, 1) := by decide +kernel
theorem dX6_in_1 : decode cX6_in 1 = .ok (.lload_n 2, 1) := by decide +kernel
theorem dX6_in_2 : decode cX6_in 2 = .ok (.lcmp, 1) := by decide +kernel
theorem dX6_in_3 : decode cX6_in 3 = .ok (.ifCond .lt 14, 3) := by decide +kernel
theorem dX6_in_6 : decode cX6_in 6 = .ok (.lload_n 0, 1) := by decide +kernel
theorem dX6_in_7 : decode cX6_in 7 = .ok (.lload 4, 2) := by decide +kernel
theorem dX6_in_9 : decode cX6_in 9 = .ok (.lcmp, 1) := by decide +kernel
theorem dX6_in_10 : decode cX6_in 10 = .ok (.ifCond .gt 7, 3) := by decide +kernel
theorem dX6_in_13 : decode cX6_in 13 = .ok (.iconst 1, 1) := by decide +kernel
theorem dX6_in_14 : decode cX6_in 14 = .ok (.goto 4, 3) := by decide +kernel
theorem dX6_in_17 : decode cX6_in 17 = .ok (.iconst 0, 1) := by decide +kernel
theorem dX6_in_18 : decode cX6_in 18 = .ok (.ireturn, 1) := by decide +kernel
set_option maxRecDepth 20000 in
theorem ggX6_isTwo_X6_in : GoodIn wsX6_isTwo wsX6_in := goodIn_r _ [4] (by decide +kernel) (by decide +kernel)
set_option maxRecDepth 20000 in
theorem gX6_isTwo_X6_in : GoodIn wsX6_isTwo (va_wsS RX6 55 yX6_in wsX6_in) := goodIn_app (goodIn_of _ (by decide +kernel)) ggX6_isTwo_X6_in
theorem dX6_isTwo_0 : decode cX6_isTwo 0 = .ok (.iload_n 0, 1) := by decide +kernel
theorem dX6_isTwo_1 : decode cX6_isTwo 1 = .ok (.i2l, 1) := by decide +kernel
theorem dX6_isTwo_2 : decode cX6_isTwo 2 = .ok (.lconst 0, 1) := by decide +kernel
theorem dX6_isTwo_3 : decode cX6_isTwo 3 = .ok (.lconst 1, 1) := by decide +kernel
theorem dX6_isTwo_4 : decode cX6_isTwo 4 = .ok (.invokestatic 55, 3) := by decide +kernel
theorem dX6_isTwo_7 : decode cX6_isTwo 7 = .ok (.ireturn, 1) := by decide +kernel
theorem dX6_lesser_0 : decode cX6_lesser 0 = .ok (.iload_n 0, 1) := by decide +kernel
theorem dX6_lesser_1 : decode cX6_lesser 1 = .ok (.iload_n 1, 1) := by decide +kernel
theorem dX6_lesser_2 : decode cX6_lesser 2 = .ok (.if_icmp .ge 7, 3) := by decide +kernel
theorem dX6_lesser_5 : decode cX6_lesser 5 = .ok (.iload_n 0, 1) := by decide +kernel
theorem dX6_lesser_6 : decode cX6_lesser 6 = .ok (.goto 4, 3) := by decide +kernel
theorem dX6_lesser_9 : decode cX6_lesser 9 = .ok (.iload_n 1, 1) := by decide +kernel
theorem dX6_lesser_10 : decode cX6_lesser 10 = .ok (.ireturn, 1) := by decide +kernel
theorem dX6_greater_0 : decode cX6_greater 0 = .ok (.iload_n 0, 1) := by decide +kernel
theorem dX6_greater_1 : decode cX6_greater 1 = .ok (.iload_n 1, 1) := by decide +kernel
theorem dX6_greater_2 : decode cX6_greater 2 = .ok (.if_icmp .le 7, 3) := by decide +kernel
theorem dX6_greater_5 : decode cX6_greater 5 = .ok (.iload_n 0, 1) := by decide +kernel
theorem dX6_greater_6 : decode cX6_greater 6 = .ok (.goto 4, 3) := by decide +kernel
theorem dX6_greater_9 : decode cX6_greater 9 = .ok (.iload_n 1, 1) := by decide +kernel
theorem dX6_greater_10 : decode cX6_greater 10 = .ok (.ireturn, 1) := by decide +kernel
theorem dX6_finds_0 : decode cX6_finds 0 = .ok (.aload_n 0, 1) := by decide +kernel
theorem dX6_finds_1 : decode cX6_finds 1 = .ok (.iload_n 1, 1) := by decide +kernel
theorem dX6_finds_2 : decode cX6_finds 2 = .ok (.putfield 59, 3) := by decide +kernel
theorem dX6_finds_5 : decode cX6_finds 5 = .ok (.bipush (-10), 2) := by decide +kernel
theorem dX6_finds_7 : decode cX6_finds 7 = .ok (.iload_n 1, 1) := by decide +kernel
theorem dX6_finds_8 : decode cX6_finds 8 = .ok (.isub, 1) := by decide +kernel
theorem dX6_finds_9 : decode cX6_finds 9 = .ok (.ireturn, 1) := by decide +kernel
set_option maxRecDepth 20000 in
theorem ggX6_isSheet_X6_in : GoodIn wsX6_isSheet wsX6_in := goodIn_r _ [5] (by decide +kernel) (by decide +kernel)
set_option maxRecDepth 20000 in
theorem gX6_isSheet_X6_in : GoodIn wsX6_isSheet (va_wsS RX6 55 yX6_in wsX6_in) := goodIn_app (goodIn_of _ (by decide +kernel)) ggX6_isSheet_X6_in
theorem dX6_isSheet_0 : decode cX6_isSheet 0 = .ok (.iload_n 0, 1) := by decide +kernel
theorem dX6_isSheet_1 : decode cX6_isSheet 1 = .ok (.i2l, 1) := by decide +kernel
theorem dX6_isSheet_2 : decode cX6_isSheet 2 = .ok (.lconst 0, 1) := by decide +kernel
theorem dX6_isSheet_3 : decode cX6_isSheet 3 = .ok (.ldc2_w 63, 3) := by decide +kernel
theorem dX6_isSheet_6 : decode cX6_isSheet 6 = .ok (.invokestatic 55, 3) := by decide +kernel
theorem dX6_isSheet_9 : decode cX6_isSheet 9 = .ok (.ireturn, 1) := by decide +kernel
set_option maxRecDepth 20000 in
theorem ggX6_sheet_X6_isSheet : GoodIn wsX6_sheet wsX6_isSheet := goodIn_r _ [8, 9, 10, 11, 7, 12] (by decide +kernel) (by decide +kernel)
set_option maxRecDepth 20000 in
theorem gX6_sheet_X6_isSheet : GoodIn wsX6_sheet (va_wsS RX6 65 yX6_isSheet wsX6_isSheet) := goodIn_app (goodIn_of _ (by decide +kernel)) ggX6_sheet_X6_isSheet
set_option maxRecDepth 20000 in
theorem ggX6_sheet_X6_in : GoodIn wsX6_sheet wsX6_in := goodIn_r _ [12] (by decide +kernel) (by decide +kernel)
set_option maxRecDepth 20000 in
theorem gX6_sheet_X6_in : GoodIn wsX6_sheet (va_wsS RX6 55 yX6_in wsX6_in) := goodIn_app (goodIn_of _ (by decide +kernel)) ggX6_sheet_X6_in
set_option maxRecDepth 20000 in
theorem ggX6_sheet_X6_finds : GoodIn wsX6_sheet wsX6_finds := goodIn_r _ [16, 17, 18, 19, 20, 21, 22, 23, 24, 25, 26, 27, 28, 29, 30, 31, 32, 33, 34, 35, 36, 37, 38] (by decide +kernel) (by decide +kernel)
set_option maxRecDepth 20000 in
theorem gX6_sheet_X6_finds : GoodIn wsX6_sheet (wsV RX6 71 RX6 yX6_finds wsX6_finds) := goodIn_app (goodIn_of _ (by decide +kernel)) ggX6_sheet_X6_finds
theorem dX6_sheet_0 : decode cX6_sheet 0 = .ok (.iload_n 1, 1) := by decide +kernel
theorem dX6_sheet_1 : decode cX6_sheet 1 = .ok (.invokestatic 65, 3) := by decide +kernel
theorem dX6_sheet_4 : decode cX6_sheet 4 = .ok (.ifCond .eq 21, 3) := by decide +kernel
theorem dX6_sheet_7 : decode cX6_sheet 7 = .ok (.iload_n 2, 1) := by decide +kernel
theorem dX6_sheet_8 : decode cX6_sheet 8 = .ok (.i2l, 1) := by decide +kernel
theorem dX6_sheet_9 : decode cX6_sheet 9 = .ok (.lconst 0, 1) := by decide +kernel
theorem dX6_sheet_10 : decode cX6_sheet 10 = .ok (.ldc2_w 69, 3) := by decide +kernel
theorem dX6_sheet_13 : decode cX6_sheet 13 = .ok (.invokestatic 55, 3) := by decide +kernel
theorem dX6_sheet_16 : decode cX6_sheet 16 = .ok (.ifCond .eq 9, 3) := by decide +kernel
theorem dX6_sheet_19 : decode cX6_sheet 19 = .ok (.iload_n 3, 1) := by decide +kernel
theorem dX6_sheet_20 : decode cX6_sheet 20 = .ok (.bipush 60, 2) := by decide +kernel
theorem dX6_sheet_22 : decode cX6_sheet 22 = .ok (.if_icmp .le 6, 3) := by decide +kernel
theorem dX6_sheet_25 : decode cX6_sheet 25 = .ok (.bipush (-2), 2) := by decide +kernel
theorem dX6_sheet_27 : decode cX6_sheet 27 = .ok (.ireturn, 1) := by decide +kernel
theorem dX6_sheet_28 : decode cX6_sheet 28 = .ok (.iload_n 3, 1) := by decide +kernel
theorem dX6_sheet_29 : decode cX6_sheet 29 = .ok (.ifCond .ge 9, 3) := by decide +kernel
theorem dX6_sheet_32 : decode cX6_sheet 32 = .ok (.aload_n 0, 1) := by decide +kernel
theorem dX6_sheet_33 : decode cX6_sheet 33 = .ok (.iconst 5, 1) := by decide +kernel
theorem dX6_sheet_34 : decode cX6_sheet 34 = .ok (.invokevirtual 71, 3) := by decide +kernel
theorem dX6_sheet_37 : decode cX6_sheet 37 = .ok (.ireturn, 1) := by decide +kernel
theorem dX6_sheet_38 : decode cX6_sheet 38 = .ok (.aload_n 0, 1) := by decide +kernel
theorem dX6_sheet_39 : decode cX6_sheet 39 = .ok (.getfield 7, 3) := by decide +kernel
theorem dX6_sheet_42 : decode cX6_sheet 42 = .ok (.iload_n 1, 1) := by decide +kernel
theorem dX6_sheet_43 : decode cX6_sheet 43 = .ok (.iload_n 2, 1) := by decide +kernel
theorem dX6_sheet_44 : decode cX6_sheet 44 = .ok (.iastore, 1) := by decide +kernel
theorem dX6_sheet_45 : decode cX6_sheet 45 = .ok (.aload_n 0, 1) := by decide +kernel
theorem dX6_sheet_46 : decode cX6_sheet 46 = .ok (.getfield 13, 3) := by decide +kernel
theorem dX6_sheet_49 : decode cX6_sheet 49 = .ok (.iload_n 1, 1) := by decide +kernel
theorem dX6_sheet_50 : decode cX6_sheet 50 = .ok (.iload_n 3, 1) := by decide +kernel
theorem dX6_sheet_51 : decode cX6_sheet 51 = .ok (.iastore, 1) := by decide +kernel
theorem dX6_sheet_52 : decode cX6_sheet 52 = .ok (.iconst 0, 1) := by decide +kernel
theorem dX6_sheet_53 : decode cX6_sheet 53 = .ok (.istore 4, 2) := by decide +kernel
theorem dX6_sheet_55 : decode cX6_sheet 55 = .ok (.iload 4, 2) := by decide +kernel
theorem dX6_sheet_57 : decode cX6_sheet 57 = .ok (.iload_n 3, 1) := by decide +kernel
theorem dX6_sheet_58 : decode cX6_sheet 58 = .ok (.if_icmp .ge 22, 3) := by decide +kernel
theorem dX6_sheet_61 : decode cX6_sheet 61 = .ok (.aload_n 0, 1) := by decide +kernel
theorem dX6_sheet_62 : decode cX6_sheet 62 = .ok (.getfield 16, 3) := by decide +kernel
theorem dX6_sheet_65 : decode cX6_sheet 65 = .ok (.bipush 60, 2) := by decide +kernel
theorem dX6_sheet_67 : decode cX6_sheet 67 = .ok (.iload_n 1, 1) := by decide +kernel
theorem dX6_sheet_68 : decode cX6_sheet 68 = .ok (.imul, 1) := by decide +kernel
theorem dX6_sheet_69 : decode cX6_sheet 69 = .ok (.iload 4, 2) := by decide +kernel
theorem dX6_sheet_71 : decode cX6_sheet 71 = .ok (.iadd, 1) := by decide +kernel
theorem dX6_sheet_72 : decode cX6_sheet 72 = .ok (.iconst 0, 1) := by decide +kernel
theorem dX6_sheet_73 : decode cX6_sheet 73 = .ok (.iastore, 1) := by decide +kernel
theorem dX6_sheet_74 : decode cX6_sheet 74 = .ok (.iinc 4 1, 3) := by decide +kernel
theorem dX6_sheet_77 : decode cX6_sheet 77 = .ok (.goto (-22), 3) := by decide +kernel
theorem dX6_sheet_80 : decode cX6_sheet 80 = .ok (.iload_n 3, 1) := by decide +kernel
theorem dX6_sheet_81 : decode cX6_sheet 81 = .ok (.ireturn, 1) := by decide +kernel
set_option maxRecDepth 20000 in
theorem ggX6_lose_X6_isSheet : GoodIn wsX6_lose wsX6_isSheet := goodIn_r _ [6, 7, 8, 9, 5, 10] (by decide +kernel) (by decide +kernel)
set_option maxRecDepth 20000 in
theorem gX6_lose_X6_isSheet : GoodIn wsX6_lose (va_wsS RX6 65 yX6_isSheet wsX6_isSheet) := goodIn_app (goodIn_of _ (by decide +kernel)) ggX6_lose_X6_isSheet
set_option maxRecDepth 20000 in
theorem ggX6_lose_X6_finds : GoodIn wsX6_lose wsX6_finds := goodIn_r _ [14, 15, 16, 17, 18, 19, 20, 21, 22, 23, 24, 25, 26, 27, 28, 29, 30, 31, 32, 33, 34, 35, 36] (by decide +kernel) (by decide +kernel)
set_option maxRecDepth 20000 in
theorem gX6_lose_X6_finds : GoodIn wsX6_lose (wsV RX6 71 RX6 yX6_finds wsX6_finds) := goodIn_app (goodIn_of _ (by decide +kernel)) ggX6_lose_X6_finds
theorem dX6_lose_0 : decode cX6_lose 0 = .ok (.iload_n 1, 1) := by decide +kernel
theorem dX6_lose_1 : decode cX6_lose 1 = .ok (.invokestatic 65, 3) := by decide +kernel
theorem dX6_lose_4 : decode cX6_lose 4 = .ok (.ifCond .ne 6, 3) := by decide +kernel
theorem dX6_lose_7 : decode cX6_lose 7 = .ok (.bipush (-2), 2) := by decide +kernel
theorem dX6_lose_9 : decode cX6_lose 9 = .ok (.ireturn, 1) := by decide +kernel
theorem dX6_lose_10 : decode cX6_lose 10 = .ok (.aload_n 0, 1) := by decide +kernel
theorem dX6_lose_11 : decode cX6_lose 11 = .ok (.getfield 7, 3) := by decide +kernel
theorem dX6_lose_14 : decode cX6_lose 14 = .ok (.iload_n 1, 1) := by decide +kernel
theorem dX6_lose_15 : decode cX6_lose 15 = .ok (.iaload, 1) := by decide +kernel
theorem dX6_lose_16 : decode cX6_lose 16 = .ok (.ifCond .ge 9, 3) := by decide +kernel
theorem dX6_lose_19 : decode cX6_lose 19 = .ok (.aload_n 0, 1) := by decide +kernel
theorem dX6_lose_20 : decode cX6_lose 20 = .ok (.iconst 1, 1) := by decide +kernel
theorem dX6_lose_21 : decode cX6_lose 21 = .ok (.invokevirtual 71, 3) := by decide +kernel
theorem dX6_lose_24 : decode cX6_lose 24 = .ok (.ireturn, 1) := by decide +kernel
theorem dX6_lose_25 : decode cX6_lose 25 = .ok (.aload_n 0, 1) := by decide +kernel
theorem dX6_lose_26 : decode cX6_lose 26 = .ok (.getfield 7, 3) := by decide +kernel
theorem dX6_lose_29 : decode cX6_lose 29 = .ok (.iload_n 1, 1) := by decide +kernel
theorem dX6_lose_30 : decode cX6_lose 30 = .ok (.iconst (-1), 1) := by decide +kernel
theorem dX6_lose_31 : decode cX6_lose 31 = .ok (.iastore, 1) := by decide +kernel
theorem dX6_lose_32 : decode cX6_lose 32 = .ok (.aload_n 0, 1) := by decide +kernel
theorem dX6_lose_33 : decode cX6_lose 33 = .ok (.getfield 13, 3) := by decide +kernel
theorem dX6_lose_36 : decode cX6_lose 36 = .ok (.iload_n 1, 1) := by decide +kernel
theorem dX6_lose_37 : decode cX6_lose 37 = .ok (.iaload, 1) := by decide +kernel
theorem dX6_lose_38 : decode cX6_lose 38 = .ok (.ireturn, 1) := by decide +kernel
set_option maxRecDepth 20000 in
theorem ggX6_lacks_X6_finds : GoodIn wsX6_lacks wsX6_finds := goodIn_r _ [7, 8, 12, 13, 14, 15, 16, 17, 18, 19, 20, 21, 22, 23, 24, 25, 26, 27, 28, 29, 30, 31, 32] (by decide +kernel) (by decide +kernel)
set_option maxRecDepth 20000 in
theorem gX6_lacks_X6_finds : GoodIn wsX6_lacks (wsV RX6 71 RX6 yX6_finds wsX6_finds) := goodIn_app (goodIn_of _ (by decide +kernel)) ggX6_lacks_X6_finds
set_option maxRecDepth 20000 in
theorem ggX6_lacks_X6_in : GoodIn wsX6_lacks wsX6_in := goodIn_r _ [11] (by decide +kernel) (by decide +kernel)
set_option maxRecDepth 20000 in
theorem gX6_lacks_X6_in : GoodIn wsX6_lacks (va_wsS RX6 55 yX6_in wsX6_in) := goodIn_app (goodIn_of _ (by decide +kernel)) ggX6_lacks_X6_in
theorem dX6_lacks_0 : decode cX6_lacks 0 = .ok (.aload_n 0, 1) := by decide +kernel
theorem dX6_lacks_1 : decode cX6_lacks 1 = .ok (.getfield 7, 3) := by decide +kernel
theorem dX6_lacks_4 : decode cX6_lacks 4 = .ok (.iload_n 1, 1) := by decide +kernel
theorem dX6_lacks_5 : decode cX6_lacks 5 = .ok (.iaload, 1) := by decide +kernel
theorem dX6_lacks_6 : decode cX6_lacks 6 = .ok (.ifCond .ge 9, 3) := by decide +kernel
theorem dX6_lacks_9 : decode cX6_lacks 9 = .ok (.aload_n 0, 1) := by decide +kernel
theorem dX6_lacks_10 : decode cX6_lacks 10 = .ok (.iconst 1, 1) := by decide +kernel
theorem dX6_lacks_11 : decode cX6_lacks 11 = .ok (.invokevirtual 71, 3) := by decide +kernel
theorem dX6_lacks_14 : decode cX6_lacks 14 = .ok (.ireturn, 1) := by decide +kernel
theorem dX6_lacks_15 : decode cX6_lacks 15 = .ok (.aload_n 0, 1) := by decide +kernel
theorem dX6_lacks_16 : decode cX6_lacks 16 = .ok (.getfield 7, 3) := by decide +kernel
theorem dX6_lacks_19 : decode cX6_lacks 19 = .ok (.iload_n 1, 1) := by decide +kernel
theorem dX6_lacks_20 : decode cX6_lacks 20 = .ok (.iaload, 1) := by decide +kernel
theorem dX6_lacks_21 : decode cX6_lacks 21 = .ok (.iload_n 2, 1) := by decide +kernel
theorem dX6_lacks_22 : decode cX6_lacks 22 = .ok (.if_icmp .eq 9, 3) := by decide +kernel
theorem dX6_lacks_25 : decode cX6_lacks 25 = .ok (.aload_n 0, 1) := by decide +kernel
theorem dX6_lacks_26 : decode cX6_lacks 26 = .ok (.iconst 3, 1) := by decide +kernel
theorem dX6_lacks_27 : decode cX6_lacks 27 = .ok (.invokevirtual 71, 3) := by decide +kernel
theorem dX6_lacks_30 : decode cX6_lacks 30 = .ok (.ireturn, 1) := by decide +kernel
theorem dX6_lacks_31 : decode cX6_lacks 31 = .ok (.iload_n 3, 1) := by decide +kernel
theorem dX6_lacks_32 : decode cX6_lacks 32 = .ok (.i2l, 1) := by decide +kernel
theorem dX6_lacks_33 : decode cX6_lacks 33 = .ok (.lconst 0, 1) := by decide +kernel
theorem dX6_lacks_34 : decode cX6_lacks 34 = .ok (.aload_n 0, 1) := by decide +kernel
theorem dX6_lacks_35 : decode cX6_lacks 35 = .ok (.getfield 13, 3) := by decide +kernel
theorem dX6_lacks_38 : decode cX6_lacks 38 = .ok (.iload_n 1, 1) := by decide +kernel
theorem dX6_lacks_39 : decode cX6_lacks 39 = .ok (.iaload, 1) := by decide +kernel
theorem dX6_lacks_40 : decode cX6_lacks 40 = .ok (.iconst 1, 1) := by decide +kernel
theorem dX6_lacks_41 : decode cX6_lacks 41 = .ok (.isub, 1) := by decide +kernel
theorem dX6_lacks_42 : decode cX6_lacks 42 = .ok (.i2l, 1) := by decide +kernel
theorem dX6_lacks_43 : decode cX6_lacks 43 = .ok (.invokestatic 55, 3) := by decide +kernel
theorem dX6_lacks_46 : decode cX6_lacks 46 = .ok (.ifCond .eq 7, 3) := by decide +kernel
theorem dX6_lacks_49 : decode cX6_lacks 49 = .ok (.iconst 0, 1) := by decide +kernel
theorem dX6_lacks_50 : decode cX6_lacks 50 = .ok (.goto 8, 3) := by decide +kernel
theorem dX6_lacks_53 : decode cX6_lacks 53 = .ok (.aload_n 0, 1) := by decide +kernel
theorem dX6_lacks_54 : decode cX6_lacks 54 = .ok (.iconst 2, 1) := by decide +kernel
theorem dX6_lacks_55 : decode cX6_lacks 55 = .ok (.invokevirtual 71, 3) := by decide +kernel
theorem dX6_lacks_58 : decode cX6_lacks 58 = .ok (.ireturn, 1) := by decide +kernel
theorem dX6_cut_0 : decode cX6_cut 0 = .ok (.iload_n 0, 1) := by decide +kernel
theorem dX6_cut_1 : decode cX6_cut 1 = .ok (.ifCond .ne 8, 3) := by decide +kernel
theorem dX6_cut_4 : decode cX6_cut 4 = .ok (.iload_n 1, 1) := by decide +kernel
theorem dX6_cut_5 : decode cX6_cut 5 = .ok (.i2b, 1) := by decide +kernel
theorem dX6_cut_6 : decode cX6_cut 6 = .ok (.goto 14, 3) := by decide +kernel
theorem dX6_cut_9 : decode cX6_cut 9 = .ok (.iload_n 0, 1) := by decide +kernel
theorem dX6_cut_10 : decode cX6_cut 10 = .ok (.iconst 1, 1) := by decide +kernel
theorem dX6_cut_11 : decode cX6_cut 11 = .ok (.if_icmp .ne 8, 3) := by decide +kernel
theorem dX6_cut_14 : decode cX6_cut 14 = .ok (.iload_n 1, 1) := by decide +kernel
theorem dX6_cut_15 : decode cX6_cut 15 = .ok (.i2s, 1) := by decide +kernel
theorem dX6_cut_16 : decode cX6_cut 16 = .ok (.goto 4, 3) := by decide +kernel
theorem dX6_cut_19 : decode cX6_cut 19 = .ok (.iload_n 1, 1) := by decide +kernel
theorem dX6_cut_20 : decode cX6_cut 20 = .ok (.ireturn, 1) := by decide +kernel
set_option maxRecDepth 20000 in
theorem ggX6_lay_X6_isSheet : GoodIn wsX6_lay wsX6_isSheet := goodIn_r _ [6, 7, 8, 9, 5, 10] (by decide +kernel) (by decide +kernel)
set_option maxRecDepth 20000 in
theorem gX6_lay_X6_isSheet : GoodIn wsX6_lay (va_wsS RX6 65 yX6_isSheet wsX6_isSheet) := goodIn_app (goodIn_of _ (by decide +kernel)) ggX6_lay_X6_isSheet
set_option maxRecDepth 20000 in
theorem ggX6_lay_X6_in : GoodIn wsX6_lay wsX6_in := goodIn_r _ [10] (by decide +kernel) (by decide +kernel)
set_option maxRecDepth 20000 in
theorem gX6_lay_X6_in : GoodIn wsX6_lay (va_wsS RX6 55 yX6_in wsX6_in) := goodIn_app (goodIn_of _ (by decide +kernel)) ggX6_lay_X6_in
set_option maxRecDepth 20000 in
theorem ggX6_lay_X6_lacks : GoodIn wsX6_lay wsX6_lacks := goodIn_r _ [14, 15, 16, 17, 18, 19, 5, 20, 21, 8, 9, 10, 25, 26, 27, 28, 29, 30, 31, 32, 33, 34, 35, 36, 37, 38, 39, 40, 41, 42, 43, 44, 45] (by decide +kernel) (by decide +kernel)
set_option maxRecDepth 20000 in
theorem gX6_lay_X6_lacks : GoodIn wsX6_lay (wsV RX6 75 RX6 yX6_lacks wsX6_lacks) := goodIn_app (goodIn_of _ (by decide +kernel)) ggX6_lay_X6_lacks
set_option maxRecDepth 20000 in
theorem ggX6_lay_X6_cut : GoodIn wsX6_lay wsX6_cut := goodIn_r _ [24] (by decide +kernel) (by decide +kernel)
set_option maxRecDepth 20000 in
theorem gX6_lay_X6_cut : GoodIn wsX6_lay (va_wsS RX6 79 yX6_cut wsX6_cut) := goodIn_app (goodIn_of _ (by decide +kernel)) ggX6_lay_X6_cut
theorem dX6_lay_0 : decode cX6_lay 0 = .ok (.iload_n 1, 1) := by decide +kernel
theorem dX6_lay_1 : decode cX6_lay 1 = .ok (.invokestatic 65, 3) := by decide +kernel
theorem dX6_lay_4 : decode cX6_lay 4 = .ok (.ifCond .eq 15, 3) := by decide +kernel
theorem dX6_lay_7 : decode cX6_lay 7 = .ok (.iload_n 2, 1) := by decide +kernel
theorem dX6_lay_8 : decode cX6_lay 8 = .ok (.i2l, 1) := by decide +kernel
theorem dX6_lay_9 : decode cX6_lay 9 = .ok (.lconst 0, 1) := by decide +kernel
theorem dX6_lay_10 : decode cX6_lay 10 = .ok (.ldc2_w 69, 3) := by decide +kernel
theorem dX6_lay_13 : decode cX6_lay 13 = .ok (.invokestatic 55, 3) := by decide +kernel
theorem dX6_lay_16 : decode cX6_lay 16 = .ok (.ifCond .ne 6, 3) := by decide +kernel
theorem dX6_lay_19 : decode cX6_lay 19 = .ok (.bipush (-2), 2) := by decide +kernel
theorem dX6_lay_21 : decode cX6_lay 21 = .ok (.ireturn, 1) := by decide +kernel
theorem dX6_lay_22 : decode cX6_lay 22 = .ok (.aload_n 0, 1) := by decide +kernel
theorem dX6_lay_23 : decode cX6_lay 23 = .ok (.iload_n 1, 1) := by decide +kernel
theorem dX6_lay_24 : decode cX6_lay 24 = .ok (.iload_n 2, 1) := by decide +kernel
theorem dX6_lay_25 : decode cX6_lay 25 = .ok (.iload_n 3, 1) := by decide +kernel
theorem dX6_lay_26 : decode cX6_lay 26 = .ok (.invokevirtual 75, 3) := by decide +kernel
theorem dX6_lay_29 : decode cX6_lay 29 = .ok (.istore 5, 2) := by decide +kernel
theorem dX6_lay_31 : decode cX6_lay 31 = .ok (.iload 5, 2) := by decide +kernel
theorem dX6_lay_33 : decode cX6_lay 33 = .ok (.ifCond .eq 6, 3) := by decide +kernel
theorem dX6_lay_36 : decode cX6_lay 36 = .ok (.iload 5, 2) := by decide +kernel
theorem dX6_lay_38 : decode cX6_lay 38 = .ok (.ireturn, 1) := by decide +kernel
theorem dX6_lay_39 : decode cX6_lay 39 = .ok (.aload_n 0, 1) := by decide +kernel
theorem dX6_lay_40 : decode cX6_lay 40 = .ok (.getfield 16, 3) := by decide +kernel
theorem dX6_lay_43 : decode cX6_lay 43 = .ok (.bipush 60, 2) := by decide +kernel
theorem dX6_lay_45 : decode cX6_lay 45 = .ok (.iload_n 1, 1) := by decide +kernel
theorem dX6_lay_46 : decode cX6_lay 46 = .ok (.imul, 1) := by decide +kernel
theorem dX6_lay_47 : decode cX6_lay 47 = .ok (.iload_n 3, 1) := by decide +kernel
theorem dX6_lay_48 : decode cX6_lay 48 = .ok (.iadd, 1) := by decide +kernel
theorem dX6_lay_49 : decode cX6_lay 49 = .ok (.iload_n 2, 1) := by decide +kernel
theorem dX6_lay_50 : decode cX6_lay 50 = .ok (.iload 4, 2) := by decide +kernel
theorem dX6_lay_52 : decode cX6_lay 52 = .ok (.invokestatic 79, 3) := by decide +kernel
theorem dX6_lay_55 : decode cX6_lay 55 = .ok (.iastore, 1) := by decide +kernel
theorem dX6_lay_56 : decode cX6_lay 56 = .ok (.iconst 1, 1) := by decide +kernel
theorem dX6_lay_57 : decode cX6_lay 57 = .ok (.ireturn, 1) := by decide +kernel
set_option maxRecDepth 20000 in
theorem ggX6_get_X6_isSheet : GoodIn wsX6_get wsX6_isSheet := goodIn_r _ [7, 8, 9, 10, 6, 11] (by decide +kernel) (by decide +kernel)
set_option maxRecDepth 20000 in
theorem gX6_get_X6_isSheet : GoodIn wsX6_get (va_wsS RX6 65 yX6_isSheet wsX6_isSheet) := goodIn_app (goodIn_of _ (by decide +kernel)) ggX6_get_X6_isSheet
set_option maxRecDepth 20000 in
theorem ggX6_get_X6_in : GoodIn wsX6_get wsX6_in := goodIn_r _ [11] (by decide +kernel) (by decide +kernel)
set_option maxRecDepth 20000 in
theorem gX6_get_X6_in : GoodIn wsX6_get (va_wsS RX6 55 yX6_in wsX6_in) := goodIn_app (goodIn_of _ (by decide +kernel)) ggX6_get_X6_in
set_option maxRecDepth 20000 in
theorem ggX6_get_X6_lacks : GoodIn wsX6_get wsX6_lacks := goodIn_r _ [15, 16, 17, 18, 19, 20, 6, 21, 22, 9, 10, 11, 23, 24, 25, 26, 27, 28, 29, 30, 31, 32, 33, 34, 35, 36, 37, 38, 39, 40, 41, 42, 43] (by decide +kernel) (by decide +kernel)
set_option maxRecDepth 20000 in
theorem gX6_get_X6_lacks : GoodIn wsX6_get (wsV RX6 75 RX6 yX6_lacks wsX6_lacks) := goodIn_app (goodIn_of _ (by decide +kernel)) ggX6_get_X6_lacks
theorem dX6_get_0 : decode cX6_get 0 = .ok (.iload_n 1, 1) := by decide +kernel
theorem dX6_get_1 : decode cX6_get 1 = .ok (.invokestatic 65, 3) := by decide +kernel
theorem dX6_get_4 : decode cX6_get 4 = .ok (.ifCond .eq 25, 3) := by decide +kernel
theorem dX6_get_7 : decode cX6_get 7 = .ok (.iload_n 2, 1) := by decide +kernel
theorem dX6_get_8 : decode cX6_get 8 = .ok (.i2l, 1) := by decide +kernel
theorem dX6_get_9 : decode cX6_get 9 = .ok (.lconst 0, 1) := by decide +kernel
theorem dX6_get_10 : decode cX6_get 10 = .ok (.ldc2_w 69, 3) := by decide +kernel
theorem dX6_get_13 : decode cX6_get 13 = .ok (.invokestatic 55, 3) := by decide +kernel
theorem dX6_get_16 : decode cX6_get 16 = .ok (.ifCond .eq 13, 3) := by decide +kernel
theorem dX6_get_19 : decode cX6_get 19 = .ok (.aload_n 0, 1) := by decide +kernel
theorem dX6_get_20 : decode cX6_get 20 = .ok (.iload_n 1, 1) := by decide +kernel
theorem dX6_get_21 : decode cX6_get 21 = .ok (.iload_n 2, 1) := by decide +kernel
theorem dX6_get_22 : decode cX6_get 22 = .ok (.iload_n 3, 1) := by decide +kernel
theorem dX6_get_23 : decode cX6_get 23 = .ok (.invokevirtual 75, 3) := by decide +kernel
theorem dX6_get_26 : decode cX6_get 26 = .ok (.ifCond .eq 6, 3) := by decide +kernel
theorem dX6_get_29 : decode cX6_get 29 = .ok (.ldc 83, 2) := by decide +kernel
theorem dX6_get_31 : decode cX6_get 31 = .ok (.ireturn, 1) := by decide +kernel
theorem dX6_get_32 : decode cX6_get 32 = .ok (.aload_n 0, 1) := by decide +kernel
theorem dX6_get_33 : decode cX6_get 33 = .ok (.getfield 16, 3) := by decide +kernel
theorem dX6_get_36 : decode cX6_get 36 = .ok (.bipush 60, 2) := by decide +kernel
theorem dX6_get_38 : decode cX6_get 38 = .ok (.iload_n 1, 1) := by decide +kernel
theorem dX6_get_39 : decode cX6_get 39 = .ok (.imul, 1) := by decide +kernel
theorem dX6_get_40 : decode cX6_get 40 = .ok (.iload_n 3, 1) := by decide +kernel
theorem dX6_get_41 : decode cX6_get 41 = .ok (.iadd, 1) := by decide +kernel
theorem dX6_get_42 : decode cX6_get 42 = .ok (.iaload, 1) := by decide +kernel
theorem dX6_get_43 : decode cX6_get 43 = .ok (.ireturn, 1) := by decide +kernel
set_option maxRecDepth 20000 in
theorem ggX6_copy_X6_isSheet : GoodIn wsX6_copy wsX6_isSheet := goodIn_r _ [8, 9, 10, 11, 7, 12] (by decide +kernel) (by decide +kernel)
set_option maxRecDepth 20000 in
theorem gX6_copy_X6_isSheet : GoodIn wsX6_copy (va_wsS RX6 65 yX6_isSheet wsX6_isSheet) := goodIn_app (goodIn_of _ (by decide +kernel)) ggX6_copy_X6_isSheet
set_option maxRecDepth 20000 in
theorem ggX6_copy_X6_finds : GoodIn wsX6_copy wsX6_finds := goodIn_r _ [16, 17, 18, 19, 20, 21, 22, 23, 24, 25, 26, 27, 28, 29, 30, 31, 32, 33, 34, 35, 36, 37, 38] (by decide +kernel) (by decide +kernel)
set_option maxRecDepth 20000 in
theorem gX6_copy_X6_finds : GoodIn wsX6_copy (wsV RX6 71 RX6 yX6_finds wsX6_finds) := goodIn_app (goodIn_of _ (by decide +kernel)) ggX6_copy_X6_finds
theorem dX6_copy_0 : decode cX6_copy 0 = .ok (.iload_n 1, 1) := by decide +kernel
theorem dX6_copy_1 : decode cX6_copy 1 = .ok (.invokestatic 65, 3) := by decide +kernel
theorem dX6_copy_4 : decode cX6_copy 4 = .ok (.ifCond .eq 10, 3) := by decide +kernel
theorem dX6_copy_7 : decode cX6_copy 7 = .ok (.iload_n 3, 1) := by decide +kernel
theorem dX6_copy_8 : decode cX6_copy 8 = .ok (.invokestatic 65, 3) := by decide +kernel
theorem dX6_copy_11 : decode cX6_copy 11 = .ok (.ifCond .ne 6, 3) := by decide +kernel
theorem dX6_copy_14 : decode cX6_copy 14 = .ok (.bipush (-2), 2) := by decide +kernel
theorem dX6_copy_16 : decode cX6_copy 16 = .ok (.ireturn, 1) := by decide +kernel
theorem dX6_copy_17 : decode cX6_copy 17 = .ok (.aload_n 0, 1) := by decide +kernel
theorem dX6_copy_18 : decode cX6_copy 18 = .ok (.getfield 7, 3) := by decide +kernel
theorem dX6_copy_21 : decode cX6_copy 21 = .ok (.iload_n 1, 1) := by decide +kernel
theorem dX6_copy_22 : decode cX6_copy 22 = .ok (.iaload, 1) := by decide +kernel
theorem dX6_copy_23 : decode cX6_copy 23 = .ok (.ifCond .lt 12, 3) := by decide +kernel
theorem dX6_copy_26 : decode cX6_copy 26 = .ok (.aload_n 0, 1) := by decide +kernel
theorem dX6_copy_27 : decode cX6_copy 27 = .ok (.getfield 7, 3) := by decide +kernel
theorem dX6_copy_30 : decode cX6_copy 30 = .ok (.iload_n 3, 1) := by decide +kernel
theorem dX6_copy_31 : decode cX6_copy 31 = .ok (.iaload, 1) := by decide +kernel
theorem dX6_copy_32 : decode cX6_copy 32 = .ok (.ifCond .ge 9, 3) := by decide +kernel
theorem dX6_copy_35 : decode cX6_copy 35 = .ok (.aload_n 0, 1) := by decide +kernel
theorem dX6_copy_36 : decode cX6_copy 36 = .ok (.iconst 1, 1) := by decide +kernel
theorem dX6_copy_37 : decode cX6_copy 37 = .ok (.invokevirtual 71, 3) := by decide +kernel
theorem dX6_copy_40 : decode cX6_copy 40 = .ok (.ireturn, 1) := by decide +kernel
theorem dX6_copy_41 : decode cX6_copy 41 = .ok (.aload_n 0, 1) := by decide +kernel
theorem dX6_copy_42 : decode cX6_copy 42 = .ok (.getfield 7, 3) := by decide +kernel
theorem dX6_copy_45 : decode cX6_copy 45 = .ok (.iload_n 1, 1) := by decide +kernel
theorem dX6_copy_46 : decode cX6_copy 46 = .ok (.iaload, 1) := by decide +kernel
theorem dX6_copy_47 : decode cX6_copy 47 = .ok (.aload_n 0, 1) := by decide +kernel
theorem dX6_copy_48 : decode cX6_copy 48 = .ok (.getfield 7, 3) := by decide +kernel
theorem dX6_copy_51 : decode cX6_copy 51 = .ok (.iload_n 3, 1) := by decide +kernel
theorem dX6_copy_52 : decode cX6_copy 52 = .ok (.iaload, 1) := by decide +kernel
theorem dX6_copy_53 : decode cX6_copy 53 = .ok (.if_icmp .eq 9, 3) := by decide +kernel
theorem dX6_copy_56 : decode cX6_copy 56 = .ok (.aload_n 0, 1) := by decide +kernel
theorem dX6_copy_57 : decode cX6_copy 57 = .ok (.iconst 4, 1) := by decide +kernel
theorem dX6_copy_58 : decode cX6_copy 58 = .ok (.invokevirtual 71, 3) := by decide +kernel
theorem dX6_copy_61 : decode cX6_copy 61 = .ok (.ireturn, 1) := by decide +kernel
theorem dX6_copy_62 : decode cX6_copy 62 = .ok (.iload_n 2, 1) := by decide +kernel
theorem dX6_copy_63 : decode cX6_copy 63 = .ok (.ifCond .lt 48, 3) := by decide +kernel
theorem dX6_copy_66 : decode cX6_copy 66 = .ok (.iload 4, 2) := by decide +kernel
theorem dX6_copy_68 : decode cX6_copy 68 = .ok (.ifCond .lt 43, 3) := by decide +kernel
theorem dX6_copy_71 : decode cX6_copy 71 = .ok (.iload 5, 2) := by decide +kernel
theorem dX6_copy_73 : decode cX6_copy 73 = .ok (.ifCond .lt 38, 3) := by decide +kernel
theorem dX6_copy_76 : decode cX6_copy 76 = .ok (.iload_n 2, 1) := by decide +kernel
theorem dX6_copy_77 : decode cX6_copy 77 = .ok (.i2l, 1) := by decide +kernel
theorem dX6_copy_78 : decode cX6_copy 78 = .ok (.iload 5, 2) := by decide +kernel
theorem dX6_copy_80 : decode cX6_copy 80 = .ok (.i2l, 1) := by decide +kernel
theorem dX6_copy_81 : decode cX6_copy 81 = .ok (.ladd, 1) := by decide +kernel
theorem dX6_copy_82 : decode cX6_copy 82 = .ok (.aload_n 0, 1) := by decide +kernel
theorem dX6_copy_83 : decode cX6_copy 83 = .ok (.getfield 13, 3) := by decide +kernel
theorem dX6_copy_86 : decode cX6_copy 86 = .ok (.iload_n 1, 1) := by decide +kernel
theorem dX6_copy_87 : decode cX6_copy 87 = .ok (.iaload, 1) := by decide +kernel
theorem dX6_copy_88 : decode cX6_copy 88 = .ok (.i2l, 1) := by decide +kernel
theorem dX6_copy_89 : decode cX6_copy 89 = .ok (.lcmp, 1) := by decide +kernel
theorem dX6_copy_90 : decode cX6_copy 90 = .ok (.ifCond .gt 21, 3) := by decide +kernel
theorem dX6_copy_93 : decode cX6_copy 93 = .ok (.iload 4, 2) := by decide +kernel
theorem dX6_copy_95 : decode cX6_copy 95 = .ok (.i2l, 1) := by decide +kernel
theorem dX6_copy_96 : decode cX6_copy 96 = .ok (.iload 5, 2) := by decide +kernel
theorem dX6_copy_98 : decode cX6_copy 98 = .ok (.i2l, 1) := by decide +kernel
theorem dX6_copy_99 : decode cX6_copy 99 = .ok (.ladd, 1) := by decide +kernel
theorem dX6_copy_100 : decode cX6_copy 100 = .ok (.aload_n 0, 1) := by decide +kernel
theorem dX6_copy_101 : decode cX6_copy 101 = .ok (.getfield 13, 3) := by decide +kernel
theorem dX6_copy_104 : decode cX6_copy 104 = .ok (.iload_n 3, 1) := by decide +kernel
theorem dX6_copy_105 : decode cX6_copy 105 = .ok (.iaload, 1) := by decide +kernel
theorem dX6_copy_106 : decode cX6_copy 106 = .ok (.i2l, 1) := by decide +kernel
theorem dX6_copy_107 : decode cX6_copy 107 = .ok (.lcmp, 1) := by decide +kernel
theorem dX6_copy_108 : decode cX6_copy 108 = .ok (.ifCond .le 9, 3) := by decide +kernel
theorem dX6_copy_111 : decode cX6_copy 111 = .ok (.aload_n 0, 1) := by decide +kernel
theorem dX6_copy_112 : decode cX6_copy 112 = .ok (.iconst 2, 1) := by decide +kernel
theorem dX6_copy_113 : decode cX6_copy 113 = .ok (.invokevirtual 71, 3) := by decide +kernel
theorem dX6_copy_116 : decode cX6_copy 116 = .ok (.ireturn, 1) := by decide +kernel
theorem dX6_copy_117 : decode cX6_copy 117 = .ok (.iconst 0, 1) := by decide +kernel
theorem dX6_copy_118 : decode cX6_copy 118 = .ok (.istore 6, 2) := by decide +kernel
theorem dX6_copy_120 : decode cX6_copy 120 = .ok (.iload 6, 2) := by decide +kernel
theorem dX6_copy_122 : decode cX6_copy 122 = .ok (.iload 5, 2) := by decide +kernel
theorem dX6_copy_124 : decode cX6_copy 124 = .ok (.if_icmp .ge 30, 3) := by decide +kernel
theorem dX6_copy_127 : decode cX6_copy 127 = .ok (.aload_n 0, 1) := by decide +kernel
theorem dX6_copy_128 : decode cX6_copy 128 = .ok (.getfield 19, 3) := by decide +kernel
theorem dX6_copy_131 : decode cX6_copy 131 = .ok (.iload 6, 2) := by decide +kernel
theorem dX6_copy_133 : decode cX6_copy 133 = .ok (.aload_n 0, 1) := by decide +kernel
theorem dX6_copy_134 : decode cX6_copy 134 = .ok (.getfield 16, 3) := by decide +kernel
theorem dX6_copy_137 : decode cX6_copy 137 = .ok (.bipush 60, 2) := by decide +kernel
theorem dX6_copy_139 : decode cX6_copy 139 = .ok (.iload_n 1, 1) := by decide +kernel
theorem dX6_copy_140 : decode cX6_copy 140 = .ok (.imul, 1) := by decide +kernel
theorem dX6_copy_141 : decode cX6_copy 141 = .ok (.iload_n 2, 1) := by decide +kernel
theorem dX6_copy_142 : decode cX6_copy 142 = .ok (.iadd, 1) := by decide +kernel
theorem dX6_copy_143 : decode cX6_copy 143 = .ok (.iload 6, 2) := by decide +kernel
theorem dX6_copy_145 : decode cX6_copy 145 = .ok (.iadd, 1) := by decide +kernel
theorem dX6_copy_146 : decode cX6_copy 146 = .ok (.iaload, 1) := by decide +kernel
theorem dX6_copy_147 : decode cX6_copy 147 = .ok (.iastore, 1) := by decide +kernel
theorem dX6_copy_148 : decode cX6_copy 148 = .ok (.iinc 6 1, 3) := by decide +kernel
theorem dX6_copy_151 : decode cX6_copy 151 = .ok (.goto (-31), 3) := by decide +kernel
theorem dX6_copy_154 : decode cX6_copy 154 = .ok (.iconst 0, 1) := by decide +kernel
theorem dX6_copy_155 : decode cX6_copy 155 = .ok (.istore 6, 2) := by decide +kernel
theorem dX6_copy_157 : decode cX6_copy 157 = .ok (.iload 6, 2) := by decide +kernel
theorem dX6_copy_159 : decode cX6_copy 159 = .ok (.iload 5, 2) := by decide +kernel
theorem dX6_copy_161 : decode cX6_copy 161 = .ok (.if_icmp .ge 31, 3) := by decide +kernel
theorem dX6_copy_164 : decode cX6_copy 164 = .ok (.aload_n 0, 1) := by decide +kernel
theorem dX6_copy_165 : decode cX6_copy 165 = .ok (.getfield 16, 3) := by decide +kernel
theorem dX6_copy_168 : decode cX6_copy 168 = .ok (.bipush 60, 2) := by decide +kernel
theorem dX6_copy_170 : decode cX6_copy 170 = .ok (.iload_n 3, 1) := by decide +kernel
theorem dX6_copy_171 : decode cX6_copy 171 = .ok (.imul, 1) := by decide +kernel
theorem dX6_copy_172 : decode cX6_copy 172 = .ok (.iload 4, 2) := by decide +kernel
theorem dX6_copy_174 : decode cX6_copy 174 = .ok (.iadd, 1) := by decide +kernel
theorem dX6_copy_175 : decode cX6_copy 175 = .ok (.iload 6, 2) := by decide +kernel
theorem dX6_copy_177 : decode cX6_copy 177 = .ok (.iadd, 1) := by decide +kernel
theorem dX6_copy_178 : decode cX6_copy 178 = .ok (.aload_n 0, 1) := by decide +kernel
theorem dX6_copy_179 : decode cX6_copy 179 = .ok (.getfield 19, 3) := by decide +kernel
theorem dX6_copy_182 : decode cX6_copy 182 = .ok (.iload 6, 2) := by decide +kernel
theorem dX6_copy_184 : decode cX6_copy 184 = .ok (.iaload, 1) := by decide +kernel
theorem dX6_copy_185 : decode cX6_copy 185 = .ok (.iastore, 1) := by decide +kernel
theorem dX6_copy_186 : decode cX6_copy 186 = .ok (.iinc 6 1, 3) := by decide +kernel
theorem dX6_copy_189 : decode cX6_copy 189 = .ok (.goto (-32), 3) := by decide +kernel
theorem dX6_copy_192 : decode cX6_copy 192 = .ok (.iconst 1, 1) := by decide +kernel
theorem dX6_copy_193 : decode cX6_copy 193 = .ok (.ireturn, 1) := by decide +kernel
set_option maxRecDepth 20000 in
theorem ggX6_isMask_X6_in : GoodIn wsX6_isMask wsX6_in := goodIn_r _ [5] (by decide +kernel) (by decide +kernel)
set_option maxRecDepth 20000 in
theorem gX6_isMask_X6_in : GoodIn wsX6_isMask (va_wsS RX6 55 yX6_in wsX6_in) := goodIn_app (goodIn_of _ (by decide +kernel)) ggX6_isMask_X6_in
theorem dX6_isMask_0 : decode cX6_isMask 0 = .ok (.iload_n 0, 1) := by decide +kernel
theorem dX6_isMask_1 : decode cX6_isMask 1 = .ok (.i2l, 1) := by decide +kernel
theorem dX6_isMask_2 : decode cX6_isMask 2 = .ok (.lconst 0, 1) := by decide +kernel
theorem dX6_isMask_3 : decode cX6_isMask 3 = .ok (.ldc2_w 63, 3) := by decide +kernel
theorem dX6_isMask_6 : decode cX6_isMask 6 = .ok (.invokestatic 55, 3) := by decide +kernel
theorem dX6_isMask_9 : decode cX6_isMask 9 = .ok (.ireturn, 1) := by decide +kernel
set_option maxRecDepth 20000 in
theorem ggX6_isCell_X6_in : GoodIn wsX6_isCell wsX6_in := goodIn_r _ [5] (by decide +kernel) (by decide +kernel)
set_option maxRecDepth 20000 in
theorem gX6_isCell_X6_in : GoodIn wsX6_isCell (va_wsS RX6 55 yX6_in wsX6_in) := goodIn_app (goodIn_of _ (by decide +kernel)) ggX6_isCell_X6_in
theorem dX6_isCell_0 : decode cX6_isCell 0 = .ok (.iload_n 0, 1) := by decide +kernel
theorem dX6_isCell_1 : decode cX6_isCell 1 = .ok (.i2l, 1) := by decide +kernel
theorem dX6_isCell_2 : decode cX6_isCell 2 = .ok (.lconst 0, 1) := by decide +kernel
theorem dX6_isCell_3 : decode cX6_isCell 3 = .ok (.ldc2_w 84, 3) := by decide +kernel
theorem dX6_isCell_6 : decode cX6_isCell 6 = .ok (.invokestatic 55, 3) := by decide +kernel
theorem dX6_isCell_9 : decode cX6_isCell 9 = .ok (.ifCond .eq 19, 3) := by decide +kernel
theorem dX6_isCell_12 : decode cX6_isCell 12 = .ok (.iload_n 1, 1) := by decide +kernel
theorem dX6_isCell_13 : decode cX6_isCell 13 = .ok (.i2l, 1) := by decide +kernel
theorem dX6_isCell_14 : decode cX6_isCell 14 = .ok (.lconst 0, 1) := by decide +kernel
theorem dX6_isCell_15 : decode cX6_isCell 15 = .ok (.ldc2_w 84, 3) := by decide +kernel
theorem dX6_isCell_18 : decode cX6_isCell 18 = .ok (.invokestatic 55, 3) := by decide +kernel
theorem dX6_isCell_21 : decode cX6_isCell 21 = .ok (.ifCond .eq 7, 3) := by decide +kernel
theorem dX6_isCell_24 : decode cX6_isCell 24 = .ok (.iconst 1, 1) := by decide +kernel
theorem dX6_isCell_25 : decode cX6_isCell 25 = .ok (.goto 4, 3) := by decide +kernel
theorem dX6_isCell_28 : decode cX6_isCell 28 = .ok (.iconst 0, 1) := by decide +kernel
theorem dX6_isCell_29 : decode cX6_isCell 29 = .ok (.ireturn, 1) := by decide +kernel
set_option maxRecDepth 20000 in
theorem ggX6_dark_X6_isCell : GoodIn wsX6_dark wsX6_isCell := goodIn_r _ [5, 6, 7, 8, 4, 9] (by decide +kernel) (by decide +kernel)
set_option maxRecDepth 20000 in
theorem gX6_dark_X6_isCell : GoodIn wsX6_dark (va_wsS RX6 86 yX6_isCell wsX6_isCell) := goodIn_app (goodIn_of _ (by decide +kernel)) ggX6_dark_X6_isCell
theorem dX6_dark_0 : decode cX6_dark 0 = .ok (.iload_n 2, 1) := by decide +kernel
theorem dX6_dark_1 : decode cX6_dark 1 = .ok (.iload_n 3, 1) := by decide +kernel
theorem dX6_dark_2 : decode cX6_dark 2 = .ok (.invokestatic 86, 3) := by decide +kernel
theorem dX6_dark_5 : decode cX6_dark 5 = .ok (.ifCond .eq 21, 3) := by decide +kernel
theorem dX6_dark_8 : decode cX6_dark 8 = .ok (.aload_n 0, 1) := by decide +kernel
theorem dX6_dark_9 : decode cX6_dark 9 = .ok (.getfield 22, 3) := by decide +kernel
theorem dX6_dark_12 : decode cX6_dark 12 = .ok (.bipush 16, 2) := by decide +kernel
theorem dX6_dark_14 : decode cX6_dark 14 = .ok (.iload_n 1, 1) := by decide +kernel
theorem dX6_dark_15 : decode cX6_dark 15 = .ok (.imul, 1) := by decide +kernel
theorem dX6_dark_16 : decode cX6_dark 16 = .ok (.iload_n 3, 1) := by decide +kernel
theorem dX6_dark_17 : decode cX6_dark 17 = .ok (.iadd, 1) := by decide +kernel
theorem dX6_dark_18 : decode cX6_dark 18 = .ok (.iaload, 1) := by decide +kernel
theorem dX6_dark_19 : decode cX6_dark 19 = .ok (.iload_n 2, 1) := by decide +kernel
theorem dX6_dark_20 : decode cX6_dark 20 = .ok (.ishr, 1) := by decide +kernel
theorem dX6_dark_21 : decode cX6_dark 21 = .ok (.iconst 1, 1) := by decide +kernel
theorem dX6_dark_22 : decode cX6_dark 22 = .ok (.iand, 1) := by decide +kernel
theorem dX6_dark_23 : decode cX6_dark 23 = .ok (.goto 4, 3) := by decide +kernel
theorem dX6_dark_26 : decode cX6_dark 26 = .ok (.iconst 0, 1) := by decide +kernel
theorem dX6_dark_27 : decode cX6_dark 27 = .ok (.ireturn, 1) := by decide +kernel
set_option maxRecDepth 20000 in
theorem ggX6_darkOf_X6_dark : GoodIn wsX6_darkOf wsX6_dark := goodIn_r _ [5, 6, 7, 8, 4, 9, 10, 11, 12, 13, 14, 15, 16, 17, 18, 19, 20, 21, 22, 23, 24, 25, 26, 27, 28, 29, 30, 31, 32, 33, 34] (by decide +kernel) (by decide +kernel)
set_option maxRecDepth 20000 in
theorem gX6_darkOf_X6_dark : GoodIn wsX6_darkOf (wsV RX6 90 RX6 yX6_dark wsX6_dark) := goodIn_app (goodIn_of _ (by decide +kernel)) ggX6_darkOf_X6_dark
theorem dX6_darkOf_0 : decode cX6_darkOf 0 = .ok (.iconst 0, 1) := by decide +kernel
theorem dX6_darkOf_1 : decode cX6_darkOf 1 = .ok (.istore_n 2, 1) := by decide +kernel
theorem dX6_darkOf_2 : decode cX6_darkOf 2 = .ok (.iconst 0, 1) := by decide +kernel
theorem dX6_darkOf_3 : decode cX6_darkOf 3 = .ok (.istore_n 3, 1) := by decide +kernel
theorem dX6_darkOf_4 : decode cX6_darkOf 4 = .ok (.iload_n 3, 1) := by decide +kernel
theorem dX6_darkOf_5 : decode cX6_darkOf 5 = .ok (.sipush 256, 3) := by decide +kernel
theorem dX6_darkOf_8 : decode cX6_darkOf 8 = .ok (.if_icmp .ge 25, 3) := by decide +kernel
theorem dX6_darkOf_11 : decode cX6_darkOf 11 = .ok (.iload_n 2, 1) := by decide +kernel
theorem dX6_darkOf_12 : decode cX6_darkOf 12 = .ok (.aload_n 0, 1) := by decide +kernel
theorem dX6_darkOf_13 : decode cX6_darkOf 13 = .ok (.iload_n 1, 1) := by decide +kernel
theorem dX6_darkOf_14 : decode cX6_darkOf 14 = .ok (.iload_n 3, 1) := by decide +kernel
theorem dX6_darkOf_15 : decode cX6_darkOf 15 = .ok (.bipush 16, 2) := by decide +kernel
theorem dX6_darkOf_17 : decode cX6_darkOf 17 = .ok (.irem, 1) := by decide +kernel
theorem dX6_darkOf_18 : decode cX6_darkOf 18 = .ok (.iload_n 3, 1) := by decide +kernel
theorem dX6_darkOf_19 : decode cX6_darkOf 19 = .ok (.bipush 16, 2) := by decide +kernel
theorem dX6_darkOf_21 : decode cX6_darkOf 21 = .ok (.idiv, 1) := by decide +kernel
theorem dX6_darkOf_22 : decode cX6_darkOf 22 = .ok (.invokevirtual 90, 3) := by decide +kernel
theorem dX6_darkOf_25 : decode cX6_darkOf 25 = .ok (.iadd, 1) := by decide +kernel
theorem dX6_darkOf_26 : decode cX6_darkOf 26 = .ok (.istore_n 2, 1) := by decide +kernel
theorem dX6_darkOf_27 : decode cX6_darkOf 27 = .ok (.iinc 3 1, 3) := by decide +kernel
theorem dX6_darkOf_30 : decode cX6_darkOf 30 = .ok (.goto (-26), 3) := by decide +kernel
theorem dX6_darkOf_33 : decode cX6_darkOf 33 = .ok (.iload_n 2, 1) := by decide +kernel
theorem dX6_darkOf_34 : decode cX6_darkOf 34 = .ok (.ireturn, 1) := by decide +kernel
theorem dX6_clears_0 : decode cX6_clears 0 = .ok (.iconst 0, 1) := by decide +kernel
theorem dX6_clears_1 : decode cX6_clears 1 = .ok (.istore_n 1, 1) := by decide +kernel
theorem dX6_clears_2 : decode cX6_clears 2 = .ok (.iload_n 1, 1) := by decide +kernel
theorem dX6_clears_3 : decode cX6_clears 3 = .ok (.bipush 16, 2) := by decide +kernel
theorem dX6_clears_5 : decode cX6_clears 5 = .ok (.if_icmp .ge 16, 3) := by decide +kernel
theorem dX6_clears_8 : decode cX6_clears 8 = .ok (.aload_n 0, 1) := by decide +kernel
theorem dX6_clears_9 : decode cX6_clears 9 = .ok (.getfield 25, 3) := by decide +kernel
theorem dX6_clears_12 : decode cX6_clears 12 = .ok (.iload_n 1, 1) := by decide +kernel
theorem dX6_clears_13 : decode cX6_clears 13 = .ok (.iconst 0, 1) := by decide +kernel
theorem dX6_clears_14 : decode cX6_clears 14 = .ok (.iastore, 1) := by decide +kernel
theorem dX6_clears_15 : decode cX6_clears 15 = .ok (.iinc 1 1, 3) := by decide +kernel
theorem dX6_clears_18 : decode cX6_clears 18 = .ok (.goto (-16), 3) := by decide +kernel
theorem dX6_clears_21 : decode cX6_clears 21 = .ok (.return_, 1) := by decide +kernel
theorem dX6_starts_0 : decode cX6_starts 0 = .ok (.iconst 0, 1) := by decide +kernel
theorem dX6_starts_1 : decode cX6_starts 1 = .ok (.istore_n 2, 1) := by decide +kernel
theorem dX6_starts_2 : decode cX6_starts 2 = .ok (.iload_n 2, 1) := by decide +kernel
theorem dX6_starts_3 : decode cX6_starts 3 = .ok (.bipush 16, 2) := by decide +kernel
theorem dX6_starts_5 : decode cX6_starts 5 = .ok (.if_icmp .ge 26, 3) := by decide +kernel
theorem dX6_starts_8 : decode cX6_starts 8 = .ok (.aload_n 0, 1) := by decide +kernel
theorem dX6_starts_9 : decode cX6_starts 9 = .ok (.getfield 25, 3) := by decide +kernel
theorem dX6_starts_12 : decode cX6_starts 12 = .ok (.iload_n 2, 1) := by decide +kernel
theorem dX6_starts_13 : decode cX6_starts 13 = .ok (.aload_n 0, 1) := by decide +kernel
theorem dX6_starts_14 : decode cX6_starts 14 = .ok (.getfield 22, 3) := by decide +kernel
theorem dX6_starts_17 : decode cX6_starts 17 = .ok (.bipush 16, 2) := by decide +kernel
theorem dX6_starts_19 : decode cX6_starts 19 = .ok (.iload_n 1, 1) := by decide +kernel
theorem dX6_starts_20 : decode cX6_starts 20 = .ok (.imul, 1) := by decide +kernel
theorem dX6_starts_21 : decode cX6_starts 21 = .ok (.iload_n 2, 1) := by decide +kernel
theorem dX6_starts_22 : decode cX6_starts 22 = .ok (.iadd, 1) := by decide +kernel
theorem dX6_starts_23 : decode cX6_starts 23 = .ok (.iaload, 1) := by decide +kernel
theorem dX6_starts_24 : decode cX6_starts 24 = .ok (.iastore, 1) := by decide +kernel
theorem dX6_starts_25 : decode cX6_starts 25 = .ok (.iinc 2 1, 3) := by decide +kernel
theorem dX6_starts_28 : decode cX6_starts 28 = .ok (.goto (-26), 3) := by decide +kernel
theorem dX6_starts_31 : decode cX6_starts 31 = .ok (.return_, 1) := by decide +kernel
theorem dX6_sets_0 : decode cX6_sets 0 = .ok (.aload_n 0, 1) := by decide +kernel
theorem dX6_sets_1 : decode cX6_sets 1 = .ok (.getfield 25, 3) := by decide +kernel
theorem dX6_sets_4 : decode cX6_sets 4 = .ok (.iload_n 2, 1) := by decide +kernel
theorem dX6_sets_5 : decode cX6_sets 5 = .ok (.aload_n 0, 1) := by decide +kernel
theorem dX6_sets_6 : decode cX6_sets 6 = .ok (.getfield 25, 3) := by decide +kernel
theorem dX6_sets_9 : decode cX6_sets 9 = .ok (.iload_n 2, 1) := by decide +kernel
theorem dX6_sets_10 : decode cX6_sets 10 = .ok (.iaload, 1) := by decide +kernel
theorem dX6_sets_11 : decode cX6_sets 11 = .ok (.iconst 1, 1) := by decide +kernel
theorem dX6_sets_12 : decode cX6_sets 12 = .ok (.iload_n 1, 1) := by decide +kernel
theorem dX6_sets_13 : decode cX6_sets 13 = .ok (.ishl, 1) := by decide +kernel
theorem dX6_sets_14 : decode cX6_sets 14 = .ok (.iconst (-1), 1) := by decide +kernel
theorem dX6_sets_15 : decode cX6_sets 15 = .ok (.ixor, 1) := by decide +kernel
theorem dX6_sets_16 : decode cX6_sets 16 = .ok (.iand, 1) := by decide +kernel
theorem dX6_sets_17 : decode cX6_sets 17 = .ok (.iload_n 3, 1) := by decide +kernel
theorem dX6_sets_18 : decode cX6_sets 18 = .ok (.iload_n 1, 1) := by decide +kernel
theorem dX6_sets_19 : decode cX6_sets 19 = .ok (.ishl, 1) := by decide +kernel
theorem dX6_sets_20 : decode cX6_sets 20 = .ok (.ior, 1) := by decide +kernel
theorem dX6_sets_21 : decode cX6_sets 21 = .ok (.iastore, 1) := by decide +kernel
theorem dX6_sets_22 : decode cX6_sets 22 = .ok (.return_, 1) := by decide +kernel
theorem dX6_becomes_0 : decode cX6_becomes 0 = .ok (.aload_n 0, 1) := by decide +kernel
theorem dX6_becomes_1 : decode cX6_becomes 1 = .ok (.getfield 93, 3) := by decide +kernel
theorem dX6_becomes_4 : decode cX6_becomes 4 = .ok (.bipush 40, 2) := by decide +kernel
theorem dX6_becomes_6 : decode cX6_becomes 6 = .ok (.if_icmp .ne 72, 3) := by decide +kernel
theorem dX6_becomes_9 : decode cX6_becomes 9 = .ok (.iconst 1, 1) := by decide +kernel
theorem dX6_becomes_10 : decode cX6_becomes 10 = .ok (.istore_n 2, 1) := by decide +kernel
theorem dX6_becomes_11 : decode cX6_becomes 11 = .ok (.iload_n 2, 1) := by decide +kernel
theorem dX6_becomes_12 : decode cX6_becomes 12 = .ok (.bipush 40, 2) := by decide +kernel
theorem dX6_becomes_14 : decode cX6_becomes 14 = .ok (.if_icmp .ge 23, 3) := by decide +kernel
theorem dX6_becomes_17 : decode cX6_becomes 17 = .ok (.aload_n 0, 1) := by decide +kernel
theorem dX6_becomes_18 : decode cX6_becomes 18 = .ok (.getfield 28, 3) := by decide +kernel
theorem dX6_becomes_21 : decode cX6_becomes 21 = .ok (.iload_n 2, 1) := by decide +kernel
theorem dX6_becomes_22 : decode cX6_becomes 22 = .ok (.iconst 1, 1) := by decide +kernel
theorem dX6_becomes_23 : decode cX6_becomes 23 = .ok (.isub, 1) := by decide +kernel
theorem dX6_becomes_24 : decode cX6_becomes 24 = .ok (.aload_n 0, 1) := by decide +kernel
theorem dX6_becomes_25 : decode cX6_becomes 25 = .ok (.getfield 28, 3) := by decide +kernel
theorem dX6_becomes_28 : decode cX6_becomes 28 = .ok (.iload_n 2, 1) := by decide +kernel
theorem dX6_becomes_29 : decode cX6_becomes 29 = .ok (.iaload, 1) := by decide +kernel
theorem dX6_becomes_30 : decode cX6_becomes 30 = .ok (.iastore, 1) := by decide +kernel
theorem dX6_becomes_31 : decode cX6_becomes 31 = .ok (.iinc 2 1, 3) := by decide +kernel
theorem dX6_becomes_34 : decode cX6_becomes 34 = .ok (.goto (-23), 3) := by decide +kernel
theorem dX6_becomes_37 : decode cX6_becomes 37 = .ok (.bipush 16, 2) := by decide +kernel
theorem dX6_becomes_39 : decode cX6_becomes 39 = .ok (.istore_n 2, 1) := by decide +kernel
theorem dX6_becomes_40 : decode cX6_becomes 40 = .ok (.iload_n 2, 1) := by decide +kernel
theorem dX6_becomes_41 : decode cX6_becomes 41 = .ok (.sipush 640, 3) := by decide +kernel
theorem dX6_becomes_44 : decode cX6_becomes 44 = .ok (.if_icmp .ge 24, 3) := by decide +kernel
theorem dX6_becomes_47 : decode cX6_becomes 47 = .ok (.aload_n 0, 1) := by decide +kernel
theorem dX6_becomes_48 : decode cX6_becomes 48 = .ok (.getfield 31, 3) := by decide +kernel
theorem dX6_becomes_51 : decode cX6_becomes 51 = .ok (.iload_n 2, 1) := by decide +kernel
theorem dX6_becomes_52 : decode cX6_becomes 52 = .ok (.bipush 16, 2) := by decide +kernel
theorem dX6_becomes_54 : decode cX6_becomes 54 = .ok (.isub, 1) := by decide +kernel
theorem dX6_becomes_55 : decode cX6_becomes 55 = .ok (.aload_n 0, 1) := by decide +kernel
theorem dX6_becomes_56 : decode cX6_becomes 56 = .ok (.getfield 31, 3) := by decide +kernel
theorem dX6_becomes_59 : decode cX6_becomes 59 = .ok (.iload_n 2, 1) := by decide +kernel
theorem dX6_becomes_60 : decode cX6_becomes 60 = .ok (.iaload, 1) := by decide +kernel
theorem dX6_becomes_61 : decode cX6_becomes 61 = .ok (.iastore, 1) := by decide +kernel
theorem dX6_becomes_62 : decode cX6_becomes 62 = .ok (.iinc 2 1, 3) := by decide +kernel
theorem dX6_becomes_65 : decode cX6_becomes 65 = .ok (.goto (-25), 3) := by decide +kernel
theorem dX6_becomes_68 : decode cX6_becomes 68 = .ok (.aload_n 0, 1) := by decide +kernel
theorem dX6_becomes_69 : decode cX6_becomes 69 = .ok (.dup, 1) := by decide +kernel
theorem dX6_becomes_70 : decode cX6_becomes 70 = .ok (.getfield 93, 3) := by decide +kernel
theorem dX6_becomes_73 : decode cX6_becomes 73 = .ok (.iconst 1, 1) := by decide +kernel
theorem dX6_becomes_74 : decode cX6_becomes 74 = .ok (.isub, 1) := by decide +kernel
theorem dX6_becomes_75 : decode cX6_becomes 75 = .ok (.putfield 93, 3) := by decide +kernel
theorem dX6_becomes_78 : decode cX6_becomes 78 = .ok (.aload_n 0, 1) := by decide +kernel
theorem dX6_becomes_79 : decode cX6_becomes 79 = .ok (.getfield 28, 3) := by decide +kernel
theorem dX6_becomes_82 : decode cX6_becomes 82 = .ok (.aload_n 0, 1) := by decide +kernel
theorem dX6_becomes_83 : decode cX6_becomes 83 = .ok (.getfield 93, 3) := by decide +kernel
theorem dX6_becomes_86 : decode cX6_becomes 86 = .ok (.iload_n 1, 1) := by decide +kernel
theorem dX6_becomes_87 : decode cX6_becomes 87 = .ok (.iastore, 1) := by decide +kernel
theorem dX6_becomes_88 : decode cX6_becomes 88 = .ok (.iconst 0, 1) := by decide +kernel
theorem dX6_becomes_89 : decode cX6_becomes 89 = .ok (.istore_n 2, 1) := by decide +kernel
theorem dX6_becomes_90 : decode cX6_becomes 90 = .ok (.iload_n 2, 1) := by decide +kernel
theorem dX6_becomes_91 : decode cX6_becomes 91 = .ok (.bipush 16, 2) := by decide +kernel
theorem dX6_becomes_93 : decode cX6_becomes 93 = .ok (.if_icmp .ge 51, 3) := by decide +kernel
theorem dX6_becomes_96 : decode cX6_becomes 96 = .ok (.aload_n 0, 1) := by decide +kernel
theorem dX6_becomes_97 : decode cX6_becomes 97 = .ok (.getfield 31, 3) := by decide +kernel
theorem dX6_becomes_100 : decode cX6_becomes 100 = .ok (.bipush 16, 2) := by decide +kernel
theorem dX6_becomes_102 : decode cX6_becomes 102 = .ok (.aload_n 0, 1) := by decide +kernel
theorem dX6_becomes_103 : decode cX6_becomes 103 = .ok (.getfield 93, 3) := by decide +kernel
theorem dX6_becomes_106 : decode cX6_becomes 106 = .ok (.imul, 1) := by decide +kernel
theorem dX6_becomes_107 : decode cX6_becomes 107 = .ok (.iload_n 2, 1) := by decide +kernel
theorem dX6_becomes_108 : decode cX6_becomes 108 = .ok (.iadd, 1) := by decide +kernel
theorem dX6_becomes_109 : decode cX6_becomes 109 = .ok (.aload_n 0, 1) := by decide +kernel
theorem dX6_becomes_110 : decode cX6_becomes 110 = .ok (.getfield 22, 3) := by decide +kernel
theorem dX6_becomes_113 : decode cX6_becomes 113 = .ok (.bipush 16, 2) := by decide +kernel
theorem dX6_becomes_115 : decode cX6_becomes 115 = .ok (.iload_n 1, 1) := by decide +kernel
theorem dX6_becomes_116 : decode cX6_becomes 116 = .ok (.imul, 1) := by decide +kernel
theorem dX6_becomes_117 : decode cX6_becomes 117 = .ok (.iload_n 2, 1) := by decide +kernel
theorem dX6_becomes_118 : decode cX6_becomes 118 = .ok (.iadd, 1) := by decide +kernel
theorem dX6_becomes_119 : decode cX6_becomes 119 = .ok (.iaload, 1) := by decide +kernel
theorem dX6_becomes_120 : decode cX6_becomes 120 = .ok (.iastore, 1) := by decide +kernel
theorem dX6_becomes_121 : decode cX6_becomes 121 = .ok (.aload_n 0, 1) := by decide +kernel
theorem dX6_becomes_122 : decode cX6_becomes 122 = .ok (.getfield 22, 3) := by decide +kernel
theorem dX6_becomes_125 : decode cX6_becomes 125 = .ok (.bipush 16, 2) := by decide +kernel
theorem dX6_becomes_127 : decode cX6_becomes 127 = .ok (.iload_n 1, 1) := by decide +kernel
theorem dX6_becomes_128 : decode cX6_becomes 128 = .ok (.imul, 1) := by decide +kernel
theorem dX6_becomes_129 : decode cX6_becomes 129 = .ok (.iload_n 2, 1) := by decide +kernel
theorem dX6_becomes_130 : decode cX6_becomes 130 = .ok (.iadd, 1) := by decide +kernel
theorem dX6_becomes_131 : decode cX6_becomes 131 = .ok (.aload_n 0, 1) := by decide +kernel
theorem dX6_becomes_132 : decode cX6_becomes 132 = .ok (.getfield 25, 3) := by decide +kernel
theorem dX6_becomes_135 : decode cX6_becomes 135 = .ok (.iload_n 2, 1) := by decide +kernel
theorem dX6_becomes_136 : decode cX6_becomes 136 = .ok (.iaload, 1) := by decide +kernel
theorem dX6_becomes_137 : decode cX6_becomes 137 = .ok (.iastore, 1) := by decide +kernel
theorem dX6_becomes_138 : decode cX6_becomes 138 = .ok (.iinc 2 1, 3) := by decide +kernel
theorem dX6_becomes_141 : decode cX6_becomes 141 = .ok (.goto (-51), 3) := by decide +kernel
theorem dX6_becomes_144 : decode cX6_becomes 144 = .ok (.aload_n 0, 1) := by decide +kernel
theorem dX6_becomes_145 : decode cX6_becomes 145 = .ok (.dup, 1) := by decide +kernel
theorem dX6_becomes_146 : decode cX6_becomes 146 = .ok (.getfield 93, 3) := by decide +kernel
theorem dX6_becomes_149 : decode cX6_becomes 149 = .ok (.iconst 1, 1) := by decide +kernel
theorem dX6_becomes_150 : decode cX6_becomes 150 = .ok (.iadd, 1) := by decide +kernel
theorem dX6_becomes_151 : decode cX6_becomes 151 = .ok (.putfield 93, 3) := by decide +kernel
theorem dX6_becomes_154 : decode cX6_becomes 154 = .ok (.return_, 1) := by decide +kernel
set_option maxRecDepth 20000 in
theorem ggX6_become_X6_becomes : GoodIn wsX6_become wsX6_becomes := goodIn_r _ [5, 6, 7, 8, 9, 10, 26, 27, 28, 29, 30, 31, 32, 33, 34, 35, 36, 37, 38, 39, 40, 41, 42, 43, 44, 45, 46] (by decide +kernel) (by decide +kernel)
set_option maxRecDepth 20000 in
theorem gX6_become_X6_becomes : GoodIn wsX6_become (wsV RX6 96 RX6 yX6_becomes wsX6_becomes) := goodIn_app (goodIn_of _ (by decide +kernel)) ggX6_become_X6_becomes
set_option maxRecDepth 20000 in
theorem ggX6_become_X6_darkOf : GoodIn wsX6_become wsX6_darkOf := goodIn_r _ [14, 15, 16, 17, 4, 18, 9, 19, 20, 21, 22, 23, 24, 25, 26, 27, 28, 29, 30, 31, 32, 33, 34, 35, 36, 37, 38, 39, 40, 41, 42, 43, 44, 45, 46] (by decide +kernel) (by decide +kernel)
set_option maxRecDepth 20000 in
theorem gX6_become_X6_darkOf : GoodIn wsX6_become (wsV RX6 100 RX6 yX6_darkOf wsX6_darkOf) := goodIn_app (goodIn_of _ (by decide +kernel)) ggX6_become_X6_darkOf
theorem dX6_become_0 : decode cX6_become 0 = .ok (.aload_n 0, 1) := by decide +kernel
theorem dX6_become_1 : decode cX6_become 1 = .ok (.iload_n 1, 1) := by decide +kernel
theorem dX6_become_2 : decode cX6_become 2 = .ok (.invokevirtual 96, 3) := by decide +kernel
theorem dX6_become_5 : decode cX6_become 5 = .ok (.aload_n 0, 1) := by decide +kernel
theorem dX6_become_6 : decode cX6_become 6 = .ok (.iload_n 1, 1) := by decide +kernel
theorem dX6_become_7 : decode cX6_become 7 = .ok (.invokevirtual 100, 3) := by decide +kernel
theorem dX6_become_10 : decode cX6_become 10 = .ok (.ireturn, 1) := by decide +kernel
set_option maxRecDepth 20000 in
theorem ggX6_fill_X6_isMask : GoodIn wsX6_fill wsX6_isMask := goodIn_r _ [5, 6, 7, 8, 4, 9] (by decide +kernel) (by decide +kernel)
set_option maxRecDepth 20000 in
theorem gX6_fill_X6_isMask : GoodIn wsX6_fill (va_wsS RX6 103 yX6_isMask wsX6_isMask) := goodIn_app (goodIn_of _ (by decide +kernel)) ggX6_fill_X6_isMask
set_option maxRecDepth 20000 in
theorem ggX6_fill_X6_isCell : GoodIn wsX6_fill wsX6_isCell := goodIn_r _ [12, 13, 7, 8, 4, 9] (by decide +kernel) (by decide +kernel)
set_option maxRecDepth 20000 in
theorem gX6_fill_X6_isCell : GoodIn wsX6_fill (va_wsS RX6 86 yX6_isCell wsX6_isCell) := goodIn_app (goodIn_of _ (by decide +kernel)) ggX6_fill_X6_isCell
set_option maxRecDepth 20000 in
theorem ggX6_fill_X6_in : GoodIn wsX6_fill wsX6_in := goodIn_r _ [9] (by decide +kernel) (by decide +kernel)
set_option maxRecDepth 20000 in
theorem gX6_fill_X6_in : GoodIn wsX6_fill (va_wsS RX6 55 yX6_in wsX6_in) := goodIn_app (goodIn_of _ (by decide +kernel)) ggX6_fill_X6_in
set_option maxRecDepth 20000 in
theorem ggX6_fill_X6_isTwo : GoodIn wsX6_fill wsX6_isTwo := goodIn_r _ [16, 7, 8, 4, 9] (by decide +kernel) (by decide +kernel)
set_option maxRecDepth 20000 in
theorem gX6_fill_X6_isTwo : GoodIn wsX6_fill (va_wsS RX6 108 yX6_isTwo wsX6_isTwo) := goodIn_app (goodIn_of _ (by decide +kernel)) ggX6_fill_X6_isTwo
set_option maxRecDepth 20000 in
theorem ggX6_fill_X6_starts : GoodIn wsX6_fill wsX6_starts := goodIn_r _ [20, 21, 22, 46, 47, 48, 49, 50, 51, 52, 53, 54, 55, 56, 57, 58, 59, 60, 61, 62, 63, 64, 65, 66] (by decide +kernel) (by decide +kernel)
set_option maxRecDepth 20000 in
theorem gX6_fill_X6_starts : GoodIn wsX6_fill (wsV RX6 111 RX6 yX6_starts wsX6_starts) := goodIn_app (goodIn_of _ (by decide +kernel)) ggX6_fill_X6_starts
set_option maxRecDepth 20000 in
theorem ggX6_fill_X6_sets : GoodIn wsX6_fill wsX6_sets := goodIn_r _ [26, 21, 46, 47, 48, 49, 50, 51, 52, 53, 54, 55, 56, 57, 58, 59, 60, 61, 62, 63, 64, 65, 66] (by decide +kernel) (by decide +kernel)
set_option maxRecDepth 20000 in
theorem gX6_fill_X6_sets : GoodIn wsX6_fill (wsV RX6 114 RX6 yX6_sets wsX6_sets) := goodIn_app (goodIn_of _ (by decide +kernel)) ggX6_fill_X6_sets
set_option maxRecDepth 20000 in
theorem ggX6_fill_X6_become : GoodIn wsX6_fill wsX6_become := goodIn_r _ [30, 31, 32, 33, 4, 34, 35, 36, 37, 22, 21, 38, 39, 40, 41, 42, 43, 44, 45, 10, 11, 12, 13, 7, 8, 9, 46, 47, 48, 49, 50, 51, 52, 53, 54, 55, 56, 57, 58, 59, 60, 61, 62, 63, 64, 65, 66] (by decide +kernel) (by decide +kernel)
set_option maxRecDepth 20000 in
theorem gX6_fill_X6_become : GoodIn wsX6_fill (wsV RX6 118 RX6 yX6_become wsX6_become) := goodIn_app (goodIn_of _ (by decide +kernel)) ggX6_fill_X6_become
theorem dX6_fill_0 : decode cX6_fill 0 = .ok (.iload_n 1, 1) := by decide +kernel
theorem dX6_fill_1 : decode cX6_fill 1 = .ok (.invokestatic 103, 3) := by decide +kernel
theorem dX6_fill_4 : decode cX6_fill 4 = .ok (.ifCond .eq 45, 3) := by decide +kernel
theorem dX6_fill_7 : decode cX6_fill 7 = .ok (.iload_n 2, 1) := by decide +kernel
theorem dX6_fill_8 : decode cX6_fill 8 = .ok (.iload_n 3, 1) := by decide +kernel
theorem dX6_fill_9 : decode cX6_fill 9 = .ok (.invokestatic 86, 3) := by decide +kernel
theorem dX6_fill_12 : decode cX6_fill 12 = .ok (.ifCond .eq 37, 3) := by decide +kernel
theorem dX6_fill_15 : decode cX6_fill 15 = .ok (.iload 4, 2) := by decide +kernel
theorem dX6_fill_17 : decode cX6_fill 17 = .ok (.i2l, 1) := by decide +kernel
theorem dX6_fill_18 : decode cX6_fill 18 = .ok (.lconst 0, 1) := by decide +kernel
theorem dX6_fill_19 : decode cX6_fill 19 = .ok (.ldc2_w 106, 3) := by decide +kernel
theorem dX6_fill_22 : decode cX6_fill 22 = .ok (.invokestatic 55, 3) := by decide +kernel
theorem dX6_fill_25 : decode cX6_fill 25 = .ok (.ifCond .eq 24, 3) := by decide +kernel
theorem dX6_fill_28 : decode cX6_fill 28 = .ok (.iload 5, 2) := by decide +kernel
theorem dX6_fill_30 : decode cX6_fill 30 = .ok (.i2l, 1) := by decide +kernel
theorem dX6_fill_31 : decode cX6_fill 31 = .ok (.lconst 0, 1) := by decide +kernel
theorem dX6_fill_32 : decode cX6_fill 32 = .ok (.ldc2_w 106, 3) := by decide +kernel
theorem dX6_fill_35 : decode cX6_fill 35 = .ok (.invokestatic 55, 3) := by decide +kernel
theorem dX6_fill_38 : decode cX6_fill 38 = .ok (.ifCond .eq 11, 3) := by decide +kernel
theorem dX6_fill_41 : decode cX6_fill 41 = .ok (.iload 6, 2) := by decide +kernel
theorem dX6_fill_43 : decode cX6_fill 43 = .ok (.invokestatic 108, 3) := by decide +kernel
theorem dX6_fill_46 : decode cX6_fill 46 = .ok (.ifCond .ne 6, 3) := by decide +kernel
theorem dX6_fill_49 : decode cX6_fill 49 = .ok (.bipush (-2), 2) := by decide +kernel
theorem dX6_fill_51 : decode cX6_fill 51 = .ok (.ireturn, 1) := by decide +kernel
theorem dX6_fill_52 : decode cX6_fill 52 = .ok (.aload_n 0, 1) := by decide +kernel
theorem dX6_fill_53 : decode cX6_fill 53 = .ok (.iload_n 1, 1) := by decide +kernel
theorem dX6_fill_54 : decode cX6_fill 54 = .ok (.invokevirtual 111, 3) := by decide +kernel
theorem dX6_fill_57 : decode cX6_fill 57 = .ok (.iconst 0, 1) := by decide +kernel
theorem dX6_fill_58 : decode cX6_fill 58 = .ok (.istore 7, 2) := by decide +kernel
theorem dX6_fill_60 : decode cX6_fill 60 = .ok (.iload 7, 2) := by decide +kernel
theorem dX6_fill_62 : decode cX6_fill 62 = .ok (.sipush 256, 3) := by decide +kernel
theorem dX6_fill_65 : decode cX6_fill 65 = .ok (.if_icmp .ge 67, 3) := by decide +kernel
theorem dX6_fill_68 : decode cX6_fill 68 = .ok (.iload 7, 2) := by decide +kernel
theorem dX6_fill_70 : decode cX6_fill 70 = .ok (.bipush 16, 2) := by decide +kernel
theorem dX6_fill_72 : decode cX6_fill 72 = .ok (.irem, 1) := by decide +kernel
theorem dX6_fill_73 : decode cX6_fill 73 = .ok (.i2l, 1) := by decide +kernel
theorem dX6_fill_74 : decode cX6_fill 74 = .ok (.iload_n 2, 1) := by decide +kernel
theorem dX6_fill_75 : decode cX6_fill 75 = .ok (.i2l, 1) := by decide +kernel
theorem dX6_fill_76 : decode cX6_fill 76 = .ok (.iload_n 2, 1) := by decide +kernel
theorem dX6_fill_77 : decode cX6_fill 77 = .ok (.iload 4, 2) := by decide +kernel
theorem dX6_fill_79 : decode cX6_fill 79 = .ok (.iadd, 1) := by decide +kernel
theorem dX6_fill_80 : decode cX6_fill 80 = .ok (.iconst 1, 1) := by decide +kernel
theorem dX6_fill_81 : decode cX6_fill 81 = .ok (.isub, 1) := by decide +kernel
theorem dX6_fill_82 : decode cX6_fill 82 = .ok (.i2l, 1) := by decide +kernel
theorem dX6_fill_83 : decode cX6_fill 83 = .ok (.invokestatic 55, 3) := by decide +kernel
theorem dX6_fill_86 : decode cX6_fill 86 = .ok (.ifCond .eq 40, 3) := by decide +kernel
theorem dX6_fill_89 : decode cX6_fill 89 = .ok (.iload 7, 2) := by decide +kernel
theorem dX6_fill_91 : decode cX6_fill 91 = .ok (.bipush 16, 2) := by decide +kernel
theorem dX6_fill_93 : decode cX6_fill 93 = .ok (.idiv, 1) := by decide +kernel
theorem dX6_fill_94 : decode cX6_fill 94 = .ok (.i2l, 1) := by decide +kernel
theorem dX6_fill_95 : decode cX6_fill 95 = .ok (.iload_n 3, 1) := by decide +kernel
theorem dX6_fill_96 : decode cX6_fill 96 = .ok (.i2l, 1) := by decide +kernel
theorem dX6_fill_97 : decode cX6_fill 97 = .ok (.iload_n 3, 1) := by decide +kernel
theorem dX6_fill_98 : decode cX6_fill 98 = .ok (.iload 5, 2) := by decide +kernel
theorem dX6_fill_100 : decode cX6_fill 100 = .ok (.iadd, 1) := by decide +kernel
theorem dX6_fill_101 : decode cX6_fill 101 = .ok (.iconst 1, 1) := by decide +kernel
theorem dX6_fill_102 : decode cX6_fill 102 = .ok (.isub, 1) := by decide +kernel
theorem dX6_fill_103 : decode cX6_fill 103 = .ok (.i2l, 1) := by decide +kernel
theorem dX6_fill_104 : decode cX6_fill 104 = .ok (.invokestatic 55, 3) := by decide +kernel
theorem dX6_fill_107 : decode cX6_fill 107 = .ok (.ifCond .eq 19, 3) := by decide +kernel
theorem dX6_fill_110 : decode cX6_fill 110 = .ok (.aload_n 0, 1) := by decide +kernel
theorem dX6_fill_111 : decode cX6_fill 111 = .ok (.iload 7, 2) := by decide +kernel
theorem dX6_fill_113 : decode cX6_fill 113 = .ok (.bipush 16, 2) := by decide +kernel
theorem dX6_fill_115 : decode cX6_fill 115 = .ok (.irem, 1) := by decide +kernel
theorem dX6_fill_116 : decode cX6_fill 116 = .ok (.iload 7, 2) := by decide +kernel
theorem dX6_fill_118 : decode cX6_fill 118 = .ok (.bipush 16, 2) := by decide +kernel
theorem dX6_fill_120 : decode cX6_fill 120 = .ok (.idiv, 1) := by decide +kernel
theorem dX6_fill_121 : decode cX6_fill 121 = .ok (.iload 6, 2) := by decide +kernel
theorem dX6_fill_123 : decode cX6_fill 123 = .ok (.invokevirtual 114, 3) := by decide +kernel
theorem dX6_fill_126 : decode cX6_fill 126 = .ok (.iinc 7 1, 3) := by decide +kernel
theorem dX6_fill_129 : decode cX6_fill 129 = .ok (.goto (-69), 3) := by decide +kernel
theorem dX6_fill_132 : decode cX6_fill 132 = .ok (.aload_n 0, 1) := by decide +kernel
theorem dX6_fill_133 : decode cX6_fill 133 = .ok (.iload_n 1, 1) := by decide +kernel
theorem dX6_fill_134 : decode cX6_fill 134 = .ok (.invokevirtual 118, 3) := by decide +kernel
theorem dX6_fill_137 : decode cX6_fill 137 = .ok (.ireturn, 1) := by decide +kernel
theorem dX6_lot_0 : decode cX6_lot 0 = .ok (.aload_n 0, 1) := by decide +kernel
theorem dX6_lot_1 : decode cX6_lot 1 = .ok (.ldc 121, 2) := by decide +kernel
theorem dX6_lot_3 : decode cX6_lot 3 = .ok (.aload_n 0, 1) := by decide +kernel
theorem dX6_lot_4 : decode cX6_lot 4 = .ok (.getfield 122, 3) := by decide +kernel
theorem dX6_lot_7 : decode cX6_lot 7 = .ok (.imul, 1) := by decide +kernel
theorem dX6_lot_8 : decode cX6_lot 8 = .ok (.sipush 12345, 3) := by decide +kernel
theorem dX6_lot_11 : decode cX6_lot 11 = .ok (.iadd, 1) := by decide +kernel
theorem dX6_lot_12 : decode cX6_lot 12 = .ok (.putfield 122, 3) := by decide +kernel
theorem dX6_lot_15 : decode cX6_lot 15 = .ok (.aload_n 0, 1) := by decide +kernel
theorem dX6_lot_16 : decode cX6_lot 16 = .ok (.getfield 122, 3) := by decide +kernel
theorem dX6_lot_19 : decode cX6_lot 19 = .ok (.bipush 16, 2) := by decide +kernel
theorem dX6_lot_21 : decode cX6_lot 21 = .ok (.iushr, 1) := by decide +kernel
theorem dX6_lot_22 : decode cX6_lot 22 = .ok (.iload_n 1, 1) := by decide +kernel
theorem dX6_lot_23 : decode cX6_lot 23 = .ok (.irem, 1) := by decide +kernel
theorem dX6_lot_24 : decode cX6_lot 24 = .ok (.ireturn, 1) := by decide +kernel
set_option maxRecDepth 20000 in
theorem ggX6_dots_X6_isMask : GoodIn wsX6_dots wsX6_isMask := goodIn_r _ [7, 8, 9, 10, 6, 11] (by decide +kernel) (by decide +kernel)
set_option maxRecDepth 20000 in
theorem gX6_dots_X6_isMask : GoodIn wsX6_dots (va_wsS RX6 103 yX6_isMask wsX6_isMask) := goodIn_app (goodIn_of _ (by decide +kernel)) ggX6_dots_X6_isMask
set_option maxRecDepth 20000 in
theorem ggX6_dots_X6_in : GoodIn wsX6_dots wsX6_in := goodIn_r _ [11] (by decide +kernel) (by decide +kernel)
set_option maxRecDepth 20000 in
theorem gX6_dots_X6_in : GoodIn wsX6_dots (va_wsS RX6 55 yX6_in wsX6_in) := goodIn_app (goodIn_of _ (by decide +kernel)) ggX6_dots_X6_in
set_option maxRecDepth 20000 in
theorem ggX6_dots_X6_starts : GoodIn wsX6_dots wsX6_starts := goodIn_r _ [15, 3, 16, 45, 46, 47, 48, 49, 50, 51, 52, 53, 54, 55, 56, 57, 58, 59, 60, 61, 62, 63, 64, 65] (by decide +kernel) (by decide +kernel)
set_option maxRecDepth 20000 in
theorem gX6_dots_X6_starts : GoodIn wsX6_dots (wsV RX6 111 RX6 yX6_starts wsX6_starts) := goodIn_app (goodIn_of _ (by decide +kernel)) ggX6_dots_X6_starts
set_option maxRecDepth 20000 in
theorem ggX6_dots_X6_lot : GoodIn wsX6_dots wsX6_lot := goodIn_r _ [20, 21, 2, 45, 46, 47, 48, 49, 50, 51, 52, 53, 54, 55, 56, 57, 58, 59, 60, 61, 62, 63, 64, 65] (by decide +kernel) (by decide +kernel)
set_option maxRecDepth 20000 in
theorem gX6_dots_X6_lot : GoodIn wsX6_dots (wsV RX6 127 RX6 yX6_lot wsX6_lot) := goodIn_app (goodIn_of _ (by decide +kernel)) ggX6_dots_X6_lot
set_option maxRecDepth 20000 in
theorem ggX6_dots_X6_become : GoodIn wsX6_dots wsX6_become := goodIn_r _ [25, 26, 27, 28, 6, 29, 30, 31, 32, 16, 3, 33, 34, 35, 36, 37, 38, 39, 40, 41, 42, 43, 44, 9, 10, 11, 45, 46, 47, 48, 49, 50, 51, 52, 53, 54, 55, 56, 57, 58, 59, 60, 61, 62, 63, 64, 65] (by decide +kernel) (by decide +kernel)
set_option maxRecDepth 20000 in
theorem gX6_dots_X6_become : GoodIn wsX6_dots (wsV RX6 118 RX6 yX6_become wsX6_become) := goodIn_app (goodIn_of _ (by decide +kernel)) ggX6_dots_X6_become
theorem dX6_dots_0 : decode cX6_dots 0 = .ok (.iload_n 1, 1) := by decide +kernel
theorem dX6_dots_1 : decode cX6_dots 1 = .ok (.invokestatic 103, 3) := by decide +kernel
theorem dX6_dots_4 : decode cX6_dots 4 = .ok (.ifCond .eq 15, 3) := by decide +kernel
theorem dX6_dots_7 : decode cX6_dots 7 = .ok (.iload_n 3, 1) := by decide +kernel
theorem dX6_dots_8 : decode cX6_dots 8 = .ok (.i2l, 1) := by decide +kernel
theorem dX6_dots_9 : decode cX6_dots 9 = .ok (.lconst 0, 1) := by decide +kernel
theorem dX6_dots_10 : decode cX6_dots 10 = .ok (.ldc2_w 125, 3) := by decide +kernel
theorem dX6_dots_13 : decode cX6_dots 13 = .ok (.invokestatic 55, 3) := by decide +kernel
theorem dX6_dots_16 : decode cX6_dots 16 = .ok (.ifCond .ne 6, 3) := by decide +kernel
theorem dX6_dots_19 : decode cX6_dots 19 = .ok (.bipush (-2), 2) := by decide +kernel
theorem dX6_dots_21 : decode cX6_dots 21 = .ok (.ireturn, 1) := by decide +kernel
theorem dX6_dots_22 : decode cX6_dots 22 = .ok (.aload_n 0, 1) := by decide +kernel
theorem dX6_dots_23 : decode cX6_dots 23 = .ok (.iload_n 1, 1) := by decide +kernel
theorem dX6_dots_24 : decode cX6_dots 24 = .ok (.invokevirtual 111, 3) := by decide +kernel
theorem dX6_dots_27 : decode cX6_dots 27 = .ok (.aload_n 0, 1) := by decide +kernel
theorem dX6_dots_28 : decode cX6_dots 28 = .ok (.iload_n 2, 1) := by decide +kernel
theorem dX6_dots_29 : decode cX6_dots 29 = .ok (.putfield 122, 3) := by decide +kernel
theorem dX6_dots_32 : decode cX6_dots 32 = .ok (.iconst 0, 1) := by decide +kernel
theorem dX6_dots_33 : decode cX6_dots 33 = .ok (.istore 4, 2) := by decide +kernel
theorem dX6_dots_35 : decode cX6_dots 35 = .ok (.iload 4, 2) := by decide +kernel
theorem dX6_dots_37 : decode cX6_dots 37 = .ok (.iload_n 3, 1) := by decide +kernel
theorem dX6_dots_38 : decode cX6_dots 38 = .ok (.if_icmp .ge 38, 3) := by decide +kernel
theorem dX6_dots_41 : decode cX6_dots 41 = .ok (.aload_n 0, 1) := by decide +kernel
theorem dX6_dots_42 : decode cX6_dots 42 = .ok (.sipush 256, 3) := by decide +kernel
theorem dX6_dots_45 : decode cX6_dots 45 = .ok (.invokevirtual 127, 3) := by decide +kernel
theorem dX6_dots_48 : decode cX6_dots 48 = .ok (.istore 5, 2) := by decide +kernel
theorem dX6_dots_50 : decode cX6_dots 50 = .ok (.aload_n 0, 1) := by decide +kernel
theorem dX6_dots_51 : decode cX6_dots 51 = .ok (.getfield 25, 3) := by decide +kernel
theorem dX6_dots_54 : decode cX6_dots 54 = .ok (.iload 5, 2) := by decide +kernel
theorem dX6_dots_56 : decode cX6_dots 56 = .ok (.bipush 16, 2) := by decide +kernel
theorem dX6_dots_58 : decode cX6_dots 58 = .ok (.idiv, 1) := by decide +kernel
theorem dX6_dots_59 : decode cX6_dots 59 = .ok (.dup2, 1) := by decide +kernel
theorem dX6_dots_60 : decode cX6_dots 60 = .ok (.iaload, 1) := by decide +kernel
theorem dX6_dots_61 : decode cX6_dots 61 = .ok (.iconst 1, 1) := by decide +kernel
theorem dX6_dots_62 : decode cX6_dots 62 = .ok (.iload 5, 2) := by decide +kernel
theorem dX6_dots_64 : decode cX6_dots 64 = .ok (.bipush 16, 2) := by decide +kernel
theorem dX6_dots_66 : decode cX6_dots 66 = .ok (.irem, 1) := by decide +kernel
theorem dX6_dots_67 : decode cX6_dots 67 = .ok (.ishl, 1) := by decide +kernel
theorem dX6_dots_68 : decode cX6_dots 68 = .ok (.ixor, 1) := by decide +kernel
theorem dX6_dots_69 : decode cX6_dots 69 = .ok (.iastore, 1) := by decide +kernel
theorem dX6_dots_70 : decode cX6_dots 70 = .ok (.iinc 4 1, 3) := by decide +kernel
theorem dX6_dots_73 : decode cX6_dots 73 = .ok (.goto (-38), 3) := by decide +kernel
theorem dX6_dots_76 : decode cX6_dots 76 = .ok (.aload_n 0, 1) := by decide +kernel
theorem dX6_dots_77 : decode cX6_dots 77 = .ok (.iload_n 1, 1) := by decide +kernel
theorem dX6_dots_78 : decode cX6_dots 78 = .ok (.invokevirtual 118, 3) := by decide +kernel
theorem dX6_dots_81 : decode cX6_dots 81 = .ok (.ireturn, 1) := by decide +kernel
set_option maxRecDepth 20000 in
theorem ggX6_join_X6_in : GoodIn wsX6_join wsX6_in := goodIn_r _ [7] (by decide +kernel) (by decide +kernel)
set_option maxRecDepth 20000 in
theorem gX6_join_X6_in : GoodIn wsX6_join (va_wsS RX6 55 yX6_in wsX6_in) := goodIn_app (goodIn_of _ (by decide +kernel)) ggX6_join_X6_in
set_option maxRecDepth 20000 in
theorem ggX6_join_X6_isMask : GoodIn wsX6_join wsX6_isMask := goodIn_r _ [10, 1, 4, 5, 6, 7] (by decide +kernel) (by decide +kernel)
set_option maxRecDepth 20000 in
theorem gX6_join_X6_isMask : GoodIn wsX6_join (va_wsS RX6 103 yX6_isMask wsX6_isMask) := goodIn_app (goodIn_of _ (by decide +kernel)) ggX6_join_X6_isMask
set_option maxRecDepth 20000 in
theorem ggX6_join_X6_become : GoodIn wsX6_join wsX6_become := goodIn_r _ [14, 15, 16, 17, 6, 18, 19, 20, 21, 2, 3, 22, 23, 24, 25, 26, 27, 28, 29, 30, 31, 32, 33, 4, 5, 7, 34, 35, 36, 37, 38, 39, 40, 41, 42, 43, 44, 45, 46, 47, 48, 49, 50, 51, 52, 53, 54] (by decide +kernel) (by decide +kernel)
set_option maxRecDepth 20000 in
theorem gX6_join_X6_become : GoodIn wsX6_join (wsV RX6 118 RX6 yX6_become wsX6_become) := goodIn_app (goodIn_of _ (by decide +kernel)) ggX6_join_X6_become
theorem dX6_join_0 : decode cX6_join 0 = .ok (.iload_n 1, 1) := by decide +kernel
theorem dX6_join_1 : decode cX6_join 1 = .ok (.i2l, 1) := by decide +kernel
theorem dX6_join_2 : decode cX6_join 2 = .ok (.lconst 0, 1) := by decide +kernel
theorem dX6_join_3 : decode cX6_join 3 = .ok (.ldc2_w 63, 3) := by decide +kernel
theorem dX6_join_6 : decode cX6_join 6 = .ok (.invokestatic 55, 3) := by decide +kernel
theorem dX6_join_9 : decode cX6_join 9 = .ok (.ifCond .eq 25, 3) := by decide +kernel
theorem dX6_join_12 : decode cX6_join 12 = .ok (.iload_n 2, 1) := by decide +kernel
theorem dX6_join_13 : decode cX6_join 13 = .ok (.invokestatic 103, 3) := by decide +kernel
theorem dX6_join_16 : decode cX6_join 16 = .ok (.ifCond .eq 18, 3) := by decide +kernel
theorem dX6_join_19 : decode cX6_join 19 = .ok (.iload_n 3, 1) := by decide +kernel
theorem dX6_join_20 : decode cX6_join 20 = .ok (.invokestatic 103, 3) := by decide +kernel
theorem dX6_join_23 : decode cX6_join 23 = .ok (.ifCond .eq 11, 3) := by decide +kernel
theorem dX6_join_26 : decode cX6_join 26 = .ok (.iload 4, 2) := by decide +kernel
theorem dX6_join_28 : decode cX6_join 28 = .ok (.invokestatic 103, 3) := by decide +kernel
theorem dX6_join_31 : decode cX6_join 31 = .ok (.ifCond .ne 6, 3) := by decide +kernel
theorem dX6_join_34 : decode cX6_join 34 = .ok (.bipush (-2), 2) := by decide +kernel
theorem dX6_join_36 : decode cX6_join 36 = .ok (.ireturn, 1) := by decide +kernel
theorem dX6_join_37 : decode cX6_join 37 = .ok (.iconst 0, 1) := by decide +kernel
theorem dX6_join_38 : decode cX6_join 38 = .ok (.istore 5, 2) := by decide +kernel
theorem dX6_join_40 : decode cX6_join 40 = .ok (.iload 5, 2) := by decide +kernel
theorem dX6_join_42 : decode cX6_join 42 = .ok (.bipush 16, 2) := by decide +kernel
theorem dX6_join_44 : decode cX6_join 44 = .ok (.if_icmp .ge 89, 3) := by decide +kernel
theorem dX6_join_47 : decode cX6_join 47 = .ok (.aload_n 0, 1) := by decide +kernel
theorem dX6_join_48 : decode cX6_join 48 = .ok (.getfield 22, 3) := by decide +kernel
theorem dX6_join_51 : decode cX6_join 51 = .ok (.bipush 16, 2) := by decide +kernel
theorem dX6_join_53 : decode cX6_join 53 = .ok (.iload_n 2, 1) := by decide +kernel
theorem dX6_join_54 : decode cX6_join 54 = .ok (.imul, 1) := by decide +kernel
theorem dX6_join_55 : decode cX6_join 55 = .ok (.iload 5, 2) := by decide +kernel
theorem dX6_join_57 : decode cX6_join 57 = .ok (.iadd, 1) := by decide +kernel
theorem dX6_join_58 : decode cX6_join 58 = .ok (.iaload, 1) := by decide +kernel
theorem dX6_join_59 : decode cX6_join 59 = .ok (.istore 6, 2) := by decide +kernel
theorem dX6_join_61 : decode cX6_join 61 = .ok (.aload_n 0, 1) := by decide +kernel
theorem dX6_join_62 : decode cX6_join 62 = .ok (.getfield 22, 3) := by decide +kernel
theorem dX6_join_65 : decode cX6_join 65 = .ok (.bipush 16, 2) := by decide +kernel
theorem dX6_join_67 : decode cX6_join 67 = .ok (.iload_n 3, 1) := by decide +kernel
theorem dX6_join_68 : decode cX6_join 68 = .ok (.imul, 1) := by decide +kernel
theorem dX6_join_69 : decode cX6_join 69 = .ok (.iload 5, 2) := by decide +kernel
theorem dX6_join_71 : decode cX6_join 71 = .ok (.iadd, 1) := by decide +kernel
theorem dX6_join_72 : decode cX6_join 72 = .ok (.iaload, 1) := by decide +kernel
theorem dX6_join_73 : decode cX6_join 73 = .ok (.istore 7, 2) := by decide +kernel
theorem dX6_join_75 : decode cX6_join 75 = .ok (.aload_n 0, 1) := by decide +kernel
theorem dX6_join_76 : decode cX6_join 76 = .ok (.getfield 25, 3) := by decide +kernel
theorem dX6_join_79 : decode cX6_join 79 = .ok (.iload 5, 2) := by decide +kernel
theorem dX6_join_81 : decode cX6_join 81 = .ok (.iload_n 1, 1) := by decide +kernel
theorem dX6_join_82 : decode cX6_join 82 = .ok (.ifCond .ne 11, 3) := by decide +kernel
theorem dX6_join_85 : decode cX6_join 85 = .ok (.iload 6, 2) := by decide +kernel
theorem dX6_join_87 : decode cX6_join 87 = .ok (.iload 7, 2) := by decide +kernel
theorem dX6_join_89 : decode cX6_join 89 = .ok (.ior, 1) := by decide +kernel
theorem dX6_join_90 : decode cX6_join 90 = .ok (.goto 36, 3) := by decide +kernel
theorem dX6_join_93 : decode cX6_join 93 = .ok (.iload_n 1, 1) := by decide +kernel
theorem dX6_join_94 : decode cX6_join 94 = .ok (.iconst 1, 1) := by decide +kernel
theorem dX6_join_95 : decode cX6_join 95 = .ok (.if_icmp .ne 11, 3) := by decide +kernel
theorem dX6_join_98 : decode cX6_join 98 = .ok (.iload 6, 2) := by decide +kernel
theorem dX6_join_100 : decode cX6_join 100 = .ok (.iload 7, 2) := by decide +kernel
theorem dX6_join_102 : decode cX6_join 102 = .ok (.iand, 1) := by decide +kernel
theorem dX6_join_103 : decode cX6_join 103 = .ok (.goto 23, 3) := by decide +kernel
theorem dX6_join_106 : decode cX6_join 106 = .ok (.iload_n 1, 1) := by decide +kernel
theorem dX6_join_107 : decode cX6_join 107 = .ok (.iconst 2, 1) := by decide +kernel
theorem dX6_join_108 : decode cX6_join 108 = .ok (.if_icmp .ne 13, 3) := by decide +kernel
theorem dX6_join_111 : decode cX6_join 111 = .ok (.iload 6, 2) := by decide +kernel
theorem dX6_join_113 : decode cX6_join 113 = .ok (.iload 7, 2) := by decide +kernel
theorem dX6_join_115 : decode cX6_join 115 = .ok (.iconst (-1), 1) := by decide +kernel
theorem dX6_join_116 : decode cX6_join 116 = .ok (.ixor, 1) := by decide +kernel
theorem dX6_join_117 : decode cX6_join 117 = .ok (.iand, 1) := by decide +kernel
theorem dX6_join_118 : decode cX6_join 118 = .ok (.goto 8, 3) := by decide +kernel
theorem dX6_join_121 : decode cX6_join 121 = .ok (.iload 6, 2) := by decide +kernel
theorem dX6_join_123 : decode cX6_join 123 = .ok (.iload 7, 2) := by decide +kernel
theorem dX6_join_125 : decode cX6_join 125 = .ok (.ixor, 1) := by decide +kernel
theorem dX6_join_126 : decode cX6_join 126 = .ok (.iastore, 1) := by decide +kernel
theorem dX6_join_127 : decode cX6_join 127 = .ok (.iinc 5 1, 3) := by decide +kernel
theorem dX6_join_130 : decode cX6_join 130 = .ok (.goto (-90), 3) := by decide +kernel
theorem dX6_join_133 : decode cX6_join 133 = .ok (.aload_n 0, 1) := by decide +kernel
theorem dX6_join_134 : decode cX6_join 134 = .ok (.iload 4, 2) := by decide +kernel
theorem dX6_join_136 : decode cX6_join 136 = .ok (.invokevirtual 118, 3) := by decide +kernel
theorem dX6_join_139 : decode cX6_join 139 = .ok (.ireturn, 1) := by decide +kernel
set_option maxRecDepth 20000 in
theorem ggX6_over_X6_isMask : GoodIn wsX6_over wsX6_isMask := goodIn_r _ [7, 8, 9, 10, 6, 11] (by decide +kernel) (by decide +kernel)
set_option maxRecDepth 20000 in
theorem gX6_over_X6_isMask : GoodIn wsX6_over (va_wsS RX6 103 yX6_isMask wsX6_isMask) := goodIn_app (goodIn_of _ (by decide +kernel)) ggX6_over_X6_isMask
set_option maxRecDepth 20000 in
theorem ggX6_over_X6_become : GoodIn wsX6_over wsX6_become := goodIn_r _ [15, 16, 17, 18, 6, 19, 20, 21, 22, 3, 1, 23, 24, 25, 26, 27, 28, 29, 30, 31, 32, 33, 34, 9, 10, 11, 35, 36, 37, 38, 39, 40, 41, 42, 43, 44, 45, 46, 47, 48, 49, 50, 51, 52, 53, 54, 55] (by decide +kernel) (by decide +kernel)
set_option maxRecDepth 20000 in
theorem gX6_over_X6_become : GoodIn wsX6_over (wsV RX6 118 RX6 yX6_become wsX6_become) := goodIn_app (goodIn_of _ (by decide +kernel)) ggX6_over_X6_become
theorem dX6_over_0 : decode cX6_over 0 = .ok (.iload_n 1, 1) := by decide +kernel
theorem dX6_over_1 : decode cX6_over 1 = .ok (.invokestatic 103, 3) := by decide +kernel
theorem dX6_over_4 : decode cX6_over 4 = .ok (.ifCond .eq 10, 3) := by decide +kernel
theorem dX6_over_7 : decode cX6_over 7 = .ok (.iload_n 2, 1) := by decide +kernel
theorem dX6_over_8 : decode cX6_over 8 = .ok (.invokestatic 103, 3) := by decide +kernel
theorem dX6_over_11 : decode cX6_over 11 = .ok (.ifCond .ne 6, 3) := by decide +kernel
theorem dX6_over_14 : decode cX6_over 14 = .ok (.bipush (-2), 2) := by decide +kernel
theorem dX6_over_16 : decode cX6_over 16 = .ok (.ireturn, 1) := by decide +kernel
theorem dX6_over_17 : decode cX6_over 17 = .ok (.iconst 0, 1) := by decide +kernel
theorem dX6_over_18 : decode cX6_over 18 = .ok (.istore_n 3, 1) := by decide +kernel
theorem dX6_over_19 : decode cX6_over 19 = .ok (.iload_n 3, 1) := by decide +kernel
theorem dX6_over_20 : decode cX6_over 20 = .ok (.bipush 16, 2) := by decide +kernel
theorem dX6_over_22 : decode cX6_over 22 = .ok (.if_icmp .ge 29, 3) := by decide +kernel
theorem dX6_over_25 : decode cX6_over 25 = .ok (.aload_n 0, 1) := by decide +kernel
theorem dX6_over_26 : decode cX6_over 26 = .ok (.getfield 25, 3) := by decide +kernel
theorem dX6_over_29 : decode cX6_over 29 = .ok (.iload_n 3, 1) := by decide +kernel
theorem dX6_over_30 : decode cX6_over 30 = .ok (.ldc 130, 2) := by decide +kernel
theorem dX6_over_32 : decode cX6_over 32 = .ok (.aload_n 0, 1) := by decide +kernel
theorem dX6_over_33 : decode cX6_over 33 = .ok (.getfield 22, 3) := by decide +kernel
theorem dX6_over_36 : decode cX6_over 36 = .ok (.bipush 16, 2) := by decide +kernel
theorem dX6_over_38 : decode cX6_over 38 = .ok (.iload_n 1, 1) := by decide +kernel
theorem dX6_over_39 : decode cX6_over 39 = .ok (.imul, 1) := by decide +kernel
theorem dX6_over_40 : decode cX6_over 40 = .ok (.iload_n 3, 1) := by decide +kernel
theorem dX6_over_41 : decode cX6_over 41 = .ok (.iadd, 1) := by decide +kernel
theorem dX6_over_42 : decode cX6_over 42 = .ok (.iaload, 1) := by decide +kernel
theorem dX6_over_43 : decode cX6_over 43 = .ok (.ixor, 1) := by decide +kernel
theorem dX6_over_44 : decode cX6_over 44 = .ok (.iastore, 1) := by decide +kernel
theorem dX6_over_45 : decode cX6_over 45 = .ok (.iinc 3 1, 3) := by decide +kernel
theorem dX6_over_48 : decode cX6_over 48 = .ok (.goto (-29), 3) := by decide +kernel
theorem dX6_over_51 : decode cX6_over 51 = .ok (.aload_n 0, 1) := by decide +kernel
theorem dX6_over_52 : decode cX6_over 52 = .ok (.iload_n 2, 1) := by decide +kernel
theorem dX6_over_53 : decode cX6_over 53 = .ok (.invokevirtual 118, 3) := by decide +kernel
theorem dX6_over_56 : decode cX6_over 56 = .ok (.ireturn, 1) := by decide +kernel
set_option maxRecDepth 20000 in
theorem ggX6_move_X6_isMask : GoodIn wsX6_move wsX6_isMask := goodIn_r _ [6, 7, 8, 9, 5, 10] (by decide +kernel) (by decide +kernel)
set_option maxRecDepth 20000 in
theorem gX6_move_X6_isMask : GoodIn wsX6_move (va_wsS RX6 103 yX6_isMask wsX6_isMask) := goodIn_app (goodIn_of _ (by decide +kernel)) ggX6_move_X6_isMask
set_option maxRecDepth 20000 in
theorem ggX6_move_X6_in : GoodIn wsX6_move wsX6_in := goodIn_r _ [10] (by decide +kernel) (by decide +kernel)
set_option maxRecDepth 20000 in
theorem gX6_move_X6_in : GoodIn wsX6_move (va_wsS RX6 55 yX6_in wsX6_in) := goodIn_app (goodIn_of _ (by decide +kernel)) ggX6_move_X6_in
set_option maxRecDepth 20000 in
theorem ggX6_move_X6_clears : GoodIn wsX6_move wsX6_clears := goodIn_r _ [14, 15, 44, 45, 46, 47, 48, 49, 50, 51, 52, 53, 54, 55, 56, 57, 58, 59, 60, 61, 62, 63, 64] (by decide +kernel) (by decide +kernel)
set_option maxRecDepth 20000 in
theorem gX6_move_X6_clears : GoodIn wsX6_move (wsV RX6 133 RX6 yX6_clears wsX6_clears) := goodIn_app (goodIn_of _ (by decide +kernel)) ggX6_move_X6_clears
set_option maxRecDepth 20000 in
theorem ggX6_move_X6_dark : GoodIn wsX6_move wsX6_dark := goodIn_r _ [19, 20, 21, 22, 5, 23, 24, 8, 9, 10, 44, 45, 46, 47, 48, 49, 50, 51, 52, 53, 54, 55, 56, 57, 58, 59, 60, 61, 62, 63, 64] (by decide +kernel) (by decide +kernel)
set_option maxRecDepth 20000 in
theorem gX6_move_X6_dark : GoodIn wsX6_move (wsV RX6 90 RX6 yX6_dark wsX6_dark) := goodIn_app (goodIn_of _ (by decide +kernel)) ggX6_move_X6_dark
set_option maxRecDepth 20000 in
theorem ggX6_move_X6_sets : GoodIn wsX6_move wsX6_sets := goodIn_r _ [28, 15, 44, 45, 46, 47, 48, 49, 50, 51, 52, 53, 54, 55, 56, 57, 58, 59, 60, 61, 62, 63, 64] (by decide +kernel) (by decide +kernel)
set_option maxRecDepth 20000 in
theorem gX6_move_X6_sets : GoodIn wsX6_move (wsV RX6 114 RX6 yX6_sets wsX6_sets) := goodIn_app (goodIn_of _ (by decide +kernel)) ggX6_move_X6_sets
set_option maxRecDepth 20000 in
theorem ggX6_move_X6_become : GoodIn wsX6_move wsX6_become := goodIn_r _ [32, 33, 34, 35, 5, 36, 37, 38, 39, 20, 15, 40, 41, 42, 43, 16, 17, 18, 19, 21, 22, 23, 24, 8, 9, 10, 44, 45, 46, 47, 48, 49, 50, 51, 52, 53, 54, 55, 56, 57, 58, 59, 60, 61, 62, 63, 64] (by decide +kernel) (by decide +kernel)
set_option maxRecDepth 20000 in
theorem gX6_move_X6_become : GoodIn wsX6_move (wsV RX6 118 RX6 yX6_become wsX6_become) := goodIn_app (goodIn_of _ (by decide +kernel)) ggX6_move_X6_become
theorem dX6_move_0 : decode cX6_move 0 = .ok (.iload_n 1, 1) := by decide +kernel
theorem dX6_move_1 : decode cX6_move 1 = .ok (.invokestatic 103, 3) := by decide +kernel
theorem dX6_move_4 : decode cX6_move 4 = .ok (.ifCond .eq 39, 3) := by decide +kernel
theorem dX6_move_7 : decode cX6_move 7 = .ok (.iload_n 2, 1) := by decide +kernel
theorem dX6_move_8 : decode cX6_move 8 = .ok (.i2l, 1) := by decide +kernel
theorem dX6_move_9 : decode cX6_move 9 = .ok (.ldc2_w 131, 3) := by decide +kernel
theorem dX6_move_12 : decode cX6_move 12 = .ok (.ldc2_w 106, 3) := by decide +kernel
theorem dX6_move_15 : decode cX6_move 15 = .ok (.invokestatic 55, 3) := by decide +kernel
theorem dX6_move_18 : decode cX6_move 18 = .ok (.ifCond .eq 25, 3) := by decide +kernel
theorem dX6_move_21 : decode cX6_move 21 = .ok (.iload_n 3, 1) := by decide +kernel
theorem dX6_move_22 : decode cX6_move 22 = .ok (.i2l, 1) := by decide +kernel
theorem dX6_move_23 : decode cX6_move 23 = .ok (.ldc2_w 131, 3) := by decide +kernel
theorem dX6_move_26 : decode cX6_move 26 = .ok (.ldc2_w 106, 3) := by decide +kernel
theorem dX6_move_29 : decode cX6_move 29 = .ok (.invokestatic 55, 3) := by decide +kernel
theorem dX6_move_32 : decode cX6_move 32 = .ok (.ifCond .eq 11, 3) := by decide +kernel
theorem dX6_move_35 : decode cX6_move 35 = .ok (.iload 4, 2) := by decide +kernel
theorem dX6_move_37 : decode cX6_move 37 = .ok (.invokestatic 103, 3) := by decide +kernel
theorem dX6_move_40 : decode cX6_move 40 = .ok (.ifCond .ne 6, 3) := by decide +kernel
theorem dX6_move_43 : decode cX6_move 43 = .ok (.bipush (-2), 2) := by decide +kernel
theorem dX6_move_45 : decode cX6_move 45 = .ok (.ireturn, 1) := by decide +kernel
theorem dX6_move_46 : decode cX6_move 46 = .ok (.aload_n 0, 1) := by decide +kernel
theorem dX6_move_47 : decode cX6_move 47 = .ok (.invokevirtual 133, 3) := by decide +kernel
theorem dX6_move_50 : decode cX6_move 50 = .ok (.iconst 0, 1) := by decide +kernel
theorem dX6_move_51 : decode cX6_move 51 = .ok (.istore 5, 2) := by decide +kernel
theorem dX6_move_53 : decode cX6_move 53 = .ok (.iload 5, 2) := by decide +kernel
theorem dX6_move_55 : decode cX6_move 55 = .ok (.sipush 256, 3) := by decide +kernel
theorem dX6_move_58 : decode cX6_move 58 = .ok (.if_icmp .ge 42, 3) := by decide +kernel
theorem dX6_move_61 : decode cX6_move 61 = .ok (.aload_n 0, 1) := by decide +kernel
theorem dX6_move_62 : decode cX6_move 62 = .ok (.iload 5, 2) := by decide +kernel
theorem dX6_move_64 : decode cX6_move 64 = .ok (.bipush 16, 2) := by decide +kernel
theorem dX6_move_66 : decode cX6_move 66 = .ok (.irem, 1) := by decide +kernel
theorem dX6_move_67 : decode cX6_move 67 = .ok (.iload 5, 2) := by decide +kernel
theorem dX6_move_69 : decode cX6_move 69 = .ok (.bipush 16, 2) := by decide +kernel
theorem dX6_move_71 : decode cX6_move 71 = .ok (.idiv, 1) := by decide +kernel
theorem dX6_move_72 : decode cX6_move 72 = .ok (.aload_n 0, 1) := by decide +kernel
theorem dX6_move_73 : decode cX6_move 73 = .ok (.iload_n 1, 1) := by decide +kernel
theorem dX6_move_74 : decode cX6_move 74 = .ok (.iload 5, 2) := by decide +kernel
theorem dX6_move_76 : decode cX6_move 76 = .ok (.bipush 16, 2) := by decide +kernel
theorem dX6_move_78 : decode cX6_move 78 = .ok (.irem, 1) := by decide +kernel
theorem dX6_move_79 : decode cX6_move 79 = .ok (.iload_n 2, 1) := by decide +kernel
theorem dX6_move_80 : decode cX6_move 80 = .ok (.isub, 1) := by decide +kernel
theorem dX6_move_81 : decode cX6_move 81 = .ok (.iload 5, 2) := by decide +kernel
theorem dX6_move_83 : decode cX6_move 83 = .ok (.bipush 16, 2) := by decide +kernel
theorem dX6_move_85 : decode cX6_move 85 = .ok (.idiv, 1) := by decide +kernel
theorem dX6_move_86 : decode cX6_move 86 = .ok (.iload_n 3, 1) := by decide +kernel
theorem dX6_move_87 : decode cX6_move 87 = .ok (.isub, 1) := by decide +kernel
theorem dX6_move_88 : decode cX6_move 88 = .ok (.invokevirtual 90, 3) := by decide +kernel
theorem dX6_move_91 : decode cX6_move 91 = .ok (.invokevirtual 114, 3) := by decide +kernel
theorem dX6_move_94 : decode cX6_move 94 = .ok (.iinc 5 1, 3) := by decide +kernel
theorem dX6_move_97 : decode cX6_move 97 = .ok (.goto (-44), 3) := by decide +kernel
theorem dX6_move_100 : decode cX6_move 100 = .ok (.aload_n 0, 1) := by decide +kernel
theorem dX6_move_101 : decode cX6_move 101 = .ok (.iload 4, 2) := by decide +kernel
theorem dX6_move_103 : decode cX6_move 103 = .ok (.invokevirtual 118, 3) := by decide +kernel
theorem dX6_move_106 : decode cX6_move 106 = .ok (.ireturn, 1) := by decide +kernel
set_option maxRecDepth 20000 in
theorem ggX6_turn_X6_isMask : GoodIn wsX6_turn wsX6_isMask := goodIn_r _ [5, 1, 6, 7, 4, 8] (by decide +kernel) (by decide +kernel)
set_option maxRecDepth 20000 in
theorem gX6_turn_X6_isMask : GoodIn wsX6_turn (va_wsS RX6 103 yX6_isMask wsX6_isMask) := goodIn_app (goodIn_of _ (by decide +kernel)) ggX6_turn_X6_isMask
set_option maxRecDepth 20000 in
theorem ggX6_turn_X6_in : GoodIn wsX6_turn wsX6_in := goodIn_r _ [8] (by decide +kernel) (by decide +kernel)
set_option maxRecDepth 20000 in
theorem gX6_turn_X6_in : GoodIn wsX6_turn (va_wsS RX6 55 yX6_in wsX6_in) := goodIn_app (goodIn_of _ (by decide +kernel)) ggX6_turn_X6_in
set_option maxRecDepth 20000 in
theorem ggX6_turn_X6_clears : GoodIn wsX6_turn wsX6_clears := goodIn_r _ [12, 13, 42, 43, 44, 45, 46, 47, 48, 49, 50, 51, 52, 53, 54, 55, 56, 57, 58, 59, 60, 61, 62] (by decide +kernel) (by decide +kernel)
set_option maxRecDepth 20000 in
theorem gX6_turn_X6_clears : GoodIn wsX6_turn (wsV RX6 133 RX6 yX6_clears wsX6_clears) := goodIn_app (goodIn_of _ (by decide +kernel)) ggX6_turn_X6_clears
set_option maxRecDepth 20000 in
theorem ggX6_turn_X6_dark : GoodIn wsX6_turn wsX6_dark := goodIn_r _ [17, 18, 19, 20, 4, 21, 22, 6, 7, 8, 42, 43, 44, 45, 46, 47, 48, 49, 50, 51, 52, 53, 54, 55, 56, 57, 58, 59, 60, 61, 62] (by decide +kernel) (by decide +kernel)
set_option maxRecDepth 20000 in
theorem gX6_turn_X6_dark : GoodIn wsX6_turn (wsV RX6 90 RX6 yX6_dark wsX6_dark) := goodIn_app (goodIn_of _ (by decide +kernel)) ggX6_turn_X6_dark
set_option maxRecDepth 20000 in
theorem ggX6_turn_X6_sets : GoodIn wsX6_turn wsX6_sets := goodIn_r _ [26, 13, 42, 43, 44, 45, 46, 47, 48, 49, 50, 51, 52, 53, 54, 55, 56, 57, 58, 59, 60, 61, 62] (by decide +kernel) (by decide +kernel)
set_option maxRecDepth 20000 in
theorem gX6_turn_X6_sets : GoodIn wsX6_turn (wsV RX6 114 RX6 yX6_sets wsX6_sets) := goodIn_app (goodIn_of _ (by decide +kernel)) ggX6_turn_X6_sets
set_option maxRecDepth 20000 in
theorem ggX6_turn_X6_become : GoodIn wsX6_turn wsX6_become := goodIn_r _ [30, 31, 32, 33, 4, 34, 35, 36, 37, 18, 13, 38, 39, 40, 41, 14, 15, 16, 17, 19, 20, 21, 22, 6, 7, 8, 42, 43, 44, 45, 46, 47, 48, 49, 50, 51, 52, 53, 54, 55, 56, 57, 58, 59, 60, 61, 62] (by decide +kernel) (by decide +kernel)
set_option maxRecDepth 20000 in
theorem gX6_turn_X6_become : GoodIn wsX6_turn (wsV RX6 118 RX6 yX6_become wsX6_become) := goodIn_app (goodIn_of _ (by decide +kernel)) ggX6_turn_X6_become
theorem dX6_turn_0 : decode cX6_turn 0 = .ok (.iload_n 1, 1) := by decide +kernel
theorem dX6_turn_1 : decode cX6_turn 1 = .ok (.invokestatic 103, 3) := by decide +kernel
theorem dX6_turn_4 : decode cX6_turn 4 = .ok (.ifCond .eq 22, 3) := by decide +kernel
theorem dX6_turn_7 : decode cX6_turn 7 = .ok (.iload_n 2, 1) := by decide +kernel
theorem dX6_turn_8 : decode cX6_turn 8 = .ok (.i2l, 1) := by decide +kernel
theorem dX6_turn_9 : decode cX6_turn 9 = .ok (.lconst 0, 1) := by decide +kernel
theorem dX6_turn_10 : decode cX6_turn 10 = .ok (.ldc2_w 63, 3) := by decide +kernel
theorem dX6_turn_13 : decode cX6_turn 13 = .ok (.invokestatic 55, 3) := by decide +kernel
theorem dX6_turn_16 : decode cX6_turn 16 = .ok (.ifCond .eq 10, 3) := by decide +kernel
theorem dX6_turn_19 : decode cX6_turn 19 = .ok (.iload_n 3, 1) := by decide +kernel
theorem dX6_turn_20 : decode cX6_turn 20 = .ok (.invokestatic 103, 3) := by decide +kernel
theorem dX6_turn_23 : decode cX6_turn 23 = .ok (.ifCond .ne 6, 3) := by decide +kernel
theorem dX6_turn_26 : decode cX6_turn 26 = .ok (.bipush (-2), 2) := by decide +kernel
theorem dX6_turn_28 : decode cX6_turn 28 = .ok (.ireturn, 1) := by decide +kernel
theorem dX6_turn_29 : decode cX6_turn 29 = .ok (.aload_n 0, 1) := by decide +kernel
theorem dX6_turn_30 : decode cX6_turn 30 = .ok (.invokevirtual 133, 3) := by decide +kernel
theorem dX6_turn_33 : decode cX6_turn 33 = .ok (.iconst 0, 1) := by decide +kernel
theorem dX6_turn_34 : decode cX6_turn 34 = .ok (.istore 4, 2) := by decide +kernel
theorem dX6_turn_36 : decode cX6_turn 36 = .ok (.iload 4, 2) := by decide +kernel
theorem dX6_turn_38 : decode cX6_turn 38 = .ok (.sipush 256, 3) := by decide +kernel
theorem dX6_turn_41 : decode cX6_turn 41 = .ok (.if_icmp .ge 76, 3) := by decide +kernel
theorem dX6_turn_44 : decode cX6_turn 44 = .ok (.iload 4, 2) := by decide +kernel
theorem dX6_turn_46 : decode cX6_turn 46 = .ok (.bipush 16, 2) := by decide +kernel
theorem dX6_turn_48 : decode cX6_turn 48 = .ok (.irem, 1) := by decide +kernel
theorem dX6_turn_49 : decode cX6_turn 49 = .ok (.istore 5, 2) := by decide +kernel
theorem dX6_turn_51 : decode cX6_turn 51 = .ok (.iload 4, 2) := by decide +kernel
theorem dX6_turn_53 : decode cX6_turn 53 = .ok (.bipush 16, 2) := by decide +kernel
theorem dX6_turn_55 : decode cX6_turn 55 = .ok (.idiv, 1) := by decide +kernel
theorem dX6_turn_56 : decode cX6_turn 56 = .ok (.istore 6, 2) := by decide +kernel
theorem dX6_turn_58 : decode cX6_turn 58 = .ok (.iconst 0, 1) := by decide +kernel
theorem dX6_turn_59 : decode cX6_turn 59 = .ok (.istore 7, 2) := by decide +kernel
theorem dX6_turn_61 : decode cX6_turn 61 = .ok (.iload 7, 2) := by decide +kernel
theorem dX6_turn_63 : decode cX6_turn 63 = .ok (.iload_n 2, 1) := by decide +kernel
theorem dX6_turn_64 : decode cX6_turn 64 = .ok (.if_icmp .ge 24, 3) := by decide +kernel
theorem dX6_turn_67 : decode cX6_turn 67 = .ok (.iload 5, 2) := by decide +kernel
theorem dX6_turn_69 : decode cX6_turn 69 = .ok (.istore 8, 2) := by decide +kernel
theorem dX6_turn_71 : decode cX6_turn 71 = .ok (.bipush 15, 2) := by decide +kernel
theorem dX6_turn_73 : decode cX6_turn 73 = .ok (.iload 6, 2) := by decide +kernel
theorem dX6_turn_75 : decode cX6_turn 75 = .ok (.isub, 1) := by decide +kernel
theorem dX6_turn_76 : decode cX6_turn 76 = .ok (.istore 5, 2) := by decide +kernel
theorem dX6_turn_78 : decode cX6_turn 78 = .ok (.iload 8, 2) := by decide +kernel
theorem dX6_turn_80 : decode cX6_turn 80 = .ok (.istore 6, 2) := by decide +kernel
theorem dX6_turn_82 : decode cX6_turn 82 = .ok (.iinc 7 1, 3) := by decide +kernel
theorem dX6_turn_85 : decode cX6_turn 85 = .ok (.goto (-24), 3) := by decide +kernel
theorem dX6_turn_88 : decode cX6_turn 88 = .ok (.aload_n 0, 1) := by decide +kernel
theorem dX6_turn_89 : decode cX6_turn 89 = .ok (.iload 5, 2) := by decide +kernel
theorem dX6_turn_91 : decode cX6_turn 91 = .ok (.iload 6, 2) := by decide +kernel
theorem dX6_turn_93 : decode cX6_turn 93 = .ok (.aload_n 0, 1) := by decide +kernel
theorem dX6_turn_94 : decode cX6_turn 94 = .ok (.iload_n 1, 1) := by decide +kernel
theorem dX6_turn_95 : decode cX6_turn 95 = .ok (.iload 4, 2) := by decide +kernel
theorem dX6_turn_97 : decode cX6_turn 97 = .ok (.bipush 16, 2) := by decide +kernel
theorem dX6_turn_99 : decode cX6_turn 99 = .ok (.irem, 1) := by decide +kernel
theorem dX6_turn_100 : decode cX6_turn 100 = .ok (.iload 4, 2) := by decide +kernel
theorem dX6_turn_102 : decode cX6_turn 102 = .ok (.bipush 16, 2) := by decide +kernel
theorem dX6_turn_104 : decode cX6_turn 104 = .ok (.idiv, 1) := by decide +kernel
theorem dX6_turn_105 : decode cX6_turn 105 = .ok (.invokevirtual 90, 3) := by decide +kernel
theorem dX6_turn_108 : decode cX6_turn 108 = .ok (.invokevirtual 114, 3) := by decide +kernel
theorem dX6_turn_111 : decode cX6_turn 111 = .ok (.iinc 4 1, 3) := by decide +kernel
theorem dX6_turn_114 : decode cX6_turn 114 = .ok (.goto (-78), 3) := by decide +kernel
theorem dX6_turn_117 : decode cX6_turn 117 = .ok (.aload_n 0, 1) := by decide +kernel
theorem dX6_turn_118 : decode cX6_turn 118 = .ok (.iload_n 3, 1) := by decide +kernel
theorem dX6_turn_119 : decode cX6_turn 119 = .ok (.invokevirtual 118, 3) := by decide +kernel
theorem dX6_turn_122 : decode cX6_turn 122 = .ok (.ireturn, 1) := by decide +kernel
theorem dX6_apart_0 : decode cX6_apart 0 = .ok (.iload_n 0, 1) := by decide +kernel
theorem dX6_apart_1 : decode cX6_apart 1 = .ok (.iload_n 1, 1) := by decide +kernel
theorem dX6_apart_2 : decode cX6_apart 2 = .ok (.if_icmp .ge 9, 3) := by decide +kernel
theorem dX6_apart_5 : decode cX6_apart 5 = .ok (.iload_n 1, 1) := by decide +kernel
theorem dX6_apart_6 : decode cX6_apart 6 = .ok (.iload_n 0, 1) := by decide +kernel
theorem dX6_apart_7 : decode cX6_apart 7 = .ok (.isub, 1) := by decide +kernel
theorem dX6_apart_8 : decode cX6_apart 8 = .ok (.goto 6, 3) := by decide +kernel
theorem dX6_apart_11 : decode cX6_apart 11 = .ok (.iload_n 0, 1) := by decide +kernel
theorem dX6_apart_12 : decode cX6_apart 12 = .ok (.iload_n 1, 1) := by decide +kernel
theorem dX6_apart_13 : decode cX6_apart 13 = .ok (.isub, 1) := by decide +kernel
theorem dX6_apart_14 : decode cX6_apart 14 = .ok (.ireturn, 1) := by decide +kernel
set_option maxRecDepth 20000 in
theorem ggX6_nearOf_X6_apart : GoodIn wsX6_nearOf wsX6_apart := goodIn_r _ [4] (by decide +kernel) (by decide +kernel)
set_option maxRecDepth 20000 in
theorem gX6_nearOf_X6_apart : GoodIn wsX6_nearOf (va_wsS RX6 136 yX6_apart wsX6_apart) := goodIn_app (goodIn_of _ (by decide +kernel)) ggX6_nearOf_X6_apart
set_option maxRecDepth 20000 in
theorem ggX6_nearOf_X6_dark : GoodIn wsX6_nearOf wsX6_dark := goodIn_r _ [8, 9, 10, 11, 3, 12, 13, 14, 15, 16, 17, 18, 19, 20, 21, 22, 23, 24, 25, 26, 27, 28, 29, 30, 31, 32, 33, 34, 35, 36, 37] (by decide +kernel) (by decide +kernel)
set_option maxRecDepth 20000 in
theorem gX6_nearOf_X6_dark : GoodIn wsX6_nearOf (wsV RX6 90 RX6 yX6_dark wsX6_dark) := goodIn_app (goodIn_of _ (by decide +kernel)) ggX6_nearOf_X6_dark
theorem dX6_nearOf_0 : decode cX6_nearOf 0 = .ok (.iconst (-1), 1) := by decide +kernel
theorem dX6_nearOf_1 : decode cX6_nearOf 1 = .ok (.istore 4, 2) := by decide +kernel
theorem dX6_nearOf_3 : decode cX6_nearOf 3 = .ok (.iconst 0, 1) := by decide +kernel
theorem dX6_nearOf_4 : decode cX6_nearOf 4 = .ok (.istore 5, 2) := by decide +kernel
theorem dX6_nearOf_6 : decode cX6_nearOf 6 = .ok (.iload 5, 2) := by decide +kernel
theorem dX6_nearOf_8 : decode cX6_nearOf 8 = .ok (.sipush 256, 3) := by decide +kernel
theorem dX6_nearOf_11 : decode cX6_nearOf 11 = .ok (.if_icmp .ge 71, 3) := by decide +kernel
theorem dX6_nearOf_14 : decode cX6_nearOf 14 = .ok (.iload_n 2, 1) := by decide +kernel
theorem dX6_nearOf_15 : decode cX6_nearOf 15 = .ok (.iload 5, 2) := by decide +kernel
theorem dX6_nearOf_17 : decode cX6_nearOf 17 = .ok (.bipush 16, 2) := by decide +kernel
theorem dX6_nearOf_19 : decode cX6_nearOf 19 = .ok (.irem, 1) := by decide +kernel
theorem dX6_nearOf_20 : decode cX6_nearOf 20 = .ok (.invokestatic 136, 3) := by decide +kernel
theorem dX6_nearOf_23 : decode cX6_nearOf 23 = .ok (.iload_n 3, 1) := by decide +kernel
theorem dX6_nearOf_24 : decode cX6_nearOf 24 = .ok (.iload 5, 2) := by decide +kernel
theorem dX6_nearOf_26 : decode cX6_nearOf 26 = .ok (.bipush 16, 2) := by decide +kernel
theorem dX6_nearOf_28 : decode cX6_nearOf 28 = .ok (.idiv, 1) := by decide +kernel
theorem dX6_nearOf_29 : decode cX6_nearOf 29 = .ok (.invokestatic 136, 3) := by decide +kernel
theorem dX6_nearOf_32 : decode cX6_nearOf 32 = .ok (.iadd, 1) := by decide +kernel
theorem dX6_nearOf_33 : decode cX6_nearOf 33 = .ok (.istore 6, 2) := by decide +kernel
theorem dX6_nearOf_35 : decode cX6_nearOf 35 = .ok (.aload_n 0, 1) := by decide +kernel
theorem dX6_nearOf_36 : decode cX6_nearOf 36 = .ok (.iload_n 1, 1) := by decide +kernel
theorem dX6_nearOf_37 : decode cX6_nearOf 37 = .ok (.iload 5, 2) := by decide +kernel
theorem dX6_nearOf_39 : decode cX6_nearOf 39 = .ok (.bipush 16, 2) := by decide +kernel
theorem dX6_nearOf_41 : decode cX6_nearOf 41 = .ok (.irem, 1) := by decide +kernel
theorem dX6_nearOf_42 : decode cX6_nearOf 42 = .ok (.iload 5, 2) := by decide +kernel
theorem dX6_nearOf_44 : decode cX6_nearOf 44 = .ok (.bipush 16, 2) := by decide +kernel
theorem dX6_nearOf_46 : decode cX6_nearOf 46 = .ok (.idiv, 1) := by decide +kernel
theorem dX6_nearOf_47 : decode cX6_nearOf 47 = .ok (.invokevirtual 90, 3) := by decide +kernel
theorem dX6_nearOf_50 : decode cX6_nearOf 50 = .ok (.iconst 1, 1) := by decide +kernel
theorem dX6_nearOf_51 : decode cX6_nearOf 51 = .ok (.if_icmp .ne 21, 3) := by decide +kernel
theorem dX6_nearOf_54 : decode cX6_nearOf 54 = .ok (.iload 4, 2) := by decide +kernel
theorem dX6_nearOf_56 : decode cX6_nearOf 56 = .ok (.iconst (-1), 1) := by decide +kernel
theorem dX6_nearOf_57 : decode cX6_nearOf 57 = .ok (.if_icmp .eq 10, 3) := by decide +kernel
theorem dX6_nearOf_60 : decode cX6_nearOf 60 = .ok (.iload 6, 2) := by decide +kernel
theorem dX6_nearOf_62 : decode cX6_nearOf 62 = .ok (.iload 4, 2) := by decide +kernel
theorem dX6_nearOf_64 : decode cX6_nearOf 64 = .ok (.if_icmp .ge 8, 3) := by decide +kernel
theorem dX6_nearOf_67 : decode cX6_nearOf 67 = .ok (.iload 6, 2) := by decide +kernel
theorem dX6_nearOf_69 : decode cX6_nearOf 69 = .ok (.goto 5, 3) := by decide +kernel
theorem dX6_nearOf_72 : decode cX6_nearOf 72 = .ok (.iload 4, 2) := by decide +kernel
theorem dX6_nearOf_74 : decode cX6_nearOf 74 = .ok (.istore 4, 2) := by decide +kernel
theorem dX6_nearOf_76 : decode cX6_nearOf 76 = .ok (.iinc 5 1, 3) := by decide +kernel
theorem dX6_nearOf_79 : decode cX6_nearOf 79 = .ok (.goto (-73), 3) := by decide +kernel
theorem dX6_nearOf_82 : decode cX6_nearOf 82 = .ok (.iload 4, 2) := by decide +kernel
theorem dX6_nearOf_84 : decode cX6_nearOf 84 = .ok (.ireturn, 1) := by decide +kernel
set_option maxRecDepth 20000 in
theorem ggX6_band_X6_isMask : GoodIn wsX6_band wsX6_isMask := goodIn_r _ [5, 6, 7, 8, 4, 9] (by decide +kernel) (by decide +kernel)
set_option maxRecDepth 20000 in
theorem gX6_band_X6_isMask : GoodIn wsX6_band (va_wsS RX6 103 yX6_isMask wsX6_isMask) := goodIn_app (goodIn_of _ (by decide +kernel)) ggX6_band_X6_isMask
set_option maxRecDepth 20000 in
theorem ggX6_band_X6_in : GoodIn wsX6_band wsX6_in := goodIn_r _ [9] (by decide +kernel) (by decide +kernel)
set_option maxRecDepth 20000 in
theorem gX6_band_X6_in : GoodIn wsX6_band (va_wsS RX6 55 yX6_in wsX6_in) := goodIn_app (goodIn_of _ (by decide +kernel)) ggX6_band_X6_in
set_option maxRecDepth 20000 in
theorem ggX6_band_X6_clears : GoodIn wsX6_band wsX6_clears := goodIn_r _ [13, 14, 50, 51, 52, 53, 54, 55, 56, 57, 58, 59, 60, 61, 62, 63, 64, 65, 66, 67, 68, 69, 70] (by decide +kernel) (by decide +kernel)
set_option maxRecDepth 20000 in
theorem gX6_band_X6_clears : GoodIn wsX6_band (wsV RX6 133 RX6 yX6_clears wsX6_clears) := goodIn_app (goodIn_of _ (by decide +kernel)) ggX6_band_X6_clears
set_option maxRecDepth 20000 in
theorem ggX6_band_X6_nearOf : GoodIn wsX6_band wsX6_nearOf := goodIn_r _ [18, 19, 20, 4, 21, 22, 23, 24, 25, 26, 27, 28, 29, 30, 7, 8, 9, 50, 51, 52, 53, 54, 55, 56, 57, 58, 59, 60, 61, 62, 63, 64, 65, 66, 67, 68, 69, 70] (by decide +kernel) (by decide +kernel)
set_option maxRecDepth 20000 in
theorem gX6_band_X6_nearOf : GoodIn wsX6_band (wsV RX6 141 RX6 yX6_nearOf wsX6_nearOf) := goodIn_app (goodIn_of _ (by decide +kernel)) ggX6_band_X6_nearOf
set_option maxRecDepth 20000 in
theorem ggX6_band_X6_sets : GoodIn wsX6_band wsX6_sets := goodIn_r _ [34, 14, 50, 51, 52, 53, 54, 55, 56, 57, 58, 59, 60, 61, 62, 63, 64, 65, 66, 67, 68, 69, 70] (by decide +kernel) (by decide +kernel)
set_option maxRecDepth 20000 in
theorem gX6_band_X6_sets : GoodIn wsX6_band (wsV RX6 114 RX6 yX6_sets wsX6_sets) := goodIn_app (goodIn_of _ (by decide +kernel)) ggX6_band_X6_sets
set_option maxRecDepth 20000 in
theorem ggX6_band_X6_become : GoodIn wsX6_band wsX6_become := goodIn_r _ [38, 39, 40, 41, 4, 42, 43, 44, 45, 26, 14, 46, 47, 48, 49, 22, 23, 24, 25, 27, 28, 29, 30, 7, 8, 9, 50, 51, 52, 53, 54, 55, 56, 57, 58, 59, 60, 61, 62, 63, 64, 65, 66, 67, 68, 69, 70] (by decide +kernel) (by decide +kernel)
set_option maxRecDepth 20000 in
theorem gX6_band_X6_become : GoodIn wsX6_band (wsV RX6 118 RX6 yX6_become wsX6_become) := goodIn_app (goodIn_of _ (by decide +kernel)) ggX6_band_X6_become
theorem dX6_band_0 : decode cX6_band 0 = .ok (.iload_n 1, 1) := by decide +kernel
theorem dX6_band_1 : decode cX6_band 1 = .ok (.invokestatic 103, 3) := by decide +kernel
theorem dX6_band_4 : decode cX6_band 4 = .ok (.ifCond .eq 22, 3) := by decide +kernel
theorem dX6_band_7 : decode cX6_band 7 = .ok (.iload_n 2, 1) := by decide +kernel
theorem dX6_band_8 : decode cX6_band 8 = .ok (.i2l, 1) := by decide +kernel
theorem dX6_band_9 : decode cX6_band 9 = .ok (.lconst 0, 1) := by decide +kernel
theorem dX6_band_10 : decode cX6_band 10 = .ok (.ldc2_w 139, 3) := by decide +kernel
theorem dX6_band_13 : decode cX6_band 13 = .ok (.invokestatic 55, 3) := by decide +kernel
theorem dX6_band_16 : decode cX6_band 16 = .ok (.ifCond .eq 10, 3) := by decide +kernel
theorem dX6_band_19 : decode cX6_band 19 = .ok (.iload_n 3, 1) := by decide +kernel
theorem dX6_band_20 : decode cX6_band 20 = .ok (.invokestatic 103, 3) := by decide +kernel
theorem dX6_band_23 : decode cX6_band 23 = .ok (.ifCond .ne 6, 3) := by decide +kernel
theorem dX6_band_26 : decode cX6_band 26 = .ok (.bipush (-2), 2) := by decide +kernel
theorem dX6_band_28 : decode cX6_band 28 = .ok (.ireturn, 1) := by decide +kernel
theorem dX6_band_29 : decode cX6_band 29 = .ok (.aload_n 0, 1) := by decide +kernel
theorem dX6_band_30 : decode cX6_band 30 = .ok (.invokevirtual 133, 3) := by decide +kernel
theorem dX6_band_33 : decode cX6_band 33 = .ok (.iconst 0, 1) := by decide +kernel
theorem dX6_band_34 : decode cX6_band 34 = .ok (.istore 4, 2) := by decide +kernel
theorem dX6_band_36 : decode cX6_band 36 = .ok (.iload 4, 2) := by decide +kernel
theorem dX6_band_38 : decode cX6_band 38 = .ok (.sipush 256, 3) := by decide +kernel
theorem dX6_band_41 : decode cX6_band 41 = .ok (.if_icmp .ge 53, 3) := by decide +kernel
theorem dX6_band_44 : decode cX6_band 44 = .ok (.aload_n 0, 1) := by decide +kernel
theorem dX6_band_45 : decode cX6_band 45 = .ok (.iload 4, 2) := by decide +kernel
theorem dX6_band_47 : decode cX6_band 47 = .ok (.bipush 16, 2) := by decide +kernel
theorem dX6_band_49 : decode cX6_band 49 = .ok (.irem, 1) := by decide +kernel
theorem dX6_band_50 : decode cX6_band 50 = .ok (.iload 4, 2) := by decide +kernel
theorem dX6_band_52 : decode cX6_band 52 = .ok (.bipush 16, 2) := by decide +kernel
theorem dX6_band_54 : decode cX6_band 54 = .ok (.idiv, 1) := by decide +kernel
theorem dX6_band_55 : decode cX6_band 55 = .ok (.aload_n 0, 1) := by decide +kernel
theorem dX6_band_56 : decode cX6_band 56 = .ok (.iload_n 1, 1) := by decide +kernel
theorem dX6_band_57 : decode cX6_band 57 = .ok (.iload 4, 2) := by decide +kernel
theorem dX6_band_59 : decode cX6_band 59 = .ok (.bipush 16, 2) := by decide +kernel
theorem dX6_band_61 : decode cX6_band 61 = .ok (.irem, 1) := by decide +kernel
theorem dX6_band_62 : decode cX6_band 62 = .ok (.iload 4, 2) := by decide +kernel
theorem dX6_band_64 : decode cX6_band 64 = .ok (.bipush 16, 2) := by decide +kernel
theorem dX6_band_66 : decode cX6_band 66 = .ok (.idiv, 1) := by decide +kernel
theorem dX6_band_67 : decode cX6_band 67 = .ok (.invokevirtual 141, 3) := by decide +kernel
theorem dX6_band_70 : decode cX6_band 70 = .ok (.i2l, 1) := by decide +kernel
theorem dX6_band_71 : decode cX6_band 71 = .ok (.lconst 0, 1) := by decide +kernel
theorem dX6_band_72 : decode cX6_band 72 = .ok (.iload_n 2, 1) := by decide +kernel
theorem dX6_band_73 : decode cX6_band 73 = .ok (.i2l, 1) := by decide +kernel
theorem dX6_band_74 : decode cX6_band 74 = .ok (.invokestatic 55, 3) := by decide +kernel
theorem dX6_band_77 : decode cX6_band 77 = .ok (.ifCond .eq 7, 3) := by decide +kernel
theorem dX6_band_80 : decode cX6_band 80 = .ok (.iconst 1, 1) := by decide +kernel
theorem dX6_band_81 : decode cX6_band 81 = .ok (.goto 4, 3) := by decide +kernel
theorem dX6_band_84 : decode cX6_band 84 = .ok (.iconst 0, 1) := by decide +kernel
theorem dX6_band_85 : decode cX6_band 85 = .ok (.invokevirtual 114, 3) := by decide +kernel
theorem dX6_band_88 : decode cX6_band 88 = .ok (.iinc 4 1, 3) := by decide +kernel
theorem dX6_band_91 : decode cX6_band 91 = .ok (.goto (-55), 3) := by decide +kernel
theorem dX6_band_94 : decode cX6_band 94 = .ok (.aload_n 0, 1) := by decide +kernel
theorem dX6_band_95 : decode cX6_band 95 = .ok (.iload_n 3, 1) := by decide +kernel
theorem dX6_band_96 : decode cX6_band 96 = .ok (.invokevirtual 118, 3) := by decide +kernel
theorem dX6_band_99 : decode cX6_band 99 = .ok (.ireturn, 1) := by decide +kernel
set_option maxRecDepth 20000 in
theorem ggX6_floods_X6_isCell : GoodIn wsX6_floods wsX6_isCell := goodIn_r _ [7, 8, 9, 10, 6, 11] (by decide +kernel) (by decide +kernel)
set_option maxRecDepth 20000 in
theorem gX6_floods_X6_isCell : GoodIn wsX6_floods (va_wsS RX6 86 yX6_isCell wsX6_isCell) := goodIn_app (goodIn_of _ (by decide +kernel)) ggX6_floods_X6_isCell
set_option maxRecDepth 20000 in
theorem ggX6_floods_X6_dark : GoodIn wsX6_floods wsX6_dark := goodIn_r _ [15, 16, 4, 5, 6, 7, 8, 9, 10, 11, 17, 18, 19, 20, 21, 22, 23, 24, 25, 26, 27, 28, 29, 30, 31, 32, 33, 34, 35, 36, 37] (by decide +kernel) (by decide +kernel)
set_option maxRecDepth 20000 in
theorem gX6_floods_X6_dark : GoodIn wsX6_floods (wsV RX6 90 RX6 yX6_dark wsX6_dark) := goodIn_app (goodIn_of _ (by decide +kernel)) ggX6_floods_X6_dark
theorem dX6_floods_0 : decode cX6_floods 0 = .ok (.iconst 1, 1) := by decide +kernel
theorem dX6_floods_1 : decode cX6_floods 1 = .ok (.istore 4, 2) := by decide +kernel
theorem dX6_floods_3 : decode cX6_floods 3 = .ok (.aload_n 0, 1) := by decide +kernel
theorem dX6_floods_4 : decode cX6_floods 4 = .ok (.getfield 37, 3) := by decide +kernel
theorem dX6_floods_7 : decode cX6_floods 7 = .ok (.iconst 0, 1) := by decide +kernel
theorem dX6_floods_8 : decode cX6_floods 8 = .ok (.iload_n 3, 1) := by decide +kernel
theorem dX6_floods_9 : decode cX6_floods 9 = .ok (.iastore, 1) := by decide +kernel
theorem dX6_floods_10 : decode cX6_floods 10 = .ok (.aload_n 0, 1) := by decide +kernel
theorem dX6_floods_11 : decode cX6_floods 11 = .ok (.getfield 34, 3) := by decide +kernel
theorem dX6_floods_14 : decode cX6_floods 14 = .ok (.iload_n 3, 1) := by decide +kernel
theorem dX6_floods_15 : decode cX6_floods 15 = .ok (.aload_n 0, 1) := by decide +kernel
theorem dX6_floods_16 : decode cX6_floods 16 = .ok (.getfield 144, 3) := by decide +kernel
theorem dX6_floods_19 : decode cX6_floods 19 = .ok (.iastore, 1) := by decide +kernel
theorem dX6_floods_20 : decode cX6_floods 20 = .ok (.iload 4, 2) := by decide +kernel
theorem dX6_floods_22 : decode cX6_floods 22 = .ok (.ifCond .le 165, 3) := by decide +kernel
theorem dX6_floods_25 : decode cX6_floods 25 = .ok (.iinc 4 (-1), 3) := by decide +kernel
theorem dX6_floods_28 : decode cX6_floods 28 = .ok (.aload_n 0, 1) := by decide +kernel
theorem dX6_floods_29 : decode cX6_floods 29 = .ok (.getfield 37, 3) := by decide +kernel
theorem dX6_floods_32 : decode cX6_floods 32 = .ok (.iload 4, 2) := by decide +kernel
theorem dX6_floods_34 : decode cX6_floods 34 = .ok (.iaload, 1) := by decide +kernel
theorem dX6_floods_35 : decode cX6_floods 35 = .ok (.istore 5, 2) := by decide +kernel
theorem dX6_floods_37 : decode cX6_floods 37 = .ok (.iconst 0, 1) := by decide +kernel
theorem dX6_floods_38 : decode cX6_floods 38 = .ok (.istore 6, 2) := by decide +kernel
theorem dX6_floods_40 : decode cX6_floods 40 = .ok (.iload 6, 2) := by decide +kernel
theorem dX6_floods_42 : decode cX6_floods 42 = .ok (.iconst 4, 1) := by decide +kernel
theorem dX6_floods_43 : decode cX6_floods 43 = .ok (.if_icmp .ge 141, 3) := by decide +kernel
theorem dX6_floods_46 : decode cX6_floods 46 = .ok (.iload 5, 2) := by decide +kernel
theorem dX6_floods_48 : decode cX6_floods 48 = .ok (.bipush 16, 2) := by decide +kernel
theorem dX6_floods_50 : decode cX6_floods 50 = .ok (.irem, 1) := by decide +kernel
theorem dX6_floods_51 : decode cX6_floods 51 = .ok (.iload 6, 2) := by decide +kernel
theorem dX6_floods_53 : decode cX6_floods 53 = .ok (.ifCond .ne 7, 3) := by decide +kernel
theorem dX6_floods_56 : decode cX6_floods 56 = .ok (.iconst 1, 1) := by decide +kernel
theorem dX6_floods_57 : decode cX6_floods 57 = .ok (.goto 14, 3) := by decide +kernel
theorem dX6_floods_60 : decode cX6_floods 60 = .ok (.iload 6, 2) := by decide +kernel
theorem dX6_floods_62 : decode cX6_floods 62 = .ok (.iconst 1, 1) := by decide +kernel
theorem dX6_floods_63 : decode cX6_floods 63 = .ok (.if_icmp .ne 7, 3) := by decide +kernel
theorem dX6_floods_66 : decode cX6_floods 66 = .ok (.iconst (-1), 1) := by decide +kernel
theorem dX6_floods_67 : decode cX6_floods 67 = .ok (.goto 4, 3) := by decide +kernel
theorem dX6_floods_70 : decode cX6_floods 70 = .ok (.iconst 0, 1) := by decide +kernel
theorem dX6_floods_71 : decode cX6_floods 71 = .ok (.iadd, 1) := by decide +kernel
theorem dX6_floods_72 : decode cX6_floods 72 = .ok (.istore 7, 2) := by decide +kernel
theorem dX6_floods_74 : decode cX6_floods 74 = .ok (.iload 5, 2) := by decide +kernel
theorem dX6_floods_76 : decode cX6_floods 76 = .ok (.bipush 16, 2) := by decide +kernel
theorem dX6_floods_78 : decode cX6_floods 78 = .ok (.idiv, 1) := by decide +kernel
theorem dX6_floods_79 : decode cX6_floods 79 = .ok (.iload 6, 2) := by decide +kernel
theorem dX6_floods_81 : decode cX6_floods 81 = .ok (.iconst 2, 1) := by decide +kernel
theorem dX6_floods_82 : decode cX6_floods 82 = .ok (.if_icmp .ne 7, 3) := by decide +kernel
theorem dX6_floods_85 : decode cX6_floods 85 = .ok (.iconst 1, 1) := by decide +kernel
theorem dX6_floods_86 : decode cX6_floods 86 = .ok (.goto 14, 3) := by decide +kernel
theorem dX6_floods_89 : decode cX6_floods 89 = .ok (.iload 6, 2) := by decide +kernel
theorem dX6_floods_91 : decode cX6_floods 91 = .ok (.iconst 3, 1) := by decide +kernel
theorem dX6_floods_92 : decode cX6_floods 92 = .ok (.if_icmp .ne 7, 3) := by decide +kernel
theorem dX6_floods_95 : decode cX6_floods 95 = .ok (.iconst (-1), 1) := by decide +kernel
theorem dX6_floods_96 : decode cX6_floods 96 = .ok (.goto 4, 3) := by decide +kernel
theorem dX6_floods_99 : decode cX6_floods 99 = .ok (.iconst 0, 1) := by decide +kernel
theorem dX6_floods_100 : decode cX6_floods 100 = .ok (.iadd, 1) := by decide +kernel
theorem dX6_floods_101 : decode cX6_floods 101 = .ok (.istore 8, 2) := by decide +kernel
theorem dX6_floods_103 : decode cX6_floods 103 = .ok (.iload 7, 2) := by decide +kernel
theorem dX6_floods_105 : decode cX6_floods 105 = .ok (.iload 8, 2) := by decide +kernel
theorem dX6_floods_107 : decode cX6_floods 107 = .ok (.invokestatic 86, 3) := by decide +kernel
theorem dX6_floods_110 : decode cX6_floods 110 = .ok (.ifCond .eq 68, 3) := by decide +kernel
theorem dX6_floods_113 : decode cX6_floods 113 = .ok (.aload_n 0, 1) := by decide +kernel
theorem dX6_floods_114 : decode cX6_floods 114 = .ok (.getfield 34, 3) := by decide +kernel
theorem dX6_floods_117 : decode cX6_floods 117 = .ok (.bipush 16, 2) := by decide +kernel
theorem dX6_floods_119 : decode cX6_floods 119 = .ok (.iload 8, 2) := by decide +kernel
theorem dX6_floods_121 : decode cX6_floods 121 = .ok (.imul, 1) := by decide +kernel
theorem dX6_floods_122 : decode cX6_floods 122 = .ok (.iload 7, 2) := by decide +kernel
theorem dX6_floods_124 : decode cX6_floods 124 = .ok (.iadd, 1) := by decide +kernel
theorem dX6_floods_125 : decode cX6_floods 125 = .ok (.iaload, 1) := by decide +kernel
theorem dX6_floods_126 : decode cX6_floods 126 = .ok (.iconst (-1), 1) := by decide +kernel
theorem dX6_floods_127 : decode cX6_floods 127 = .ok (.if_icmp .ne 51, 3) := by decide +kernel
theorem dX6_floods_130 : decode cX6_floods 130 = .ok (.aload_n 0, 1) := by decide +kernel
theorem dX6_floods_131 : decode cX6_floods 131 = .ok (.iload_n 1, 1) := by decide +kernel
theorem dX6_floods_132 : decode cX6_floods 132 = .ok (.iload 7, 2) := by decide +kernel
theorem dX6_floods_134 : decode cX6_floods 134 = .ok (.iload 8, 2) := by decide +kernel
theorem dX6_floods_136 : decode cX6_floods 136 = .ok (.invokevirtual 90, 3) := by decide +kernel
theorem dX6_floods_139 : decode cX6_floods 139 = .ok (.iload_n 2, 1) := by decide +kernel
theorem dX6_floods_140 : decode cX6_floods 140 = .ok (.if_icmp .ne 38, 3) := by decide +kernel
theorem dX6_floods_143 : decode cX6_floods 143 = .ok (.aload_n 0, 1) := by decide +kernel
theorem dX6_floods_144 : decode cX6_floods 144 = .ok (.getfield 34, 3) := by decide +kernel
theorem dX6_floods_147 : decode cX6_floods 147 = .ok (.bipush 16, 2) := by decide +kernel
theorem dX6_floods_149 : decode cX6_floods 149 = .ok (.iload 8, 2) := by decide +kernel
theorem dX6_floods_151 : decode cX6_floods 151 = .ok (.imul, 1) := by decide +kernel
theorem dX6_floods_152 : decode cX6_floods 152 = .ok (.iload 7, 2) := by decide +kernel
theorem dX6_floods_154 : decode cX6_floods 154 = .ok (.iadd, 1) := by decide +kernel
theorem dX6_floods_155 : decode cX6_floods 155 = .ok (.aload_n 0, 1) := by decide +kernel
theorem dX6_floods_156 : decode cX6_floods 156 = .ok (.getfield 144, 3) := by decide +kernel
theorem dX6_floods_159 : decode cX6_floods 159 = .ok (.iastore, 1) := by decide +kernel
theorem dX6_floods_160 : decode cX6_floods 160 = .ok (.aload_n 0, 1) := by decide +kernel
theorem dX6_floods_161 : decode cX6_floods 161 = .ok (.getfield 37, 3) := by decide +kernel
theorem dX6_floods_164 : decode cX6_floods 164 = .ok (.iload 4, 2) := by decide +kernel
theorem dX6_floods_166 : decode cX6_floods 166 = .ok (.bipush 16, 2) := by decide +kernel
theorem dX6_floods_168 : decode cX6_floods 168 = .ok (.iload 8, 2) := by decide +kernel
theorem dX6_floods_170 : decode cX6_floods 170 = .ok (.imul, 1) := by decide +kernel
theorem dX6_floods_171 : decode cX6_floods 171 = .ok (.iload 7, 2) := by decide +kernel
theorem dX6_floods_173 : decode cX6_floods 173 = .ok (.iadd, 1) := by decide +kernel
theorem dX6_floods_174 : decode cX6_floods 174 = .ok (.iastore, 1) := by decide +kernel
theorem dX6_floods_175 : decode cX6_floods 175 = .ok (.iinc 4 1, 3) := by decide +kernel
theorem dX6_floods_178 : decode cX6_floods 178 = .ok (.iinc 6 1, 3) := by decide +kernel
theorem dX6_floods_181 : decode cX6_floods 181 = .ok (.goto (-141), 3) := by decide +kernel
theorem dX6_floods_184 : decode cX6_floods 184 = .ok (.goto (-164), 3) := by decide +kernel
theorem dX6_floods_187 : decode cX6_floods 187 = .ok (.aload_n 0, 1) := by decide +kernel
theorem dX6_floods_188 : decode cX6_floods 188 = .ok (.dup, 1) := by decide +kernel
theorem dX6_floods_189 : decode cX6_floods 189 = .ok (.getfield 144, 3) := by decide +kernel
theorem dX6_floods_192 : decode cX6_floods 192 = .ok (.iconst 1, 1) := by decide +kernel
theorem dX6_floods_193 : decode cX6_floods 193 = .ok (.iadd, 1) := by decide +kernel
theorem dX6_floods_194 : decode cX6_floods 194 = .ok (.putfield 144, 3) := by decide +kernel
theorem dX6_floods_197 : decode cX6_floods 197 = .ok (.return_, 1) := by decide +kernel
set_option maxRecDepth 20000 in
theorem ggX6_labels_X6_dark : GoodIn wsX6_labels wsX6_dark := goodIn_r _ [7, 8, 9, 10, 6, 11, 12, 13, 14, 15, 21, 22, 23, 24, 25, 26, 27, 28, 29, 30, 31, 32, 33, 34, 35, 36, 37, 38, 39, 40, 41] (by decide +kernel) (by decide +kernel)
set_option maxRecDepth 20000 in
theorem gX6_labels_X6_dark : GoodIn wsX6_labels (wsV RX6 90 RX6 yX6_dark wsX6_dark) := goodIn_app (goodIn_of _ (by decide +kernel)) ggX6_labels_X6_dark
set_option maxRecDepth 20000 in
theorem ggX6_labels_X6_floods : GoodIn wsX6_labels wsX6_floods := goodIn_r _ [19, 20, 2, 1, 9, 10, 6, 11, 12, 13, 14, 15, 3, 4, 5, 7, 8, 21, 22, 23, 24, 25, 26, 27, 28, 29, 30, 31, 32, 33, 34, 35, 36, 37, 38, 39, 40, 41] (by decide +kernel) (by decide +kernel)
set_option maxRecDepth 20000 in
theorem gX6_labels_X6_floods : GoodIn wsX6_labels (wsV RX6 147 RX6 yX6_floods wsX6_floods) := goodIn_app (goodIn_of _ (by decide +kernel)) ggX6_labels_X6_floods
theorem dX6_labels_0 : decode cX6_labels 0 = .ok (.aload_n 0, 1) := by decide +kernel
theorem dX6_labels_1 : decode cX6_labels 1 = .ok (.iconst 0, 1) := by decide +kernel
theorem dX6_labels_2 : decode cX6_labels 2 = .ok (.putfield 144, 3) := by decide +kernel
theorem dX6_labels_5 : decode cX6_labels 5 = .ok (.iconst 0, 1) := by decide +kernel
theorem dX6_labels_6 : decode cX6_labels 6 = .ok (.istore_n 3, 1) := by decide +kernel
theorem dX6_labels_7 : decode cX6_labels 7 = .ok (.iload_n 3, 1) := by decide +kernel
theorem dX6_labels_8 : decode cX6_labels 8 = .ok (.sipush 256, 3) := by decide +kernel
theorem dX6_labels_11 : decode cX6_labels 11 = .ok (.if_icmp .ge 16, 3) := by decide +kernel
theorem dX6_labels_14 : decode cX6_labels 14 = .ok (.aload_n 0, 1) := by decide +kernel
theorem dX6_labels_15 : decode cX6_labels 15 = .ok (.getfield 34, 3) := by decide +kernel
theorem dX6_labels_18 : decode cX6_labels 18 = .ok (.iload_n 3, 1) := by decide +kernel
theorem dX6_labels_19 : decode cX6_labels 19 = .ok (.iconst (-1), 1) := by decide +kernel
theorem dX6_labels_20 : decode cX6_labels 20 = .ok (.iastore, 1) := by decide +kernel
theorem dX6_labels_21 : decode cX6_labels 21 = .ok (.iinc 3 1, 3) := by decide +kernel
theorem dX6_labels_24 : decode cX6_labels 24 = .ok (.goto (-17), 3) := by decide +kernel
theorem dX6_labels_27 : decode cX6_labels 27 = .ok (.iconst 0, 1) := by decide +kernel
theorem dX6_labels_28 : decode cX6_labels 28 = .ok (.istore_n 3, 1) := by decide +kernel
theorem dX6_labels_29 : decode cX6_labels 29 = .ok (.iload_n 3, 1) := by decide +kernel
theorem dX6_labels_30 : decode cX6_labels 30 = .ok (.sipush 256, 3) := by decide +kernel
theorem dX6_labels_33 : decode cX6_labels 33 = .ok (.if_icmp .ge 43, 3) := by decide +kernel
theorem dX6_labels_36 : decode cX6_labels 36 = .ok (.aload_n 0, 1) := by decide +kernel
theorem dX6_labels_37 : decode cX6_labels 37 = .ok (.getfield 34, 3) := by decide +kernel
theorem dX6_labels_40 : decode cX6_labels 40 = .ok (.iload_n 3, 1) := by decide +kernel
theorem dX6_labels_41 : decode cX6_labels 41 = .ok (.iaload, 1) := by decide +kernel
theorem dX6_labels_42 : decode cX6_labels 42 = .ok (.iconst (-1), 1) := by decide +kernel
theorem dX6_labels_43 : decode cX6_labels 43 = .ok (.if_icmp .ne 27, 3) := by decide +kernel
theorem dX6_labels_46 : decode cX6_labels 46 = .ok (.aload_n 0, 1) := by decide +kernel
theorem dX6_labels_47 : decode cX6_labels 47 = .ok (.iload_n 1, 1) := by decide +kernel
theorem dX6_labels_48 : decode cX6_labels 48 = .ok (.iload_n 3, 1) := by decide +kernel
theorem dX6_labels_49 : decode cX6_labels 49 = .ok (.bipush 16, 2) := by decide +kernel
theorem dX6_labels_51 : decode cX6_labels 51 = .ok (.irem, 1) := by decide +kernel
theorem dX6_labels_52 : decode cX6_labels 52 = .ok (.iload_n 3, 1) := by decide +kernel
theorem dX6_labels_53 : decode cX6_labels 53 = .ok (.bipush 16, 2) := by decide +kernel
theorem dX6_labels_55 : decode cX6_labels 55 = .ok (.idiv, 1) := by decide +kernel
theorem dX6_labels_56 : decode cX6_labels 56 = .ok (.invokevirtual 90, 3) := by decide +kernel
theorem dX6_labels_59 : decode cX6_labels 59 = .ok (.iload_n 2, 1) := by decide +kernel
theorem dX6_labels_60 : decode cX6_labels 60 = .ok (.if_icmp .ne 10, 3) := by decide +kernel
theorem dX6_labels_63 : decode cX6_labels 63 = .ok (.aload_n 0, 1) := by decide +kernel
theorem dX6_labels_64 : decode cX6_labels 64 = .ok (.iload_n 1, 1) := by decide +kernel
theorem dX6_labels_65 : decode cX6_labels 65 = .ok (.iload_n 2, 1) := by decide +kernel
theorem dX6_labels_66 : decode cX6_labels 66 = .ok (.iload_n 3, 1) := by decide +kernel
theorem dX6_labels_67 : decode cX6_labels 67 = .ok (.invokevirtual 147, 3) := by decide +kernel
theorem dX6_labels_70 : decode cX6_labels 70 = .ok (.iinc 3 1, 3) := by decide +kernel
theorem dX6_labels_73 : decode cX6_labels 73 = .ok (.goto (-44), 3) := by decide +kernel
theorem dX6_labels_76 : decode cX6_labels 76 = .ok (.return_, 1) := by decide +kernel
end
section
set_option maxRecDepth 20000 in
theorem ggX6_pick_X6_isMask : GoodIn wsX6_pick wsX6_isMask := goodIn_r _ [5, 6, 7, 8, 4, 9] (by decide +kernel) (by decide +kernel)
set_option maxRecDepth 20000 in
theorem gX6_pick_X6_isMask : GoodIn wsX6_pick (va_wsS RX6 103 yX6_isMask wsX6_isMask) := goodIn_app (goodIn_of _ (by decide +kernel)) ggX6_pick_X6_isMask
set_option maxRecDepth 20000 in
theorem ggX6_pick_X6_isCell : GoodIn wsX6_pick wsX6_isCell := goodIn_r _ [12, 13, 7, 8, 4, 9] (by decide +kernel) (by decide +kernel)
set_option maxRecDepth 20000 in
theorem gX6_pick_X6_isCell : GoodIn wsX6_pick (va_wsS RX6 86 yX6_isCell wsX6_isCell) := goodIn_app (goodIn_of _ (by decide +kernel)) ggX6_pick_X6_isCell
set_option maxRecDepth 20000 in
theorem ggX6_pick_X6_dark : GoodIn wsX6_pick wsX6_dark := goodIn_r _ [17, 18, 10, 11, 4, 12, 13, 7, 8, 9, 53, 54, 55, 56, 57, 58, 59, 60, 61, 62, 63, 64, 65, 66, 67, 68, 69, 70, 71, 72, 73] (by decide +kernel) (by decide +kernel)
set_option maxRecDepth 20000 in
theorem gX6_pick_X6_dark : GoodIn wsX6_pick (wsV RX6 90 RX6 yX6_dark wsX6_dark) := goodIn_app (goodIn_of _ (by decide +kernel)) ggX6_pick_X6_dark
set_option maxRecDepth 20000 in
theorem ggX6_pick_X6_labels : GoodIn wsX6_pick wsX6_labels := goodIn_r _ [22, 23, 1, 14, 15, 16, 4, 17, 18, 10, 11, 12, 13, 7, 8, 9, 24, 25, 26, 27, 28, 53, 54, 55, 56, 57, 58, 59, 60, 61, 62, 63, 64, 65, 66, 67, 68, 69, 70, 71, 72, 73] (by decide +kernel) (by decide +kernel)
set_option maxRecDepth 20000 in
theorem gX6_pick_X6_labels : GoodIn wsX6_pick (wsV RX6 150 RX6 yX6_labels wsX6_labels) := goodIn_app (goodIn_of _ (by decide +kernel)) ggX6_pick_X6_labels
set_option maxRecDepth 20000 in
theorem ggX6_pick_X6_clears : GoodIn wsX6_pick wsX6_clears := goodIn_r _ [32, 33, 53, 54, 55, 56, 57, 58, 59, 60, 61, 62, 63, 64, 65, 66, 67, 68, 69, 70, 71, 72, 73] (by decide +kernel) (by decide +kernel)
set_option maxRecDepth 20000 in
theorem gX6_pick_X6_clears : GoodIn wsX6_pick (wsV RX6 133 RX6 yX6_clears wsX6_clears) := goodIn_app (goodIn_of _ (by decide +kernel)) ggX6_pick_X6_clears
set_option maxRecDepth 20000 in
theorem ggX6_pick_X6_sets : GoodIn wsX6_pick wsX6_sets := goodIn_r _ [37, 33, 53, 54, 55, 56, 57, 58, 59, 60, 61, 62, 63, 64, 65, 66, 67, 68, 69, 70, 71, 72, 73] (by decide +kernel) (by decide +kernel)
set_option maxRecDepth 20000 in
theorem gX6_pick_X6_sets : GoodIn wsX6_pick (wsV RX6 114 RX6 yX6_sets wsX6_sets) := goodIn_app (goodIn_of _ (by decide +kernel)) ggX6_pick_X6_sets
set_option maxRecDepth 20000 in
theorem ggX6_pick_X6_become : GoodIn wsX6_pick wsX6_become := goodIn_r _ [41, 42, 43, 44, 4, 45, 46, 47, 48, 18, 33, 49, 50, 51, 52, 14, 15, 16, 17, 10, 11, 12, 13, 7, 8, 9, 53, 54, 55, 56, 57, 58, 59, 60, 61, 62, 63, 64, 65, 66, 67, 68, 69, 70, 71, 72, 73] (by decide +kernel) (by decide +kernel)
set_option maxRecDepth 20000 in
theorem gX6_pick_X6_become : GoodIn wsX6_pick (wsV RX6 118 RX6 yX6_become wsX6_become) := goodIn_app (goodIn_of _ (by decide +kernel)) ggX6_pick_X6_become
theorem dX6_pick_0 : decode cX6_pick 0 = .ok (.iload_n 1, 1) := by decide +kernel
theorem dX6_pick_1 : decode cX6_pick 1 = .ok (.invokestatic 103, 3) := by decide +kernel
theorem dX6_pick_4 : decode cX6_pick 4 = .ok (.ifCond .eq 19, 3) := by decide +kernel
theorem dX6_pick_7 : decode cX6_pick 7 = .ok (.iload_n 2, 1) := by decide +kernel
theorem dX6_pick_8 : decode cX6_pick 8 = .ok (.iload_n 3, 1) := by decide +kernel
theorem dX6_pick_9 : decode cX6_pick 9 = .ok (.invokestatic 86, 3) := by decide +kernel
theorem dX6_pick_12 : decode cX6_pick 12 = .ok (.ifCond .eq 11, 3) := by decide +kernel
theorem dX6_pick_15 : decode cX6_pick 15 = .ok (.iload 4, 2) := by decide +kernel
theorem dX6_pick_17 : decode cX6_pick 17 = .ok (.invokestatic 103, 3) := by decide +kernel
theorem dX6_pick_20 : decode cX6_pick 20 = .ok (.ifCond .ne 6, 3) := by decide +kernel
theorem dX6_pick_23 : decode cX6_pick 23 = .ok (.bipush (-2), 2) := by decide +kernel
theorem dX6_pick_25 : decode cX6_pick 25 = .ok (.ireturn, 1) := by decide +kernel
theorem dX6_pick_26 : decode cX6_pick 26 = .ok (.aload_n 0, 1) := by decide +kernel
theorem dX6_pick_27 : decode cX6_pick 27 = .ok (.iload_n 1, 1) := by decide +kernel
theorem dX6_pick_28 : decode cX6_pick 28 = .ok (.iload_n 2, 1) := by decide +kernel
theorem dX6_pick_29 : decode cX6_pick 29 = .ok (.iload_n 3, 1) := by decide +kernel
theorem dX6_pick_30 : decode cX6_pick 30 = .ok (.invokevirtual 90, 3) := by decide +kernel
theorem dX6_pick_33 : decode cX6_pick 33 = .ok (.ifCond .ne 6, 3) := by decide +kernel
theorem dX6_pick_36 : decode cX6_pick 36 = .ok (.bipush (-3), 2) := by decide +kernel
theorem dX6_pick_38 : decode cX6_pick 38 = .ok (.ireturn, 1) := by decide +kernel
theorem dX6_pick_39 : decode cX6_pick 39 = .ok (.aload_n 0, 1) := by decide +kernel
theorem dX6_pick_40 : decode cX6_pick 40 = .ok (.iload_n 1, 1) := by decide +kernel
theorem dX6_pick_41 : decode cX6_pick 41 = .ok (.iconst 1, 1) := by decide +kernel
theorem dX6_pick_42 : decode cX6_pick 42 = .ok (.invokevirtual 150, 3) := by decide +kernel
theorem dX6_pick_45 : decode cX6_pick 45 = .ok (.aload_n 0, 1) := by decide +kernel
theorem dX6_pick_46 : decode cX6_pick 46 = .ok (.invokevirtual 133, 3) := by decide +kernel
theorem dX6_pick_49 : decode cX6_pick 49 = .ok (.iconst 0, 1) := by decide +kernel
theorem dX6_pick_50 : decode cX6_pick 50 = .ok (.istore 5, 2) := by decide +kernel
theorem dX6_pick_52 : decode cX6_pick 52 = .ok (.iload 5, 2) := by decide +kernel
theorem dX6_pick_54 : decode cX6_pick 54 = .ok (.sipush 256, 3) := by decide +kernel
theorem dX6_pick_57 : decode cX6_pick 57 = .ok (.if_icmp .ge 49, 3) := by decide +kernel
theorem dX6_pick_60 : decode cX6_pick 60 = .ok (.aload_n 0, 1) := by decide +kernel
theorem dX6_pick_61 : decode cX6_pick 61 = .ok (.iload 5, 2) := by decide +kernel
theorem dX6_pick_63 : decode cX6_pick 63 = .ok (.bipush 16, 2) := by decide +kernel
theorem dX6_pick_65 : decode cX6_pick 65 = .ok (.irem, 1) := by decide +kernel
theorem dX6_pick_66 : decode cX6_pick 66 = .ok (.iload 5, 2) := by decide +kernel
theorem dX6_pick_68 : decode cX6_pick 68 = .ok (.bipush 16, 2) := by decide +kernel
theorem dX6_pick_70 : decode cX6_pick 70 = .ok (.idiv, 1) := by decide +kernel
theorem dX6_pick_71 : decode cX6_pick 71 = .ok (.aload_n 0, 1) := by decide +kernel
theorem dX6_pick_72 : decode cX6_pick 72 = .ok (.getfield 34, 3) := by decide +kernel
theorem dX6_pick_75 : decode cX6_pick 75 = .ok (.iload 5, 2) := by decide +kernel
theorem dX6_pick_77 : decode cX6_pick 77 = .ok (.iaload, 1) := by decide +kernel
theorem dX6_pick_78 : decode cX6_pick 78 = .ok (.aload_n 0, 1) := by decide +kernel
theorem dX6_pick_79 : decode cX6_pick 79 = .ok (.getfield 34, 3) := by decide +kernel
theorem dX6_pick_82 : decode cX6_pick 82 = .ok (.bipush 16, 2) := by decide +kernel
theorem dX6_pick_84 : decode cX6_pick 84 = .ok (.iload_n 3, 1) := by decide +kernel
theorem dX6_pick_85 : decode cX6_pick 85 = .ok (.imul, 1) := by decide +kernel
theorem dX6_pick_86 : decode cX6_pick 86 = .ok (.iload_n 2, 1) := by decide +kernel
theorem dX6_pick_87 : decode cX6_pick 87 = .ok (.iadd, 1) := by decide +kernel
theorem dX6_pick_88 : decode cX6_pick 88 = .ok (.iaload, 1) := by decide +kernel
theorem dX6_pick_89 : decode cX6_pick 89 = .ok (.if_icmp .ne 7, 3) := by decide +kernel
theorem dX6_pick_92 : decode cX6_pick 92 = .ok (.iconst 1, 1) := by decide +kernel
theorem dX6_pick_93 : decode cX6_pick 93 = .ok (.goto 4, 3) := by decide +kernel
theorem dX6_pick_96 : decode cX6_pick 96 = .ok (.iconst 0, 1) := by decide +kernel
theorem dX6_pick_97 : decode cX6_pick 97 = .ok (.invokevirtual 114, 3) := by decide +kernel
theorem dX6_pick_100 : decode cX6_pick 100 = .ok (.iinc 5 1, 3) := by decide +kernel
theorem dX6_pick_103 : decode cX6_pick 103 = .ok (.goto (-51), 3) := by decide +kernel
theorem dX6_pick_106 : decode cX6_pick 106 = .ok (.aload_n 0, 1) := by decide +kernel
theorem dX6_pick_107 : decode cX6_pick 107 = .ok (.iload 4, 2) := by decide +kernel
theorem dX6_pick_109 : decode cX6_pick 109 = .ok (.invokevirtual 118, 3) := by decide +kernel
theorem dX6_pick_112 : decode cX6_pick 112 = .ok (.ireturn, 1) := by decide +kernel
theorem dX6_later_0 : decode cX6_later 0 = .ok (.aload_n 0, 1) := by decide +kernel
theorem dX6_later_1 : decode cX6_later 1 = .ok (.getfield 40, 3) := by decide +kernel
theorem dX6_later_4 : decode cX6_later 4 = .ok (.aload_n 0, 1) := by decide +kernel
theorem dX6_later_5 : decode cX6_later 5 = .ok (.getfield 154, 3) := by decide +kernel
theorem dX6_later_8 : decode cX6_later 8 = .ok (.iload_n 1, 1) := by decide +kernel
theorem dX6_later_9 : decode cX6_later 9 = .ok (.iastore, 1) := by decide +kernel
theorem dX6_later_10 : decode cX6_later 10 = .ok (.aload_n 0, 1) := by decide +kernel
theorem dX6_later_11 : decode cX6_later 11 = .ok (.getfield 43, 3) := by decide +kernel
theorem dX6_later_14 : decode cX6_later 14 = .ok (.aload_n 0, 1) := by decide +kernel
theorem dX6_later_15 : decode cX6_later 15 = .ok (.getfield 154, 3) := by decide +kernel
theorem dX6_later_18 : decode cX6_later 18 = .ok (.iload_n 2, 1) := by decide +kernel
theorem dX6_later_19 : decode cX6_later 19 = .ok (.iastore, 1) := by decide +kernel
theorem dX6_later_20 : decode cX6_later 20 = .ok (.aload_n 0, 1) := by decide +kernel
theorem dX6_later_21 : decode cX6_later 21 = .ok (.getfield 46, 3) := by decide +kernel
theorem dX6_later_24 : decode cX6_later 24 = .ok (.aload_n 0, 1) := by decide +kernel
theorem dX6_later_25 : decode cX6_later 25 = .ok (.getfield 154, 3) := by decide +kernel
theorem dX6_later_28 : decode cX6_later 28 = .ok (.iload_n 3, 1) := by decide +kernel
theorem dX6_later_29 : decode cX6_later 29 = .ok (.iastore, 1) := by decide +kernel
theorem dX6_later_30 : decode cX6_later 30 = .ok (.aload_n 0, 1) := by decide +kernel
theorem dX6_later_31 : decode cX6_later 31 = .ok (.dup, 1) := by decide +kernel
theorem dX6_later_32 : decode cX6_later 32 = .ok (.getfield 154, 3) := by decide +kernel
theorem dX6_later_35 : decode cX6_later 35 = .ok (.iconst 1, 1) := by decide +kernel
theorem dX6_later_36 : decode cX6_later 36 = .ok (.iadd, 1) := by decide +kernel
theorem dX6_later_37 : decode cX6_later 37 = .ok (.putfield 154, 3) := by decide +kernel
theorem dX6_later_40 : decode cX6_later 40 = .ok (.return_, 1) := by decide +kernel
set_option maxRecDepth 20000 in
theorem ggX6_quarters_X6_later : GoodIn wsX6_quarters wsX6_later := goodIn_r _ [5, 6, 7, 8, 9, 10, 11, 12, 13, 14, 15, 16, 17, 18, 19, 20, 21, 22, 23, 24, 25, 26, 27, 28, 29, 30] (by decide +kernel) (by decide +kernel)
set_option maxRecDepth 20000 in
theorem gX6_quarters_X6_later : GoodIn wsX6_quarters (wsV RX6 157 RX6 yX6_later wsX6_later) := goodIn_app (goodIn_of _ (by decide +kernel)) ggX6_quarters_X6_later
theorem dX6_quarters_0 : decode cX6_quarters 0 = .ok (.iload_n 3, 1) := by decide +kernel
theorem dX6_quarters_1 : decode cX6_quarters 1 = .ok (.iconst 2, 1) := by decide +kernel
theorem dX6_quarters_2 : decode cX6_quarters 2 = .ok (.idiv, 1) := by decide +kernel
theorem dX6_quarters_3 : decode cX6_quarters 3 = .ok (.istore 4, 2) := by decide +kernel
theorem dX6_quarters_5 : decode cX6_quarters 5 = .ok (.aload_n 0, 1) := by decide +kernel
theorem dX6_quarters_6 : decode cX6_quarters 6 = .ok (.iload_n 1, 1) := by decide +kernel
theorem dX6_quarters_7 : decode cX6_quarters 7 = .ok (.iload 4, 2) := by decide +kernel
theorem dX6_quarters_9 : decode cX6_quarters 9 = .ok (.iadd, 1) := by decide +kernel
theorem dX6_quarters_10 : decode cX6_quarters 10 = .ok (.iload_n 2, 1) := by decide +kernel
theorem dX6_quarters_11 : decode cX6_quarters 11 = .ok (.iload 4, 2) := by decide +kernel
theorem dX6_quarters_13 : decode cX6_quarters 13 = .ok (.iadd, 1) := by decide +kernel
theorem dX6_quarters_14 : decode cX6_quarters 14 = .ok (.iload 4, 2) := by decide +kernel
theorem dX6_quarters_16 : decode cX6_quarters 16 = .ok (.invokevirtual 157, 3) := by decide +kernel
theorem dX6_quarters_19 : decode cX6_quarters 19 = .ok (.aload_n 0, 1) := by decide +kernel
theorem dX6_quarters_20 : decode cX6_quarters 20 = .ok (.iload_n 1, 1) := by decide +kernel
theorem dX6_quarters_21 : decode cX6_quarters 21 = .ok (.iload_n 2, 1) := by decide +kernel
theorem dX6_quarters_22 : decode cX6_quarters 22 = .ok (.iload 4, 2) := by decide +kernel
theorem dX6_quarters_24 : decode cX6_quarters 24 = .ok (.iadd, 1) := by decide +kernel
theorem dX6_quarters_25 : decode cX6_quarters 25 = .ok (.iload 4, 2) := by decide +kernel
theorem dX6_quarters_27 : decode cX6_quarters 27 = .ok (.invokevirtual 157, 3) := by decide +kernel
theorem dX6_quarters_30 : decode cX6_quarters 30 = .ok (.aload_n 0, 1) := by decide +kernel
theorem dX6_quarters_31 : decode cX6_quarters 31 = .ok (.iload_n 1, 1) := by decide +kernel
theorem dX6_quarters_32 : decode cX6_quarters 32 = .ok (.iload 4, 2) := by decide +kernel
theorem dX6_quarters_34 : decode cX6_quarters 34 = .ok (.iadd, 1) := by decide +kernel
theorem dX6_quarters_35 : decode cX6_quarters 35 = .ok (.iload_n 2, 1) := by decide +kernel
theorem dX6_quarters_36 : decode cX6_quarters 36 = .ok (.iload 4, 2) := by decide +kernel
theorem dX6_quarters_38 : decode cX6_quarters 38 = .ok (.invokevirtual 157, 3) := by decide +kernel
theorem dX6_quarters_41 : decode cX6_quarters 41 = .ok (.aload_n 0, 1) := by decide +kernel
theorem dX6_quarters_42 : decode cX6_quarters 42 = .ok (.iload_n 1, 1) := by decide +kernel
theorem dX6_quarters_43 : decode cX6_quarters 43 = .ok (.iload_n 2, 1) := by decide +kernel
theorem dX6_quarters_44 : decode cX6_quarters 44 = .ok (.iload 4, 2) := by decide +kernel
theorem dX6_quarters_46 : decode cX6_quarters 46 = .ok (.invokevirtual 157, 3) := by decide +kernel
theorem dX6_quarters_49 : decode cX6_quarters 49 = .ok (.return_, 1) := by decide +kernel
set_option maxRecDepth 20000 in
theorem ggX6_takes_X6_clears : GoodIn wsX6_takes wsX6_clears := goodIn_r _ [12, 13, 29, 30, 31, 32, 33, 34, 35, 36, 37, 38, 39, 40, 41, 42, 43, 44, 45, 46, 47, 48, 49] (by decide +kernel) (by decide +kernel)
set_option maxRecDepth 20000 in
theorem gX6_takes_X6_clears : GoodIn wsX6_takes (wsV RX6 133 RX6 yX6_clears wsX6_clears) := goodIn_app (goodIn_of _ (by decide +kernel)) ggX6_takes_X6_clears
set_option maxRecDepth 20000 in
theorem ggX6_takes_X6_later : GoodIn wsX6_takes wsX6_later := goodIn_r _ [17, 2, 1, 3, 4, 29, 30, 31, 32, 33, 34, 35, 36, 37, 38, 39, 40, 41, 42, 43, 44, 45, 46, 47, 48, 49] (by decide +kernel) (by decide +kernel)
set_option maxRecDepth 20000 in
theorem gX6_takes_X6_later : GoodIn wsX6_takes (wsV RX6 157 RX6 yX6_later wsX6_later) := goodIn_app (goodIn_of _ (by decide +kernel)) ggX6_takes_X6_later
set_option maxRecDepth 20000 in
theorem ggX6_takes_X6_in : GoodIn wsX6_takes wsX6_in := goodIn_r _ [20] (by decide +kernel) (by decide +kernel)
set_option maxRecDepth 20000 in
theorem gX6_takes_X6_in : GoodIn wsX6_takes (va_wsS RX6 55 yX6_in wsX6_in) := goodIn_app (goodIn_of _ (by decide +kernel)) ggX6_takes_X6_in
set_option maxRecDepth 20000 in
theorem ggX6_takes_X6_quarters : GoodIn wsX6_takes wsX6_quarters := goodIn_r _ [24, 14, 15, 16, 11, 17, 2, 1, 3, 4, 29, 30, 31, 32, 33, 34, 35, 36, 37, 38, 39, 40, 41, 42, 43, 44, 45, 46, 47, 48, 49] (by decide +kernel) (by decide +kernel)
set_option maxRecDepth 20000 in
theorem gX6_takes_X6_quarters : GoodIn wsX6_takes (wsV RX6 160 RX6 yX6_quarters wsX6_quarters) := goodIn_app (goodIn_of _ (by decide +kernel)) ggX6_takes_X6_quarters
set_option maxRecDepth 20000 in
theorem ggX6_takes_X6_sets : GoodIn wsX6_takes wsX6_sets := goodIn_r _ [28, 13, 29, 30, 31, 32, 33, 34, 35, 36, 37, 38, 39, 40, 41, 42, 43, 44, 45, 46, 47, 48, 49] (by decide +kernel) (by decide +kernel)
set_option maxRecDepth 20000 in
theorem gX6_takes_X6_sets : GoodIn wsX6_takes (wsV RX6 114 RX6 yX6_sets wsX6_sets) := goodIn_app (goodIn_of _ (by decide +kernel)) ggX6_takes_X6_sets
theorem dX6_takes_0 : decode cX6_takes 0 = .ok (.aload_n 0, 1) := by decide +kernel
theorem dX6_takes_1 : decode cX6_takes 1 = .ok (.invokevirtual 133, 3) := by decide +kernel
theorem dX6_takes_4 : decode cX6_takes 4 = .ok (.aload_n 0, 1) := by decide +kernel
theorem dX6_takes_5 : decode cX6_takes 5 = .ok (.iconst 0, 1) := by decide +kernel
theorem dX6_takes_6 : decode cX6_takes 6 = .ok (.putfield 154, 3) := by decide +kernel
theorem dX6_takes_9 : decode cX6_takes 9 = .ok (.aload_n 0, 1) := by decide +kernel
theorem dX6_takes_10 : decode cX6_takes 10 = .ok (.iconst 0, 1) := by decide +kernel
theorem dX6_takes_11 : decode cX6_takes 11 = .ok (.iconst 0, 1) := by decide +kernel
theorem dX6_takes_12 : decode cX6_takes 12 = .ok (.bipush 16, 2) := by decide +kernel
theorem dX6_takes_14 : decode cX6_takes 14 = .ok (.invokevirtual 157, 3) := by decide +kernel
theorem dX6_takes_17 : decode cX6_takes 17 = .ok (.iconst 0, 1) := by decide +kernel
theorem dX6_takes_18 : decode cX6_takes 18 = .ok (.istore_n 2, 1) := by decide +kernel
theorem dX6_takes_19 : decode cX6_takes 19 = .ok (.aload_n 0, 1) := by decide +kernel
theorem dX6_takes_20 : decode cX6_takes 20 = .ok (.getfield 154, 3) := by decide +kernel
theorem dX6_takes_23 : decode cX6_takes 23 = .ok (.ifCond .le 166, 3) := by decide +kernel
theorem dX6_takes_26 : decode cX6_takes 26 = .ok (.aload_n 0, 1) := by decide +kernel
theorem dX6_takes_27 : decode cX6_takes 27 = .ok (.dup, 1) := by decide +kernel
theorem dX6_takes_28 : decode cX6_takes 28 = .ok (.getfield 154, 3) := by decide +kernel
theorem dX6_takes_31 : decode cX6_takes 31 = .ok (.iconst 1, 1) := by decide +kernel
theorem dX6_takes_32 : decode cX6_takes 32 = .ok (.isub, 1) := by decide +kernel
theorem dX6_takes_33 : decode cX6_takes 33 = .ok (.putfield 154, 3) := by decide +kernel
theorem dX6_takes_36 : decode cX6_takes 36 = .ok (.aload_n 0, 1) := by decide +kernel
theorem dX6_takes_37 : decode cX6_takes 37 = .ok (.getfield 40, 3) := by decide +kernel
theorem dX6_takes_40 : decode cX6_takes 40 = .ok (.aload_n 0, 1) := by decide +kernel
theorem dX6_takes_41 : decode cX6_takes 41 = .ok (.getfield 154, 3) := by decide +kernel
theorem dX6_takes_44 : decode cX6_takes 44 = .ok (.iaload, 1) := by decide +kernel
theorem dX6_takes_45 : decode cX6_takes 45 = .ok (.istore_n 3, 1) := by decide +kernel
theorem dX6_takes_46 : decode cX6_takes 46 = .ok (.aload_n 0, 1) := by decide +kernel
theorem dX6_takes_47 : decode cX6_takes 47 = .ok (.getfield 43, 3) := by decide +kernel
theorem dX6_takes_50 : decode cX6_takes 50 = .ok (.aload_n 0, 1) := by decide +kernel
theorem dX6_takes_51 : decode cX6_takes 51 = .ok (.getfield 154, 3) := by decide +kernel
theorem dX6_takes_54 : decode cX6_takes 54 = .ok (.iaload, 1) := by decide +kernel
theorem dX6_takes_55 : decode cX6_takes 55 = .ok (.istore 4, 2) := by decide +kernel
theorem dX6_takes_57 : decode cX6_takes 57 = .ok (.aload_n 0, 1) := by decide +kernel
theorem dX6_takes_58 : decode cX6_takes 58 = .ok (.getfield 46, 3) := by decide +kernel
theorem dX6_takes_61 : decode cX6_takes 61 = .ok (.aload_n 0, 1) := by decide +kernel
theorem dX6_takes_62 : decode cX6_takes 62 = .ok (.getfield 154, 3) := by decide +kernel
theorem dX6_takes_65 : decode cX6_takes 65 = .ok (.iaload, 1) := by decide +kernel
theorem dX6_takes_66 : decode cX6_takes 66 = .ok (.istore 5, 2) := by decide +kernel
theorem dX6_takes_68 : decode cX6_takes 68 = .ok (.iload_n 2, 1) := by decide +kernel
theorem dX6_takes_69 : decode cX6_takes 69 = .ok (.aload_n 0, 1) := by decide +kernel
theorem dX6_takes_70 : decode cX6_takes 70 = .ok (.getfield 13, 3) := by decide +kernel
theorem dX6_takes_73 : decode cX6_takes 73 = .ok (.iload_n 1, 1) := by decide +kernel
theorem dX6_takes_74 : decode cX6_takes 74 = .ok (.iaload, 1) := by decide +kernel
theorem dX6_takes_75 : decode cX6_takes 75 = .ok (.if_icmp .ge 17, 3) := by decide +kernel
theorem dX6_takes_78 : decode cX6_takes 78 = .ok (.aload_n 0, 1) := by decide +kernel
theorem dX6_takes_79 : decode cX6_takes 79 = .ok (.getfield 16, 3) := by decide +kernel
theorem dX6_takes_82 : decode cX6_takes 82 = .ok (.bipush 60, 2) := by decide +kernel
theorem dX6_takes_84 : decode cX6_takes 84 = .ok (.iload_n 1, 1) := by decide +kernel
theorem dX6_takes_85 : decode cX6_takes 85 = .ok (.imul, 1) := by decide +kernel
theorem dX6_takes_86 : decode cX6_takes 86 = .ok (.iload_n 2, 1) := by decide +kernel
theorem dX6_takes_87 : decode cX6_takes 87 = .ok (.iadd, 1) := by decide +kernel
theorem dX6_takes_88 : decode cX6_takes 88 = .ok (.iaload, 1) := by decide +kernel
theorem dX6_takes_89 : decode cX6_takes 89 = .ok (.goto 4, 3) := by decide +kernel
theorem dX6_takes_92 : decode cX6_takes 92 = .ok (.iconst (-1), 1) := by decide +kernel
theorem dX6_takes_93 : decode cX6_takes 93 = .ok (.istore 6, 2) := by decide +kernel
theorem dX6_takes_95 : decode cX6_takes 95 = .ok (.iload 6, 2) := by decide +kernel
theorem dX6_takes_97 : decode cX6_takes 97 = .ok (.i2l, 1) := by decide +kernel
theorem dX6_takes_98 : decode cX6_takes 98 = .ok (.lconst 0, 1) := by decide +kernel
theorem dX6_takes_99 : decode cX6_takes 99 = .ok (.ldc2_w 69, 3) := by decide +kernel
theorem dX6_takes_102 : decode cX6_takes 102 = .ok (.invokestatic 55, 3) := by decide +kernel
theorem dX6_takes_105 : decode cX6_takes 105 = .ok (.ifCond .eq 15, 3) := by decide +kernel
theorem dX6_takes_108 : decode cX6_takes 108 = .ok (.iload 6, 2) := by decide +kernel
theorem dX6_takes_110 : decode cX6_takes 110 = .ok (.iconst 2, 1) := by decide +kernel
theorem dX6_takes_111 : decode cX6_takes 111 = .ok (.if_icmp .ne 11, 3) := by decide +kernel
theorem dX6_takes_114 : decode cX6_takes 114 = .ok (.iload 5, 2) := by decide +kernel
theorem dX6_takes_116 : decode cX6_takes 116 = .ok (.iconst 1, 1) := by decide +kernel
theorem dX6_takes_117 : decode cX6_takes 117 = .ok (.if_icmp .ne 5, 3) := by decide +kernel
theorem dX6_takes_120 : decode cX6_takes 120 = .ok (.iconst (-1), 1) := by decide +kernel
theorem dX6_takes_121 : decode cX6_takes 121 = .ok (.ireturn, 1) := by decide +kernel
theorem dX6_takes_122 : decode cX6_takes 122 = .ok (.iinc 2 1, 3) := by decide +kernel
theorem dX6_takes_125 : decode cX6_takes 125 = .ok (.iload 6, 2) := by decide +kernel
theorem dX6_takes_127 : decode cX6_takes 127 = .ok (.iconst 2, 1) := by decide +kernel
theorem dX6_takes_128 : decode cX6_takes 128 = .ok (.if_icmp .ne 12, 3) := by decide +kernel
theorem dX6_takes_131 : decode cX6_takes 131 = .ok (.aload_n 0, 1) := by decide +kernel
theorem dX6_takes_132 : decode cX6_takes 132 = .ok (.iload_n 3, 1) := by decide +kernel
theorem dX6_takes_133 : decode cX6_takes 133 = .ok (.iload 4, 2) := by decide +kernel
theorem dX6_takes_135 : decode cX6_takes 135 = .ok (.iload 5, 2) := by decide +kernel
theorem dX6_takes_137 : decode cX6_takes 137 = .ok (.invokevirtual 160, 3) := by decide +kernel
theorem dX6_takes_140 : decode cX6_takes 140 = .ok (.iconst 0, 1) := by decide +kernel
theorem dX6_takes_141 : decode cX6_takes 141 = .ok (.istore 7, 2) := by decide +kernel
theorem dX6_takes_143 : decode cX6_takes 143 = .ok (.iload 7, 2) := by decide +kernel
theorem dX6_takes_145 : decode cX6_takes 145 = .ok (.iload 5, 2) := by decide +kernel
theorem dX6_takes_147 : decode cX6_takes 147 = .ok (.iload 5, 2) := by decide +kernel
theorem dX6_takes_149 : decode cX6_takes 149 = .ok (.imul, 1) := by decide +kernel
theorem dX6_takes_150 : decode cX6_takes 150 = .ok (.if_icmp .ge 36, 3) := by decide +kernel
theorem dX6_takes_153 : decode cX6_takes 153 = .ok (.iload 6, 2) := by decide +kernel
theorem dX6_takes_155 : decode cX6_takes 155 = .ok (.iconst 2, 1) := by decide +kernel
theorem dX6_takes_156 : decode cX6_takes 156 = .ok (.if_icmp .ge 30, 3) := by decide +kernel
theorem dX6_takes_159 : decode cX6_takes 159 = .ok (.aload_n 0, 1) := by decide +kernel
theorem dX6_takes_160 : decode cX6_takes 160 = .ok (.iload_n 3, 1) := by decide +kernel
theorem dX6_takes_161 : decode cX6_takes 161 = .ok (.iload 7, 2) := by decide +kernel
theorem dX6_takes_163 : decode cX6_takes 163 = .ok (.iload 5, 2) := by decide +kernel
theorem dX6_takes_165 : decode cX6_takes 165 = .ok (.irem, 1) := by decide +kernel
theorem dX6_takes_166 : decode cX6_takes 166 = .ok (.iadd, 1) := by decide +kernel
theorem dX6_takes_167 : decode cX6_takes 167 = .ok (.iload 4, 2) := by decide +kernel
theorem dX6_takes_169 : decode cX6_takes 169 = .ok (.iload 7, 2) := by decide +kernel
theorem dX6_takes_171 : decode cX6_takes 171 = .ok (.iload 5, 2) := by decide +kernel
theorem dX6_takes_173 : decode cX6_takes 173 = .ok (.idiv, 1) := by decide +kernel
theorem dX6_takes_174 : decode cX6_takes 174 = .ok (.iadd, 1) := by decide +kernel
theorem dX6_takes_175 : decode cX6_takes 175 = .ok (.iload 6, 2) := by decide +kernel
theorem dX6_takes_177 : decode cX6_takes 177 = .ok (.invokevirtual 114, 3) := by decide +kernel
theorem dX6_takes_180 : decode cX6_takes 180 = .ok (.iinc 7 1, 3) := by decide +kernel
theorem dX6_takes_183 : decode cX6_takes 183 = .ok (.goto (-40), 3) := by decide +kernel
theorem dX6_takes_186 : decode cX6_takes 186 = .ok (.goto (-167), 3) := by decide +kernel
theorem dX6_takes_189 : decode cX6_takes 189 = .ok (.iload_n 2, 1) := by decide +kernel
theorem dX6_takes_190 : decode cX6_takes 190 = .ok (.ireturn, 1) := by decide +kernel
set_option maxRecDepth 20000 in
theorem ggX6_read_X6_isMask : GoodIn wsX6_read wsX6_isMask := goodIn_r _ [5, 6, 7, 8, 4, 9] (by decide +kernel) (by decide +kernel)
set_option maxRecDepth 20000 in
theorem gX6_read_X6_isMask : GoodIn wsX6_read (va_wsS RX6 103 yX6_isMask wsX6_isMask) := goodIn_app (goodIn_of _ (by decide +kernel)) ggX6_read_X6_isMask
set_option maxRecDepth 20000 in
theorem ggX6_read_X6_isSheet : GoodIn wsX6_read wsX6_isSheet := goodIn_r _ [12, 6, 7, 8, 4, 9] (by decide +kernel) (by decide +kernel)
set_option maxRecDepth 20000 in
theorem gX6_read_X6_isSheet : GoodIn wsX6_read (va_wsS RX6 65 yX6_isSheet wsX6_isSheet) := goodIn_app (goodIn_of _ (by decide +kernel)) ggX6_read_X6_isSheet
set_option maxRecDepth 20000 in
theorem ggX6_read_X6_finds : GoodIn wsX6_read wsX6_finds := goodIn_r _ [16, 17, 54, 55, 56, 57, 58, 59, 60, 61, 62, 63, 64, 65, 66, 67, 68, 69, 70, 71, 72, 73, 74] (by decide +kernel) (by decide +kernel)
set_option maxRecDepth 20000 in
theorem gX6_read_X6_finds : GoodIn wsX6_read (wsV RX6 71 RX6 yX6_finds wsX6_finds) := goodIn_app (goodIn_of _ (by decide +kernel)) ggX6_read_X6_finds
set_option maxRecDepth 20000 in
theorem ggX6_read_X6_takes : GoodIn wsX6_read wsX6_takes := goodIn_r _ [21, 22, 23, 24, 25, 26, 27, 28, 29, 30, 31, 4, 32, 33, 34, 35, 36, 37, 7, 8, 9, 38, 39, 40, 41, 42, 43, 44, 45, 54, 55, 56, 57, 58, 59, 60, 61, 62, 63, 64, 65, 66, 67, 68, 69, 70, 71, 72, 73, 74] (by decide +kernel) (by decide +kernel)
set_option maxRecDepth 20000 in
theorem gX6_read_X6_takes : GoodIn wsX6_read (wsV RX6 163 RX6 yX6_takes wsX6_takes) := goodIn_app (goodIn_of _ (by decide +kernel)) ggX6_read_X6_takes
set_option maxRecDepth 20000 in
theorem ggX6_read_X6_becomes : GoodIn wsX6_read wsX6_becomes := goodIn_r _ [49, 50, 51, 52, 53, 33, 54, 55, 56, 57, 58, 59, 60, 61, 62, 63, 64, 65, 66, 67, 68, 69, 70, 71, 72, 73, 74] (by decide +kernel) (by decide +kernel)
set_option maxRecDepth 20000 in
theorem gX6_read_X6_becomes : GoodIn wsX6_read (wsV RX6 96 RX6 yX6_becomes wsX6_becomes) := goodIn_app (goodIn_of _ (by decide +kernel)) ggX6_read_X6_becomes
theorem dX6_read_0 : decode cX6_read 0 = .ok (.iload_n 1, 1) := by decide +kernel
theorem dX6_read_1 : decode cX6_read 1 = .ok (.invokestatic 103, 3) := by decide +kernel
theorem dX6_read_4 : decode cX6_read 4 = .ok (.ifCond .eq 10, 3) := by decide +kernel
theorem dX6_read_7 : decode cX6_read 7 = .ok (.iload_n 2, 1) := by decide +kernel
theorem dX6_read_8 : decode cX6_read 8 = .ok (.invokestatic 65, 3) := by decide +kernel
theorem dX6_read_11 : decode cX6_read 11 = .ok (.ifCond .ne 6, 3) := by decide +kernel
theorem dX6_read_14 : decode cX6_read 14 = .ok (.bipush (-2), 2) := by decide +kernel
theorem dX6_read_16 : decode cX6_read 16 = .ok (.ireturn, 1) := by decide +kernel
theorem dX6_read_17 : decode cX6_read 17 = .ok (.aload_n 0, 1) := by decide +kernel
theorem dX6_read_18 : decode cX6_read 18 = .ok (.getfield 7, 3) := by decide +kernel
theorem dX6_read_21 : decode cX6_read 21 = .ok (.iload_n 2, 1) := by decide +kernel
theorem dX6_read_22 : decode cX6_read 22 = .ok (.iaload, 1) := by decide +kernel
theorem dX6_read_23 : decode cX6_read 23 = .ok (.ifCond .ge 9, 3) := by decide +kernel
theorem dX6_read_26 : decode cX6_read 26 = .ok (.aload_n 0, 1) := by decide +kernel
theorem dX6_read_27 : decode cX6_read 27 = .ok (.iconst 1, 1) := by decide +kernel
theorem dX6_read_28 : decode cX6_read 28 = .ok (.invokevirtual 71, 3) := by decide +kernel
theorem dX6_read_31 : decode cX6_read 31 = .ok (.ireturn, 1) := by decide +kernel
theorem dX6_read_32 : decode cX6_read 32 = .ok (.aload_n 0, 1) := by decide +kernel
theorem dX6_read_33 : decode cX6_read 33 = .ok (.iload_n 2, 1) := by decide +kernel
theorem dX6_read_34 : decode cX6_read 34 = .ok (.invokevirtual 163, 3) := by decide +kernel
theorem dX6_read_37 : decode cX6_read 37 = .ok (.istore_n 3, 1) := by decide +kernel
theorem dX6_read_38 : decode cX6_read 38 = .ok (.iload_n 3, 1) := by decide +kernel
theorem dX6_read_39 : decode cX6_read 39 = .ok (.iconst (-1), 1) := by decide +kernel
theorem dX6_read_40 : decode cX6_read 40 = .ok (.if_icmp .ne 6, 3) := by decide +kernel
theorem dX6_read_43 : decode cX6_read 43 = .ok (.bipush (-3), 2) := by decide +kernel
theorem dX6_read_45 : decode cX6_read 45 = .ok (.ireturn, 1) := by decide +kernel
theorem dX6_read_46 : decode cX6_read 46 = .ok (.aload_n 0, 1) := by decide +kernel
theorem dX6_read_47 : decode cX6_read 47 = .ok (.iload_n 1, 1) := by decide +kernel
theorem dX6_read_48 : decode cX6_read 48 = .ok (.invokevirtual 96, 3) := by decide +kernel
theorem dX6_read_51 : decode cX6_read 51 = .ok (.iload_n 3, 1) := by decide +kernel
theorem dX6_read_52 : decode cX6_read 52 = .ok (.ireturn, 1) := by decide +kernel
theorem dX6_back_0 : decode cX6_back 0 = .ok (.aload_n 0, 1) := by decide +kernel
theorem dX6_back_1 : decode cX6_back 1 = .ok (.getfield 93, 3) := by decide +kernel
theorem dX6_back_4 : decode cX6_back 4 = .ok (.ifCond .ne 6, 3) := by decide +kernel
theorem dX6_back_7 : decode cX6_back 7 = .ok (.bipush (-3), 2) := by decide +kernel
theorem dX6_back_9 : decode cX6_back 9 = .ok (.ireturn, 1) := by decide +kernel
theorem dX6_back_10 : decode cX6_back 10 = .ok (.aload_n 0, 1) := by decide +kernel
theorem dX6_back_11 : decode cX6_back 11 = .ok (.dup, 1) := by decide +kernel
theorem dX6_back_12 : decode cX6_back 12 = .ok (.getfield 93, 3) := by decide +kernel
theorem dX6_back_15 : decode cX6_back 15 = .ok (.iconst 1, 1) := by decide +kernel
theorem dX6_back_16 : decode cX6_back 16 = .ok (.isub, 1) := by decide +kernel
theorem dX6_back_17 : decode cX6_back 17 = .ok (.putfield 93, 3) := by decide +kernel
theorem dX6_back_20 : decode cX6_back 20 = .ok (.iconst 0, 1) := by decide +kernel
theorem dX6_back_21 : decode cX6_back 21 = .ok (.istore_n 1, 1) := by decide +kernel
theorem dX6_back_22 : decode cX6_back 22 = .ok (.iload_n 1, 1) := by decide +kernel
theorem dX6_back_23 : decode cX6_back 23 = .ok (.bipush 16, 2) := by decide +kernel
theorem dX6_back_25 : decode cX6_back 25 = .ok (.if_icmp .ge 42, 3) := by decide +kernel
theorem dX6_back_28 : decode cX6_back 28 = .ok (.aload_n 0, 1) := by decide +kernel
theorem dX6_back_29 : decode cX6_back 29 = .ok (.getfield 22, 3) := by decide +kernel
theorem dX6_back_32 : decode cX6_back 32 = .ok (.bipush 16, 2) := by decide +kernel
theorem dX6_back_34 : decode cX6_back 34 = .ok (.aload_n 0, 1) := by decide +kernel
theorem dX6_back_35 : decode cX6_back 35 = .ok (.getfield 28, 3) := by decide +kernel
theorem dX6_back_38 : decode cX6_back 38 = .ok (.aload_n 0, 1) := by decide +kernel
theorem dX6_back_39 : decode cX6_back 39 = .ok (.getfield 93, 3) := by decide +kernel
theorem dX6_back_42 : decode cX6_back 42 = .ok (.iaload, 1) := by decide +kernel
theorem dX6_back_43 : decode cX6_back 43 = .ok (.imul, 1) := by decide +kernel
theorem dX6_back_44 : decode cX6_back 44 = .ok (.iload_n 1, 1) := by decide +kernel
theorem dX6_back_45 : decode cX6_back 45 = .ok (.iadd, 1) := by decide +kernel
theorem dX6_back_46 : decode cX6_back 46 = .ok (.aload_n 0, 1) := by decide +kernel
theorem dX6_back_47 : decode cX6_back 47 = .ok (.getfield 31, 3) := by decide +kernel
theorem dX6_back_50 : decode cX6_back 50 = .ok (.bipush 16, 2) := by decide +kernel
theorem dX6_back_52 : decode cX6_back 52 = .ok (.aload_n 0, 1) := by decide +kernel
theorem dX6_back_53 : decode cX6_back 53 = .ok (.getfield 93, 3) := by decide +kernel
theorem dX6_back_56 : decode cX6_back 56 = .ok (.imul, 1) := by decide +kernel
theorem dX6_back_57 : decode cX6_back 57 = .ok (.iload_n 1, 1) := by decide +kernel
theorem dX6_back_58 : decode cX6_back 58 = .ok (.iadd, 1) := by decide +kernel
theorem dX6_back_59 : decode cX6_back 59 = .ok (.iaload, 1) := by decide +kernel
theorem dX6_back_60 : decode cX6_back 60 = .ok (.iastore, 1) := by decide +kernel
theorem dX6_back_61 : decode cX6_back 61 = .ok (.iinc 1 1, 3) := by decide +kernel
theorem dX6_back_64 : decode cX6_back 64 = .ok (.goto (-42), 3) := by decide +kernel
theorem dX6_back_67 : decode cX6_back 67 = .ok (.aload_n 0, 1) := by decide +kernel
theorem dX6_back_68 : decode cX6_back 68 = .ok (.getfield 93, 3) := by decide +kernel
theorem dX6_back_71 : decode cX6_back 71 = .ok (.ireturn, 1) := by decide +kernel
set_option maxRecDepth 20000 in
theorem ggX6_cell_X6_isMask : GoodIn wsX6_cell wsX6_isMask := goodIn_r _ [4, 5, 6, 7, 3, 8] (by decide +kernel) (by decide +kernel)
set_option maxRecDepth 20000 in
theorem gX6_cell_X6_isMask : GoodIn wsX6_cell (va_wsS RX6 103 yX6_isMask wsX6_isMask) := goodIn_app (goodIn_of _ (by decide +kernel)) ggX6_cell_X6_isMask
set_option maxRecDepth 20000 in
theorem ggX6_cell_X6_isCell : GoodIn wsX6_cell wsX6_isCell := goodIn_r _ [11, 12, 6, 7, 3, 8] (by decide +kernel) (by decide +kernel)
set_option maxRecDepth 20000 in
theorem gX6_cell_X6_isCell : GoodIn wsX6_cell (va_wsS RX6 86 yX6_isCell wsX6_isCell) := goodIn_app (goodIn_of _ (by decide +kernel)) ggX6_cell_X6_isCell
set_option maxRecDepth 20000 in
theorem ggX6_cell_X6_dark : GoodIn wsX6_cell wsX6_dark := goodIn_r _ [16, 17, 9, 10, 3, 11, 12, 6, 7, 8, 18, 19, 20, 21, 22, 23, 24, 25, 26, 27, 28, 29, 30, 31, 32, 33, 34, 35, 36, 37, 38] (by decide +kernel) (by decide +kernel)
set_option maxRecDepth 20000 in
theorem gX6_cell_X6_dark : GoodIn wsX6_cell (wsV RX6 90 RX6 yX6_dark wsX6_dark) := goodIn_app (goodIn_of _ (by decide +kernel)) ggX6_cell_X6_dark
theorem dX6_cell_0 : decode cX6_cell 0 = .ok (.iload_n 1, 1) := by decide +kernel
theorem dX6_cell_1 : decode cX6_cell 1 = .ok (.invokestatic 103, 3) := by decide +kernel
theorem dX6_cell_4 : decode cX6_cell 4 = .ok (.ifCond .eq 21, 3) := by decide +kernel
theorem dX6_cell_7 : decode cX6_cell 7 = .ok (.iload_n 2, 1) := by decide +kernel
theorem dX6_cell_8 : decode cX6_cell 8 = .ok (.iload_n 3, 1) := by decide +kernel
theorem dX6_cell_9 : decode cX6_cell 9 = .ok (.invokestatic 86, 3) := by decide +kernel
theorem dX6_cell_12 : decode cX6_cell 12 = .ok (.ifCond .eq 13, 3) := by decide +kernel
theorem dX6_cell_15 : decode cX6_cell 15 = .ok (.aload_n 0, 1) := by decide +kernel
theorem dX6_cell_16 : decode cX6_cell 16 = .ok (.iload_n 1, 1) := by decide +kernel
theorem dX6_cell_17 : decode cX6_cell 17 = .ok (.iload_n 2, 1) := by decide +kernel
theorem dX6_cell_18 : decode cX6_cell 18 = .ok (.iload_n 3, 1) := by decide +kernel
theorem dX6_cell_19 : decode cX6_cell 19 = .ok (.invokevirtual 90, 3) := by decide +kernel
theorem dX6_cell_22 : decode cX6_cell 22 = .ok (.goto 5, 3) := by decide +kernel
theorem dX6_cell_25 : decode cX6_cell 25 = .ok (.bipush (-2), 2) := by decide +kernel
theorem dX6_cell_27 : decode cX6_cell 27 = .ok (.ireturn, 1) := by decide +kernel
theorem dX6_isBlock_0 : decode cX6_isBlock 0 = .ok (.iconst 1, 1) := by decide +kernel
theorem dX6_isBlock_1 : decode cX6_isBlock 1 = .ok (.iload 4, 2) := by decide +kernel
theorem dX6_isBlock_3 : decode cX6_isBlock 3 = .ok (.ishl, 1) := by decide +kernel
theorem dX6_isBlock_4 : decode cX6_isBlock 4 = .ok (.iconst 1, 1) := by decide +kernel
theorem dX6_isBlock_5 : decode cX6_isBlock 5 = .ok (.isub, 1) := by decide +kernel
theorem dX6_isBlock_6 : decode cX6_isBlock 6 = .ok (.iload_n 2, 1) := by decide +kernel
theorem dX6_isBlock_7 : decode cX6_isBlock 7 = .ok (.ishl, 1) := by decide +kernel
theorem dX6_isBlock_8 : decode cX6_isBlock 8 = .ok (.istore 5, 2) := by decide +kernel
theorem dX6_isBlock_10 : decode cX6_isBlock 10 = .ok (.aload_n 0, 1) := by decide +kernel
theorem dX6_isBlock_11 : decode cX6_isBlock 11 = .ok (.getfield 22, 3) := by decide +kernel
theorem dX6_isBlock_14 : decode cX6_isBlock 14 = .ok (.bipush 16, 2) := by decide +kernel
theorem dX6_isBlock_16 : decode cX6_isBlock 16 = .ok (.iload_n 1, 1) := by decide +kernel
theorem dX6_isBlock_17 : decode cX6_isBlock 17 = .ok (.imul, 1) := by decide +kernel
theorem dX6_isBlock_18 : decode cX6_isBlock 18 = .ok (.iload_n 3, 1) := by decide +kernel
theorem dX6_isBlock_19 : decode cX6_isBlock 19 = .ok (.iadd, 1) := by decide +kernel
theorem dX6_isBlock_20 : decode cX6_isBlock 20 = .ok (.iaload, 1) := by decide +kernel
theorem dX6_isBlock_21 : decode cX6_isBlock 21 = .ok (.iload 5, 2) := by decide +kernel
theorem dX6_isBlock_23 : decode cX6_isBlock 23 = .ok (.iand, 1) := by decide +kernel
theorem dX6_isBlock_24 : decode cX6_isBlock 24 = .ok (.istore 6, 2) := by decide +kernel
theorem dX6_isBlock_26 : decode cX6_isBlock 26 = .ok (.iload 6, 2) := by decide +kernel
theorem dX6_isBlock_28 : decode cX6_isBlock 28 = .ok (.ifCond .eq 10, 3) := by decide +kernel
theorem dX6_isBlock_31 : decode cX6_isBlock 31 = .ok (.iload 6, 2) := by decide +kernel
theorem dX6_isBlock_33 : decode cX6_isBlock 33 = .ok (.iload 5, 2) := by decide +kernel
theorem dX6_isBlock_35 : decode cX6_isBlock 35 = .ok (.if_icmp .ne 7, 3) := by decide +kernel
theorem dX6_isBlock_38 : decode cX6_isBlock 38 = .ok (.iconst 1, 1) := by decide +kernel
theorem dX6_isBlock_39 : decode cX6_isBlock 39 = .ok (.goto 4, 3) := by decide +kernel
theorem dX6_isBlock_42 : decode cX6_isBlock 42 = .ok (.iconst 0, 1) := by decide +kernel
theorem dX6_isBlock_43 : decode cX6_isBlock 43 = .ok (.istore 7, 2) := by decide +kernel
theorem dX6_isBlock_45 : decode cX6_isBlock 45 = .ok (.iconst 1, 1) := by decide +kernel
theorem dX6_isBlock_46 : decode cX6_isBlock 46 = .ok (.istore 8, 2) := by decide +kernel
theorem dX6_isBlock_48 : decode cX6_isBlock 48 = .ok (.iload 8, 2) := by decide +kernel
theorem dX6_isBlock_50 : decode cX6_isBlock 50 = .ok (.iload 4, 2) := by decide +kernel
theorem dX6_isBlock_52 : decode cX6_isBlock 52 = .ok (.if_icmp .ge 43, 3) := by decide +kernel
theorem dX6_isBlock_55 : decode cX6_isBlock 55 = .ok (.iload 7, 2) := by decide +kernel
theorem dX6_isBlock_57 : decode cX6_isBlock 57 = .ok (.ifCond .eq 38, 3) := by decide +kernel
theorem dX6_isBlock_60 : decode cX6_isBlock 60 = .ok (.aload_n 0, 1) := by decide +kernel
theorem dX6_isBlock_61 : decode cX6_isBlock 61 = .ok (.getfield 22, 3) := by decide +kernel
theorem dX6_isBlock_64 : decode cX6_isBlock 64 = .ok (.bipush 16, 2) := by decide +kernel
theorem dX6_isBlock_66 : decode cX6_isBlock 66 = .ok (.iload_n 1, 1) := by decide +kernel
theorem dX6_isBlock_67 : decode cX6_isBlock 67 = .ok (.imul, 1) := by decide +kernel
theorem dX6_isBlock_68 : decode cX6_isBlock 68 = .ok (.iload_n 3, 1) := by decide +kernel
theorem dX6_isBlock_69 : decode cX6_isBlock 69 = .ok (.iadd, 1) := by decide +kernel
theorem dX6_isBlock_70 : decode cX6_isBlock 70 = .ok (.iload 8, 2) := by decide +kernel
theorem dX6_isBlock_72 : decode cX6_isBlock 72 = .ok (.iadd, 1) := by decide +kernel
theorem dX6_isBlock_73 : decode cX6_isBlock 73 = .ok (.iaload, 1) := by decide +kernel
theorem dX6_isBlock_74 : decode cX6_isBlock 74 = .ok (.iload 5, 2) := by decide +kernel
theorem dX6_isBlock_76 : decode cX6_isBlock 76 = .ok (.iand, 1) := by decide +kernel
theorem dX6_isBlock_77 : decode cX6_isBlock 77 = .ok (.iload 6, 2) := by decide +kernel
theorem dX6_isBlock_79 : decode cX6_isBlock 79 = .ok (.if_icmp .ne 7, 3) := by decide +kernel
theorem dX6_isBlock_82 : decode cX6_isBlock 82 = .ok (.iconst 1, 1) := by decide +kernel
theorem dX6_isBlock_83 : decode cX6_isBlock 83 = .ok (.goto 4, 3) := by decide +kernel
theorem dX6_isBlock_86 : decode cX6_isBlock 86 = .ok (.iconst 0, 1) := by decide +kernel
theorem dX6_isBlock_87 : decode cX6_isBlock 87 = .ok (.istore 7, 2) := by decide +kernel
theorem dX6_isBlock_89 : decode cX6_isBlock 89 = .ok (.iinc 8 1, 3) := by decide +kernel
theorem dX6_isBlock_92 : decode cX6_isBlock 92 = .ok (.goto (-44), 3) := by decide +kernel
theorem dX6_isBlock_95 : decode cX6_isBlock 95 = .ok (.iload 7, 2) := by decide +kernel
theorem dX6_isBlock_97 : decode cX6_isBlock 97 = .ok (.ireturn, 1) := by decide +kernel
set_option maxRecDepth 20000 in
theorem ggX6_blockBy_X6_isBlock : GoodIn wsX6_blockBy wsX6_isBlock := goodIn_r _ [5, 6, 7, 8, 9, 10, 11, 12, 13, 14, 15, 16, 17, 18, 19, 20, 21, 22, 23, 24, 25, 26, 27] (by decide +kernel) (by decide +kernel)
set_option maxRecDepth 20000 in
theorem gX6_blockBy_X6_isBlock : GoodIn wsX6_blockBy (wsV RX6 166 RX6 yX6_isBlock wsX6_isBlock) := goodIn_app (goodIn_of _ (by decide +kernel)) ggX6_blockBy_X6_isBlock
theorem dX6_blockBy_0 : decode cX6_blockBy 0 = .ok (.bipush 16, 2) := by decide +kernel
theorem dX6_blockBy_2 : decode cX6_blockBy 2 = .ok (.istore 5, 2) := by decide +kernel
theorem dX6_blockBy_4 : decode cX6_blockBy 4 = .ok (.aload_n 0, 1) := by decide +kernel
theorem dX6_blockBy_5 : decode cX6_blockBy 5 = .ok (.iload_n 1, 1) := by decide +kernel
theorem dX6_blockBy_6 : decode cX6_blockBy 6 = .ok (.iload_n 2, 1) := by decide +kernel
theorem dX6_blockBy_7 : decode cX6_blockBy 7 = .ok (.iload 5, 2) := by decide +kernel
theorem dX6_blockBy_9 : decode cX6_blockBy 9 = .ok (.idiv, 1) := by decide +kernel
theorem dX6_blockBy_10 : decode cX6_blockBy 10 = .ok (.iload 5, 2) := by decide +kernel
theorem dX6_blockBy_12 : decode cX6_blockBy 12 = .ok (.imul, 1) := by decide +kernel
theorem dX6_blockBy_13 : decode cX6_blockBy 13 = .ok (.iload_n 3, 1) := by decide +kernel
theorem dX6_blockBy_14 : decode cX6_blockBy 14 = .ok (.iload 5, 2) := by decide +kernel
theorem dX6_blockBy_16 : decode cX6_blockBy 16 = .ok (.idiv, 1) := by decide +kernel
theorem dX6_blockBy_17 : decode cX6_blockBy 17 = .ok (.iload 5, 2) := by decide +kernel
theorem dX6_blockBy_19 : decode cX6_blockBy 19 = .ok (.imul, 1) := by decide +kernel
theorem dX6_blockBy_20 : decode cX6_blockBy 20 = .ok (.iload 5, 2) := by decide +kernel
theorem dX6_blockBy_22 : decode cX6_blockBy 22 = .ok (.invokevirtual 166, 3) := by decide +kernel
theorem dX6_blockBy_25 : decode cX6_blockBy 25 = .ok (.ifCond .ne 12, 3) := by decide +kernel
theorem dX6_blockBy_28 : decode cX6_blockBy 28 = .ok (.iload 5, 2) := by decide +kernel
theorem dX6_blockBy_30 : decode cX6_blockBy 30 = .ok (.iconst 2, 1) := by decide +kernel
theorem dX6_blockBy_31 : decode cX6_blockBy 31 = .ok (.idiv, 1) := by decide +kernel
theorem dX6_blockBy_32 : decode cX6_blockBy 32 = .ok (.istore 5, 2) := by decide +kernel
theorem dX6_blockBy_34 : decode cX6_blockBy 34 = .ok (.goto (-30), 3) := by decide +kernel
theorem dX6_blockBy_37 : decode cX6_blockBy 37 = .ok (.iload 4, 2) := by decide +kernel
theorem dX6_blockBy_39 : decode cX6_blockBy 39 = .ok (.ifCond .ne 13, 3) := by decide +kernel
theorem dX6_blockBy_42 : decode cX6_blockBy 42 = .ok (.iload_n 2, 1) := by decide +kernel
theorem dX6_blockBy_43 : decode cX6_blockBy 43 = .ok (.iload 5, 2) := by decide +kernel
theorem dX6_blockBy_45 : decode cX6_blockBy 45 = .ok (.idiv, 1) := by decide +kernel
theorem dX6_blockBy_46 : decode cX6_blockBy 46 = .ok (.iload 5, 2) := by decide +kernel
theorem dX6_blockBy_48 : decode cX6_blockBy 48 = .ok (.imul, 1) := by decide +kernel
theorem dX6_blockBy_49 : decode cX6_blockBy 49 = .ok (.goto 21, 3) := by decide +kernel
theorem dX6_blockBy_52 : decode cX6_blockBy 52 = .ok (.iload 4, 2) := by decide +kernel
theorem dX6_blockBy_54 : decode cX6_blockBy 54 = .ok (.iconst 1, 1) := by decide +kernel
theorem dX6_blockBy_55 : decode cX6_blockBy 55 = .ok (.if_icmp .ne 13, 3) := by decide +kernel
theorem dX6_blockBy_58 : decode cX6_blockBy 58 = .ok (.iload_n 3, 1) := by decide +kernel
theorem dX6_blockBy_59 : decode cX6_blockBy 59 = .ok (.iload 5, 2) := by decide +kernel
theorem dX6_blockBy_61 : decode cX6_blockBy 61 = .ok (.idiv, 1) := by decide +kernel
theorem dX6_blockBy_62 : decode cX6_blockBy 62 = .ok (.iload 5, 2) := by decide +kernel
theorem dX6_blockBy_64 : decode cX6_blockBy 64 = .ok (.imul, 1) := by decide +kernel
theorem dX6_blockBy_65 : decode cX6_blockBy 65 = .ok (.goto 5, 3) := by decide +kernel
theorem dX6_blockBy_68 : decode cX6_blockBy 68 = .ok (.iload 5, 2) := by decide +kernel
theorem dX6_blockBy_70 : decode cX6_blockBy 70 = .ok (.ireturn, 1) := by decide +kernel
set_option maxRecDepth 20000 in
theorem ggX6_block_X6_isMask : GoodIn wsX6_block wsX6_isMask := goodIn_r _ [5, 6, 7, 8, 4, 9] (by decide +kernel) (by decide +kernel)
set_option maxRecDepth 20000 in
theorem gX6_block_X6_isMask : GoodIn wsX6_block (va_wsS RX6 103 yX6_isMask wsX6_isMask) := goodIn_app (goodIn_of _ (by decide +kernel)) ggX6_block_X6_isMask
set_option maxRecDepth 20000 in
theorem ggX6_block_X6_isCell : GoodIn wsX6_block wsX6_isCell := goodIn_r _ [12, 13, 7, 8, 4, 9] (by decide +kernel) (by decide +kernel)
set_option maxRecDepth 20000 in
theorem gX6_block_X6_isCell : GoodIn wsX6_block (va_wsS RX6 86 yX6_isCell wsX6_isCell) := goodIn_app (goodIn_of _ (by decide +kernel)) ggX6_block_X6_isCell
set_option maxRecDepth 20000 in
theorem ggX6_block_X6_in : GoodIn wsX6_block wsX6_in := goodIn_r _ [9] (by decide +kernel) (by decide +kernel)
set_option maxRecDepth 20000 in
theorem gX6_block_X6_in : GoodIn wsX6_block (va_wsS RX6 55 yX6_in wsX6_in) := goodIn_app (goodIn_of _ (by decide +kernel)) ggX6_block_X6_in
set_option maxRecDepth 20000 in
theorem ggX6_block_X6_blockBy : GoodIn wsX6_block wsX6_blockBy := goodIn_r _ [17, 18, 19, 20, 4, 21, 22, 23, 24, 25, 26, 27, 28, 29, 30, 31, 32, 33, 34, 35, 36, 37, 38, 39, 40, 41, 42, 43] (by decide +kernel) (by decide +kernel)
set_option maxRecDepth 20000 in
theorem gX6_block_X6_blockBy : GoodIn wsX6_block (wsV RX6 170 RX6 yX6_blockBy wsX6_blockBy) := goodIn_app (goodIn_of _ (by decide +kernel)) ggX6_block_X6_blockBy
theorem dX6_block_0 : decode cX6_block 0 = .ok (.iload_n 1, 1) := by decide +kernel
theorem dX6_block_1 : decode cX6_block 1 = .ok (.invokestatic 103, 3) := by decide +kernel
theorem dX6_block_4 : decode cX6_block 4 = .ok (.ifCond .eq 36, 3) := by decide +kernel
theorem dX6_block_7 : decode cX6_block 7 = .ok (.iload_n 2, 1) := by decide +kernel
theorem dX6_block_8 : decode cX6_block 8 = .ok (.iload_n 3, 1) := by decide +kernel
theorem dX6_block_9 : decode cX6_block 9 = .ok (.invokestatic 86, 3) := by decide +kernel
theorem dX6_block_12 : decode cX6_block 12 = .ok (.ifCond .eq 28, 3) := by decide +kernel
theorem dX6_block_15 : decode cX6_block 15 = .ok (.iload 4, 2) := by decide +kernel
theorem dX6_block_17 : decode cX6_block 17 = .ok (.i2l, 1) := by decide +kernel
theorem dX6_block_18 : decode cX6_block 18 = .ok (.lconst 0, 1) := by decide +kernel
theorem dX6_block_19 : decode cX6_block 19 = .ok (.ldc2_w 69, 3) := by decide +kernel
theorem dX6_block_22 : decode cX6_block 22 = .ok (.invokestatic 55, 3) := by decide +kernel
theorem dX6_block_25 : decode cX6_block 25 = .ok (.ifCond .eq 15, 3) := by decide +kernel
theorem dX6_block_28 : decode cX6_block 28 = .ok (.aload_n 0, 1) := by decide +kernel
theorem dX6_block_29 : decode cX6_block 29 = .ok (.iload_n 1, 1) := by decide +kernel
theorem dX6_block_30 : decode cX6_block 30 = .ok (.iload_n 2, 1) := by decide +kernel
theorem dX6_block_31 : decode cX6_block 31 = .ok (.iload_n 3, 1) := by decide +kernel
theorem dX6_block_32 : decode cX6_block 32 = .ok (.iload 4, 2) := by decide +kernel
theorem dX6_block_34 : decode cX6_block 34 = .ok (.invokevirtual 170, 3) := by decide +kernel
theorem dX6_block_37 : decode cX6_block 37 = .ok (.goto 5, 3) := by decide +kernel
theorem dX6_block_40 : decode cX6_block 40 = .ok (.bipush (-2), 2) := by decide +kernel
theorem dX6_block_42 : decode cX6_block 42 = .ok (.ireturn, 1) := by decide +kernel
theorem dX6_deepOf_0 : decode cX6_deepOf 0 = .ok (.iload_n 0, 1) := by decide +kernel
theorem dX6_deepOf_1 : decode cX6_deepOf 1 = .ok (.bipush 16, 2) := by decide +kernel
theorem dX6_deepOf_3 : decode cX6_deepOf 3 = .ok (.if_icmp .ne 7, 3) := by decide +kernel
theorem dX6_deepOf_6 : decode cX6_deepOf 6 = .ok (.iconst 1, 1) := by decide +kernel
theorem dX6_deepOf_7 : decode cX6_deepOf 7 = .ok (.goto 23, 3) := by decide +kernel
theorem dX6_deepOf_10 : decode cX6_deepOf 10 = .ok (.iload_n 0, 1) := by decide +kernel
theorem dX6_deepOf_11 : decode cX6_deepOf 11 = .ok (.bipush 8, 2) := by decide +kernel
theorem dX6_deepOf_13 : decode cX6_deepOf 13 = .ok (.if_icmp .ne 7, 3) := by decide +kernel
theorem dX6_deepOf_16 : decode cX6_deepOf 16 = .ok (.iconst 2, 1) := by decide +kernel
theorem dX6_deepOf_17 : decode cX6_deepOf 17 = .ok (.goto 13, 3) := by decide +kernel
theorem dX6_deepOf_20 : decode cX6_deepOf 20 = .ok (.iload_n 0, 1) := by decide +kernel
theorem dX6_deepOf_21 : decode cX6_deepOf 21 = .ok (.iconst 4, 1) := by decide +kernel
theorem dX6_deepOf_22 : decode cX6_deepOf 22 = .ok (.if_icmp .ne 7, 3) := by decide +kernel
theorem dX6_deepOf_25 : decode cX6_deepOf 25 = .ok (.iconst 3, 1) := by decide +kernel
theorem dX6_deepOf_26 : decode cX6_deepOf 26 = .ok (.goto 4, 3) := by decide +kernel
theorem dX6_deepOf_29 : decode cX6_deepOf 29 = .ok (.iconst 4, 1) := by decide +kernel
theorem dX6_deepOf_30 : decode cX6_deepOf 30 = .ok (.ireturn, 1) := by decide +kernel
set_option maxRecDepth 20000 in
theorem ggX6_shows_X6_later : GoodIn wsX6_shows wsX6_later := goodIn_r _ [12, 4, 3, 5, 6, 39, 40, 41, 42, 43, 44, 45, 46, 47, 48, 49, 50, 51, 52, 53, 54, 55, 56, 57, 58, 59] (by decide +kernel) (by decide +kernel)
set_option maxRecDepth 20000 in
theorem gX6_shows_X6_later : GoodIn wsX6_shows (wsV RX6 157 RX6 yX6_later wsX6_later) := goodIn_app (goodIn_of _ (by decide +kernel)) ggX6_shows_X6_later
set_option maxRecDepth 20000 in
theorem ggX6_shows_X6_isBlock : GoodIn wsX6_shows wsX6_isBlock := goodIn_r _ [16, 17, 39, 40, 41, 42, 43, 44, 45, 46, 47, 48, 49, 50, 51, 52, 53, 54, 55, 56, 57, 58, 59] (by decide +kernel) (by decide +kernel)
set_option maxRecDepth 20000 in
theorem gX6_shows_X6_isBlock : GoodIn wsX6_shows (wsV RX6 166 RX6 yX6_isBlock wsX6_isBlock) := goodIn_app (goodIn_of _ (by decide +kernel)) ggX6_shows_X6_isBlock
set_option maxRecDepth 20000 in
theorem ggX6_shows_X6_dark : GoodIn wsX6_shows wsX6_dark := goodIn_r _ [21, 17, 22, 23, 11, 24, 25, 26, 27, 28, 39, 40, 41, 42, 43, 44, 45, 46, 47, 48, 49, 50, 51, 52, 53, 54, 55, 56, 57, 58, 59] (by decide +kernel) (by decide +kernel)
set_option maxRecDepth 20000 in
theorem gX6_shows_X6_dark : GoodIn wsX6_shows (wsV RX6 90 RX6 yX6_dark wsX6_dark) := goodIn_app (goodIn_of _ (by decide +kernel)) ggX6_shows_X6_dark
set_option maxRecDepth 20000 in
theorem ggX6_shows_X6_deepOf : GoodIn wsX6_shows wsX6_deepOf := goodIn_r _ [31] (by decide +kernel) (by decide +kernel)
set_option maxRecDepth 20000 in
theorem gX6_shows_X6_deepOf : GoodIn wsX6_shows (va_wsS RX6 177 yX6_deepOf wsX6_deepOf) := goodIn_app (goodIn_of _ (by decide +kernel)) ggX6_shows_X6_deepOf
set_option maxRecDepth 20000 in
theorem ggX6_shows_X6_greater : GoodIn wsX6_shows wsX6_greater := goodIn_r _ [34] (by decide +kernel) (by decide +kernel)
set_option maxRecDepth 20000 in
theorem gX6_shows_X6_greater : GoodIn wsX6_shows (va_wsS RX6 180 yX6_greater wsX6_greater) := goodIn_app (goodIn_of _ (by decide +kernel)) ggX6_shows_X6_greater
set_option maxRecDepth 20000 in
theorem ggX6_shows_X6_quarters : GoodIn wsX6_shows wsX6_quarters := goodIn_r _ [38, 8, 9, 10, 11, 12, 4, 3, 5, 6, 39, 40, 41, 42, 43, 44, 45, 46, 47, 48, 49, 50, 51, 52, 53, 54, 55, 56, 57, 58, 59] (by decide +kernel) (by decide +kernel)
set_option maxRecDepth 20000 in
theorem gX6_shows_X6_quarters : GoodIn wsX6_shows (wsV RX6 160 RX6 yX6_quarters wsX6_quarters) := goodIn_app (goodIn_of _ (by decide +kernel)) ggX6_shows_X6_quarters
theorem dX6_shows_0 : decode cX6_shows 0 = .ok (.aload_n 0, 1) := by decide +kernel
theorem dX6_shows_1 : decode cX6_shows 1 = .ok (.iconst 0, 1) := by decide +kernel
theorem dX6_shows_2 : decode cX6_shows 2 = .ok (.putfield 174, 3) := by decide +kernel
theorem dX6_shows_5 : decode cX6_shows 5 = .ok (.iconst 0, 1) := by decide +kernel
theorem dX6_shows_6 : decode cX6_shows 6 = .ok (.istore_n 2, 1) := by decide +kernel
theorem dX6_shows_7 : decode cX6_shows 7 = .ok (.iload_n 2, 1) := by decide +kernel
theorem dX6_shows_8 : decode cX6_shows 8 = .ok (.iconst 4, 1) := by decide +kernel
theorem dX6_shows_9 : decode cX6_shows 9 = .ok (.if_icmp .ge 16, 3) := by decide +kernel
theorem dX6_shows_12 : decode cX6_shows 12 = .ok (.aload_n 0, 1) := by decide +kernel
theorem dX6_shows_13 : decode cX6_shows 13 = .ok (.getfield 52, 3) := by decide +kernel
theorem dX6_shows_16 : decode cX6_shows 16 = .ok (.iload_n 2, 1) := by decide +kernel
theorem dX6_shows_17 : decode cX6_shows 17 = .ok (.iconst 0, 1) := by decide +kernel
theorem dX6_shows_18 : decode cX6_shows 18 = .ok (.iastore, 1) := by decide +kernel
theorem dX6_shows_19 : decode cX6_shows 19 = .ok (.iinc 2 1, 3) := by decide +kernel
theorem dX6_shows_22 : decode cX6_shows 22 = .ok (.goto (-15), 3) := by decide +kernel
theorem dX6_shows_25 : decode cX6_shows 25 = .ok (.aload_n 0, 1) := by decide +kernel
theorem dX6_shows_26 : decode cX6_shows 26 = .ok (.iconst 0, 1) := by decide +kernel
theorem dX6_shows_27 : decode cX6_shows 27 = .ok (.putfield 154, 3) := by decide +kernel
theorem dX6_shows_30 : decode cX6_shows 30 = .ok (.aload_n 0, 1) := by decide +kernel
theorem dX6_shows_31 : decode cX6_shows 31 = .ok (.iconst 0, 1) := by decide +kernel
theorem dX6_shows_32 : decode cX6_shows 32 = .ok (.iconst 0, 1) := by decide +kernel
theorem dX6_shows_33 : decode cX6_shows 33 = .ok (.bipush 16, 2) := by decide +kernel
theorem dX6_shows_35 : decode cX6_shows 35 = .ok (.invokevirtual 157, 3) := by decide +kernel
theorem dX6_shows_38 : decode cX6_shows 38 = .ok (.aload_n 0, 1) := by decide +kernel
theorem dX6_shows_39 : decode cX6_shows 39 = .ok (.getfield 154, 3) := by decide +kernel
theorem dX6_shows_42 : decode cX6_shows 42 = .ok (.ifCond .le 202, 3) := by decide +kernel
theorem dX6_shows_45 : decode cX6_shows 45 = .ok (.aload_n 0, 1) := by decide +kernel
theorem dX6_shows_46 : decode cX6_shows 46 = .ok (.dup, 1) := by decide +kernel
theorem dX6_shows_47 : decode cX6_shows 47 = .ok (.getfield 154, 3) := by decide +kernel
theorem dX6_shows_50 : decode cX6_shows 50 = .ok (.iconst 1, 1) := by decide +kernel
theorem dX6_shows_51 : decode cX6_shows 51 = .ok (.isub, 1) := by decide +kernel
theorem dX6_shows_52 : decode cX6_shows 52 = .ok (.putfield 154, 3) := by decide +kernel
theorem dX6_shows_55 : decode cX6_shows 55 = .ok (.aload_n 0, 1) := by decide +kernel
theorem dX6_shows_56 : decode cX6_shows 56 = .ok (.getfield 40, 3) := by decide +kernel
theorem dX6_shows_59 : decode cX6_shows 59 = .ok (.aload_n 0, 1) := by decide +kernel
theorem dX6_shows_60 : decode cX6_shows 60 = .ok (.getfield 154, 3) := by decide +kernel
theorem dX6_shows_63 : decode cX6_shows 63 = .ok (.iaload, 1) := by decide +kernel
theorem dX6_shows_64 : decode cX6_shows 64 = .ok (.istore_n 2, 1) := by decide +kernel
theorem dX6_shows_65 : decode cX6_shows 65 = .ok (.aload_n 0, 1) := by decide +kernel
theorem dX6_shows_66 : decode cX6_shows 66 = .ok (.getfield 43, 3) := by decide +kernel
theorem dX6_shows_69 : decode cX6_shows 69 = .ok (.aload_n 0, 1) := by decide +kernel
theorem dX6_shows_70 : decode cX6_shows 70 = .ok (.getfield 154, 3) := by decide +kernel
theorem dX6_shows_73 : decode cX6_shows 73 = .ok (.iaload, 1) := by decide +kernel
theorem dX6_shows_74 : decode cX6_shows 74 = .ok (.istore_n 3, 1) := by decide +kernel
theorem dX6_shows_75 : decode cX6_shows 75 = .ok (.aload_n 0, 1) := by decide +kernel
theorem dX6_shows_76 : decode cX6_shows 76 = .ok (.getfield 46, 3) := by decide +kernel
theorem dX6_shows_79 : decode cX6_shows 79 = .ok (.aload_n 0, 1) := by decide +kernel
theorem dX6_shows_80 : decode cX6_shows 80 = .ok (.getfield 154, 3) := by decide +kernel
theorem dX6_shows_83 : decode cX6_shows 83 = .ok (.iaload, 1) := by decide +kernel
theorem dX6_shows_84 : decode cX6_shows 84 = .ok (.istore 4, 2) := by decide +kernel
theorem dX6_shows_86 : decode cX6_shows 86 = .ok (.aload_n 0, 1) := by decide +kernel
theorem dX6_shows_87 : decode cX6_shows 87 = .ok (.iload_n 1, 1) := by decide +kernel
theorem dX6_shows_88 : decode cX6_shows 88 = .ok (.iload_n 2, 1) := by decide +kernel
theorem dX6_shows_89 : decode cX6_shows 89 = .ok (.iload_n 3, 1) := by decide +kernel
theorem dX6_shows_90 : decode cX6_shows 90 = .ok (.iload 4, 2) := by decide +kernel
theorem dX6_shows_92 : decode cX6_shows 92 = .ok (.invokevirtual 166, 3) := by decide +kernel
theorem dX6_shows_95 : decode cX6_shows 95 = .ok (.istore 5, 2) := by decide +kernel
theorem dX6_shows_97 : decode cX6_shows 97 = .ok (.iload 5, 2) := by decide +kernel
theorem dX6_shows_99 : decode cX6_shows 99 = .ok (.ifCond .eq 13, 3) := by decide +kernel
theorem dX6_shows_102 : decode cX6_shows 102 = .ok (.aload_n 0, 1) := by decide +kernel
theorem dX6_shows_103 : decode cX6_shows 103 = .ok (.iload_n 1, 1) := by decide +kernel
theorem dX6_shows_104 : decode cX6_shows 104 = .ok (.iload_n 2, 1) := by decide +kernel
theorem dX6_shows_105 : decode cX6_shows 105 = .ok (.iload_n 3, 1) := by decide +kernel
theorem dX6_shows_106 : decode cX6_shows 106 = .ok (.invokevirtual 90, 3) := by decide +kernel
theorem dX6_shows_109 : decode cX6_shows 109 = .ok (.goto 4, 3) := by decide +kernel
theorem dX6_shows_112 : decode cX6_shows 112 = .ok (.iconst 2, 1) := by decide +kernel
theorem dX6_shows_113 : decode cX6_shows 113 = .ok (.istore 6, 2) := by decide +kernel
theorem dX6_shows_115 : decode cX6_shows 115 = .ok (.aload_n 0, 1) := by decide +kernel
theorem dX6_shows_116 : decode cX6_shows 116 = .ok (.getfield 49, 3) := by decide +kernel
theorem dX6_shows_119 : decode cX6_shows 119 = .ok (.aload_n 0, 1) := by decide +kernel
theorem dX6_shows_120 : decode cX6_shows 120 = .ok (.getfield 174, 3) := by decide +kernel
theorem dX6_shows_123 : decode cX6_shows 123 = .ok (.iload 6, 2) := by decide +kernel
theorem dX6_shows_125 : decode cX6_shows 125 = .ok (.iastore, 1) := by decide +kernel
theorem dX6_shows_126 : decode cX6_shows 126 = .ok (.aload_n 0, 1) := by decide +kernel
theorem dX6_shows_127 : decode cX6_shows 127 = .ok (.dup, 1) := by decide +kernel
theorem dX6_shows_128 : decode cX6_shows 128 = .ok (.getfield 174, 3) := by decide +kernel
theorem dX6_shows_131 : decode cX6_shows 131 = .ok (.iconst 1, 1) := by decide +kernel
theorem dX6_shows_132 : decode cX6_shows 132 = .ok (.iadd, 1) := by decide +kernel
theorem dX6_shows_133 : decode cX6_shows 133 = .ok (.putfield 174, 3) := by decide +kernel
theorem dX6_shows_136 : decode cX6_shows 136 = .ok (.aload_n 0, 1) := by decide +kernel
theorem dX6_shows_137 : decode cX6_shows 137 = .ok (.getfield 52, 3) := by decide +kernel
theorem dX6_shows_140 : decode cX6_shows 140 = .ok (.iconst 0, 1) := by decide +kernel
theorem dX6_shows_141 : decode cX6_shows 141 = .ok (.dup2, 1) := by decide +kernel
theorem dX6_shows_142 : decode cX6_shows 142 = .ok (.iaload, 1) := by decide +kernel
theorem dX6_shows_143 : decode cX6_shows 143 = .ok (.iload 5, 2) := by decide +kernel
theorem dX6_shows_145 : decode cX6_shows 145 = .ok (.ifCond .eq 7, 3) := by decide +kernel
theorem dX6_shows_148 : decode cX6_shows 148 = .ok (.iconst 1, 1) := by decide +kernel
theorem dX6_shows_149 : decode cX6_shows 149 = .ok (.goto 4, 3) := by decide +kernel
theorem dX6_shows_152 : decode cX6_shows 152 = .ok (.iconst 0, 1) := by decide +kernel
theorem dX6_shows_153 : decode cX6_shows 153 = .ok (.iadd, 1) := by decide +kernel
theorem dX6_shows_154 : decode cX6_shows 154 = .ok (.iastore, 1) := by decide +kernel
theorem dX6_shows_155 : decode cX6_shows 155 = .ok (.aload_n 0, 1) := by decide +kernel
theorem dX6_shows_156 : decode cX6_shows 156 = .ok (.getfield 52, 3) := by decide +kernel
theorem dX6_shows_159 : decode cX6_shows 159 = .ok (.iconst 1, 1) := by decide +kernel
theorem dX6_shows_160 : decode cX6_shows 160 = .ok (.dup2, 1) := by decide +kernel
theorem dX6_shows_161 : decode cX6_shows 161 = .ok (.iaload, 1) := by decide +kernel
theorem dX6_shows_162 : decode cX6_shows 162 = .ok (.iload 6, 2) := by decide +kernel
theorem dX6_shows_164 : decode cX6_shows 164 = .ok (.iconst 1, 1) := by decide +kernel
theorem dX6_shows_165 : decode cX6_shows 165 = .ok (.if_icmp .ne 7, 3) := by decide +kernel
theorem dX6_shows_168 : decode cX6_shows 168 = .ok (.iconst 1, 1) := by decide +kernel
theorem dX6_shows_169 : decode cX6_shows 169 = .ok (.goto 4, 3) := by decide +kernel
theorem dX6_shows_172 : decode cX6_shows 172 = .ok (.iconst 0, 1) := by decide +kernel
theorem dX6_shows_173 : decode cX6_shows 173 = .ok (.iadd, 1) := by decide +kernel
theorem dX6_shows_174 : decode cX6_shows 174 = .ok (.iastore, 1) := by decide +kernel
theorem dX6_shows_175 : decode cX6_shows 175 = .ok (.aload_n 0, 1) := by decide +kernel
theorem dX6_shows_176 : decode cX6_shows 176 = .ok (.getfield 52, 3) := by decide +kernel
theorem dX6_shows_179 : decode cX6_shows 179 = .ok (.iconst 2, 1) := by decide +kernel
theorem dX6_shows_180 : decode cX6_shows 180 = .ok (.dup2, 1) := by decide +kernel
theorem dX6_shows_181 : decode cX6_shows 181 = .ok (.iaload, 1) := by decide +kernel
theorem dX6_shows_182 : decode cX6_shows 182 = .ok (.iload 5, 2) := by decide +kernel
theorem dX6_shows_184 : decode cX6_shows 184 = .ok (.ifCond .eq 7, 3) := by decide +kernel
theorem dX6_shows_187 : decode cX6_shows 187 = .ok (.iconst 0, 1) := by decide +kernel
theorem dX6_shows_188 : decode cX6_shows 188 = .ok (.goto 4, 3) := by decide +kernel
theorem dX6_shows_191 : decode cX6_shows 191 = .ok (.iconst 1, 1) := by decide +kernel
theorem dX6_shows_192 : decode cX6_shows 192 = .ok (.iadd, 1) := by decide +kernel
theorem dX6_shows_193 : decode cX6_shows 193 = .ok (.iastore, 1) := by decide +kernel
theorem dX6_shows_194 : decode cX6_shows 194 = .ok (.aload_n 0, 1) := by decide +kernel
theorem dX6_shows_195 : decode cX6_shows 195 = .ok (.getfield 52, 3) := by decide +kernel
theorem dX6_shows_198 : decode cX6_shows 198 = .ok (.iconst 3, 1) := by decide +kernel
theorem dX6_shows_199 : decode cX6_shows 199 = .ok (.iload 5, 2) := by decide +kernel
theorem dX6_shows_201 : decode cX6_shows 201 = .ok (.ifCond .eq 12, 3) := by decide +kernel
theorem dX6_shows_204 : decode cX6_shows 204 = .ok (.aload_n 0, 1) := by decide +kernel
theorem dX6_shows_205 : decode cX6_shows 205 = .ok (.getfield 52, 3) := by decide +kernel
theorem dX6_shows_208 : decode cX6_shows 208 = .ok (.iconst 3, 1) := by decide +kernel
theorem dX6_shows_209 : decode cX6_shows 209 = .ok (.iaload, 1) := by decide +kernel
theorem dX6_shows_210 : decode cX6_shows 210 = .ok (.goto 17, 3) := by decide +kernel
theorem dX6_shows_213 : decode cX6_shows 213 = .ok (.iload 4, 2) := by decide +kernel
theorem dX6_shows_215 : decode cX6_shows 215 = .ok (.invokestatic 177, 3) := by decide +kernel
theorem dX6_shows_218 : decode cX6_shows 218 = .ok (.aload_n 0, 1) := by decide +kernel
theorem dX6_shows_219 : decode cX6_shows 219 = .ok (.getfield 52, 3) := by decide +kernel
theorem dX6_shows_222 : decode cX6_shows 222 = .ok (.iconst 3, 1) := by decide +kernel
theorem dX6_shows_223 : decode cX6_shows 223 = .ok (.iaload, 1) := by decide +kernel
theorem dX6_shows_224 : decode cX6_shows 224 = .ok (.invokestatic 180, 3) := by decide +kernel
theorem dX6_shows_227 : decode cX6_shows 227 = .ok (.iastore, 1) := by decide +kernel
theorem dX6_shows_228 : decode cX6_shows 228 = .ok (.iload 5, 2) := by decide +kernel
theorem dX6_shows_230 : decode cX6_shows 230 = .ok (.ifCond .ne 11, 3) := by decide +kernel
theorem dX6_shows_233 : decode cX6_shows 233 = .ok (.aload_n 0, 1) := by decide +kernel
theorem dX6_shows_234 : decode cX6_shows 234 = .ok (.iload_n 2, 1) := by decide +kernel
theorem dX6_shows_235 : decode cX6_shows 235 = .ok (.iload_n 3, 1) := by decide +kernel
theorem dX6_shows_236 : decode cX6_shows 236 = .ok (.iload 4, 2) := by decide +kernel
theorem dX6_shows_238 : decode cX6_shows 238 = .ok (.invokevirtual 160, 3) := by decide +kernel
theorem dX6_shows_241 : decode cX6_shows 241 = .ok (.goto (-203), 3) := by decide +kernel
theorem dX6_shows_244 : decode cX6_shows 244 = .ok (.return_, 1) := by decide +kernel
set_option maxRecDepth 20000 in
theorem ggX6_blocksBy_X6_shows : GoodIn wsX6_blocksBy wsX6_shows := goodIn_r _ [6, 7, 1, 8, 9, 10, 11, 12, 13, 14, 15, 5, 16, 17, 18, 19, 20, 21, 22, 23, 24, 25, 26, 27, 28, 29, 30, 31, 32, 33, 34, 35, 36, 37, 38, 39, 40, 41, 42, 43, 44, 45, 46, 47, 48, 49, 50, 51, 52, 53, 54, 55, 56, 57, 58, 59, 60, 61, 62, 63] (by decide +kernel) (by decide +kernel)
set_option maxRecDepth 20000 in
theorem gX6_blocksBy_X6_shows : GoodIn wsX6_blocksBy (wsV RX6 183 RX6 yX6_shows wsX6_shows) := goodIn_app (goodIn_of _ (by decide +kernel)) ggX6_blocksBy_X6_shows
theorem dX6_blocksBy_0 : decode cX6_blocksBy 0 = .ok (.aload_n 0, 1) := by decide +kernel
theorem dX6_blocksBy_1 : decode cX6_blocksBy 1 = .ok (.iload_n 1, 1) := by decide +kernel
theorem dX6_blocksBy_2 : decode cX6_blocksBy 2 = .ok (.invokevirtual 183, 3) := by decide +kernel
theorem dX6_blocksBy_5 : decode cX6_blocksBy 5 = .ok (.aload_n 0, 1) := by decide +kernel
theorem dX6_blocksBy_6 : decode cX6_blocksBy 6 = .ok (.getfield 52, 3) := by decide +kernel
theorem dX6_blocksBy_9 : decode cX6_blocksBy 9 = .ok (.iload_n 2, 1) := by decide +kernel
theorem dX6_blocksBy_10 : decode cX6_blocksBy 10 = .ok (.iaload, 1) := by decide +kernel
theorem dX6_blocksBy_11 : decode cX6_blocksBy 11 = .ok (.ireturn, 1) := by decide +kernel
set_option maxRecDepth 20000 in
theorem ggX6_blocks_X6_isMask : GoodIn wsX6_blocks wsX6_isMask := goodIn_r _ [5, 1, 6, 7, 4, 8] (by decide +kernel) (by decide +kernel)
set_option maxRecDepth 20000 in
theorem gX6_blocks_X6_isMask : GoodIn wsX6_blocks (va_wsS RX6 103 yX6_isMask wsX6_isMask) := goodIn_app (goodIn_of _ (by decide +kernel)) ggX6_blocks_X6_isMask
set_option maxRecDepth 20000 in
theorem ggX6_blocks_X6_in : GoodIn wsX6_blocks wsX6_in := goodIn_r _ [8] (by decide +kernel) (by decide +kernel)
set_option maxRecDepth 20000 in
theorem gX6_blocks_X6_in : GoodIn wsX6_blocks (va_wsS RX6 55 yX6_in wsX6_in) := goodIn_app (goodIn_of _ (by decide +kernel)) ggX6_blocks_X6_in
set_option maxRecDepth 20000 in
theorem ggX6_blocks_X6_blocksBy : GoodIn wsX6_blocks wsX6_blocksBy := goodIn_r _ [12, 13, 14, 15, 16, 4, 17, 18, 19, 20, 21, 22, 23, 24, 25, 26, 27, 28, 29, 30, 31, 32, 33, 34, 35, 36, 37, 38, 39, 40, 6, 7, 8, 41, 42, 43, 44, 45, 46, 47, 48, 49, 50, 51, 52, 53, 54, 55, 56, 57, 58, 59, 60, 61, 62, 63, 64, 65, 66, 67, 68, 69, 70, 71] (by decide +kernel) (by decide +kernel)
set_option maxRecDepth 20000 in
theorem gX6_blocks_X6_blocksBy : GoodIn wsX6_blocks (wsV RX6 186 RX6 yX6_blocksBy wsX6_blocksBy) := goodIn_app (goodIn_of _ (by decide +kernel)) ggX6_blocks_X6_blocksBy
theorem dX6_blocks_0 : decode cX6_blocks 0 = .ok (.iload_n 1, 1) := by decide +kernel
theorem dX6_blocks_1 : decode cX6_blocks 1 = .ok (.invokestatic 103, 3) := by decide +kernel
theorem dX6_blocks_4 : decode cX6_blocks 4 = .ok (.ifCond .eq 24, 3) := by decide +kernel
theorem dX6_blocks_7 : decode cX6_blocks 7 = .ok (.iload_n 2, 1) := by decide +kernel
theorem dX6_blocks_8 : decode cX6_blocks 8 = .ok (.i2l, 1) := by decide +kernel
theorem dX6_blocks_9 : decode cX6_blocks 9 = .ok (.lconst 0, 1) := by decide +kernel
theorem dX6_blocks_10 : decode cX6_blocks 10 = .ok (.ldc2_w 63, 3) := by decide +kernel
theorem dX6_blocks_13 : decode cX6_blocks 13 = .ok (.invokestatic 55, 3) := by decide +kernel
theorem dX6_blocks_16 : decode cX6_blocks 16 = .ok (.ifCond .eq 12, 3) := by decide +kernel
theorem dX6_blocks_19 : decode cX6_blocks 19 = .ok (.aload_n 0, 1) := by decide +kernel
theorem dX6_blocks_20 : decode cX6_blocks 20 = .ok (.iload_n 1, 1) := by decide +kernel
theorem dX6_blocks_21 : decode cX6_blocks 21 = .ok (.iload_n 2, 1) := by decide +kernel
theorem dX6_blocks_22 : decode cX6_blocks 22 = .ok (.invokevirtual 186, 3) := by decide +kernel
theorem dX6_blocks_25 : decode cX6_blocks 25 = .ok (.goto 5, 3) := by decide +kernel
theorem dX6_blocks_28 : decode cX6_blocks 28 = .ok (.bipush (-2), 2) := by decide +kernel
theorem dX6_blocks_30 : decode cX6_blocks 30 = .ok (.ireturn, 1) := by decide +kernel
theorem dX6_signBy_0 : decode cX6_signBy 0 = .ok (.iload_n 1, 1) := by decide +kernel
theorem dX6_signBy_1 : decode cX6_signBy 1 = .ok (.iconst (-1), 1) := by decide +kernel
theorem dX6_signBy_2 : decode cX6_signBy 2 = .ok (.if_icmp .ne 10, 3) := by decide +kernel
theorem dX6_signBy_5 : decode cX6_signBy 5 = .ok (.aload_n 0, 1) := by decide +kernel
theorem dX6_signBy_6 : decode cX6_signBy 6 = .ok (.getfield 174, 3) := by decide +kernel
theorem dX6_signBy_9 : decode cX6_signBy 9 = .ok (.goto 21, 3) := by decide +kernel
theorem dX6_signBy_12 : decode cX6_signBy 12 = .ok (.iload_n 1, 1) := by decide +kernel
theorem dX6_signBy_13 : decode cX6_signBy 13 = .ok (.aload_n 0, 1) := by decide +kernel
theorem dX6_signBy_14 : decode cX6_signBy 14 = .ok (.getfield 174, 3) := by decide +kernel
theorem dX6_signBy_17 : decode cX6_signBy 17 = .ok (.if_icmp .ge 12, 3) := by decide +kernel
theorem dX6_signBy_20 : decode cX6_signBy 20 = .ok (.aload_n 0, 1) := by decide +kernel
theorem dX6_signBy_21 : decode cX6_signBy 21 = .ok (.getfield 49, 3) := by decide +kernel
theorem dX6_signBy_24 : decode cX6_signBy 24 = .ok (.iload_n 1, 1) := by decide +kernel
theorem dX6_signBy_25 : decode cX6_signBy 25 = .ok (.iaload, 1) := by decide +kernel
theorem dX6_signBy_26 : decode cX6_signBy 26 = .ok (.goto 4, 3) := by decide +kernel
theorem dX6_signBy_29 : decode cX6_signBy 29 = .ok (.iconst (-1), 1) := by decide +kernel
theorem dX6_signBy_30 : decode cX6_signBy 30 = .ok (.ireturn, 1) := by decide +kernel
set_option maxRecDepth 20000 in
theorem ggX6_shownBy_X6_shows : GoodIn wsX6_shownBy wsX6_shows := goodIn_r _ [5, 6, 7, 8, 9, 10, 11, 12, 13, 14, 15, 4, 16, 17, 18, 19, 20, 21, 22, 23, 24, 25, 26, 27, 28, 29, 30, 31, 32, 33, 34, 35, 36, 37, 38, 39, 40, 41, 42, 47, 48, 49, 50, 51, 52, 53, 54, 55, 56, 57, 58, 59, 60, 61, 62, 63, 64, 65, 66, 67] (by decide +kernel) (by decide +kernel)
set_option maxRecDepth 20000 in
theorem gX6_shownBy_X6_shows : GoodIn wsX6_shownBy (wsV RX6 183 RX6 yX6_shows wsX6_shows) := goodIn_app (goodIn_of _ (by decide +kernel)) ggX6_shownBy_X6_shows
set_option maxRecDepth 20000 in
theorem ggX6_shownBy_X6_signBy : GoodIn wsX6_shownBy wsX6_signBy := goodIn_r _ [46, 6, 12, 47, 48, 49, 50, 51, 52, 53, 54, 55, 56, 57, 58, 59, 60, 61, 62, 63, 64, 65, 66, 67] (by decide +kernel) (by decide +kernel)
set_option maxRecDepth 20000 in
theorem gX6_shownBy_X6_signBy : GoodIn wsX6_shownBy (wsV RX6 189 RX6 yX6_signBy wsX6_signBy) := goodIn_app (goodIn_of _ (by decide +kernel)) ggX6_shownBy_X6_signBy
theorem dX6_shownBy_0 : decode cX6_shownBy 0 = .ok (.aload_n 0, 1) := by decide +kernel
theorem dX6_shownBy_1 : decode cX6_shownBy 1 = .ok (.iload_n 1, 1) := by decide +kernel
theorem dX6_shownBy_2 : decode cX6_shownBy 2 = .ok (.invokevirtual 183, 3) := by decide +kernel
theorem dX6_shownBy_5 : decode cX6_shownBy 5 = .ok (.aload_n 0, 1) := by decide +kernel
theorem dX6_shownBy_6 : decode cX6_shownBy 6 = .ok (.iload_n 2, 1) := by decide +kernel
theorem dX6_shownBy_7 : decode cX6_shownBy 7 = .ok (.invokevirtual 189, 3) := by decide +kernel
theorem dX6_shownBy_10 : decode cX6_shownBy 10 = .ok (.ireturn, 1) := by decide +kernel
set_option maxRecDepth 20000 in
theorem ggX6_shown_X6_isMask : GoodIn wsX6_shown wsX6_isMask := goodIn_r _ [6, 7, 8, 9, 5, 10] (by decide +kernel) (by decide +kernel)
set_option maxRecDepth 20000 in
theorem gX6_shown_X6_isMask : GoodIn wsX6_shown (va_wsS RX6 103 yX6_isMask wsX6_isMask) := goodIn_app (goodIn_of _ (by decide +kernel)) ggX6_shown_X6_isMask
set_option maxRecDepth 20000 in
theorem ggX6_shown_X6_in : GoodIn wsX6_shown wsX6_in := goodIn_r _ [10] (by decide +kernel) (by decide +kernel)
set_option maxRecDepth 20000 in
theorem gX6_shown_X6_in : GoodIn wsX6_shown (va_wsS RX6 55 yX6_in wsX6_in) := goodIn_app (goodIn_of _ (by decide +kernel)) ggX6_shown_X6_in
set_option maxRecDepth 20000 in
theorem ggX6_shown_X6_shownBy : GoodIn wsX6_shown wsX6_shownBy := goodIn_r _ [14, 15, 16, 17, 5, 18, 19, 20, 21, 22, 23, 24, 25, 26, 27, 28, 29, 30, 31, 32, 33, 34, 35, 36, 37, 38, 39, 40, 41, 42, 8, 9, 10, 43, 44, 45, 46, 47, 48, 49, 50, 51, 52, 53, 54, 55, 56, 57, 58, 59, 60, 61, 62, 63, 64, 65, 66, 67, 68, 69, 70, 71, 72, 73, 74, 75, 76, 77] (by decide +kernel) (by decide +kernel)
set_option maxRecDepth 20000 in
theorem gX6_shown_X6_shownBy : GoodIn wsX6_shown (wsV RX6 196 RX6 yX6_shownBy wsX6_shownBy) := goodIn_app (goodIn_of _ (by decide +kernel)) ggX6_shown_X6_shownBy
theorem dX6_shown_0 : decode cX6_shown 0 = .ok (.iload_n 1, 1) := by decide +kernel
theorem dX6_shown_1 : decode cX6_shown 1 = .ok (.invokestatic 103, 3) := by decide +kernel
theorem dX6_shown_4 : decode cX6_shown 4 = .ok (.ifCond .eq 26, 3) := by decide +kernel
theorem dX6_shown_7 : decode cX6_shown 7 = .ok (.iload_n 2, 1) := by decide +kernel
theorem dX6_shown_8 : decode cX6_shown 8 = .ok (.i2l, 1) := by decide +kernel
theorem dX6_shown_9 : decode cX6_shown 9 = .ok (.ldc2_w 192, 3) := by decide +kernel
theorem dX6_shown_12 : decode cX6_shown 12 = .ok (.ldc2_w 194, 3) := by decide +kernel
theorem dX6_shown_15 : decode cX6_shown 15 = .ok (.invokestatic 55, 3) := by decide +kernel
theorem dX6_shown_18 : decode cX6_shown 18 = .ok (.ifCond .eq 12, 3) := by decide +kernel
theorem dX6_shown_21 : decode cX6_shown 21 = .ok (.aload_n 0, 1) := by decide +kernel
theorem dX6_shown_22 : decode cX6_shown 22 = .ok (.iload_n 1, 1) := by decide +kernel
theorem dX6_shown_23 : decode cX6_shown 23 = .ok (.iload_n 2, 1) := by decide +kernel
theorem dX6_shown_24 : decode cX6_shown 24 = .ok (.invokevirtual 196, 3) := by decide +kernel
theorem dX6_shown_27 : decode cX6_shown 27 = .ok (.goto 5, 3) := by decide +kernel
theorem dX6_shown_30 : decode cX6_shown 30 = .ok (.bipush (-2), 2) := by decide +kernel
theorem dX6_shown_32 : decode cX6_shown 32 = .ok (.ireturn, 1) := by decide +kernel
set_option maxRecDepth 20000 in
theorem ggX6_borderAt_X6_dark : GoodIn wsX6_borderAt wsX6_dark := goodIn_r _ [5, 6, 7, 8, 4, 9, 10, 11, 12, 13, 14, 15, 16, 17, 18, 19, 20, 21, 22, 23, 24, 25, 26, 27, 28, 29, 30, 31, 32, 33, 34] (by decide +kernel) (by decide +kernel)
set_option maxRecDepth 20000 in
theorem gX6_borderAt_X6_dark : GoodIn wsX6_borderAt (wsV RX6 90 RX6 yX6_dark wsX6_dark) := goodIn_app (goodIn_of _ (by decide +kernel)) ggX6_borderAt_X6_dark
theorem dX6_borderAt_0 : decode cX6_borderAt 0 = .ok (.iload_n 2, 1) := by decide +kernel
theorem dX6_borderAt_1 : decode cX6_borderAt 1 = .ok (.bipush 16, 2) := by decide +kernel
theorem dX6_borderAt_3 : decode cX6_borderAt 3 = .ok (.irem, 1) := by decide +kernel
theorem dX6_borderAt_4 : decode cX6_borderAt 4 = .ok (.istore_n 3, 1) := by decide +kernel
theorem dX6_borderAt_5 : decode cX6_borderAt 5 = .ok (.iload_n 2, 1) := by decide +kernel
theorem dX6_borderAt_6 : decode cX6_borderAt 6 = .ok (.bipush 16, 2) := by decide +kernel
theorem dX6_borderAt_8 : decode cX6_borderAt 8 = .ok (.idiv, 1) := by decide +kernel
theorem dX6_borderAt_9 : decode cX6_borderAt 9 = .ok (.istore 4, 2) := by decide +kernel
theorem dX6_borderAt_11 : decode cX6_borderAt 11 = .ok (.aload_n 0, 1) := by decide +kernel
theorem dX6_borderAt_12 : decode cX6_borderAt 12 = .ok (.iload_n 1, 1) := by decide +kernel
theorem dX6_borderAt_13 : decode cX6_borderAt 13 = .ok (.iload_n 3, 1) := by decide +kernel
theorem dX6_borderAt_14 : decode cX6_borderAt 14 = .ok (.iload 4, 2) := by decide +kernel
theorem dX6_borderAt_16 : decode cX6_borderAt 16 = .ok (.invokevirtual 90, 3) := by decide +kernel
theorem dX6_borderAt_19 : decode cX6_borderAt 19 = .ok (.ifCond .ne 7, 3) := by decide +kernel
theorem dX6_borderAt_22 : decode cX6_borderAt 22 = .ok (.iconst 0, 1) := by decide +kernel
theorem dX6_borderAt_23 : decode cX6_borderAt 23 = .ok (.goto 48, 3) := by decide +kernel
theorem dX6_borderAt_26 : decode cX6_borderAt 26 = .ok (.iconst 4, 1) := by decide +kernel
theorem dX6_borderAt_27 : decode cX6_borderAt 27 = .ok (.aload_n 0, 1) := by decide +kernel
theorem dX6_borderAt_28 : decode cX6_borderAt 28 = .ok (.iload_n 1, 1) := by decide +kernel
theorem dX6_borderAt_29 : decode cX6_borderAt 29 = .ok (.iload_n 3, 1) := by decide +kernel
theorem dX6_borderAt_30 : decode cX6_borderAt 30 = .ok (.iconst 1, 1) := by decide +kernel
theorem dX6_borderAt_31 : decode cX6_borderAt 31 = .ok (.iadd, 1) := by decide +kernel
theorem dX6_borderAt_32 : decode cX6_borderAt 32 = .ok (.iload 4, 2) := by decide +kernel
theorem dX6_borderAt_34 : decode cX6_borderAt 34 = .ok (.invokevirtual 90, 3) := by decide +kernel
theorem dX6_borderAt_37 : decode cX6_borderAt 37 = .ok (.isub, 1) := by decide +kernel
theorem dX6_borderAt_38 : decode cX6_borderAt 38 = .ok (.aload_n 0, 1) := by decide +kernel
theorem dX6_borderAt_39 : decode cX6_borderAt 39 = .ok (.iload_n 1, 1) := by decide +kernel
theorem dX6_borderAt_40 : decode cX6_borderAt 40 = .ok (.iload_n 3, 1) := by decide +kernel
theorem dX6_borderAt_41 : decode cX6_borderAt 41 = .ok (.iconst 1, 1) := by decide +kernel
theorem dX6_borderAt_42 : decode cX6_borderAt 42 = .ok (.isub, 1) := by decide +kernel
theorem dX6_borderAt_43 : decode cX6_borderAt 43 = .ok (.iload 4, 2) := by decide +kernel
theorem dX6_borderAt_45 : decode cX6_borderAt 45 = .ok (.invokevirtual 90, 3) := by decide +kernel
theorem dX6_borderAt_48 : decode cX6_borderAt 48 = .ok (.isub, 1) := by decide +kernel
theorem dX6_borderAt_49 : decode cX6_borderAt 49 = .ok (.aload_n 0, 1) := by decide +kernel
theorem dX6_borderAt_50 : decode cX6_borderAt 50 = .ok (.iload_n 1, 1) := by decide +kernel
theorem dX6_borderAt_51 : decode cX6_borderAt 51 = .ok (.iload_n 3, 1) := by decide +kernel
theorem dX6_borderAt_52 : decode cX6_borderAt 52 = .ok (.iload 4, 2) := by decide +kernel
theorem dX6_borderAt_54 : decode cX6_borderAt 54 = .ok (.iconst 1, 1) := by decide +kernel
theorem dX6_borderAt_55 : decode cX6_borderAt 55 = .ok (.iadd, 1) := by decide +kernel
theorem dX6_borderAt_56 : decode cX6_borderAt 56 = .ok (.invokevirtual 90, 3) := by decide +kernel
theorem dX6_borderAt_59 : decode cX6_borderAt 59 = .ok (.isub, 1) := by decide +kernel
theorem dX6_borderAt_60 : decode cX6_borderAt 60 = .ok (.aload_n 0, 1) := by decide +kernel
theorem dX6_borderAt_61 : decode cX6_borderAt 61 = .ok (.iload_n 1, 1) := by decide +kernel
theorem dX6_borderAt_62 : decode cX6_borderAt 62 = .ok (.iload_n 3, 1) := by decide +kernel
theorem dX6_borderAt_63 : decode cX6_borderAt 63 = .ok (.iload 4, 2) := by decide +kernel
theorem dX6_borderAt_65 : decode cX6_borderAt 65 = .ok (.iconst 1, 1) := by decide +kernel
theorem dX6_borderAt_66 : decode cX6_borderAt 66 = .ok (.isub, 1) := by decide +kernel
theorem dX6_borderAt_67 : decode cX6_borderAt 67 = .ok (.invokevirtual 90, 3) := by decide +kernel
theorem dX6_borderAt_70 : decode cX6_borderAt 70 = .ok (.isub, 1) := by decide +kernel
theorem dX6_borderAt_71 : decode cX6_borderAt 71 = .ok (.ireturn, 1) := by decide +kernel
set_option maxRecDepth 20000 in
theorem ggX6_holesOf_X6_labels : GoodIn wsX6_holesOf wsX6_labels := goodIn_r _ [7, 1, 2, 8, 9, 10, 6, 11, 12, 13, 14, 15, 16, 17, 18, 19, 20, 21, 22, 23, 24, 25, 26, 27, 28, 29, 30, 31, 32, 33, 34, 35, 36, 37, 38, 39, 40, 41, 42, 43, 44, 45] (by decide +kernel) (by decide +kernel)
set_option maxRecDepth 20000 in
theorem gX6_holesOf_X6_labels : GoodIn wsX6_holesOf (wsV RX6 150 RX6 yX6_labels wsX6_labels) := goodIn_app (goodIn_of _ (by decide +kernel)) ggX6_holesOf_X6_labels
theorem dX6_holesOf_0 : decode cX6_holesOf 0 = .ok (.aload_n 0, 1) := by decide +kernel
theorem dX6_holesOf_1 : decode cX6_holesOf 1 = .ok (.iload_n 1, 1) := by decide +kernel
theorem dX6_holesOf_2 : decode cX6_holesOf 2 = .ok (.iconst 0, 1) := by decide +kernel
theorem dX6_holesOf_3 : decode cX6_holesOf 3 = .ok (.invokevirtual 150, 3) := by decide +kernel
theorem dX6_holesOf_6 : decode cX6_holesOf 6 = .ok (.iconst 0, 1) := by decide +kernel
theorem dX6_holesOf_7 : decode cX6_holesOf 7 = .ok (.istore_n 2, 1) := by decide +kernel
theorem dX6_holesOf_8 : decode cX6_holesOf 8 = .ok (.iconst 0, 1) := by decide +kernel
theorem dX6_holesOf_9 : decode cX6_holesOf 9 = .ok (.istore_n 3, 1) := by decide +kernel
theorem dX6_holesOf_10 : decode cX6_holesOf 10 = .ok (.iload_n 3, 1) := by decide +kernel
theorem dX6_holesOf_11 : decode cX6_holesOf 11 = .ok (.aload_n 0, 1) := by decide +kernel
theorem dX6_holesOf_12 : decode cX6_holesOf 12 = .ok (.getfield 144, 3) := by decide +kernel
theorem dX6_holesOf_15 : decode cX6_holesOf 15 = .ok (.if_icmp .ge 110, 3) := by decide +kernel
theorem dX6_holesOf_18 : decode cX6_holesOf 18 = .ok (.iconst 1, 1) := by decide +kernel
theorem dX6_holesOf_19 : decode cX6_holesOf 19 = .ok (.istore 4, 2) := by decide +kernel
theorem dX6_holesOf_21 : decode cX6_holesOf 21 = .ok (.iconst 0, 1) := by decide +kernel
theorem dX6_holesOf_22 : decode cX6_holesOf 22 = .ok (.istore 5, 2) := by decide +kernel
theorem dX6_holesOf_24 : decode cX6_holesOf 24 = .ok (.iload 5, 2) := by decide +kernel
theorem dX6_holesOf_26 : decode cX6_holesOf 26 = .ok (.sipush 256, 3) := by decide +kernel
theorem dX6_holesOf_29 : decode cX6_holesOf 29 = .ok (.if_icmp .ge 77, 3) := by decide +kernel
theorem dX6_holesOf_32 : decode cX6_holesOf 32 = .ok (.iload 5, 2) := by decide +kernel
theorem dX6_holesOf_34 : decode cX6_holesOf 34 = .ok (.bipush 16, 2) := by decide +kernel
theorem dX6_holesOf_36 : decode cX6_holesOf 36 = .ok (.irem, 1) := by decide +kernel
theorem dX6_holesOf_37 : decode cX6_holesOf 37 = .ok (.ifCond .eq 28, 3) := by decide +kernel
theorem dX6_holesOf_40 : decode cX6_holesOf 40 = .ok (.iload 5, 2) := by decide +kernel
theorem dX6_holesOf_42 : decode cX6_holesOf 42 = .ok (.bipush 16, 2) := by decide +kernel
theorem dX6_holesOf_44 : decode cX6_holesOf 44 = .ok (.irem, 1) := by decide +kernel
theorem dX6_holesOf_45 : decode cX6_holesOf 45 = .ok (.bipush 15, 2) := by decide +kernel
theorem dX6_holesOf_47 : decode cX6_holesOf 47 = .ok (.if_icmp .eq 18, 3) := by decide +kernel
theorem dX6_holesOf_50 : decode cX6_holesOf 50 = .ok (.iload 5, 2) := by decide +kernel
theorem dX6_holesOf_52 : decode cX6_holesOf 52 = .ok (.bipush 16, 2) := by decide +kernel
theorem dX6_holesOf_54 : decode cX6_holesOf 54 = .ok (.if_icmp .lt 11, 3) := by decide +kernel
theorem dX6_holesOf_57 : decode cX6_holesOf 57 = .ok (.iload 5, 2) := by decide +kernel
theorem dX6_holesOf_59 : decode cX6_holesOf 59 = .ok (.sipush 239, 3) := by decide +kernel
theorem dX6_holesOf_62 : decode cX6_holesOf 62 = .ok (.if_icmp .le 7, 3) := by decide +kernel
theorem dX6_holesOf_65 : decode cX6_holesOf 65 = .ok (.iconst 1, 1) := by decide +kernel
theorem dX6_holesOf_66 : decode cX6_holesOf 66 = .ok (.goto 4, 3) := by decide +kernel
theorem dX6_holesOf_69 : decode cX6_holesOf 69 = .ok (.iconst 0, 1) := by decide +kernel
theorem dX6_holesOf_70 : decode cX6_holesOf 70 = .ok (.istore 6, 2) := by decide +kernel
theorem dX6_holesOf_72 : decode cX6_holesOf 72 = .ok (.iload 4, 2) := by decide +kernel
theorem dX6_holesOf_74 : decode cX6_holesOf 74 = .ok (.ifCond .eq 23, 3) := by decide +kernel
theorem dX6_holesOf_77 : decode cX6_holesOf 77 = .ok (.aload_n 0, 1) := by decide +kernel
theorem dX6_holesOf_78 : decode cX6_holesOf 78 = .ok (.getfield 34, 3) := by decide +kernel
theorem dX6_holesOf_81 : decode cX6_holesOf 81 = .ok (.iload 5, 2) := by decide +kernel
theorem dX6_holesOf_83 : decode cX6_holesOf 83 = .ok (.iaload, 1) := by decide +kernel
theorem dX6_holesOf_84 : decode cX6_holesOf 84 = .ok (.iload_n 3, 1) := by decide +kernel
theorem dX6_holesOf_85 : decode cX6_holesOf 85 = .ok (.if_icmp .ne 8, 3) := by decide +kernel
theorem dX6_holesOf_88 : decode cX6_holesOf 88 = .ok (.iload 6, 2) := by decide +kernel
theorem dX6_holesOf_90 : decode cX6_holesOf 90 = .ok (.ifCond .ne 7, 3) := by decide +kernel
theorem dX6_holesOf_93 : decode cX6_holesOf 93 = .ok (.iconst 1, 1) := by decide +kernel
theorem dX6_holesOf_94 : decode cX6_holesOf 94 = .ok (.goto 4, 3) := by decide +kernel
theorem dX6_holesOf_97 : decode cX6_holesOf 97 = .ok (.iconst 0, 1) := by decide +kernel
theorem dX6_holesOf_98 : decode cX6_holesOf 98 = .ok (.istore 4, 2) := by decide +kernel
theorem dX6_holesOf_100 : decode cX6_holesOf 100 = .ok (.iinc 5 1, 3) := by decide +kernel
theorem dX6_holesOf_103 : decode cX6_holesOf 103 = .ok (.goto (-79), 3) := by decide +kernel
theorem dX6_holesOf_106 : decode cX6_holesOf 106 = .ok (.iload_n 2, 1) := by decide +kernel
theorem dX6_holesOf_107 : decode cX6_holesOf 107 = .ok (.iload 4, 2) := by decide +kernel
theorem dX6_holesOf_109 : decode cX6_holesOf 109 = .ok (.ifCond .eq 7, 3) := by decide +kernel
theorem dX6_holesOf_112 : decode cX6_holesOf 112 = .ok (.iconst 1, 1) := by decide +kernel
theorem dX6_holesOf_113 : decode cX6_holesOf 113 = .ok (.goto 4, 3) := by decide +kernel
theorem dX6_holesOf_116 : decode cX6_holesOf 116 = .ok (.iconst 0, 1) := by decide +kernel
theorem dX6_holesOf_117 : decode cX6_holesOf 117 = .ok (.iadd, 1) := by decide +kernel
theorem dX6_holesOf_118 : decode cX6_holesOf 118 = .ok (.istore_n 2, 1) := by decide +kernel
theorem dX6_holesOf_119 : decode cX6_holesOf 119 = .ok (.iinc 3 1, 3) := by decide +kernel
theorem dX6_holesOf_122 : decode cX6_holesOf 122 = .ok (.goto (-112), 3) := by decide +kernel
theorem dX6_holesOf_125 : decode cX6_holesOf 125 = .ok (.iload_n 2, 1) := by decide +kernel
theorem dX6_holesOf_126 : decode cX6_holesOf 126 = .ok (.ireturn, 1) := by decide +kernel
set_option maxRecDepth 20000 in
theorem ggX6_partsOf_X6_labels : GoodIn wsX6_partsOf wsX6_labels := goodIn_r _ [6, 1, 7, 8, 9, 10, 5, 11, 12, 13, 14, 15, 16, 17, 18, 19, 20, 21, 22, 23, 24, 25, 26, 27, 28, 29, 30, 31, 32, 33, 34, 35, 36, 37, 38, 39, 40, 41, 42, 43, 44, 45] (by decide +kernel) (by decide +kernel)
set_option maxRecDepth 20000 in
theorem gX6_partsOf_X6_labels : GoodIn wsX6_partsOf (wsV RX6 150 RX6 yX6_labels wsX6_labels) := goodIn_app (goodIn_of _ (by decide +kernel)) ggX6_partsOf_X6_labels
theorem dX6_partsOf_0 : decode cX6_partsOf 0 = .ok (.aload_n 0, 1) := by decide +kernel
theorem dX6_partsOf_1 : decode cX6_partsOf 1 = .ok (.iload_n 1, 1) := by decide +kernel
theorem dX6_partsOf_2 : decode cX6_partsOf 2 = .ok (.iconst 1, 1) := by decide +kernel
theorem dX6_partsOf_3 : decode cX6_partsOf 3 = .ok (.invokevirtual 150, 3) := by decide +kernel
theorem dX6_partsOf_6 : decode cX6_partsOf 6 = .ok (.aload_n 0, 1) := by decide +kernel
theorem dX6_partsOf_7 : decode cX6_partsOf 7 = .ok (.getfield 144, 3) := by decide +kernel
theorem dX6_partsOf_10 : decode cX6_partsOf 10 = .ok (.ireturn, 1) := by decide +kernel
set_option maxRecDepth 20000 in
theorem ggX6_borderOf_X6_borderAt : GoodIn wsX6_borderOf wsX6_borderAt := goodIn_r _ [5, 6, 7, 8, 4, 9, 10, 11, 12, 13, 14, 15, 16, 17, 18, 19, 20, 21, 22, 23, 24, 25, 26, 27, 28, 29, 30, 31, 32, 33, 34, 35, 36, 37, 38] (by decide +kernel) (by decide +kernel)
set_option maxRecDepth 20000 in
theorem gX6_borderOf_X6_borderAt : GoodIn wsX6_borderOf (wsV RX6 199 RX6 yX6_borderAt wsX6_borderAt) := goodIn_app (goodIn_of _ (by decide +kernel)) ggX6_borderOf_X6_borderAt
theorem dX6_borderOf_0 : decode cX6_borderOf 0 = .ok (.iconst 0, 1) := by decide +kernel
theorem dX6_borderOf_1 : decode cX6_borderOf 1 = .ok (.istore_n 2, 1) := by decide +kernel
theorem dX6_borderOf_2 : decode cX6_borderOf 2 = .ok (.iconst 0, 1) := by decide +kernel
theorem dX6_borderOf_3 : decode cX6_borderOf 3 = .ok (.istore_n 3, 1) := by decide +kernel
theorem dX6_borderOf_4 : decode cX6_borderOf 4 = .ok (.iload_n 3, 1) := by decide +kernel
theorem dX6_borderOf_5 : decode cX6_borderOf 5 = .ok (.sipush 256, 3) := by decide +kernel
theorem dX6_borderOf_8 : decode cX6_borderOf 8 = .ok (.if_icmp .ge 18, 3) := by decide +kernel
theorem dX6_borderOf_11 : decode cX6_borderOf 11 = .ok (.iload_n 2, 1) := by decide +kernel
theorem dX6_borderOf_12 : decode cX6_borderOf 12 = .ok (.aload_n 0, 1) := by decide +kernel
theorem dX6_borderOf_13 : decode cX6_borderOf 13 = .ok (.iload_n 1, 1) := by decide +kernel
theorem dX6_borderOf_14 : decode cX6_borderOf 14 = .ok (.iload_n 3, 1) := by decide +kernel
theorem dX6_borderOf_15 : decode cX6_borderOf 15 = .ok (.invokevirtual 199, 3) := by decide +kernel
theorem dX6_borderOf_18 : decode cX6_borderOf 18 = .ok (.iadd, 1) := by decide +kernel
theorem dX6_borderOf_19 : decode cX6_borderOf 19 = .ok (.istore_n 2, 1) := by decide +kernel
theorem dX6_borderOf_20 : decode cX6_borderOf 20 = .ok (.iinc 3 1, 3) := by decide +kernel
theorem dX6_borderOf_23 : decode cX6_borderOf 23 = .ok (.goto (-19), 3) := by decide +kernel
theorem dX6_borderOf_26 : decode cX6_borderOf 26 = .ok (.iload_n 2, 1) := by decide +kernel
theorem dX6_borderOf_27 : decode cX6_borderOf 27 = .ok (.ireturn, 1) := by decide +kernel
set_option maxRecDepth 20000 in
theorem ggX6_allBy_X6_partsOf : GoodIn wsX6_allBy wsX6_partsOf := goodIn_r _ [5, 6, 7, 8, 9, 4, 10, 11, 12, 13, 14, 15, 16, 17, 18, 19, 20, 21, 22, 23, 24, 25, 26, 27, 28, 45, 46, 47, 48, 49, 50, 51, 52, 53, 54, 55, 56, 57, 58, 59, 60, 61, 62, 63, 64, 65] (by decide +kernel) (by decide +kernel)
set_option maxRecDepth 20000 in
theorem gX6_allBy_X6_partsOf : GoodIn wsX6_allBy (wsV RX6 202 RX6 yX6_partsOf wsX6_partsOf) := goodIn_app (goodIn_of _ (by decide +kernel)) ggX6_allBy_X6_partsOf
set_option maxRecDepth 20000 in
theorem ggX6_allBy_X6_borderOf : GoodIn wsX6_allBy wsX6_borderOf := goodIn_r _ [32, 33, 34, 35, 4, 36, 12, 13, 14, 15, 16, 17, 18, 19, 20, 21, 22, 23, 45, 46, 47, 48, 49, 50, 51, 52, 53, 54, 55, 56, 57, 58, 59, 60, 61, 62, 63, 64, 65] (by decide +kernel) (by decide +kernel)
set_option maxRecDepth 20000 in
theorem gX6_allBy_X6_borderOf : GoodIn wsX6_allBy (wsV RX6 205 RX6 yX6_borderOf wsX6_borderOf) := goodIn_app (goodIn_of _ (by decide +kernel)) ggX6_allBy_X6_borderOf
set_option maxRecDepth 20000 in
theorem ggX6_allBy_X6_holesOf : GoodIn wsX6_allBy wsX6_holesOf := goodIn_r _ [40, 6, 11, 7, 8, 9, 4, 10, 12, 13, 14, 15, 16, 17, 18, 19, 20, 21, 22, 23, 24, 25, 26, 27, 28, 45, 46, 47, 48, 49, 50, 51, 52, 53, 54, 55, 56, 57, 58, 59, 60, 61, 62, 63, 64, 65] (by decide +kernel) (by decide +kernel)
set_option maxRecDepth 20000 in
theorem gX6_allBy_X6_holesOf : GoodIn wsX6_allBy (wsV RX6 208 RX6 yX6_holesOf wsX6_holesOf) := goodIn_app (goodIn_of _ (by decide +kernel)) ggX6_allBy_X6_holesOf
set_option maxRecDepth 20000 in
theorem ggX6_allBy_X6_darkOf : GoodIn wsX6_allBy wsX6_darkOf := goodIn_r _ [44, 12, 13, 14, 4, 15, 16, 17, 18, 19, 20, 21, 22, 23, 45, 46, 47, 48, 49, 50, 51, 52, 53, 54, 55, 56, 57, 58, 59, 60, 61, 62, 63, 64, 65] (by decide +kernel) (by decide +kernel)
set_option maxRecDepth 20000 in
theorem gX6_allBy_X6_darkOf : GoodIn wsX6_allBy (wsV RX6 100 RX6 yX6_darkOf wsX6_darkOf) := goodIn_app (goodIn_of _ (by decide +kernel)) ggX6_allBy_X6_darkOf
theorem dX6_allBy_0 : decode cX6_allBy 0 = .ok (.iload_n 2, 1) := by decide +kernel
theorem dX6_allBy_1 : decode cX6_allBy 1 = .ok (.ifCond .ne 11, 3) := by decide +kernel
theorem dX6_allBy_4 : decode cX6_allBy 4 = .ok (.aload_n 0, 1) := by decide +kernel
theorem dX6_allBy_5 : decode cX6_allBy 5 = .ok (.iload_n 1, 1) := by decide +kernel
theorem dX6_allBy_6 : decode cX6_allBy 6 = .ok (.invokevirtual 202, 3) := by decide +kernel
theorem dX6_allBy_9 : decode cX6_allBy 9 = .ok (.goto 34, 3) := by decide +kernel
theorem dX6_allBy_12 : decode cX6_allBy 12 = .ok (.iload_n 2, 1) := by decide +kernel
theorem dX6_allBy_13 : decode cX6_allBy 13 = .ok (.iconst 1, 1) := by decide +kernel
theorem dX6_allBy_14 : decode cX6_allBy 14 = .ok (.if_icmp .ne 11, 3) := by decide +kernel
theorem dX6_allBy_17 : decode cX6_allBy 17 = .ok (.aload_n 0, 1) := by decide +kernel
theorem dX6_allBy_18 : decode cX6_allBy 18 = .ok (.iload_n 1, 1) := by decide +kernel
theorem dX6_allBy_19 : decode cX6_allBy 19 = .ok (.invokevirtual 205, 3) := by decide +kernel
theorem dX6_allBy_22 : decode cX6_allBy 22 = .ok (.goto 21, 3) := by decide +kernel
theorem dX6_allBy_25 : decode cX6_allBy 25 = .ok (.iload_n 2, 1) := by decide +kernel
theorem dX6_allBy_26 : decode cX6_allBy 26 = .ok (.iconst 2, 1) := by decide +kernel
theorem dX6_allBy_27 : decode cX6_allBy 27 = .ok (.if_icmp .ne 11, 3) := by decide +kernel
theorem dX6_allBy_30 : decode cX6_allBy 30 = .ok (.aload_n 0, 1) := by decide +kernel
theorem dX6_allBy_31 : decode cX6_allBy 31 = .ok (.iload_n 1, 1) := by decide +kernel
theorem dX6_allBy_32 : decode cX6_allBy 32 = .ok (.invokevirtual 208, 3) := by decide +kernel
theorem dX6_allBy_35 : decode cX6_allBy 35 = .ok (.goto 8, 3) := by decide +kernel
theorem dX6_allBy_38 : decode cX6_allBy 38 = .ok (.aload_n 0, 1) := by decide +kernel
theorem dX6_allBy_39 : decode cX6_allBy 39 = .ok (.iload_n 1, 1) := by decide +kernel
theorem dX6_allBy_40 : decode cX6_allBy 40 = .ok (.invokevirtual 100, 3) := by decide +kernel
theorem dX6_allBy_43 : decode cX6_allBy 43 = .ok (.ireturn, 1) := by decide +kernel
set_option maxRecDepth 20000 in
theorem ggX6_all_X6_isMask : GoodIn wsX6_all wsX6_isMask := goodIn_r _ [5, 1, 6, 7, 4, 8] (by decide +kernel) (by decide +kernel)
set_option maxRecDepth 20000 in
theorem gX6_all_X6_isMask : GoodIn wsX6_all (va_wsS RX6 103 yX6_isMask wsX6_isMask) := goodIn_app (goodIn_of _ (by decide +kernel)) ggX6_all_X6_isMask
set_option maxRecDepth 20000 in
theorem ggX6_all_X6_in : GoodIn wsX6_all wsX6_in := goodIn_r _ [8] (by decide +kernel) (by decide +kernel)
set_option maxRecDepth 20000 in
theorem gX6_all_X6_in : GoodIn wsX6_all (va_wsS RX6 55 yX6_in wsX6_in) := goodIn_app (goodIn_of _ (by decide +kernel)) ggX6_all_X6_in
set_option maxRecDepth 20000 in
theorem ggX6_all_X6_allBy : GoodIn wsX6_all wsX6_allBy := goodIn_r _ [12, 13, 14, 15, 4, 16, 17, 18, 19, 20, 21, 22, 23, 24, 25, 26, 27, 28, 29, 30, 31, 6, 7, 8, 32, 33, 34, 35, 36, 37, 38, 39, 40, 41, 42, 43, 44, 45, 46, 47, 48, 49, 50, 51, 52, 53, 54, 55, 56, 57, 58, 59, 60, 61, 62, 63, 64, 65, 66, 67, 68, 69, 70, 71, 72, 73] (by decide +kernel) (by decide +kernel)
set_option maxRecDepth 20000 in
theorem gX6_all_X6_allBy : GoodIn wsX6_all (wsV RX6 211 RX6 yX6_allBy wsX6_allBy) := goodIn_app (goodIn_of _ (by decide +kernel)) ggX6_all_X6_allBy
theorem dX6_all_0 : decode cX6_all 0 = .ok (.iload_n 1, 1) := by decide +kernel
theorem dX6_all_1 : decode cX6_all 1 = .ok (.invokestatic 103, 3) := by decide +kernel
theorem dX6_all_4 : decode cX6_all 4 = .ok (.ifCond .eq 24, 3) := by decide +kernel
theorem dX6_all_7 : decode cX6_all 7 = .ok (.iload_n 2, 1) := by decide +kernel
theorem dX6_all_8 : decode cX6_all 8 = .ok (.i2l, 1) := by decide +kernel
theorem dX6_all_9 : decode cX6_all 9 = .ok (.lconst 0, 1) := by decide +kernel
theorem dX6_all_10 : decode cX6_all 10 = .ok (.ldc2_w 63, 3) := by decide +kernel
theorem dX6_all_13 : decode cX6_all 13 = .ok (.invokestatic 55, 3) := by decide +kernel
theorem dX6_all_16 : decode cX6_all 16 = .ok (.ifCond .eq 12, 3) := by decide +kernel
theorem dX6_all_19 : decode cX6_all 19 = .ok (.aload_n 0, 1) := by decide +kernel
theorem dX6_all_20 : decode cX6_all 20 = .ok (.iload_n 1, 1) := by decide +kernel
theorem dX6_all_21 : decode cX6_all 21 = .ok (.iload_n 2, 1) := by decide +kernel
theorem dX6_all_22 : decode cX6_all 22 = .ok (.invokevirtual 211, 3) := by decide +kernel
theorem dX6_all_25 : decode cX6_all 25 = .ok (.goto 5, 3) := by decide +kernel
theorem dX6_all_28 : decode cX6_all 28 = .ok (.bipush (-2), 2) := by decide +kernel
theorem dX6_all_30 : decode cX6_all 30 = .ok (.ireturn, 1) := by decide +kernel
set_option maxRecDepth 20000 in
theorem ggX6_label_X6_isMask : GoodIn wsX6_label wsX6_isMask := goodIn_r _ [5, 6, 7, 8, 4, 9] (by decide +kernel) (by decide +kernel)
set_option maxRecDepth 20000 in
theorem gX6_label_X6_isMask : GoodIn wsX6_label (va_wsS RX6 103 yX6_isMask wsX6_isMask) := goodIn_app (goodIn_of _ (by decide +kernel)) ggX6_label_X6_isMask
set_option maxRecDepth 20000 in
theorem ggX6_label_X6_isCell : GoodIn wsX6_label wsX6_isCell := goodIn_r _ [12, 13, 7, 8, 4, 9] (by decide +kernel) (by decide +kernel)
set_option maxRecDepth 20000 in
theorem gX6_label_X6_isCell : GoodIn wsX6_label (va_wsS RX6 86 yX6_isCell wsX6_isCell) := goodIn_app (goodIn_of _ (by decide +kernel)) ggX6_label_X6_isCell
set_option maxRecDepth 20000 in
theorem ggX6_label_X6_labels : GoodIn wsX6_label wsX6_labels := goodIn_r _ [17, 18, 1, 19, 20, 21, 4, 22, 23, 10, 11, 12, 13, 7, 8, 9, 24, 25, 26, 27, 28, 29, 30, 31, 32, 33, 34, 35, 36, 37, 38, 39, 40, 41, 42, 43, 44, 45, 46, 47, 48, 49] (by decide +kernel) (by decide +kernel)
set_option maxRecDepth 20000 in
theorem gX6_label_X6_labels : GoodIn wsX6_label (wsV RX6 150 RX6 yX6_labels wsX6_labels) := goodIn_app (goodIn_of _ (by decide +kernel)) ggX6_label_X6_labels
theorem dX6_label_0 : decode cX6_label 0 = .ok (.iload_n 1, 1) := by decide +kernel
theorem dX6_label_1 : decode cX6_label 1 = .ok (.invokestatic 103, 3) := by decide +kernel
theorem dX6_label_4 : decode cX6_label 4 = .ok (.ifCond .eq 11, 3) := by decide +kernel
theorem dX6_label_7 : decode cX6_label 7 = .ok (.iload_n 2, 1) := by decide +kernel
theorem dX6_label_8 : decode cX6_label 8 = .ok (.iload_n 3, 1) := by decide +kernel
theorem dX6_label_9 : decode cX6_label 9 = .ok (.invokestatic 86, 3) := by decide +kernel
theorem dX6_label_12 : decode cX6_label 12 = .ok (.ifCond .ne 6, 3) := by decide +kernel
theorem dX6_label_15 : decode cX6_label 15 = .ok (.bipush (-2), 2) := by decide +kernel
theorem dX6_label_17 : decode cX6_label 17 = .ok (.ireturn, 1) := by decide +kernel
theorem dX6_label_18 : decode cX6_label 18 = .ok (.aload_n 0, 1) := by decide +kernel
theorem dX6_label_19 : decode cX6_label 19 = .ok (.iload_n 1, 1) := by decide +kernel
theorem dX6_label_20 : decode cX6_label 20 = .ok (.iconst 1, 1) := by decide +kernel
theorem dX6_label_21 : decode cX6_label 21 = .ok (.invokevirtual 150, 3) := by decide +kernel
theorem dX6_label_24 : decode cX6_label 24 = .ok (.aload_n 0, 1) := by decide +kernel
theorem dX6_label_25 : decode cX6_label 25 = .ok (.getfield 34, 3) := by decide +kernel
theorem dX6_label_28 : decode cX6_label 28 = .ok (.bipush 16, 2) := by decide +kernel
theorem dX6_label_30 : decode cX6_label 30 = .ok (.iload_n 3, 1) := by decide +kernel
theorem dX6_label_31 : decode cX6_label 31 = .ok (.imul, 1) := by decide +kernel
theorem dX6_label_32 : decode cX6_label 32 = .ok (.iload_n 2, 1) := by decide +kernel
theorem dX6_label_33 : decode cX6_label 33 = .ok (.iadd, 1) := by decide +kernel
theorem dX6_label_34 : decode cX6_label 34 = .ok (.iaload, 1) := by decide +kernel
theorem dX6_label_35 : decode cX6_label 35 = .ok (.ireturn, 1) := by decide +kernel
set_option maxRecDepth 20000 in
theorem ggX6_partBy_X6_borderAt : GoodIn wsX6_partBy wsX6_borderAt := goodIn_r _ [6, 7, 8, 9, 5, 10, 11, 12, 13, 14, 15, 16, 17, 18, 25, 26, 27, 28, 29, 30, 31, 32, 33, 34, 35, 36, 37, 38, 39, 40, 41, 42, 43, 44, 45] (by decide +kernel) (by decide +kernel)
set_option maxRecDepth 20000 in
theorem gX6_partBy_X6_borderAt : GoodIn wsX6_partBy (wsV RX6 199 RX6 yX6_borderAt wsX6_borderAt) := goodIn_app (goodIn_of _ (by decide +kernel)) ggX6_partBy_X6_borderAt
set_option maxRecDepth 20000 in
theorem ggX6_partBy_X6_lesser : GoodIn wsX6_partBy wsX6_lesser := goodIn_r _ [21] (by decide +kernel) (by decide +kernel)
set_option maxRecDepth 20000 in
theorem gX6_partBy_X6_lesser : GoodIn wsX6_partBy (va_wsS RX6 214 yX6_lesser wsX6_lesser) := goodIn_app (goodIn_of _ (by decide +kernel)) ggX6_partBy_X6_lesser
set_option maxRecDepth 20000 in
theorem ggX6_partBy_X6_greater : GoodIn wsX6_partBy wsX6_greater := goodIn_r _ [24] (by decide +kernel) (by decide +kernel)
set_option maxRecDepth 20000 in
theorem gX6_partBy_X6_greater : GoodIn wsX6_partBy (va_wsS RX6 180 yX6_greater wsX6_greater) := goodIn_app (goodIn_of _ (by decide +kernel)) ggX6_partBy_X6_greater
theorem dX6_partBy_0 : decode cX6_partBy 0 = .ok (.iconst 0, 1) := by decide +kernel
theorem dX6_partBy_1 : decode cX6_partBy 1 = .ok (.istore 4, 2) := by decide +kernel
theorem dX6_partBy_3 : decode cX6_partBy 3 = .ok (.iconst 0, 1) := by decide +kernel
theorem dX6_partBy_4 : decode cX6_partBy 4 = .ok (.istore 5, 2) := by decide +kernel
theorem dX6_partBy_6 : decode cX6_partBy 6 = .ok (.bipush 16, 2) := by decide +kernel
theorem dX6_partBy_8 : decode cX6_partBy 8 = .ok (.istore 6, 2) := by decide +kernel
theorem dX6_partBy_10 : decode cX6_partBy 10 = .ok (.bipush 16, 2) := by decide +kernel
theorem dX6_partBy_12 : decode cX6_partBy 12 = .ok (.istore 7, 2) := by decide +kernel
theorem dX6_partBy_14 : decode cX6_partBy 14 = .ok (.iconst (-1), 1) := by decide +kernel
theorem dX6_partBy_15 : decode cX6_partBy 15 = .ok (.istore 8, 2) := by decide +kernel
theorem dX6_partBy_17 : decode cX6_partBy 17 = .ok (.iconst (-1), 1) := by decide +kernel
theorem dX6_partBy_18 : decode cX6_partBy 18 = .ok (.istore 9, 2) := by decide +kernel
theorem dX6_partBy_20 : decode cX6_partBy 20 = .ok (.iconst 0, 1) := by decide +kernel
theorem dX6_partBy_21 : decode cX6_partBy 21 = .ok (.istore 10, 2) := by decide +kernel
theorem dX6_partBy_23 : decode cX6_partBy 23 = .ok (.iload 10, 2) := by decide +kernel
theorem dX6_partBy_25 : decode cX6_partBy 25 = .ok (.sipush 256, 3) := by decide +kernel
theorem dX6_partBy_28 : decode cX6_partBy 28 = .ok (.if_icmp .ge 83, 3) := by decide +kernel
theorem dX6_partBy_31 : decode cX6_partBy 31 = .ok (.aload_n 0, 1) := by decide +kernel
theorem dX6_partBy_32 : decode cX6_partBy 32 = .ok (.getfield 34, 3) := by decide +kernel
theorem dX6_partBy_35 : decode cX6_partBy 35 = .ok (.iload 10, 2) := by decide +kernel
theorem dX6_partBy_37 : decode cX6_partBy 37 = .ok (.iaload, 1) := by decide +kernel
theorem dX6_partBy_38 : decode cX6_partBy 38 = .ok (.iload_n 2, 1) := by decide +kernel
theorem dX6_partBy_39 : decode cX6_partBy 39 = .ok (.if_icmp .ne 66, 3) := by decide +kernel
theorem dX6_partBy_42 : decode cX6_partBy 42 = .ok (.iinc 4 1, 3) := by decide +kernel
theorem dX6_partBy_45 : decode cX6_partBy 45 = .ok (.iload 5, 2) := by decide +kernel
theorem dX6_partBy_47 : decode cX6_partBy 47 = .ok (.aload_n 0, 1) := by decide +kernel
theorem dX6_partBy_48 : decode cX6_partBy 48 = .ok (.iload_n 1, 1) := by decide +kernel
theorem dX6_partBy_49 : decode cX6_partBy 49 = .ok (.iload 10, 2) := by decide +kernel
theorem dX6_partBy_51 : decode cX6_partBy 51 = .ok (.invokevirtual 199, 3) := by decide +kernel
theorem dX6_partBy_54 : decode cX6_partBy 54 = .ok (.iadd, 1) := by decide +kernel
theorem dX6_partBy_55 : decode cX6_partBy 55 = .ok (.istore 5, 2) := by decide +kernel
theorem dX6_partBy_57 : decode cX6_partBy 57 = .ok (.iload 10, 2) := by decide +kernel
theorem dX6_partBy_59 : decode cX6_partBy 59 = .ok (.bipush 16, 2) := by decide +kernel
theorem dX6_partBy_61 : decode cX6_partBy 61 = .ok (.irem, 1) := by decide +kernel
theorem dX6_partBy_62 : decode cX6_partBy 62 = .ok (.iload 6, 2) := by decide +kernel
theorem dX6_partBy_64 : decode cX6_partBy 64 = .ok (.invokestatic 214, 3) := by decide +kernel
theorem dX6_partBy_67 : decode cX6_partBy 67 = .ok (.istore 6, 2) := by decide +kernel
theorem dX6_partBy_69 : decode cX6_partBy 69 = .ok (.iload 10, 2) := by decide +kernel
theorem dX6_partBy_71 : decode cX6_partBy 71 = .ok (.bipush 16, 2) := by decide +kernel
theorem dX6_partBy_73 : decode cX6_partBy 73 = .ok (.idiv, 1) := by decide +kernel
theorem dX6_partBy_74 : decode cX6_partBy 74 = .ok (.iload 7, 2) := by decide +kernel
theorem dX6_partBy_76 : decode cX6_partBy 76 = .ok (.invokestatic 214, 3) := by decide +kernel
theorem dX6_partBy_79 : decode cX6_partBy 79 = .ok (.istore 7, 2) := by decide +kernel
theorem dX6_partBy_81 : decode cX6_partBy 81 = .ok (.iload 10, 2) := by decide +kernel
theorem dX6_partBy_83 : decode cX6_partBy 83 = .ok (.bipush 16, 2) := by decide +kernel
theorem dX6_partBy_85 : decode cX6_partBy 85 = .ok (.irem, 1) := by decide +kernel
theorem dX6_partBy_86 : decode cX6_partBy 86 = .ok (.iload 8, 2) := by decide +kernel
theorem dX6_partBy_88 : decode cX6_partBy 88 = .ok (.invokestatic 180, 3) := by decide +kernel
theorem dX6_partBy_91 : decode cX6_partBy 91 = .ok (.istore 8, 2) := by decide +kernel
theorem dX6_partBy_93 : decode cX6_partBy 93 = .ok (.iload 10, 2) := by decide +kernel
theorem dX6_partBy_95 : decode cX6_partBy 95 = .ok (.bipush 16, 2) := by decide +kernel
theorem dX6_partBy_97 : decode cX6_partBy 97 = .ok (.idiv, 1) := by decide +kernel
theorem dX6_partBy_98 : decode cX6_partBy 98 = .ok (.iload 9, 2) := by decide +kernel
theorem dX6_partBy_100 : decode cX6_partBy 100 = .ok (.invokestatic 180, 3) := by decide +kernel
theorem dX6_partBy_103 : decode cX6_partBy 103 = .ok (.istore 9, 2) := by decide +kernel
theorem dX6_partBy_105 : decode cX6_partBy 105 = .ok (.iinc 10 1, 3) := by decide +kernel
theorem dX6_partBy_108 : decode cX6_partBy 108 = .ok (.goto (-85), 3) := by decide +kernel
theorem dX6_partBy_111 : decode cX6_partBy 111 = .ok (.iload_n 3, 1) := by decide +kernel
theorem dX6_partBy_112 : decode cX6_partBy 112 = .ok (.tableswitch 51 0 4 #[36, 39, 42, 45, 48], 36) := by decide +kernel
theorem dX6_partBy_148 : decode cX6_partBy 148 = .ok (.iload 4, 2) := by decide +kernel
theorem dX6_partBy_150 : decode cX6_partBy 150 = .ok (.ireturn, 1) := by decide +kernel
theorem dX6_partBy_151 : decode cX6_partBy 151 = .ok (.iload 5, 2) := by decide +kernel
theorem dX6_partBy_153 : decode cX6_partBy 153 = .ok (.ireturn, 1) := by decide +kernel
theorem dX6_partBy_154 : decode cX6_partBy 154 = .ok (.iload 6, 2) := by decide +kernel
theorem dX6_partBy_156 : decode cX6_partBy 156 = .ok (.ireturn, 1) := by decide +kernel
theorem dX6_partBy_157 : decode cX6_partBy 157 = .ok (.iload 7, 2) := by decide +kernel
theorem dX6_partBy_159 : decode cX6_partBy 159 = .ok (.ireturn, 1) := by decide +kernel
theorem dX6_partBy_160 : decode cX6_partBy 160 = .ok (.iload 8, 2) := by decide +kernel
theorem dX6_partBy_162 : decode cX6_partBy 162 = .ok (.ireturn, 1) := by decide +kernel
theorem dX6_partBy_163 : decode cX6_partBy 163 = .ok (.iload 9, 2) := by decide +kernel
theorem dX6_partBy_165 : decode cX6_partBy 165 = .ok (.ireturn, 1) := by decide +kernel
set_option maxRecDepth 20000 in
theorem ggX6_partOr_X6_labels : GoodIn wsX6_partOr wsX6_labels := goodIn_r _ [7, 1, 8, 9, 10, 11, 6, 12, 13, 14, 15, 16, 17, 18, 19, 20, 21, 22, 23, 24, 25, 40, 41, 42, 43, 44, 45, 46, 47, 48, 49, 50, 51, 52, 53, 54, 55, 56, 57, 58, 59, 60] (by decide +kernel) (by decide +kernel)
set_option maxRecDepth 20000 in
theorem gX6_partOr_X6_labels : GoodIn wsX6_partOr (wsV RX6 150 RX6 yX6_labels wsX6_labels) := goodIn_app (goodIn_of _ (by decide +kernel)) ggX6_partOr_X6_labels
set_option maxRecDepth 20000 in
theorem ggX6_partOr_X6_in : GoodIn wsX6_partOr wsX6_in := goodIn_r _ [20] (by decide +kernel) (by decide +kernel)
set_option maxRecDepth 20000 in
theorem gX6_partOr_X6_in : GoodIn wsX6_partOr (va_wsS RX6 55 yX6_in wsX6_in) := goodIn_app (goodIn_of _ (by decide +kernel)) ggX6_partOr_X6_in
set_option maxRecDepth 20000 in
theorem ggX6_partOr_X6_partBy : GoodIn wsX6_partOr wsX6_partBy := goodIn_r _ [29, 8, 30, 31, 32, 6, 33, 9, 10, 11, 12, 13, 14, 15, 16, 17, 18, 19, 20, 34, 35, 36, 37, 38, 39, 40, 41, 42, 43, 44, 45, 46, 47, 48, 49, 50, 51, 52, 53, 54, 55, 56, 57, 58, 59, 60] (by decide +kernel) (by decide +kernel)
set_option maxRecDepth 20000 in
theorem gX6_partOr_X6_partBy : GoodIn wsX6_partOr (wsV RX6 219 RX6 yX6_partBy wsX6_partBy) := goodIn_app (goodIn_of _ (by decide +kernel)) ggX6_partOr_X6_partBy
theorem dX6_partOr_0 : decode cX6_partOr 0 = .ok (.aload_n 0, 1) := by decide +kernel
theorem dX6_partOr_1 : decode cX6_partOr 1 = .ok (.iload_n 1, 1) := by decide +kernel
theorem dX6_partOr_2 : decode cX6_partOr 2 = .ok (.iconst 1, 1) := by decide +kernel
theorem dX6_partOr_3 : decode cX6_partOr 3 = .ok (.invokevirtual 150, 3) := by decide +kernel
theorem dX6_partOr_6 : decode cX6_partOr 6 = .ok (.iload_n 2, 1) := by decide +kernel
theorem dX6_partOr_7 : decode cX6_partOr 7 = .ok (.i2l, 1) := by decide +kernel
theorem dX6_partOr_8 : decode cX6_partOr 8 = .ok (.lconst 0, 1) := by decide +kernel
theorem dX6_partOr_9 : decode cX6_partOr 9 = .ok (.aload_n 0, 1) := by decide +kernel
theorem dX6_partOr_10 : decode cX6_partOr 10 = .ok (.getfield 144, 3) := by decide +kernel
theorem dX6_partOr_13 : decode cX6_partOr 13 = .ok (.iconst 1, 1) := by decide +kernel
theorem dX6_partOr_14 : decode cX6_partOr 14 = .ok (.isub, 1) := by decide +kernel
theorem dX6_partOr_15 : decode cX6_partOr 15 = .ok (.i2l, 1) := by decide +kernel
theorem dX6_partOr_16 : decode cX6_partOr 16 = .ok (.invokestatic 55, 3) := by decide +kernel
theorem dX6_partOr_19 : decode cX6_partOr 19 = .ok (.ifCond .eq 25, 3) := by decide +kernel
theorem dX6_partOr_22 : decode cX6_partOr 22 = .ok (.iload_n 3, 1) := by decide +kernel
theorem dX6_partOr_23 : decode cX6_partOr 23 = .ok (.i2l, 1) := by decide +kernel
theorem dX6_partOr_24 : decode cX6_partOr 24 = .ok (.lconst 0, 1) := by decide +kernel
theorem dX6_partOr_25 : decode cX6_partOr 25 = .ok (.ldc2_w 217, 3) := by decide +kernel
theorem dX6_partOr_28 : decode cX6_partOr 28 = .ok (.invokestatic 55, 3) := by decide +kernel
theorem dX6_partOr_31 : decode cX6_partOr 31 = .ok (.ifCond .eq 13, 3) := by decide +kernel
theorem dX6_partOr_34 : decode cX6_partOr 34 = .ok (.aload_n 0, 1) := by decide +kernel
theorem dX6_partOr_35 : decode cX6_partOr 35 = .ok (.iload_n 1, 1) := by decide +kernel
theorem dX6_partOr_36 : decode cX6_partOr 36 = .ok (.iload_n 2, 1) := by decide +kernel
theorem dX6_partOr_37 : decode cX6_partOr 37 = .ok (.iload_n 3, 1) := by decide +kernel
theorem dX6_partOr_38 : decode cX6_partOr 38 = .ok (.invokevirtual 219, 3) := by decide +kernel
theorem dX6_partOr_41 : decode cX6_partOr 41 = .ok (.goto 5, 3) := by decide +kernel
theorem dX6_partOr_44 : decode cX6_partOr 44 = .ok (.bipush (-2), 2) := by decide +kernel
theorem dX6_partOr_46 : decode cX6_partOr 46 = .ok (.ireturn, 1) := by decide +kernel
set_option maxRecDepth 20000 in
theorem ggX6_part_X6_isMask : GoodIn wsX6_part wsX6_isMask := goodIn_r _ [4, 5, 6, 7, 3, 8] (by decide +kernel) (by decide +kernel)
set_option maxRecDepth 20000 in
theorem gX6_part_X6_isMask : GoodIn wsX6_part (va_wsS RX6 103 yX6_isMask wsX6_isMask) := goodIn_app (goodIn_of _ (by decide +kernel)) ggX6_part_X6_isMask
set_option maxRecDepth 20000 in
theorem ggX6_part_X6_partOr : GoodIn wsX6_part wsX6_partOr := goodIn_r _ [12, 13, 14, 15, 16, 17, 3, 18, 19, 20, 21, 22, 23, 24, 25, 26, 27, 28, 6, 7, 8, 29, 30, 31, 32, 33, 34, 35, 36, 37, 38, 39, 40, 41, 42, 43, 44, 45, 46, 47, 48, 49, 50, 51, 52, 53, 54, 55, 56, 57, 58, 59, 60, 61, 62, 63, 64, 65, 66, 67, 68] (by decide +kernel) (by decide +kernel)
set_option maxRecDepth 20000 in
theorem gX6_part_X6_partOr : GoodIn wsX6_part (wsV RX6 222 RX6 yX6_partOr wsX6_partOr) := goodIn_app (goodIn_of _ (by decide +kernel)) ggX6_part_X6_partOr
theorem dX6_part_0 : decode cX6_part 0 = .ok (.iload_n 1, 1) := by decide +kernel
theorem dX6_part_1 : decode cX6_part 1 = .ok (.invokestatic 103, 3) := by decide +kernel
theorem dX6_part_4 : decode cX6_part 4 = .ok (.ifCond .eq 13, 3) := by decide +kernel
theorem dX6_part_7 : decode cX6_part 7 = .ok (.aload_n 0, 1) := by decide +kernel
theorem dX6_part_8 : decode cX6_part 8 = .ok (.iload_n 1, 1) := by decide +kernel
theorem dX6_part_9 : decode cX6_part 9 = .ok (.iload_n 2, 1) := by decide +kernel
theorem dX6_part_10 : decode cX6_part 10 = .ok (.iload_n 3, 1) := by decide +kernel
theorem dX6_part_11 : decode cX6_part 11 = .ok (.invokevirtual 222, 3) := by decide +kernel
theorem dX6_part_14 : decode cX6_part 14 = .ok (.goto 5, 3) := by decide +kernel
theorem dX6_part_17 : decode cX6_part 17 = .ok (.bipush (-2), 2) := by decide +kernel
theorem dX6_part_19 : decode cX6_part 19 = .ok (.ireturn, 1) := by decide +kernel
set_option maxRecDepth 20000 in
theorem ggX6_near_X6_isMask : GoodIn wsX6_near wsX6_isMask := goodIn_r _ [4, 5, 6, 7, 3, 8] (by decide +kernel) (by decide +kernel)
set_option maxRecDepth 20000 in
theorem gX6_near_X6_isMask : GoodIn wsX6_near (va_wsS RX6 103 yX6_isMask wsX6_isMask) := goodIn_app (goodIn_of _ (by decide +kernel)) ggX6_near_X6_isMask
set_option maxRecDepth 20000 in
theorem ggX6_near_X6_isCell : GoodIn wsX6_near wsX6_isCell := goodIn_r _ [11, 12, 6, 7, 3, 8] (by decide +kernel) (by decide +kernel)
set_option maxRecDepth 20000 in
theorem gX6_near_X6_isCell : GoodIn wsX6_near (va_wsS RX6 86 yX6_isCell wsX6_isCell) := goodIn_app (goodIn_of _ (by decide +kernel)) ggX6_near_X6_isCell
set_option maxRecDepth 20000 in
theorem ggX6_near_X6_nearOf : GoodIn wsX6_near wsX6_nearOf := goodIn_r _ [16, 17, 18, 3, 19, 20, 21, 22, 23, 24, 9, 10, 11, 12, 6, 7, 8, 25, 26, 27, 28, 29, 30, 31, 32, 33, 34, 35, 36, 37, 38, 39, 40, 41, 42, 43, 44, 45] (by decide +kernel) (by decide +kernel)
set_option maxRecDepth 20000 in
theorem gX6_near_X6_nearOf : GoodIn wsX6_near (wsV RX6 141 RX6 yX6_nearOf wsX6_nearOf) := goodIn_app (goodIn_of _ (by decide +kernel)) ggX6_near_X6_nearOf
theorem dX6_near_0 : decode cX6_near 0 = .ok (.iload_n 1, 1) := by decide +kernel
theorem dX6_near_1 : decode cX6_near 1 = .ok (.invokestatic 103, 3) := by decide +kernel
theorem dX6_near_4 : decode cX6_near 4 = .ok (.ifCond .eq 21, 3) := by decide +kernel
theorem dX6_near_7 : decode cX6_near 7 = .ok (.iload_n 2, 1) := by decide +kernel
theorem dX6_near_8 : decode cX6_near 8 = .ok (.iload_n 3, 1) := by decide +kernel
theorem dX6_near_9 : decode cX6_near 9 = .ok (.invokestatic 86, 3) := by decide +kernel
theorem dX6_near_12 : decode cX6_near 12 = .ok (.ifCond .eq 13, 3) := by decide +kernel
theorem dX6_near_15 : decode cX6_near 15 = .ok (.aload_n 0, 1) := by decide +kernel
theorem dX6_near_16 : decode cX6_near 16 = .ok (.iload_n 1, 1) := by decide +kernel
theorem dX6_near_17 : decode cX6_near 17 = .ok (.iload_n 2, 1) := by decide +kernel
theorem dX6_near_18 : decode cX6_near 18 = .ok (.iload_n 3, 1) := by decide +kernel
theorem dX6_near_19 : decode cX6_near 19 = .ok (.invokevirtual 141, 3) := by decide +kernel
theorem dX6_near_22 : decode cX6_near 22 = .ok (.goto 5, 3) := by decide +kernel
theorem dX6_near_25 : decode cX6_near 25 = .ok (.bipush (-2), 2) := by decide +kernel
theorem dX6_near_27 : decode cX6_near 27 = .ok (.ireturn, 1) := by decide +kernel
set_option maxRecDepth 20000 in
theorem ggX6_bothBy_X6_dark : GoodIn wsX6_bothBy wsX6_dark := goodIn_r _ [5, 6, 7, 8, 4, 9, 10, 11, 12, 13, 14, 15, 16, 17, 18, 19, 20, 21, 22, 23, 24, 25, 26, 27, 28, 29, 30, 31, 32, 33, 34] (by decide +kernel) (by decide +kernel)
set_option maxRecDepth 20000 in
theorem gX6_bothBy_X6_dark : GoodIn wsX6_bothBy (wsV RX6 90 RX6 yX6_dark wsX6_dark) := goodIn_app (goodIn_of _ (by decide +kernel)) ggX6_bothBy_X6_dark
theorem dX6_bothBy_0 : decode cX6_bothBy 0 = .ok (.iconst 1, 1) := by decide +kernel
theorem dX6_bothBy_1 : decode cX6_bothBy 1 = .ok (.istore 4, 2) := by decide +kernel
theorem dX6_bothBy_3 : decode cX6_bothBy 3 = .ok (.iconst 1, 1) := by decide +kernel
theorem dX6_bothBy_4 : decode cX6_bothBy 4 = .ok (.istore 5, 2) := by decide +kernel
theorem dX6_bothBy_6 : decode cX6_bothBy 6 = .ok (.iconst 0, 1) := by decide +kernel
theorem dX6_bothBy_7 : decode cX6_bothBy 7 = .ok (.istore 6, 2) := by decide +kernel
theorem dX6_bothBy_9 : decode cX6_bothBy 9 = .ok (.iconst 0, 1) := by decide +kernel
theorem dX6_bothBy_10 : decode cX6_bothBy 10 = .ok (.istore 7, 2) := by decide +kernel
theorem dX6_bothBy_12 : decode cX6_bothBy 12 = .ok (.iconst 0, 1) := by decide +kernel
theorem dX6_bothBy_13 : decode cX6_bothBy 13 = .ok (.istore 8, 2) := by decide +kernel
theorem dX6_bothBy_15 : decode cX6_bothBy 15 = .ok (.iload 8, 2) := by decide +kernel
theorem dX6_bothBy_17 : decode cX6_bothBy 17 = .ok (.sipush 256, 3) := by decide +kernel
theorem dX6_bothBy_20 : decode cX6_bothBy 20 = .ok (.if_icmp .ge 161, 3) := by decide +kernel
theorem dX6_bothBy_23 : decode cX6_bothBy 23 = .ok (.iload 8, 2) := by decide +kernel
theorem dX6_bothBy_25 : decode cX6_bothBy 25 = .ok (.bipush 16, 2) := by decide +kernel
theorem dX6_bothBy_27 : decode cX6_bothBy 27 = .ok (.irem, 1) := by decide +kernel
theorem dX6_bothBy_28 : decode cX6_bothBy 28 = .ok (.istore 9, 2) := by decide +kernel
theorem dX6_bothBy_30 : decode cX6_bothBy 30 = .ok (.iload 8, 2) := by decide +kernel
theorem dX6_bothBy_32 : decode cX6_bothBy 32 = .ok (.bipush 16, 2) := by decide +kernel
theorem dX6_bothBy_34 : decode cX6_bothBy 34 = .ok (.idiv, 1) := by decide +kernel
theorem dX6_bothBy_35 : decode cX6_bothBy 35 = .ok (.istore 10, 2) := by decide +kernel
theorem dX6_bothBy_37 : decode cX6_bothBy 37 = .ok (.aload_n 0, 1) := by decide +kernel
theorem dX6_bothBy_38 : decode cX6_bothBy 38 = .ok (.iload_n 1, 1) := by decide +kernel
theorem dX6_bothBy_39 : decode cX6_bothBy 39 = .ok (.iload 9, 2) := by decide +kernel
theorem dX6_bothBy_41 : decode cX6_bothBy 41 = .ok (.iload 10, 2) := by decide +kernel
theorem dX6_bothBy_43 : decode cX6_bothBy 43 = .ok (.invokevirtual 90, 3) := by decide +kernel
theorem dX6_bothBy_46 : decode cX6_bothBy 46 = .ok (.istore 11, 2) := by decide +kernel
theorem dX6_bothBy_48 : decode cX6_bothBy 48 = .ok (.aload_n 0, 1) := by decide +kernel
theorem dX6_bothBy_49 : decode cX6_bothBy 49 = .ok (.iload_n 2, 1) := by decide +kernel
theorem dX6_bothBy_50 : decode cX6_bothBy 50 = .ok (.iload 9, 2) := by decide +kernel
theorem dX6_bothBy_52 : decode cX6_bothBy 52 = .ok (.iload 10, 2) := by decide +kernel
theorem dX6_bothBy_54 : decode cX6_bothBy 54 = .ok (.invokevirtual 90, 3) := by decide +kernel
theorem dX6_bothBy_57 : decode cX6_bothBy 57 = .ok (.istore 12, 2) := by decide +kernel
theorem dX6_bothBy_59 : decode cX6_bothBy 59 = .ok (.iload 4, 2) := by decide +kernel
theorem dX6_bothBy_61 : decode cX6_bothBy 61 = .ok (.ifCond .eq 14, 3) := by decide +kernel
theorem dX6_bothBy_64 : decode cX6_bothBy 64 = .ok (.iload 11, 2) := by decide +kernel
theorem dX6_bothBy_66 : decode cX6_bothBy 66 = .ok (.iload 12, 2) := by decide +kernel
theorem dX6_bothBy_68 : decode cX6_bothBy 68 = .ok (.if_icmp .ne 7, 3) := by decide +kernel
theorem dX6_bothBy_71 : decode cX6_bothBy 71 = .ok (.iconst 1, 1) := by decide +kernel
theorem dX6_bothBy_72 : decode cX6_bothBy 72 = .ok (.goto 4, 3) := by decide +kernel
theorem dX6_bothBy_75 : decode cX6_bothBy 75 = .ok (.iconst 0, 1) := by decide +kernel
theorem dX6_bothBy_76 : decode cX6_bothBy 76 = .ok (.istore 4, 2) := by decide +kernel
theorem dX6_bothBy_78 : decode cX6_bothBy 78 = .ok (.iload 5, 2) := by decide +kernel
theorem dX6_bothBy_80 : decode cX6_bothBy 80 = .ok (.ifCond .eq 14, 3) := by decide +kernel
theorem dX6_bothBy_83 : decode cX6_bothBy 83 = .ok (.iload 11, 2) := by decide +kernel
theorem dX6_bothBy_85 : decode cX6_bothBy 85 = .ok (.iload 12, 2) := by decide +kernel
theorem dX6_bothBy_87 : decode cX6_bothBy 87 = .ok (.if_icmp .gt 7, 3) := by decide +kernel
theorem dX6_bothBy_90 : decode cX6_bothBy 90 = .ok (.iconst 1, 1) := by decide +kernel
theorem dX6_bothBy_91 : decode cX6_bothBy 91 = .ok (.goto 4, 3) := by decide +kernel
theorem dX6_bothBy_94 : decode cX6_bothBy 94 = .ok (.iconst 0, 1) := by decide +kernel
theorem dX6_bothBy_95 : decode cX6_bothBy 95 = .ok (.istore 5, 2) := by decide +kernel
theorem dX6_bothBy_97 : decode cX6_bothBy 97 = .ok (.iload 6, 2) := by decide +kernel
theorem dX6_bothBy_99 : decode cX6_bothBy 99 = .ok (.iload 11, 2) := by decide +kernel
theorem dX6_bothBy_101 : decode cX6_bothBy 101 = .ok (.iload 12, 2) := by decide +kernel
theorem dX6_bothBy_103 : decode cX6_bothBy 103 = .ok (.iand, 1) := by decide +kernel
theorem dX6_bothBy_104 : decode cX6_bothBy 104 = .ok (.iadd, 1) := by decide +kernel
theorem dX6_bothBy_105 : decode cX6_bothBy 105 = .ok (.istore 6, 2) := by decide +kernel
theorem dX6_bothBy_107 : decode cX6_bothBy 107 = .ok (.iload 7, 2) := by decide +kernel
theorem dX6_bothBy_109 : decode cX6_bothBy 109 = .ok (.ifCond .ne 59, 3) := by decide +kernel
theorem dX6_bothBy_112 : decode cX6_bothBy 112 = .ok (.iload 11, 2) := by decide +kernel
theorem dX6_bothBy_114 : decode cX6_bothBy 114 = .ok (.iconst 1, 1) := by decide +kernel
theorem dX6_bothBy_115 : decode cX6_bothBy 115 = .ok (.if_icmp .ne 57, 3) := by decide +kernel
theorem dX6_bothBy_118 : decode cX6_bothBy 118 = .ok (.aload_n 0, 1) := by decide +kernel
theorem dX6_bothBy_119 : decode cX6_bothBy 119 = .ok (.iload_n 2, 1) := by decide +kernel
theorem dX6_bothBy_120 : decode cX6_bothBy 120 = .ok (.iload 9, 2) := by decide +kernel
theorem dX6_bothBy_122 : decode cX6_bothBy 122 = .ok (.iconst 1, 1) := by decide +kernel
theorem dX6_bothBy_123 : decode cX6_bothBy 123 = .ok (.iadd, 1) := by decide +kernel
theorem dX6_bothBy_124 : decode cX6_bothBy 124 = .ok (.iload 10, 2) := by decide +kernel
theorem dX6_bothBy_126 : decode cX6_bothBy 126 = .ok (.invokevirtual 90, 3) := by decide +kernel
theorem dX6_bothBy_129 : decode cX6_bothBy 129 = .ok (.aload_n 0, 1) := by decide +kernel
theorem dX6_bothBy_130 : decode cX6_bothBy 130 = .ok (.iload_n 2, 1) := by decide +kernel
theorem dX6_bothBy_131 : decode cX6_bothBy 131 = .ok (.iload 9, 2) := by decide +kernel
theorem dX6_bothBy_133 : decode cX6_bothBy 133 = .ok (.iconst 1, 1) := by decide +kernel
theorem dX6_bothBy_134 : decode cX6_bothBy 134 = .ok (.isub, 1) := by decide +kernel
theorem dX6_bothBy_135 : decode cX6_bothBy 135 = .ok (.iload 10, 2) := by decide +kernel
theorem dX6_bothBy_137 : decode cX6_bothBy 137 = .ok (.invokevirtual 90, 3) := by decide +kernel
theorem dX6_bothBy_140 : decode cX6_bothBy 140 = .ok (.iadd, 1) := by decide +kernel
theorem dX6_bothBy_141 : decode cX6_bothBy 141 = .ok (.aload_n 0, 1) := by decide +kernel
theorem dX6_bothBy_142 : decode cX6_bothBy 142 = .ok (.iload_n 2, 1) := by decide +kernel
theorem dX6_bothBy_143 : decode cX6_bothBy 143 = .ok (.iload 9, 2) := by decide +kernel
theorem dX6_bothBy_145 : decode cX6_bothBy 145 = .ok (.iload 10, 2) := by decide +kernel
theorem dX6_bothBy_147 : decode cX6_bothBy 147 = .ok (.iconst 1, 1) := by decide +kernel
theorem dX6_bothBy_148 : decode cX6_bothBy 148 = .ok (.iadd, 1) := by decide +kernel
theorem dX6_bothBy_149 : decode cX6_bothBy 149 = .ok (.invokevirtual 90, 3) := by decide +kernel
theorem dX6_bothBy_152 : decode cX6_bothBy 152 = .ok (.iadd, 1) := by decide +kernel
theorem dX6_bothBy_153 : decode cX6_bothBy 153 = .ok (.aload_n 0, 1) := by decide +kernel
theorem dX6_bothBy_154 : decode cX6_bothBy 154 = .ok (.iload_n 2, 1) := by decide +kernel
theorem dX6_bothBy_155 : decode cX6_bothBy 155 = .ok (.iload 9, 2) := by decide +kernel
theorem dX6_bothBy_157 : decode cX6_bothBy 157 = .ok (.iload 10, 2) := by decide +kernel
theorem dX6_bothBy_159 : decode cX6_bothBy 159 = .ok (.iconst 1, 1) := by decide +kernel
theorem dX6_bothBy_160 : decode cX6_bothBy 160 = .ok (.isub, 1) := by decide +kernel
theorem dX6_bothBy_161 : decode cX6_bothBy 161 = .ok (.invokevirtual 90, 3) := by decide +kernel
theorem dX6_bothBy_164 : decode cX6_bothBy 164 = .ok (.iadd, 1) := by decide +kernel
theorem dX6_bothBy_165 : decode cX6_bothBy 165 = .ok (.ifCond .le 7, 3) := by decide +kernel
theorem dX6_bothBy_168 : decode cX6_bothBy 168 = .ok (.iconst 1, 1) := by decide +kernel
theorem dX6_bothBy_169 : decode cX6_bothBy 169 = .ok (.goto 4, 3) := by decide +kernel
theorem dX6_bothBy_172 : decode cX6_bothBy 172 = .ok (.iconst 0, 1) := by decide +kernel
theorem dX6_bothBy_173 : decode cX6_bothBy 173 = .ok (.istore 7, 2) := by decide +kernel
theorem dX6_bothBy_175 : decode cX6_bothBy 175 = .ok (.iinc 8 1, 3) := by decide +kernel
theorem dX6_bothBy_178 : decode cX6_bothBy 178 = .ok (.goto (-163), 3) := by decide +kernel
theorem dX6_bothBy_181 : decode cX6_bothBy 181 = .ok (.iload_n 3, 1) := by decide +kernel
theorem dX6_bothBy_182 : decode cX6_bothBy 182 = .ok (.iconst 2, 1) := by decide +kernel
theorem dX6_bothBy_183 : decode cX6_bothBy 183 = .ok (.if_icmp .ne 8, 3) := by decide +kernel
theorem dX6_bothBy_186 : decode cX6_bothBy 186 = .ok (.iload 6, 2) := by decide +kernel
theorem dX6_bothBy_188 : decode cX6_bothBy 188 = .ok (.goto 38, 3) := by decide +kernel
theorem dX6_bothBy_191 : decode cX6_bothBy 191 = .ok (.iload_n 3, 1) := by decide +kernel
theorem dX6_bothBy_192 : decode cX6_bothBy 192 = .ok (.ifCond .ne 11, 3) := by decide +kernel
theorem dX6_bothBy_195 : decode cX6_bothBy 195 = .ok (.iload 4, 2) := by decide +kernel
theorem dX6_bothBy_197 : decode cX6_bothBy 197 = .ok (.ifCond .eq 28, 3) := by decide +kernel
theorem dX6_bothBy_200 : decode cX6_bothBy 200 = .ok (.goto 21, 3) := by decide +kernel
theorem dX6_bothBy_203 : decode cX6_bothBy 203 = .ok (.iload_n 3, 1) := by decide +kernel
theorem dX6_bothBy_204 : decode cX6_bothBy 204 = .ok (.iconst 1, 1) := by decide +kernel
theorem dX6_bothBy_205 : decode cX6_bothBy 205 = .ok (.if_icmp .ne 11, 3) := by decide +kernel
theorem dX6_bothBy_208 : decode cX6_bothBy 208 = .ok (.iload 5, 2) := by decide +kernel
theorem dX6_bothBy_210 : decode cX6_bothBy 210 = .ok (.ifCond .eq 15, 3) := by decide +kernel
theorem dX6_bothBy_213 : decode cX6_bothBy 213 = .ok (.goto 8, 3) := by decide +kernel
theorem dX6_bothBy_216 : decode cX6_bothBy 216 = .ok (.iload 7, 2) := by decide +kernel
theorem dX6_bothBy_218 : decode cX6_bothBy 218 = .ok (.ifCond .eq 7, 3) := by decide +kernel
theorem dX6_bothBy_221 : decode cX6_bothBy 221 = .ok (.iconst 1, 1) := by decide +kernel
theorem dX6_bothBy_222 : decode cX6_bothBy 222 = .ok (.goto 4, 3) := by decide +kernel
theorem dX6_bothBy_225 : decode cX6_bothBy 225 = .ok (.iconst 0, 1) := by decide +kernel
theorem dX6_bothBy_226 : decode cX6_bothBy 226 = .ok (.ireturn, 1) := by decide +kernel
set_option maxRecDepth 20000 in
theorem ggX6_both_X6_isMask : GoodIn wsX6_both wsX6_isMask := goodIn_r _ [5, 1, 6, 7, 4, 8] (by decide +kernel) (by decide +kernel)
set_option maxRecDepth 20000 in
theorem gX6_both_X6_isMask : GoodIn wsX6_both (va_wsS RX6 103 yX6_isMask wsX6_isMask) := goodIn_app (goodIn_of _ (by decide +kernel)) ggX6_both_X6_isMask
set_option maxRecDepth 20000 in
theorem ggX6_both_X6_in : GoodIn wsX6_both wsX6_in := goodIn_r _ [8] (by decide +kernel) (by decide +kernel)
set_option maxRecDepth 20000 in
theorem gX6_both_X6_in : GoodIn wsX6_both (va_wsS RX6 55 yX6_in wsX6_in) := goodIn_app (goodIn_of _ (by decide +kernel)) ggX6_both_X6_in
set_option maxRecDepth 20000 in
theorem ggX6_both_X6_bothBy : GoodIn wsX6_both wsX6_bothBy := goodIn_r _ [12, 13, 14, 15, 4, 16, 17, 18, 19, 20, 21, 6, 7, 8, 22, 23, 24, 25, 26, 27, 28, 29, 30, 31, 32, 33, 34, 35, 36, 37, 38, 39, 40, 41, 42] (by decide +kernel) (by decide +kernel)
set_option maxRecDepth 20000 in
theorem gX6_both_X6_bothBy : GoodIn wsX6_both (wsV RX6 225 RX6 yX6_bothBy wsX6_bothBy) := goodIn_app (goodIn_of _ (by decide +kernel)) ggX6_both_X6_bothBy
theorem dX6_both_0 : decode cX6_both 0 = .ok (.iload_n 1, 1) := by decide +kernel
theorem dX6_both_1 : decode cX6_both 1 = .ok (.invokestatic 103, 3) := by decide +kernel
theorem dX6_both_4 : decode cX6_both 4 = .ok (.ifCond .eq 32, 3) := by decide +kernel
theorem dX6_both_7 : decode cX6_both 7 = .ok (.iload_n 2, 1) := by decide +kernel
theorem dX6_both_8 : decode cX6_both 8 = .ok (.invokestatic 103, 3) := by decide +kernel
theorem dX6_both_11 : decode cX6_both 11 = .ok (.ifCond .eq 25, 3) := by decide +kernel
theorem dX6_both_14 : decode cX6_both 14 = .ok (.iload_n 3, 1) := by decide +kernel
theorem dX6_both_15 : decode cX6_both 15 = .ok (.i2l, 1) := by decide +kernel
theorem dX6_both_16 : decode cX6_both 16 = .ok (.lconst 0, 1) := by decide +kernel
theorem dX6_both_17 : decode cX6_both 17 = .ok (.ldc2_w 63, 3) := by decide +kernel
theorem dX6_both_20 : decode cX6_both 20 = .ok (.invokestatic 55, 3) := by decide +kernel
theorem dX6_both_23 : decode cX6_both 23 = .ok (.ifCond .eq 13, 3) := by decide +kernel
theorem dX6_both_26 : decode cX6_both 26 = .ok (.aload_n 0, 1) := by decide +kernel
theorem dX6_both_27 : decode cX6_both 27 = .ok (.iload_n 1, 1) := by decide +kernel
theorem dX6_both_28 : decode cX6_both 28 = .ok (.iload_n 2, 1) := by decide +kernel
theorem dX6_both_29 : decode cX6_both 29 = .ok (.iload_n 3, 1) := by decide +kernel
theorem dX6_both_30 : decode cX6_both 30 = .ok (.invokevirtual 225, 3) := by decide +kernel
theorem dX6_both_33 : decode cX6_both 33 = .ok (.goto 5, 3) := by decide +kernel
theorem dX6_both_36 : decode cX6_both 36 = .ok (.bipush (-2), 2) := by decide +kernel
theorem dX6_both_38 : decode cX6_both 38 = .ok (.ireturn, 1) := by decide +kernel
set_option maxRecDepth 20000 in
theorem ggX6_write_X6_isMask : GoodIn wsX6_write wsX6_isMask := goodIn_r _ [10, 11, 12, 13, 9, 14] (by decide +kernel) (by decide +kernel)
set_option maxRecDepth 20000 in
theorem gX6_write_X6_isMask : GoodIn wsX6_write (va_wsS RX6 103 yX6_isMask wsX6_isMask) := goodIn_app (goodIn_of _ (by decide +kernel)) ggX6_write_X6_isMask
set_option maxRecDepth 20000 in
theorem ggX6_write_X6_in : GoodIn wsX6_write wsX6_in := goodIn_r _ [14] (by decide +kernel) (by decide +kernel)
set_option maxRecDepth 20000 in
theorem gX6_write_X6_in : GoodIn wsX6_write (va_wsS RX6 55 yX6_in wsX6_in) := goodIn_app (goodIn_of _ (by decide +kernel)) ggX6_write_X6_in
set_option maxRecDepth 20000 in
theorem ggX6_write_X6_isSheet : GoodIn wsX6_write wsX6_isSheet := goodIn_r _ [17, 11, 12, 13, 9, 14] (by decide +kernel) (by decide +kernel)
set_option maxRecDepth 20000 in
theorem gX6_write_X6_isSheet : GoodIn wsX6_write (va_wsS RX6 65 yX6_isSheet wsX6_isSheet) := goodIn_app (goodIn_of _ (by decide +kernel)) ggX6_write_X6_isSheet
set_option maxRecDepth 20000 in
theorem ggX6_write_X6_finds : GoodIn wsX6_write wsX6_finds := goodIn_r _ [21, 22, 65, 66, 67, 68, 69, 70, 71, 72, 73, 74, 75, 76, 77, 78, 79, 80, 81, 82, 83, 84, 85] (by decide +kernel) (by decide +kernel)
set_option maxRecDepth 20000 in
theorem gX6_write_X6_finds : GoodIn wsX6_write (wsV RX6 71 RX6 yX6_finds wsX6_finds) := goodIn_app (goodIn_of _ (by decide +kernel)) ggX6_write_X6_finds
set_option maxRecDepth 20000 in
theorem ggX6_write_X6_shows : GoodIn wsX6_write wsX6_shows := goodIn_r _ [26, 4, 27, 28, 29, 30, 31, 6, 32, 33, 34, 9, 35, 36, 37, 38, 39, 40, 41, 42, 43, 44, 45, 46, 47, 48, 12, 13, 14, 49, 50, 51, 52, 53, 54, 55, 56, 57, 58, 65, 66, 67, 68, 69, 70, 71, 72, 73, 74, 75, 76, 77, 78, 79, 80, 81, 82, 83, 84, 85] (by decide +kernel) (by decide +kernel)
set_option maxRecDepth 20000 in
theorem gX6_write_X6_shows : GoodIn wsX6_write (wsV RX6 183 RX6 yX6_shows wsX6_shows) := goodIn_app (goodIn_of _ (by decide +kernel)) ggX6_write_X6_shows
set_option maxRecDepth 20000 in
theorem ggX6_write_X6_greater : GoodIn wsX6_write wsX6_greater := goodIn_r _ [54] (by decide +kernel) (by decide +kernel)
set_option maxRecDepth 20000 in
theorem gX6_write_X6_greater : GoodIn wsX6_write (va_wsS RX6 180 yX6_greater wsX6_greater) := goodIn_app (goodIn_of _ (by decide +kernel)) ggX6_write_X6_greater
set_option maxRecDepth 20000 in
theorem ggX6_write_X6_lesser : GoodIn wsX6_write wsX6_lesser := goodIn_r _ [61] (by decide +kernel) (by decide +kernel)
set_option maxRecDepth 20000 in
theorem gX6_write_X6_lesser : GoodIn wsX6_write (va_wsS RX6 214 yX6_lesser wsX6_lesser) := goodIn_app (goodIn_of _ (by decide +kernel)) ggX6_write_X6_lesser
set_option maxRecDepth 20000 in
theorem ggX6_write_X6_cut : GoodIn wsX6_write wsX6_cut := goodIn_r _ [64] (by decide +kernel) (by decide +kernel)
set_option maxRecDepth 20000 in
theorem gX6_write_X6_cut : GoodIn wsX6_write (va_wsS RX6 79 yX6_cut wsX6_cut) := goodIn_app (goodIn_of _ (by decide +kernel)) ggX6_write_X6_cut
theorem dX6_write_0 : decode cX6_write 0 = .ok (.iload_n 1, 1) := by decide +kernel
theorem dX6_write_1 : decode cX6_write 1 = .ok (.invokestatic 103, 3) := by decide +kernel
theorem dX6_write_4 : decode cX6_write 4 = .ok (.ifCond .eq 22, 3) := by decide +kernel
theorem dX6_write_7 : decode cX6_write 7 = .ok (.iload_n 2, 1) := by decide +kernel
theorem dX6_write_8 : decode cX6_write 8 = .ok (.i2l, 1) := by decide +kernel
theorem dX6_write_9 : decode cX6_write 9 = .ok (.lconst 0, 1) := by decide +kernel
theorem dX6_write_10 : decode cX6_write 10 = .ok (.ldc2_w 194, 3) := by decide +kernel
theorem dX6_write_13 : decode cX6_write 13 = .ok (.invokestatic 55, 3) := by decide +kernel
theorem dX6_write_16 : decode cX6_write 16 = .ok (.ifCond .eq 10, 3) := by decide +kernel
theorem dX6_write_19 : decode cX6_write 19 = .ok (.iload_n 3, 1) := by decide +kernel
theorem dX6_write_20 : decode cX6_write 20 = .ok (.invokestatic 65, 3) := by decide +kernel
theorem dX6_write_23 : decode cX6_write 23 = .ok (.ifCond .ne 6, 3) := by decide +kernel
theorem dX6_write_26 : decode cX6_write 26 = .ok (.bipush (-2), 2) := by decide +kernel
theorem dX6_write_28 : decode cX6_write 28 = .ok (.ireturn, 1) := by decide +kernel
theorem dX6_write_29 : decode cX6_write 29 = .ok (.aload_n 0, 1) := by decide +kernel
theorem dX6_write_30 : decode cX6_write 30 = .ok (.getfield 7, 3) := by decide +kernel
theorem dX6_write_33 : decode cX6_write 33 = .ok (.iload_n 3, 1) := by decide +kernel
theorem dX6_write_34 : decode cX6_write 34 = .ok (.iaload, 1) := by decide +kernel
theorem dX6_write_35 : decode cX6_write 35 = .ok (.ifCond .ge 9, 3) := by decide +kernel
theorem dX6_write_38 : decode cX6_write 38 = .ok (.aload_n 0, 1) := by decide +kernel
theorem dX6_write_39 : decode cX6_write 39 = .ok (.iconst 1, 1) := by decide +kernel
theorem dX6_write_40 : decode cX6_write 40 = .ok (.invokevirtual 71, 3) := by decide +kernel
theorem dX6_write_43 : decode cX6_write 43 = .ok (.ireturn, 1) := by decide +kernel
theorem dX6_write_44 : decode cX6_write 44 = .ok (.aload_n 0, 1) := by decide +kernel
theorem dX6_write_45 : decode cX6_write 45 = .ok (.iload_n 1, 1) := by decide +kernel
theorem dX6_write_46 : decode cX6_write 46 = .ok (.invokevirtual 183, 3) := by decide +kernel
theorem dX6_write_49 : decode cX6_write 49 = .ok (.aload_n 0, 1) := by decide +kernel
theorem dX6_write_50 : decode cX6_write 50 = .ok (.getfield 13, 3) := by decide +kernel
theorem dX6_write_53 : decode cX6_write 53 = .ok (.iload_n 3, 1) := by decide +kernel
theorem dX6_write_54 : decode cX6_write 54 = .ok (.iaload, 1) := by decide +kernel
theorem dX6_write_55 : decode cX6_write 55 = .ok (.aload_n 0, 1) := by decide +kernel
theorem dX6_write_56 : decode cX6_write 56 = .ok (.getfield 174, 3) := by decide +kernel
theorem dX6_write_59 : decode cX6_write 59 = .ok (.iload_n 2, 1) := by decide +kernel
theorem dX6_write_60 : decode cX6_write 60 = .ok (.isub, 1) := by decide +kernel
theorem dX6_write_61 : decode cX6_write 61 = .ok (.iconst 0, 1) := by decide +kernel
theorem dX6_write_62 : decode cX6_write 62 = .ok (.invokestatic 180, 3) := by decide +kernel
theorem dX6_write_65 : decode cX6_write 65 = .ok (.invokestatic 214, 3) := by decide +kernel
theorem dX6_write_68 : decode cX6_write 68 = .ok (.istore 4, 2) := by decide +kernel
theorem dX6_write_70 : decode cX6_write 70 = .ok (.iconst 0, 1) := by decide +kernel
theorem dX6_write_71 : decode cX6_write 71 = .ok (.istore 5, 2) := by decide +kernel
theorem dX6_write_73 : decode cX6_write 73 = .ok (.iload 5, 2) := by decide +kernel
theorem dX6_write_75 : decode cX6_write 75 = .ok (.iload 4, 2) := by decide +kernel
theorem dX6_write_77 : decode cX6_write 77 = .ok (.if_icmp .ge 39, 3) := by decide +kernel
theorem dX6_write_80 : decode cX6_write 80 = .ok (.aload_n 0, 1) := by decide +kernel
theorem dX6_write_81 : decode cX6_write 81 = .ok (.getfield 16, 3) := by decide +kernel
theorem dX6_write_84 : decode cX6_write 84 = .ok (.bipush 60, 2) := by decide +kernel
theorem dX6_write_86 : decode cX6_write 86 = .ok (.iload_n 3, 1) := by decide +kernel
theorem dX6_write_87 : decode cX6_write 87 = .ok (.imul, 1) := by decide +kernel
theorem dX6_write_88 : decode cX6_write 88 = .ok (.iload 5, 2) := by decide +kernel
theorem dX6_write_90 : decode cX6_write 90 = .ok (.iadd, 1) := by decide +kernel
theorem dX6_write_91 : decode cX6_write 91 = .ok (.aload_n 0, 1) := by decide +kernel
theorem dX6_write_92 : decode cX6_write 92 = .ok (.getfield 7, 3) := by decide +kernel
theorem dX6_write_95 : decode cX6_write 95 = .ok (.iload_n 3, 1) := by decide +kernel
theorem dX6_write_96 : decode cX6_write 96 = .ok (.iaload, 1) := by decide +kernel
theorem dX6_write_97 : decode cX6_write 97 = .ok (.aload_n 0, 1) := by decide +kernel
theorem dX6_write_98 : decode cX6_write 98 = .ok (.getfield 49, 3) := by decide +kernel
theorem dX6_write_101 : decode cX6_write 101 = .ok (.iload_n 2, 1) := by decide +kernel
theorem dX6_write_102 : decode cX6_write 102 = .ok (.iload 5, 2) := by decide +kernel
theorem dX6_write_104 : decode cX6_write 104 = .ok (.iadd, 1) := by decide +kernel
theorem dX6_write_105 : decode cX6_write 105 = .ok (.iaload, 1) := by decide +kernel
theorem dX6_write_106 : decode cX6_write 106 = .ok (.invokestatic 79, 3) := by decide +kernel
theorem dX6_write_109 : decode cX6_write 109 = .ok (.iastore, 1) := by decide +kernel
theorem dX6_write_110 : decode cX6_write 110 = .ok (.iinc 5 1, 3) := by decide +kernel
theorem dX6_write_113 : decode cX6_write 113 = .ok (.goto (-40), 3) := by decide +kernel
theorem dX6_write_116 : decode cX6_write 116 = .ok (.iload 4, 2) := by decide +kernel
theorem dX6_write_118 : decode cX6_write 118 = .ok (.ireturn, 1) := by decide +kernel
set_option maxRecDepth 20000 in
theorem ggX6_allBlocks_X6_blocksBy : GoodIn wsX6_allBlocks wsX6_blocksBy := goodIn_r _ [5, 6, 7, 8, 9, 4, 10, 11, 12, 13, 14, 15, 16, 17, 18, 19, 20, 21, 22, 23, 24, 25, 26, 27, 28, 29, 30, 31, 32, 33, 34, 35, 36, 37, 38, 39, 40, 41, 42, 43, 44, 45, 46, 47, 48, 49, 50, 51, 52, 53, 54, 55, 56, 57, 58, 59, 60, 61, 62, 63, 64, 65, 66, 67] (by decide +kernel) (by decide +kernel)
set_option maxRecDepth 20000 in
theorem gX6_allBlocks_X6_blocksBy : GoodIn wsX6_allBlocks (wsV RX6 186 RX6 yX6_blocksBy wsX6_blocksBy) := goodIn_app (goodIn_of _ (by decide +kernel)) ggX6_allBlocks_X6_blocksBy
theorem dX6_allBlocks_0 : decode cX6_allBlocks 0 = .ok (.iconst 0, 1) := by decide +kernel
theorem dX6_allBlocks_1 : decode cX6_allBlocks 1 = .ok (.istore_n 1, 1) := by decide +kernel
theorem dX6_allBlocks_2 : decode cX6_allBlocks 2 = .ok (.iconst 0, 1) := by decide +kernel
theorem dX6_allBlocks_3 : decode cX6_allBlocks 3 = .ok (.istore_n 2, 1) := by decide +kernel
theorem dX6_allBlocks_4 : decode cX6_allBlocks 4 = .ok (.iload_n 2, 1) := by decide +kernel
theorem dX6_allBlocks_5 : decode cX6_allBlocks 5 = .ok (.iconst 4, 1) := by decide +kernel
theorem dX6_allBlocks_6 : decode cX6_allBlocks 6 = .ok (.if_icmp .ge 18, 3) := by decide +kernel
theorem dX6_allBlocks_9 : decode cX6_allBlocks 9 = .ok (.iload_n 1, 1) := by decide +kernel
theorem dX6_allBlocks_10 : decode cX6_allBlocks 10 = .ok (.aload_n 0, 1) := by decide +kernel
theorem dX6_allBlocks_11 : decode cX6_allBlocks 11 = .ok (.iload_n 2, 1) := by decide +kernel
theorem dX6_allBlocks_12 : decode cX6_allBlocks 12 = .ok (.iconst 0, 1) := by decide +kernel
theorem dX6_allBlocks_13 : decode cX6_allBlocks 13 = .ok (.invokevirtual 186, 3) := by decide +kernel
theorem dX6_allBlocks_16 : decode cX6_allBlocks 16 = .ok (.iadd, 1) := by decide +kernel
theorem dX6_allBlocks_17 : decode cX6_allBlocks 17 = .ok (.istore_n 1, 1) := by decide +kernel
theorem dX6_allBlocks_18 : decode cX6_allBlocks 18 = .ok (.iinc 2 1, 3) := by decide +kernel
theorem dX6_allBlocks_21 : decode cX6_allBlocks 21 = .ok (.goto (-17), 3) := by decide +kernel
theorem dX6_allBlocks_24 : decode cX6_allBlocks 24 = .ok (.iload_n 1, 1) := by decide +kernel
theorem dX6_allBlocks_25 : decode cX6_allBlocks 25 = .ok (.ireturn, 1) := by decide +kernel
set_option maxRecDepth 20000 in
theorem ggX6_allParts_X6_partsOf : GoodIn wsX6_allParts wsX6_partsOf := goodIn_r _ [5, 6, 7, 8, 9, 4, 10, 11, 12, 13, 14, 15, 16, 17, 18, 19, 20, 21, 22, 23, 24, 25, 26, 27, 28, 29, 30, 31, 32, 33, 34, 35, 36, 37, 38, 39, 40, 41, 42, 43, 44, 45, 46, 47, 48, 49] (by decide +kernel) (by decide +kernel)
set_option maxRecDepth 20000 in
theorem gX6_allParts_X6_partsOf : GoodIn wsX6_allParts (wsV RX6 202 RX6 yX6_partsOf wsX6_partsOf) := goodIn_app (goodIn_of _ (by decide +kernel)) ggX6_allParts_X6_partsOf
theorem dX6_allParts_0 : decode cX6_allParts 0 = .ok (.iconst 0, 1) := by decide +kernel
theorem dX6_allParts_1 : decode cX6_allParts 1 = .ok (.istore_n 1, 1) := by decide +kernel
theorem dX6_allParts_2 : decode cX6_allParts 2 = .ok (.iconst 0, 1) := by decide +kernel
theorem dX6_allParts_3 : decode cX6_allParts 3 = .ok (.istore_n 2, 1) := by decide +kernel
theorem dX6_allParts_4 : decode cX6_allParts 4 = .ok (.iload_n 2, 1) := by decide +kernel
theorem dX6_allParts_5 : decode cX6_allParts 5 = .ok (.iconst 4, 1) := by decide +kernel
theorem dX6_allParts_6 : decode cX6_allParts 6 = .ok (.if_icmp .ge 17, 3) := by decide +kernel
theorem dX6_allParts_9 : decode cX6_allParts 9 = .ok (.iload_n 1, 1) := by decide +kernel
theorem dX6_allParts_10 : decode cX6_allParts 10 = .ok (.aload_n 0, 1) := by decide +kernel
theorem dX6_allParts_11 : decode cX6_allParts 11 = .ok (.iload_n 2, 1) := by decide +kernel
theorem dX6_allParts_12 : decode cX6_allParts 12 = .ok (.invokevirtual 202, 3) := by decide +kernel
theorem dX6_allParts_15 : decode cX6_allParts 15 = .ok (.iadd, 1) := by decide +kernel
theorem dX6_allParts_16 : decode cX6_allParts 16 = .ok (.istore_n 1, 1) := by decide +kernel
theorem dX6_allParts_17 : decode cX6_allParts 17 = .ok (.iinc 2 1, 3) := by decide +kernel
theorem dX6_allParts_20 : decode cX6_allParts 20 = .ok (.goto (-16), 3) := by decide +kernel
theorem dX6_allParts_23 : decode cX6_allParts 23 = .ok (.iload_n 1, 1) := by decide +kernel
theorem dX6_allParts_24 : decode cX6_allParts 24 = .ok (.ireturn, 1) := by decide +kernel
set_option maxRecDepth 20000 in
theorem ggX6_inAll_X6_dark : GoodIn wsX6_inAll wsX6_dark := goodIn_r _ [5, 6, 7, 8, 4, 9, 10, 11, 12, 13, 14, 15, 16, 17, 18, 19, 20, 21, 22, 23, 24, 25, 26, 27, 28, 29, 30, 31, 32, 33, 34] (by decide +kernel) (by decide +kernel)
set_option maxRecDepth 20000 in
theorem gX6_inAll_X6_dark : GoodIn wsX6_inAll (wsV RX6 90 RX6 yX6_dark wsX6_dark) := goodIn_app (goodIn_of _ (by decide +kernel)) ggX6_inAll_X6_dark
theorem dX6_inAll_0 : decode cX6_inAll 0 = .ok (.iconst 0, 1) := by decide +kernel
theorem dX6_inAll_1 : decode cX6_inAll 1 = .ok (.istore_n 1, 1) := by decide +kernel
theorem dX6_inAll_2 : decode cX6_inAll 2 = .ok (.iconst 0, 1) := by decide +kernel
theorem dX6_inAll_3 : decode cX6_inAll 3 = .ok (.istore_n 2, 1) := by decide +kernel
theorem dX6_inAll_4 : decode cX6_inAll 4 = .ok (.iload_n 2, 1) := by decide +kernel
theorem dX6_inAll_5 : decode cX6_inAll 5 = .ok (.sipush 256, 3) := by decide +kernel
theorem dX6_inAll_8 : decode cX6_inAll 8 = .ok (.if_icmp .ge 58, 3) := by decide +kernel
theorem dX6_inAll_11 : decode cX6_inAll 11 = .ok (.iload_n 2, 1) := by decide +kernel
theorem dX6_inAll_12 : decode cX6_inAll 12 = .ok (.bipush 16, 2) := by decide +kernel
theorem dX6_inAll_14 : decode cX6_inAll 14 = .ok (.irem, 1) := by decide +kernel
theorem dX6_inAll_15 : decode cX6_inAll 15 = .ok (.istore_n 3, 1) := by decide +kernel
theorem dX6_inAll_16 : decode cX6_inAll 16 = .ok (.iload_n 2, 1) := by decide +kernel
theorem dX6_inAll_17 : decode cX6_inAll 17 = .ok (.bipush 16, 2) := by decide +kernel
theorem dX6_inAll_19 : decode cX6_inAll 19 = .ok (.idiv, 1) := by decide +kernel
theorem dX6_inAll_20 : decode cX6_inAll 20 = .ok (.istore 4, 2) := by decide +kernel
theorem dX6_inAll_22 : decode cX6_inAll 22 = .ok (.iload_n 1, 1) := by decide +kernel
theorem dX6_inAll_23 : decode cX6_inAll 23 = .ok (.aload_n 0, 1) := by decide +kernel
theorem dX6_inAll_24 : decode cX6_inAll 24 = .ok (.iconst 0, 1) := by decide +kernel
theorem dX6_inAll_25 : decode cX6_inAll 25 = .ok (.iload_n 3, 1) := by decide +kernel
theorem dX6_inAll_26 : decode cX6_inAll 26 = .ok (.iload 4, 2) := by decide +kernel
theorem dX6_inAll_28 : decode cX6_inAll 28 = .ok (.invokevirtual 90, 3) := by decide +kernel
theorem dX6_inAll_31 : decode cX6_inAll 31 = .ok (.aload_n 0, 1) := by decide +kernel
theorem dX6_inAll_32 : decode cX6_inAll 32 = .ok (.iconst 1, 1) := by decide +kernel
theorem dX6_inAll_33 : decode cX6_inAll 33 = .ok (.iload_n 3, 1) := by decide +kernel
theorem dX6_inAll_34 : decode cX6_inAll 34 = .ok (.iload 4, 2) := by decide +kernel
theorem dX6_inAll_36 : decode cX6_inAll 36 = .ok (.invokevirtual 90, 3) := by decide +kernel
theorem dX6_inAll_39 : decode cX6_inAll 39 = .ok (.iand, 1) := by decide +kernel
theorem dX6_inAll_40 : decode cX6_inAll 40 = .ok (.aload_n 0, 1) := by decide +kernel
theorem dX6_inAll_41 : decode cX6_inAll 41 = .ok (.iconst 2, 1) := by decide +kernel
theorem dX6_inAll_42 : decode cX6_inAll 42 = .ok (.iload_n 3, 1) := by decide +kernel
theorem dX6_inAll_43 : decode cX6_inAll 43 = .ok (.iload 4, 2) := by decide +kernel
theorem dX6_inAll_45 : decode cX6_inAll 45 = .ok (.invokevirtual 90, 3) := by decide +kernel
theorem dX6_inAll_48 : decode cX6_inAll 48 = .ok (.iand, 1) := by decide +kernel
theorem dX6_inAll_49 : decode cX6_inAll 49 = .ok (.aload_n 0, 1) := by decide +kernel
theorem dX6_inAll_50 : decode cX6_inAll 50 = .ok (.iconst 3, 1) := by decide +kernel
theorem dX6_inAll_51 : decode cX6_inAll 51 = .ok (.iload_n 3, 1) := by decide +kernel
theorem dX6_inAll_52 : decode cX6_inAll 52 = .ok (.iload 4, 2) := by decide +kernel
theorem dX6_inAll_54 : decode cX6_inAll 54 = .ok (.invokevirtual 90, 3) := by decide +kernel
theorem dX6_inAll_57 : decode cX6_inAll 57 = .ok (.iand, 1) := by decide +kernel
theorem dX6_inAll_58 : decode cX6_inAll 58 = .ok (.iadd, 1) := by decide +kernel
theorem dX6_inAll_59 : decode cX6_inAll 59 = .ok (.istore_n 1, 1) := by decide +kernel
theorem dX6_inAll_60 : decode cX6_inAll 60 = .ok (.iinc 2 1, 3) := by decide +kernel
theorem dX6_inAll_63 : decode cX6_inAll 63 = .ok (.goto (-59), 3) := by decide +kernel
theorem dX6_inAll_66 : decode cX6_inAll 66 = .ok (.iload_n 1, 1) := by decide +kernel
theorem dX6_inAll_67 : decode cX6_inAll 67 = .ok (.ireturn, 1) := by decide +kernel
set_option maxRecDepth 20000 in
theorem ggX6_count_X6_darkOf : GoodIn wsX6_count wsX6_darkOf := goodIn_r _ [7, 8, 9, 10, 6, 11, 12, 13, 14, 15, 16, 17, 18, 19, 80, 81, 82, 83, 84, 85, 86, 87, 88, 89, 90, 91, 92, 93, 94, 95, 96, 97, 98, 99, 100] (by decide +kernel) (by decide +kernel)
set_option maxRecDepth 20000 in
theorem gX6_count_X6_darkOf : GoodIn wsX6_count (wsV RX6 100 RX6 yX6_darkOf wsX6_darkOf) := goodIn_app (goodIn_of _ (by decide +kernel)) ggX6_count_X6_darkOf
set_option maxRecDepth 20000 in
theorem ggX6_count_X6_allBlocks : GoodIn wsX6_count wsX6_allBlocks := goodIn_r _ [23, 24, 25, 26, 6, 27, 28, 29, 30, 31, 32, 33, 34, 35, 36, 37, 38, 39, 40, 41, 42, 43, 44, 45, 46, 12, 8, 9, 10, 11, 13, 14, 15, 16, 17, 18, 19, 47, 48, 49, 50, 51, 52, 53, 54, 55, 56, 80, 81, 82, 83, 84, 85, 86, 87, 88, 89, 90, 91, 92, 93, 94, 95, 96, 97, 98, 99, 100] (by decide +kernel) (by decide +kernel)
set_option maxRecDepth 20000 in
theorem gX6_count_X6_allBlocks : GoodIn wsX6_count (wsV RX6 228 RX6 yX6_allBlocks wsX6_allBlocks) := goodIn_app (goodIn_of _ (by decide +kernel)) ggX6_count_X6_allBlocks
set_option maxRecDepth 20000 in
theorem ggX6_count_X6_allParts : GoodIn wsX6_count wsX6_allParts := goodIn_r _ [60, 61, 62, 63, 6, 64, 65, 66, 67, 68, 69, 70, 8, 9, 10, 11, 12, 13, 14, 15, 16, 17, 18, 19, 71, 72, 73, 74, 75, 80, 81, 82, 83, 84, 85, 86, 87, 88, 89, 90, 91, 92, 93, 94, 95, 96, 97, 98, 99, 100] (by decide +kernel) (by decide +kernel)
set_option maxRecDepth 20000 in
theorem gX6_count_X6_allParts : GoodIn wsX6_count (wsV RX6 232 RX6 yX6_allParts wsX6_allParts) := goodIn_app (goodIn_of _ (by decide +kernel)) ggX6_count_X6_allParts
set_option maxRecDepth 20000 in
theorem ggX6_count_X6_inAll : GoodIn wsX6_count wsX6_inAll := goodIn_r _ [79, 8, 9, 10, 6, 11, 12, 13, 14, 15, 16, 17, 18, 19, 80, 81, 82, 83, 84, 85, 86, 87, 88, 89, 90, 91, 92, 93, 94, 95, 96, 97, 98, 99, 100] (by decide +kernel) (by decide +kernel)
set_option maxRecDepth 20000 in
theorem gX6_count_X6_inAll : GoodIn wsX6_count (wsV RX6 235 RX6 yX6_inAll wsX6_inAll) := goodIn_app (goodIn_of _ (by decide +kernel)) ggX6_count_X6_inAll
theorem dX6_count_0 : decode cX6_count 0 = .ok (.iload_n 1, 1) := by decide +kernel
theorem dX6_count_1 : decode cX6_count 1 = .ok (.tableswitch 82 0 8 #[51, 51, 51, 51, 57, 62, 67, 72, 77], 51) := by decide +kernel
theorem dX6_count_52 : decode cX6_count 52 = .ok (.aload_n 0, 1) := by decide +kernel
theorem dX6_count_53 : decode cX6_count 53 = .ok (.iload_n 1, 1) := by decide +kernel
theorem dX6_count_54 : decode cX6_count 54 = .ok (.invokevirtual 100, 3) := by decide +kernel
theorem dX6_count_57 : decode cX6_count 57 = .ok (.ireturn, 1) := by decide +kernel
theorem dX6_count_58 : decode cX6_count 58 = .ok (.aload_n 0, 1) := by decide +kernel
theorem dX6_count_59 : decode cX6_count 59 = .ok (.invokevirtual 228, 3) := by decide +kernel
theorem dX6_count_62 : decode cX6_count 62 = .ok (.ireturn, 1) := by decide +kernel
theorem dX6_count_63 : decode cX6_count 63 = .ok (.aload_n 0, 1) := by decide +kernel
theorem dX6_count_64 : decode cX6_count 64 = .ok (.invokevirtual 232, 3) := by decide +kernel
theorem dX6_count_67 : decode cX6_count 67 = .ok (.ireturn, 1) := by decide +kernel
theorem dX6_count_68 : decode cX6_count 68 = .ok (.aload_n 0, 1) := by decide +kernel
theorem dX6_count_69 : decode cX6_count 69 = .ok (.getfield 93, 3) := by decide +kernel
theorem dX6_count_72 : decode cX6_count 72 = .ok (.ireturn, 1) := by decide +kernel
theorem dX6_count_73 : decode cX6_count 73 = .ok (.aload_n 0, 1) := by decide +kernel
theorem dX6_count_74 : decode cX6_count 74 = .ok (.invokevirtual 235, 3) := by decide +kernel
theorem dX6_count_77 : decode cX6_count 77 = .ok (.ireturn, 1) := by decide +kernel
theorem dX6_count_78 : decode cX6_count 78 = .ok (.aload_n 0, 1) := by decide +kernel
theorem dX6_count_79 : decode cX6_count 79 = .ok (.getfield 59, 3) := by decide +kernel
theorem dX6_count_82 : decode cX6_count 82 = .ok (.ireturn, 1) := by decide +kernel
theorem dX6_count_83 : decode cX6_count 83 = .ok (.bipush (-2), 2) := by decide +kernel
theorem dX6_count_85 : decode cX6_count 85 = .ok (.ireturn, 1) := by decide +kernel
set_option maxRecDepth 20000 in
theorem ggX6_tellsMask_X6_blocksBy : GoodIn wsX6_tellsMask wsX6_blocksBy := goodIn_r _ [8, 9, 10, 11, 12, 7, 13, 14, 15, 16, 17, 18, 19, 20, 21, 22, 23, 24, 25, 26, 27, 28, 29, 30, 31, 32, 33, 34, 35, 36, 37, 38, 39, 40, 41, 42, 43, 44, 45, 46, 47, 48, 49, 109, 110, 111, 112, 113, 114, 115, 116, 117, 118, 119, 120, 121, 122, 123, 124, 125, 126, 127, 128, 129] (by decide +kernel) (by decide +kernel)
set_option maxRecDepth 20000 in
theorem gX6_tellsMask_X6_blocksBy : GoodIn wsX6_tellsMask (wsV RX6 186 RX6 yX6_blocksBy wsX6_blocksBy) := goodIn_app (goodIn_of _ (by decide +kernel)) ggX6_tellsMask_X6_blocksBy
set_option maxRecDepth 20000 in
theorem ggX6_tellsMask_X6_allBy : GoodIn wsX6_tellsMask wsX6_allBy := goodIn_r _ [53, 54, 55, 56, 7, 57, 3, 58, 59, 60, 61, 2, 29, 30, 31, 32, 28, 33, 34, 35, 36, 37, 38, 39, 62, 63, 64, 65, 66, 67, 68, 69, 70, 71, 72, 73, 74, 75, 76, 77, 78, 79, 80, 81, 82, 109, 110, 111, 112, 113, 114, 115, 116, 117, 118, 119, 120, 121, 122, 123, 124, 125, 126, 127, 128, 129] (by decide +kernel) (by decide +kernel)
set_option maxRecDepth 20000 in
theorem gX6_tellsMask_X6_allBy : GoodIn wsX6_tellsMask (wsV RX6 211 RX6 yX6_allBy wsX6_allBy) := goodIn_app (goodIn_of _ (by decide +kernel)) ggX6_tellsMask_X6_allBy
set_option maxRecDepth 20000 in
theorem ggX6_tellsMask_X6_shows : GoodIn wsX6_tellsMask wsX6_shows := goodIn_r _ [13, 14, 9, 15, 16, 17, 18, 19, 20, 21, 22, 7, 23, 24, 25, 26, 27, 28, 29, 30, 31, 32, 33, 34, 35, 36, 37, 38, 39, 40, 41, 42, 43, 44, 45, 46, 47, 48, 49, 109, 110, 111, 112, 113, 114, 115, 116, 117, 118, 119, 120, 121, 122, 123, 124, 125, 126, 127, 128, 129] (by decide +kernel) (by decide +kernel)
set_option maxRecDepth 20000 in
theorem gX6_tellsMask_X6_shows : GoodIn wsX6_tellsMask (wsV RX6 183 RX6 yX6_shows wsX6_shows) := goodIn_app (goodIn_of _ (by decide +kernel)) ggX6_tellsMask_X6_shows
set_option maxRecDepth 20000 in
theorem ggX6_tellsMask_X6_signBy : GoodIn wsX6_tellsMask wsX6_signBy := goodIn_r _ [86, 14, 19, 109, 110, 111, 112, 113, 114, 115, 116, 117, 118, 119, 120, 121, 122, 123, 124, 125, 126, 127, 128, 129] (by decide +kernel) (by decide +kernel)
set_option maxRecDepth 20000 in
theorem gX6_tellsMask_X6_signBy : GoodIn wsX6_tellsMask (wsV RX6 189 RX6 yX6_signBy wsX6_signBy) := goodIn_app (goodIn_of _ (by decide +kernel)) ggX6_tellsMask_X6_signBy
set_option maxRecDepth 20000 in
theorem ggX6_tellsMask_X6_labels : GoodIn wsX6_tellsMask wsX6_labels := goodIn_r _ [61, 3, 2, 29, 30, 31, 7, 32, 28, 33, 34, 35, 36, 37, 38, 39, 62, 63, 64, 65, 66, 109, 110, 111, 112, 113, 114, 115, 116, 117, 118, 119, 120, 121, 122, 123, 124, 125, 126, 127, 128, 129] (by decide +kernel) (by decide +kernel)
set_option maxRecDepth 20000 in
theorem gX6_tellsMask_X6_labels : GoodIn wsX6_tellsMask (wsV RX6 150 RX6 yX6_labels wsX6_labels) := goodIn_app (goodIn_of _ (by decide +kernel)) ggX6_tellsMask_X6_labels
set_option maxRecDepth 20000 in
theorem ggX6_tellsMask_X6_dark : GoodIn wsX6_tellsMask wsX6_dark := goodIn_r _ [32, 28, 33, 34, 7, 35, 36, 37, 38, 39, 109, 110, 111, 112, 113, 114, 115, 116, 117, 118, 119, 120, 121, 122, 123, 124, 125, 126, 127, 128, 129] (by decide +kernel) (by decide +kernel)
set_option maxRecDepth 20000 in
theorem gX6_tellsMask_X6_dark : GoodIn wsX6_tellsMask (wsV RX6 90 RX6 yX6_dark wsX6_dark) := goodIn_app (goodIn_of _ (by decide +kernel)) ggX6_tellsMask_X6_dark
set_option maxRecDepth 20000 in
theorem ggX6_tellsMask_X6_blockBy : GoodIn wsX6_tellsMask wsX6_blockBy := goodIn_r _ [90, 24, 25, 26, 7, 27, 28, 109, 110, 111, 112, 113, 114, 115, 116, 117, 118, 119, 120, 121, 122, 123, 124, 125, 126, 127, 128, 129] (by decide +kernel) (by decide +kernel)
set_option maxRecDepth 20000 in
theorem gX6_tellsMask_X6_blockBy : GoodIn wsX6_tellsMask (wsV RX6 170 RX6 yX6_blockBy wsX6_blockBy) := goodIn_app (goodIn_of _ (by decide +kernel)) ggX6_tellsMask_X6_blockBy
set_option maxRecDepth 20000 in
theorem ggX6_tellsMask_X6_nearOf : GoodIn wsX6_tellsMask wsX6_nearOf := goodIn_r _ [94, 95, 96, 7, 97, 29, 30, 31, 32, 28, 33, 34, 35, 36, 37, 38, 39, 109, 110, 111, 112, 113, 114, 115, 116, 117, 118, 119, 120, 121, 122, 123, 124, 125, 126, 127, 128, 129] (by decide +kernel) (by decide +kernel)
set_option maxRecDepth 20000 in
theorem gX6_tellsMask_X6_nearOf : GoodIn wsX6_tellsMask (wsV RX6 141 RX6 yX6_nearOf wsX6_nearOf) := goodIn_app (goodIn_of _ (by decide +kernel)) ggX6_tellsMask_X6_nearOf
set_option maxRecDepth 20000 in
theorem ggX6_tellsMask_X6_partBy : GoodIn wsX6_tellsMask wsX6_partBy := goodIn_r _ [101, 2, 71, 72, 73, 7, 74, 29, 30, 31, 32, 28, 33, 34, 35, 36, 37, 38, 39, 102, 103, 104, 43, 44, 45, 109, 110, 111, 112, 113, 114, 115, 116, 117, 118, 119, 120, 121, 122, 123, 124, 125, 126, 127, 128, 129] (by decide +kernel) (by decide +kernel)
set_option maxRecDepth 20000 in
theorem gX6_tellsMask_X6_partBy : GoodIn wsX6_tellsMask (wsV RX6 219 RX6 yX6_partBy wsX6_partBy) := goodIn_app (goodIn_of _ (by decide +kernel)) ggX6_tellsMask_X6_partBy
set_option maxRecDepth 20000 in
theorem ggX6_tellsMask_X6_bothBy : GoodIn wsX6_tellsMask wsX6_bothBy := goodIn_r _ [108, 29, 30, 31, 7, 32, 28, 33, 34, 35, 36, 37, 38, 39, 109, 110, 111, 112, 113, 114, 115, 116, 117, 118, 119, 120, 121, 122, 123, 124, 125, 126, 127, 128, 129] (by decide +kernel) (by decide +kernel)
set_option maxRecDepth 20000 in
theorem gX6_tellsMask_X6_bothBy : GoodIn wsX6_tellsMask (wsV RX6 225 RX6 yX6_bothBy wsX6_bothBy) := goodIn_app (goodIn_of _ (by decide +kernel)) ggX6_tellsMask_X6_bothBy
theorem dX6_tellsMask_0 : decode cX6_tellsMask 0 = .ok (.lload_n 1, 1) := by decide +kernel
theorem dX6_tellsMask_1 : decode cX6_tellsMask 1 = .ok (.lstore 4, 2) := by decide +kernel
theorem dX6_tellsMask_3 : decode cX6_tellsMask 3 = .ok (.iconst 0, 1) := by decide +kernel
theorem dX6_tellsMask_4 : decode cX6_tellsMask 4 = .ok (.istore 6, 2) := by decide +kernel
theorem dX6_tellsMask_6 : decode cX6_tellsMask 6 = .ok (.iload 6, 2) := by decide +kernel
theorem dX6_tellsMask_8 : decode cX6_tellsMask 8 = .ok (.iconst 4, 1) := by decide +kernel
theorem dX6_tellsMask_9 : decode cX6_tellsMask 9 = .ok (.if_icmp .ge 26, 3) := by decide +kernel
theorem dX6_tellsMask_12 : decode cX6_tellsMask 12 = .ok (.ldc2_w 238, 3) := by decide +kernel
theorem dX6_tellsMask_15 : decode cX6_tellsMask 15 = .ok (.lload 4, 2) := by decide +kernel
theorem dX6_tellsMask_17 : decode cX6_tellsMask 17 = .ok (.lmul, 1) := by decide +kernel
theorem dX6_tellsMask_18 : decode cX6_tellsMask 18 = .ok (.aload_n 0, 1) := by decide +kernel
theorem dX6_tellsMask_19 : decode cX6_tellsMask 19 = .ok (.iload_n 3, 1) := by decide +kernel
theorem dX6_tellsMask_20 : decode cX6_tellsMask 20 = .ok (.iload 6, 2) := by decide +kernel
theorem dX6_tellsMask_22 : decode cX6_tellsMask 22 = .ok (.invokevirtual 186, 3) := by decide +kernel
theorem dX6_tellsMask_25 : decode cX6_tellsMask 25 = .ok (.i2l, 1) := by decide +kernel
theorem dX6_tellsMask_26 : decode cX6_tellsMask 26 = .ok (.ladd, 1) := by decide +kernel
theorem dX6_tellsMask_27 : decode cX6_tellsMask 27 = .ok (.lstore 4, 2) := by decide +kernel
theorem dX6_tellsMask_29 : decode cX6_tellsMask 29 = .ok (.iinc 6 1, 3) := by decide +kernel
theorem dX6_tellsMask_32 : decode cX6_tellsMask 32 = .ok (.goto (-26), 3) := by decide +kernel
theorem dX6_tellsMask_35 : decode cX6_tellsMask 35 = .ok (.iconst 0, 1) := by decide +kernel
theorem dX6_tellsMask_36 : decode cX6_tellsMask 36 = .ok (.istore 6, 2) := by decide +kernel
theorem dX6_tellsMask_38 : decode cX6_tellsMask 38 = .ok (.iload 6, 2) := by decide +kernel
theorem dX6_tellsMask_40 : decode cX6_tellsMask 40 = .ok (.iconst 4, 1) := by decide +kernel
theorem dX6_tellsMask_41 : decode cX6_tellsMask 41 = .ok (.if_icmp .ge 26, 3) := by decide +kernel
theorem dX6_tellsMask_44 : decode cX6_tellsMask 44 = .ok (.ldc2_w 238, 3) := by decide +kernel
theorem dX6_tellsMask_47 : decode cX6_tellsMask 47 = .ok (.lload 4, 2) := by decide +kernel
theorem dX6_tellsMask_49 : decode cX6_tellsMask 49 = .ok (.lmul, 1) := by decide +kernel
theorem dX6_tellsMask_50 : decode cX6_tellsMask 50 = .ok (.aload_n 0, 1) := by decide +kernel
theorem dX6_tellsMask_51 : decode cX6_tellsMask 51 = .ok (.iload_n 3, 1) := by decide +kernel
theorem dX6_tellsMask_52 : decode cX6_tellsMask 52 = .ok (.iload 6, 2) := by decide +kernel
theorem dX6_tellsMask_54 : decode cX6_tellsMask 54 = .ok (.invokevirtual 211, 3) := by decide +kernel
theorem dX6_tellsMask_57 : decode cX6_tellsMask 57 = .ok (.i2l, 1) := by decide +kernel
theorem dX6_tellsMask_58 : decode cX6_tellsMask 58 = .ok (.ladd, 1) := by decide +kernel
theorem dX6_tellsMask_59 : decode cX6_tellsMask 59 = .ok (.lstore 4, 2) := by decide +kernel
theorem dX6_tellsMask_61 : decode cX6_tellsMask 61 = .ok (.iinc 6 1, 3) := by decide +kernel
theorem dX6_tellsMask_64 : decode cX6_tellsMask 64 = .ok (.goto (-26), 3) := by decide +kernel
theorem dX6_tellsMask_67 : decode cX6_tellsMask 67 = .ok (.aload_n 0, 1) := by decide +kernel
theorem dX6_tellsMask_68 : decode cX6_tellsMask 68 = .ok (.iload_n 3, 1) := by decide +kernel
theorem dX6_tellsMask_69 : decode cX6_tellsMask 69 = .ok (.invokevirtual 183, 3) := by decide +kernel
theorem dX6_tellsMask_72 : decode cX6_tellsMask 72 = .ok (.iconst (-1), 1) := by decide +kernel
theorem dX6_tellsMask_73 : decode cX6_tellsMask 73 = .ok (.istore 6, 2) := by decide +kernel
theorem dX6_tellsMask_75 : decode cX6_tellsMask 75 = .ok (.iload 6, 2) := by decide +kernel
theorem dX6_tellsMask_77 : decode cX6_tellsMask 77 = .ok (.bipush 41, 2) := by decide +kernel
theorem dX6_tellsMask_79 : decode cX6_tellsMask 79 = .ok (.if_icmp .ge 25, 3) := by decide +kernel
theorem dX6_tellsMask_82 : decode cX6_tellsMask 82 = .ok (.ldc2_w 238, 3) := by decide +kernel
theorem dX6_tellsMask_85 : decode cX6_tellsMask 85 = .ok (.lload 4, 2) := by decide +kernel
theorem dX6_tellsMask_87 : decode cX6_tellsMask 87 = .ok (.lmul, 1) := by decide +kernel
theorem dX6_tellsMask_88 : decode cX6_tellsMask 88 = .ok (.aload_n 0, 1) := by decide +kernel
theorem dX6_tellsMask_89 : decode cX6_tellsMask 89 = .ok (.iload 6, 2) := by decide +kernel
theorem dX6_tellsMask_91 : decode cX6_tellsMask 91 = .ok (.invokevirtual 189, 3) := by decide +kernel
theorem dX6_tellsMask_94 : decode cX6_tellsMask 94 = .ok (.i2l, 1) := by decide +kernel
theorem dX6_tellsMask_95 : decode cX6_tellsMask 95 = .ok (.ladd, 1) := by decide +kernel
theorem dX6_tellsMask_96 : decode cX6_tellsMask 96 = .ok (.lstore 4, 2) := by decide +kernel
theorem dX6_tellsMask_98 : decode cX6_tellsMask 98 = .ok (.iinc 6 1, 3) := by decide +kernel
theorem dX6_tellsMask_101 : decode cX6_tellsMask 101 = .ok (.goto (-26), 3) := by decide +kernel
theorem dX6_tellsMask_104 : decode cX6_tellsMask 104 = .ok (.aload_n 0, 1) := by decide +kernel
theorem dX6_tellsMask_105 : decode cX6_tellsMask 105 = .ok (.iload_n 3, 1) := by decide +kernel
theorem dX6_tellsMask_106 : decode cX6_tellsMask 106 = .ok (.iconst 1, 1) := by decide +kernel
theorem dX6_tellsMask_107 : decode cX6_tellsMask 107 = .ok (.invokevirtual 150, 3) := by decide +kernel
theorem dX6_tellsMask_110 : decode cX6_tellsMask 110 = .ok (.iconst 0, 1) := by decide +kernel
theorem dX6_tellsMask_111 : decode cX6_tellsMask 111 = .ok (.istore 6, 2) := by decide +kernel
theorem dX6_tellsMask_113 : decode cX6_tellsMask 113 = .ok (.iload 6, 2) := by decide +kernel
theorem dX6_tellsMask_115 : decode cX6_tellsMask 115 = .ok (.bipush 16, 2) := by decide +kernel
theorem dX6_tellsMask_117 : decode cX6_tellsMask 117 = .ok (.if_icmp .ge 106, 3) := by decide +kernel
theorem dX6_tellsMask_120 : decode cX6_tellsMask 120 = .ok (.iconst 0, 1) := by decide +kernel
theorem dX6_tellsMask_121 : decode cX6_tellsMask 121 = .ok (.istore 7, 2) := by decide +kernel
theorem dX6_tellsMask_123 : decode cX6_tellsMask 123 = .ok (.iload 7, 2) := by decide +kernel
theorem dX6_tellsMask_125 : decode cX6_tellsMask 125 = .ok (.bipush 16, 2) := by decide +kernel
theorem dX6_tellsMask_127 : decode cX6_tellsMask 127 = .ok (.if_icmp .ge 90, 3) := by decide +kernel
theorem dX6_tellsMask_130 : decode cX6_tellsMask 130 = .ok (.ldc2_w 238, 3) := by decide +kernel
theorem dX6_tellsMask_133 : decode cX6_tellsMask 133 = .ok (.lload 4, 2) := by decide +kernel
theorem dX6_tellsMask_135 : decode cX6_tellsMask 135 = .ok (.lmul, 1) := by decide +kernel
theorem dX6_tellsMask_136 : decode cX6_tellsMask 136 = .ok (.aload_n 0, 1) := by decide +kernel
theorem dX6_tellsMask_137 : decode cX6_tellsMask 137 = .ok (.iload_n 3, 1) := by decide +kernel
theorem dX6_tellsMask_138 : decode cX6_tellsMask 138 = .ok (.iload 7, 2) := by decide +kernel
theorem dX6_tellsMask_140 : decode cX6_tellsMask 140 = .ok (.iload 6, 2) := by decide +kernel
theorem dX6_tellsMask_142 : decode cX6_tellsMask 142 = .ok (.invokevirtual 90, 3) := by decide +kernel
theorem dX6_tellsMask_145 : decode cX6_tellsMask 145 = .ok (.i2l, 1) := by decide +kernel
theorem dX6_tellsMask_146 : decode cX6_tellsMask 146 = .ok (.ladd, 1) := by decide +kernel
theorem dX6_tellsMask_147 : decode cX6_tellsMask 147 = .ok (.lstore 4, 2) := by decide +kernel
theorem dX6_tellsMask_149 : decode cX6_tellsMask 149 = .ok (.ldc2_w 238, 3) := by decide +kernel
theorem dX6_tellsMask_152 : decode cX6_tellsMask 152 = .ok (.lload 4, 2) := by decide +kernel
theorem dX6_tellsMask_154 : decode cX6_tellsMask 154 = .ok (.lmul, 1) := by decide +kernel
theorem dX6_tellsMask_155 : decode cX6_tellsMask 155 = .ok (.aload_n 0, 1) := by decide +kernel
theorem dX6_tellsMask_156 : decode cX6_tellsMask 156 = .ok (.iload_n 3, 1) := by decide +kernel
theorem dX6_tellsMask_157 : decode cX6_tellsMask 157 = .ok (.iload 7, 2) := by decide +kernel
theorem dX6_tellsMask_159 : decode cX6_tellsMask 159 = .ok (.iload 6, 2) := by decide +kernel
theorem dX6_tellsMask_161 : decode cX6_tellsMask 161 = .ok (.iconst 2, 1) := by decide +kernel
theorem dX6_tellsMask_162 : decode cX6_tellsMask 162 = .ok (.invokevirtual 170, 3) := by decide +kernel
theorem dX6_tellsMask_165 : decode cX6_tellsMask 165 = .ok (.i2l, 1) := by decide +kernel
theorem dX6_tellsMask_166 : decode cX6_tellsMask 166 = .ok (.ladd, 1) := by decide +kernel
theorem dX6_tellsMask_167 : decode cX6_tellsMask 167 = .ok (.lstore 4, 2) := by decide +kernel
theorem dX6_tellsMask_169 : decode cX6_tellsMask 169 = .ok (.ldc2_w 238, 3) := by decide +kernel
theorem dX6_tellsMask_172 : decode cX6_tellsMask 172 = .ok (.lload 4, 2) := by decide +kernel
theorem dX6_tellsMask_174 : decode cX6_tellsMask 174 = .ok (.lmul, 1) := by decide +kernel
theorem dX6_tellsMask_175 : decode cX6_tellsMask 175 = .ok (.aload_n 0, 1) := by decide +kernel
theorem dX6_tellsMask_176 : decode cX6_tellsMask 176 = .ok (.getfield 34, 3) := by decide +kernel
theorem dX6_tellsMask_179 : decode cX6_tellsMask 179 = .ok (.bipush 16, 2) := by decide +kernel
theorem dX6_tellsMask_181 : decode cX6_tellsMask 181 = .ok (.iload 6, 2) := by decide +kernel
theorem dX6_tellsMask_183 : decode cX6_tellsMask 183 = .ok (.imul, 1) := by decide +kernel
theorem dX6_tellsMask_184 : decode cX6_tellsMask 184 = .ok (.iload 7, 2) := by decide +kernel
theorem dX6_tellsMask_186 : decode cX6_tellsMask 186 = .ok (.iadd, 1) := by decide +kernel
theorem dX6_tellsMask_187 : decode cX6_tellsMask 187 = .ok (.iaload, 1) := by decide +kernel
theorem dX6_tellsMask_188 : decode cX6_tellsMask 188 = .ok (.i2l, 1) := by decide +kernel
theorem dX6_tellsMask_189 : decode cX6_tellsMask 189 = .ok (.ladd, 1) := by decide +kernel
theorem dX6_tellsMask_190 : decode cX6_tellsMask 190 = .ok (.lstore 4, 2) := by decide +kernel
theorem dX6_tellsMask_192 : decode cX6_tellsMask 192 = .ok (.ldc2_w 238, 3) := by decide +kernel
theorem dX6_tellsMask_195 : decode cX6_tellsMask 195 = .ok (.lload 4, 2) := by decide +kernel
theorem dX6_tellsMask_197 : decode cX6_tellsMask 197 = .ok (.lmul, 1) := by decide +kernel
theorem dX6_tellsMask_198 : decode cX6_tellsMask 198 = .ok (.aload_n 0, 1) := by decide +kernel
theorem dX6_tellsMask_199 : decode cX6_tellsMask 199 = .ok (.iload_n 3, 1) := by decide +kernel
theorem dX6_tellsMask_200 : decode cX6_tellsMask 200 = .ok (.iload 7, 2) := by decide +kernel
theorem dX6_tellsMask_202 : decode cX6_tellsMask 202 = .ok (.iload 6, 2) := by decide +kernel
theorem dX6_tellsMask_204 : decode cX6_tellsMask 204 = .ok (.invokevirtual 141, 3) := by decide +kernel
theorem dX6_tellsMask_207 : decode cX6_tellsMask 207 = .ok (.i2l, 1) := by decide +kernel
theorem dX6_tellsMask_208 : decode cX6_tellsMask 208 = .ok (.ladd, 1) := by decide +kernel
theorem dX6_tellsMask_209 : decode cX6_tellsMask 209 = .ok (.lstore 4, 2) := by decide +kernel
theorem dX6_tellsMask_211 : decode cX6_tellsMask 211 = .ok (.iinc 7 5, 3) := by decide +kernel
theorem dX6_tellsMask_214 : decode cX6_tellsMask 214 = .ok (.goto (-91), 3) := by decide +kernel
theorem dX6_tellsMask_217 : decode cX6_tellsMask 217 = .ok (.iinc 6 3, 3) := by decide +kernel
theorem dX6_tellsMask_220 : decode cX6_tellsMask 220 = .ok (.goto (-107), 3) := by decide +kernel
theorem dX6_tellsMask_223 : decode cX6_tellsMask 223 = .ok (.iconst 0, 1) := by decide +kernel
theorem dX6_tellsMask_224 : decode cX6_tellsMask 224 = .ok (.istore 6, 2) := by decide +kernel
theorem dX6_tellsMask_226 : decode cX6_tellsMask 226 = .ok (.iload 6, 2) := by decide +kernel
theorem dX6_tellsMask_228 : decode cX6_tellsMask 228 = .ok (.iconst 4, 1) := by decide +kernel
theorem dX6_tellsMask_229 : decode cX6_tellsMask 229 = .ok (.if_icmp .ge 58, 3) := by decide +kernel
theorem dX6_tellsMask_232 : decode cX6_tellsMask 232 = .ok (.iconst 0, 1) := by decide +kernel
theorem dX6_tellsMask_233 : decode cX6_tellsMask 233 = .ok (.istore 7, 2) := by decide +kernel
theorem dX6_tellsMask_235 : decode cX6_tellsMask 235 = .ok (.iload 7, 2) := by decide +kernel
theorem dX6_tellsMask_237 : decode cX6_tellsMask 237 = .ok (.bipush 6, 2) := by decide +kernel
theorem dX6_tellsMask_239 : decode cX6_tellsMask 239 = .ok (.if_icmp .ge 42, 3) := by decide +kernel
theorem dX6_tellsMask_242 : decode cX6_tellsMask 242 = .ok (.ldc2_w 238, 3) := by decide +kernel
theorem dX6_tellsMask_245 : decode cX6_tellsMask 245 = .ok (.lload 4, 2) := by decide +kernel
theorem dX6_tellsMask_247 : decode cX6_tellsMask 247 = .ok (.lmul, 1) := by decide +kernel
theorem dX6_tellsMask_248 : decode cX6_tellsMask 248 = .ok (.iload 6, 2) := by decide +kernel
theorem dX6_tellsMask_250 : decode cX6_tellsMask 250 = .ok (.aload_n 0, 1) := by decide +kernel
theorem dX6_tellsMask_251 : decode cX6_tellsMask 251 = .ok (.getfield 144, 3) := by decide +kernel
theorem dX6_tellsMask_254 : decode cX6_tellsMask 254 = .ok (.if_icmp .ge 15, 3) := by decide +kernel
theorem dX6_tellsMask_257 : decode cX6_tellsMask 257 = .ok (.aload_n 0, 1) := by decide +kernel
theorem dX6_tellsMask_258 : decode cX6_tellsMask 258 = .ok (.iload_n 3, 1) := by decide +kernel
theorem dX6_tellsMask_259 : decode cX6_tellsMask 259 = .ok (.iload 6, 2) := by decide +kernel
theorem dX6_tellsMask_261 : decode cX6_tellsMask 261 = .ok (.iload 7, 2) := by decide +kernel
theorem dX6_tellsMask_263 : decode cX6_tellsMask 263 = .ok (.invokevirtual 219, 3) := by decide +kernel
theorem dX6_tellsMask_266 : decode cX6_tellsMask 266 = .ok (.goto 5, 3) := by decide +kernel
theorem dX6_tellsMask_269 : decode cX6_tellsMask 269 = .ok (.bipush (-2), 2) := by decide +kernel
theorem dX6_tellsMask_271 : decode cX6_tellsMask 271 = .ok (.i2l, 1) := by decide +kernel
theorem dX6_tellsMask_272 : decode cX6_tellsMask 272 = .ok (.ladd, 1) := by decide +kernel
theorem dX6_tellsMask_273 : decode cX6_tellsMask 273 = .ok (.lstore 4, 2) := by decide +kernel
theorem dX6_tellsMask_275 : decode cX6_tellsMask 275 = .ok (.iinc 7 1, 3) := by decide +kernel
theorem dX6_tellsMask_278 : decode cX6_tellsMask 278 = .ok (.goto (-43), 3) := by decide +kernel
theorem dX6_tellsMask_281 : decode cX6_tellsMask 281 = .ok (.iinc 6 1, 3) := by decide +kernel
theorem dX6_tellsMask_284 : decode cX6_tellsMask 284 = .ok (.goto (-58), 3) := by decide +kernel
theorem dX6_tellsMask_287 : decode cX6_tellsMask 287 = .ok (.iconst 0, 1) := by decide +kernel
theorem dX6_tellsMask_288 : decode cX6_tellsMask 288 = .ok (.istore 6, 2) := by decide +kernel
theorem dX6_tellsMask_290 : decode cX6_tellsMask 290 = .ok (.iload 6, 2) := by decide +kernel
theorem dX6_tellsMask_292 : decode cX6_tellsMask 292 = .ok (.iconst 4, 1) := by decide +kernel
theorem dX6_tellsMask_293 : decode cX6_tellsMask 293 = .ok (.if_icmp .ge 43, 3) := by decide +kernel
theorem dX6_tellsMask_296 : decode cX6_tellsMask 296 = .ok (.iconst 0, 1) := by decide +kernel
theorem dX6_tellsMask_297 : decode cX6_tellsMask 297 = .ok (.istore 7, 2) := by decide +kernel
theorem dX6_tellsMask_299 : decode cX6_tellsMask 299 = .ok (.iload 7, 2) := by decide +kernel
theorem dX6_tellsMask_301 : decode cX6_tellsMask 301 = .ok (.iconst 4, 1) := by decide +kernel
theorem dX6_tellsMask_302 : decode cX6_tellsMask 302 = .ok (.if_icmp .ge 28, 3) := by decide +kernel
theorem dX6_tellsMask_305 : decode cX6_tellsMask 305 = .ok (.ldc2_w 238, 3) := by decide +kernel
theorem dX6_tellsMask_308 : decode cX6_tellsMask 308 = .ok (.lload 4, 2) := by decide +kernel
theorem dX6_tellsMask_310 : decode cX6_tellsMask 310 = .ok (.lmul, 1) := by decide +kernel
theorem dX6_tellsMask_311 : decode cX6_tellsMask 311 = .ok (.aload_n 0, 1) := by decide +kernel
theorem dX6_tellsMask_312 : decode cX6_tellsMask 312 = .ok (.iload_n 3, 1) := by decide +kernel
theorem dX6_tellsMask_313 : decode cX6_tellsMask 313 = .ok (.iload 6, 2) := by decide +kernel
theorem dX6_tellsMask_315 : decode cX6_tellsMask 315 = .ok (.iload 7, 2) := by decide +kernel
theorem dX6_tellsMask_317 : decode cX6_tellsMask 317 = .ok (.invokevirtual 225, 3) := by decide +kernel
theorem dX6_tellsMask_320 : decode cX6_tellsMask 320 = .ok (.i2l, 1) := by decide +kernel
theorem dX6_tellsMask_321 : decode cX6_tellsMask 321 = .ok (.ladd, 1) := by decide +kernel
theorem dX6_tellsMask_322 : decode cX6_tellsMask 322 = .ok (.lstore 4, 2) := by decide +kernel
theorem dX6_tellsMask_324 : decode cX6_tellsMask 324 = .ok (.iinc 7 1, 3) := by decide +kernel
theorem dX6_tellsMask_327 : decode cX6_tellsMask 327 = .ok (.goto (-28), 3) := by decide +kernel
theorem dX6_tellsMask_330 : decode cX6_tellsMask 330 = .ok (.iinc 6 1, 3) := by decide +kernel
theorem dX6_tellsMask_333 : decode cX6_tellsMask 333 = .ok (.goto (-43), 3) := by decide +kernel
theorem dX6_tellsMask_336 : decode cX6_tellsMask 336 = .ok (.lload 4, 2) := by decide +kernel
theorem dX6_tellsMask_338 : decode cX6_tellsMask 338 = .ok (.lreturn, 1) := by decide +kernel
set_option maxRecDepth 20000 in
theorem ggX6_digest_X6_count : GoodIn wsX6_digest wsX6_count := goodIn_r _ [7, 8, 9, 10, 11, 12, 6, 13, 14, 15, 16, 17, 18, 19, 20, 21, 22, 23, 24, 25, 26, 27, 28, 29, 30, 31, 32, 33, 34, 35, 36, 37, 38, 39, 40, 41, 42, 43, 44, 45, 46, 47, 48, 49, 50, 51, 52, 53, 54, 55, 56, 57, 58, 59, 60, 61, 62, 63, 64, 65, 66, 67, 68, 69, 70, 71, 72, 73, 74, 75, 76, 77, 78, 79, 80, 81, 82, 83, 84, 85, 132, 133, 134, 135, 136, 137, 138, 139, 140, 141, 142, 143, 144, 145, 146, 147, 148, 149, 150, 151, 152] (by decide +kernel) (by decide +kernel)
set_option maxRecDepth 20000 in
theorem gX6_digest_X6_count : GoodIn wsX6_digest (wsV RX6 242 RX6 yX6_count wsX6_count) := goodIn_app (goodIn_of _ (by decide +kernel)) ggX6_digest_X6_count
set_option maxRecDepth 20000 in
theorem ggX6_digest_X6_tellsMask : GoodIn wsX6_digest wsX6_tellsMask := goodIn_r _ [89, 2, 76, 71, 30, 31, 32, 6, 33, 34, 35, 36, 37, 38, 39, 40, 41, 42, 43, 44, 45, 46, 47, 48, 49, 50, 51, 52, 18, 14, 15, 16, 17, 19, 20, 21, 22, 23, 24, 25, 53, 54, 55, 56, 57, 58, 59, 60, 61, 62, 90, 91, 92, 93, 67, 68, 69, 70, 72, 73, 74, 75, 77, 78, 79, 80, 81, 94, 95, 96, 97, 98, 99, 100, 101, 102, 103, 104, 105, 10, 11, 12, 13, 106, 107, 108, 109, 110, 111, 112, 113, 114, 115, 116, 117, 118, 119, 120, 121, 122, 123, 124, 125, 126, 127, 128, 129, 130, 131, 132, 133, 134, 135, 136, 137, 138, 139, 140, 141, 142, 143, 144, 145, 146, 147, 148, 149, 150, 151, 152] (by decide +kernel) (by decide +kernel)
set_option maxRecDepth 20000 in
theorem gX6_digest_X6_tellsMask : GoodIn wsX6_digest (wsV RX6 245 RX6 yX6_tellsMask wsX6_tellsMask) := goodIn_app (goodIn_of _ (by decide +kernel)) ggX6_digest_X6_tellsMask
theorem dX6_digest_0 : decode cX6_digest 0 = .ok (.ldc2_w 240, 3) := by decide +kernel
theorem dX6_digest_3 : decode cX6_digest 3 = .ok (.lstore_n 1, 1) := by decide +kernel
theorem dX6_digest_4 : decode cX6_digest 4 = .ok (.iconst 0, 1) := by decide +kernel
theorem dX6_digest_5 : decode cX6_digest 5 = .ok (.istore_n 3, 1) := by decide +kernel
theorem dX6_digest_6 : decode cX6_digest 6 = .ok (.iload_n 3, 1) := by decide +kernel
theorem dX6_digest_7 : decode cX6_digest 7 = .ok (.bipush 8, 2) := by decide +kernel
theorem dX6_digest_9 : decode cX6_digest 9 = .ok (.if_icmp .ge 22, 3) := by decide +kernel
theorem dX6_digest_12 : decode cX6_digest 12 = .ok (.ldc2_w 238, 3) := by decide +kernel
theorem dX6_digest_15 : decode cX6_digest 15 = .ok (.lload_n 1, 1) := by decide +kernel
theorem dX6_digest_16 : decode cX6_digest 16 = .ok (.lmul, 1) := by decide +kernel
theorem dX6_digest_17 : decode cX6_digest 17 = .ok (.aload_n 0, 1) := by decide +kernel
theorem dX6_digest_18 : decode cX6_digest 18 = .ok (.iload_n 3, 1) := by decide +kernel
theorem dX6_digest_19 : decode cX6_digest 19 = .ok (.invokevirtual 242, 3) := by decide +kernel
theorem dX6_digest_22 : decode cX6_digest 22 = .ok (.i2l, 1) := by decide +kernel
theorem dX6_digest_23 : decode cX6_digest 23 = .ok (.ladd, 1) := by decide +kernel
theorem dX6_digest_24 : decode cX6_digest 24 = .ok (.lstore_n 1, 1) := by decide +kernel
theorem dX6_digest_25 : decode cX6_digest 25 = .ok (.iinc 3 1, 3) := by decide +kernel
theorem dX6_digest_28 : decode cX6_digest 28 = .ok (.goto (-22), 3) := by decide +kernel
theorem dX6_digest_31 : decode cX6_digest 31 = .ok (.iconst 0, 1) := by decide +kernel
theorem dX6_digest_32 : decode cX6_digest 32 = .ok (.istore_n 3, 1) := by decide +kernel
theorem dX6_digest_33 : decode cX6_digest 33 = .ok (.iload_n 3, 1) := by decide +kernel
theorem dX6_digest_34 : decode cX6_digest 34 = .ok (.iconst 4, 1) := by decide +kernel
theorem dX6_digest_35 : decode cX6_digest 35 = .ok (.if_icmp .ge 16, 3) := by decide +kernel
theorem dX6_digest_38 : decode cX6_digest 38 = .ok (.aload_n 0, 1) := by decide +kernel
theorem dX6_digest_39 : decode cX6_digest 39 = .ok (.lload_n 1, 1) := by decide +kernel
theorem dX6_digest_40 : decode cX6_digest 40 = .ok (.iload_n 3, 1) := by decide +kernel
theorem dX6_digest_41 : decode cX6_digest 41 = .ok (.invokevirtual 245, 3) := by decide +kernel
theorem dX6_digest_44 : decode cX6_digest 44 = .ok (.lstore_n 1, 1) := by decide +kernel
theorem dX6_digest_45 : decode cX6_digest 45 = .ok (.iinc 3 1, 3) := by decide +kernel
theorem dX6_digest_48 : decode cX6_digest 48 = .ok (.goto (-15), 3) := by decide +kernel
theorem dX6_digest_51 : decode cX6_digest 51 = .ok (.lload_n 1, 1) := by decide +kernel
theorem dX6_digest_52 : decode cX6_digest 52 = .ok (.lreturn, 1) := by decide +kernel
theorem dJ6_bitCount_0f7a4_0 : decode cJ6_bitCount_0f7a4 0 = .ok (.iload_n 0, 1) := by decide +kernel
theorem dJ6_bitCount_0f7a4_1 : decode cJ6_bitCount_0f7a4 1 = .ok (.iload_n 0, 1) := by decide +kernel
theorem dJ6_bitCount_0f7a4_2 : decode cJ6_bitCount_0f7a4 2 = .ok (.iconst 1, 1) := by decide +kernel
theorem dJ6_bitCount_0f7a4_3 : decode cJ6_bitCount_0f7a4 3 = .ok (.iushr, 1) := by decide +kernel
theorem dJ6_bitCount_0f7a4_4 : decode cJ6_bitCount_0f7a4 4 = .ok (.ldc_w 265, 3) := by decide +kernel
theorem dJ6_bitCount_0f7a4_7 : decode cJ6_bitCount_0f7a4 7 = .ok (.iand, 1) := by decide +kernel
theorem dJ6_bitCount_0f7a4_8 : decode cJ6_bitCount_0f7a4 8 = .ok (.isub, 1) := by decide +kernel
theorem dJ6_bitCount_0f7a4_9 : decode cJ6_bitCount_0f7a4 9 = .ok (.istore_n 0, 1) := by decide +kernel
theorem dJ6_bitCount_0f7a4_10 : decode cJ6_bitCount_0f7a4 10 = .ok (.iload_n 0, 1) := by decide +kernel
theorem dJ6_bitCount_0f7a4_11 : decode cJ6_bitCount_0f7a4 11 = .ok (.ldc_w 266, 3) := by decide +kernel
theorem dJ6_bitCount_0f7a4_14 : decode cJ6_bitCount_0f7a4 14 = .ok (.iand, 1) := by decide +kernel
theorem dJ6_bitCount_0f7a4_15 : decode cJ6_bitCount_0f7a4 15 = .ok (.iload_n 0, 1) := by decide +kernel
theorem dJ6_bitCount_0f7a4_16 : decode cJ6_bitCount_0f7a4 16 = .ok (.iconst 2, 1) := by decide +kernel
theorem dJ6_bitCount_0f7a4_17 : decode cJ6_bitCount_0f7a4 17 = .ok (.iushr, 1) := by decide +kernel
theorem dJ6_bitCount_0f7a4_18 : decode cJ6_bitCount_0f7a4 18 = .ok (.ldc_w 266, 3) := by decide +kernel
theorem dJ6_bitCount_0f7a4_21 : decode cJ6_bitCount_0f7a4 21 = .ok (.iand, 1) := by decide +kernel
theorem dJ6_bitCount_0f7a4_22 : decode cJ6_bitCount_0f7a4 22 = .ok (.iadd, 1) := by decide +kernel
theorem dJ6_bitCount_0f7a4_23 : decode cJ6_bitCount_0f7a4 23 = .ok (.istore_n 0, 1) := by decide +kernel
theorem dJ6_bitCount_0f7a4_24 : decode cJ6_bitCount_0f7a4 24 = .ok (.iload_n 0, 1) := by decide +kernel
theorem dJ6_bitCount_0f7a4_25 : decode cJ6_bitCount_0f7a4 25 = .ok (.iload_n 0, 1) := by decide +kernel
theorem dJ6_bitCount_0f7a4_26 : decode cJ6_bitCount_0f7a4 26 = .ok (.iconst 4, 1) := by decide +kernel
theorem dJ6_bitCount_0f7a4_27 : decode cJ6_bitCount_0f7a4 27 = .ok (.iushr, 1) := by decide +kernel
theorem dJ6_bitCount_0f7a4_28 : decode cJ6_bitCount_0f7a4 28 = .ok (.iadd, 1) := by decide +kernel
theorem dJ6_bitCount_0f7a4_29 : decode cJ6_bitCount_0f7a4 29 = .ok (.ldc_w 267, 3) := by decide +kernel
theorem dJ6_bitCount_0f7a4_32 : decode cJ6_bitCount_0f7a4 32 = .ok (.iand, 1) := by decide +kernel
theorem dJ6_bitCount_0f7a4_33 : decode cJ6_bitCount_0f7a4 33 = .ok (.istore_n 0, 1) := by decide +kernel
theorem dJ6_bitCount_0f7a4_34 : decode cJ6_bitCount_0f7a4 34 = .ok (.iload_n 0, 1) := by decide +kernel
theorem dJ6_bitCount_0f7a4_35 : decode cJ6_bitCount_0f7a4 35 = .ok (.iload_n 0, 1) := by decide +kernel
theorem dJ6_bitCount_0f7a4_36 : decode cJ6_bitCount_0f7a4 36 = .ok (.bipush 8, 2) := by decide +kernel
theorem dJ6_bitCount_0f7a4_38 : decode cJ6_bitCount_0f7a4 38 = .ok (.iushr, 1) := by decide +kernel
theorem dJ6_bitCount_0f7a4_39 : decode cJ6_bitCount_0f7a4 39 = .ok (.iadd, 1) := by decide +kernel
theorem dJ6_bitCount_0f7a4_40 : decode cJ6_bitCount_0f7a4 40 = .ok (.istore_n 0, 1) := by decide +kernel
theorem dJ6_bitCount_0f7a4_41 : decode cJ6_bitCount_0f7a4 41 = .ok (.iload_n 0, 1) := by decide +kernel
theorem dJ6_bitCount_0f7a4_42 : decode cJ6_bitCount_0f7a4 42 = .ok (.iload_n 0, 1) := by decide +kernel
theorem dJ6_bitCount_0f7a4_43 : decode cJ6_bitCount_0f7a4 43 = .ok (.bipush 16, 2) := by decide +kernel
theorem dJ6_bitCount_0f7a4_45 : decode cJ6_bitCount_0f7a4 45 = .ok (.iushr, 1) := by decide +kernel
theorem dJ6_bitCount_0f7a4_46 : decode cJ6_bitCount_0f7a4 46 = .ok (.iadd, 1) := by decide +kernel
theorem dJ6_bitCount_0f7a4_47 : decode cJ6_bitCount_0f7a4 47 = .ok (.istore_n 0, 1) := by decide +kernel
theorem dJ6_bitCount_0f7a4_48 : decode cJ6_bitCount_0f7a4 48 = .ok (.iload_n 0, 1) := by decide +kernel
theorem dJ6_bitCount_0f7a4_49 : decode cJ6_bitCount_0f7a4 49 = .ok (.bipush 63, 2) := by decide +kernel
theorem dJ6_bitCount_0f7a4_51 : decode cJ6_bitCount_0f7a4 51 = .ok (.iand, 1) := by decide +kernel
theorem dJ6_bitCount_0f7a4_52 : decode cJ6_bitCount_0f7a4 52 = .ok (.ireturn, 1) := by decide +kernel
theorem dJ9_abs_0f7a4_0 : decode cJ9_abs_0f7a4 0 = .ok (.iload_n 0, 1) := by decide +kernel
theorem dJ9_abs_0f7a4_1 : decode cJ9_abs_0f7a4 1 = .ok (.ifCond .ge 8, 3) := by decide +kernel
theorem dJ9_abs_0f7a4_4 : decode cJ9_abs_0f7a4 4 = .ok (.iload_n 0, 1) := by decide +kernel
theorem dJ9_abs_0f7a4_5 : decode cJ9_abs_0f7a4 5 = .ok (.ineg, 1) := by decide +kernel
theorem dJ9_abs_0f7a4_6 : decode cJ9_abs_0f7a4 6 = .ok (.goto 4, 3) := by decide +kernel
theorem dJ9_abs_0f7a4_9 : decode cJ9_abs_0f7a4 9 = .ok (.iload_n 0, 1) := by decide +kernel
theorem dJ9_abs_0f7a4_10 : decode cJ9_abs_0f7a4 10 = .ok (.ireturn, 1) := by decide +kernel
theorem dJ9_max_7cf53_0 : decode cJ9_max_7cf53 0 = .ok (.iload_n 0, 1) := by decide +kernel
theorem dJ9_max_7cf53_1 : decode cJ9_max_7cf53 1 = .ok (.iload_n 1, 1) := by decide +kernel
theorem dJ9_max_7cf53_2 : decode cJ9_max_7cf53 2 = .ok (.if_icmp .lt 7, 3) := by decide +kernel
theorem dJ9_max_7cf53_5 : decode cJ9_max_7cf53 5 = .ok (.iload_n 0, 1) := by decide +kernel
theorem dJ9_max_7cf53_6 : decode cJ9_max_7cf53 6 = .ok (.goto 4, 3) := by decide +kernel
theorem dJ9_max_7cf53_9 : decode cJ9_max_7cf53 9 = .ok (.iload_n 1, 1) := by decide +kernel
theorem dJ9_max_7cf53_10 : decode cJ9_max_7cf53 10 = .ok (.ireturn, 1) := by decide +kernel
theorem dJ9_min_7cf53_0 : decode cJ9_min_7cf53 0 = .ok (.iload_n 0, 1) := by decide +kernel
theorem dJ9_min_7cf53_1 : decode cJ9_min_7cf53 1 = .ok (.iload_n 1, 1) := by decide +kernel
theorem dJ9_min_7cf53_2 : decode cJ9_min_7cf53 2 = .ok (.if_icmp .gt 7, 3) := by decide +kernel
theorem dJ9_min_7cf53_5 : decode cJ9_min_7cf53 5 = .ok (.iload_n 0, 1) := by decide +kernel
theorem dJ9_min_7cf53_6 : decode cJ9_min_7cf53 6 = .ok (.goto 4, 3) := by decide +kernel
theorem dJ9_min_7cf53_9 : decode cJ9_min_7cf53 9 = .ok (.iload_n 1, 1) := by decide +kernel
theorem dJ9_min_7cf53_10 : decode cJ9_min_7cf53 10 = .ok (.ireturn, 1) := by decide +kernel
theorem dJ7_fill_53178_0 : decode cJ7_fill_53178 0 = .ok (.iconst 0, 1) := by decide +kernel
theorem dJ7_fill_53178_1 : decode cJ7_fill_53178 1 = .ok (.istore_n 2, 1) := by decide +kernel
theorem dJ7_fill_53178_2 : decode cJ7_fill_53178 2 = .ok (.aload_n 0, 1) := by decide +kernel
theorem dJ7_fill_53178_3 : decode cJ7_fill_53178 3 = .ok (.arraylength, 1) := by decide +kernel
theorem dJ7_fill_53178_4 : decode cJ7_fill_53178 4 = .ok (.istore_n 3, 1) := by decide +kernel
theorem dJ7_fill_53178_5 : decode cJ7_fill_53178 5 = .ok (.iload_n 2, 1) := by decide +kernel
theorem dJ7_fill_53178_6 : decode cJ7_fill_53178 6 = .ok (.iload_n 3, 1) := by decide +kernel
theorem dJ7_fill_53178_7 : decode cJ7_fill_53178 7 = .ok (.if_icmp .ge 13, 3) := by decide +kernel
theorem dJ7_fill_53178_10 : decode cJ7_fill_53178 10 = .ok (.aload_n 0, 1) := by decide +kernel
theorem dJ7_fill_53178_11 : decode cJ7_fill_53178 11 = .ok (.iload_n 2, 1) := by decide +kernel
theorem dJ7_fill_53178_12 : decode cJ7_fill_53178 12 = .ok (.iload_n 1, 1) := by decide +kernel
theorem dJ7_fill_53178_13 : decode cJ7_fill_53178 13 = .ok (.iastore, 1) := by decide +kernel
theorem dJ7_fill_53178_14 : decode cJ7_fill_53178 14 = .ok (.iinc 2 1, 3) := by decide +kernel
theorem dJ7_fill_53178_17 : decode cJ7_fill_53178 17 = .ok (.goto (-12), 3) := by decide +kernel
theorem dJ7_fill_53178_20 : decode cJ7_fill_53178 20 = .ok (.return_, 1) := by decide +kernel
end
