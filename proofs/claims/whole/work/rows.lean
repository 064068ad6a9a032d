section
-- ===== PART A: goes FIRST, ahead of the names: the tables' words, and 'selects' of the private methods out of them =====
/-- a private method of a class that the tables say can be made, by its rows of tables_1 -/
def lw_okq (q : MethodName × Nat) : Prop := (q.1.cls ≠ "java/lang/invoke/MethodHandle" ∧ q.1.cls ≠ "java/lang/invoke/VarHandle") ∧ Cond.instantiable q.1.cls q.2 ∈ tables_1 ∧ Cond.privateMethod q.1 ∈ tables_1 ∧ Cond.instanceMethod q.1 ∈ tables_1
theorem lw_p0 : lw_okq (⟨"LinkPredictor$Hierarchy", "settle", "()V"⟩, 10) := ⟨⟨by decide +kernel, by decide +kernel⟩, List.mem_of_getElem? (i := 26) (by decide +kernel), List.mem_of_getElem? (i := 35) (by decide +kernel), List.mem_of_getElem? (i := 36) (by decide +kernel)⟩
theorem lw_p1 : lw_okq (⟨"LinkPredictor$Hierarchy", "loadInside", "(II)I"⟩, 10) := ⟨⟨by decide +kernel, by decide +kernel⟩, List.mem_of_getElem? (i := 26) (by decide +kernel), List.mem_of_getElem? (i := 39) (by decide +kernel), List.mem_of_getElem? (i := 40) (by decide +kernel)⟩
theorem lw_p2 : lw_okq (⟨"LinkPredictor$Hierarchy", "loadParents", "(II)I"⟩, 10) := ⟨⟨by decide +kernel, by decide +kernel⟩, List.mem_of_getElem? (i := 26) (by decide +kernel), List.mem_of_getElem? (i := 50) (by decide +kernel), List.mem_of_getElem? (i := 51) (by decide +kernel)⟩
theorem lw_p3 : lw_okq (⟨"LinkPredictor$Hierarchy", "hasWrongParents", "(I)Z"⟩, 10) := ⟨⟨by decide +kernel, by decide +kernel⟩, List.mem_of_getElem? (i := 26) (by decide +kernel), List.mem_of_getElem? (i := 60) (by decide +kernel), List.mem_of_getElem? (i := 61) (by decide +kernel)⟩
theorem lw_p4 : lw_okq (⟨"LinkPredictor$Hierarchy", "gatherSets", "(I)V"⟩, 10) := ⟨⟨by decide +kernel, by decide +kernel⟩, List.mem_of_getElem? (i := 26) (by decide +kernel), List.mem_of_getElem? (i := 68) (by decide +kernel), List.mem_of_getElem? (i := 69) (by decide +kernel)⟩
theorem lw_p5 : lw_okq (⟨"LinkPredictor$Members", "isPresent", "(I)Z"⟩, 6) := ⟨⟨by decide +kernel, by decide +kernel⟩, List.mem_of_getElem? (i := 104) (by decide +kernel), List.mem_of_getElem? (i := 243) (by decide +kernel), List.mem_of_getElem? (i := 244) (by decide +kernel)⟩
theorem lw_p6 : lw_okq (⟨"LinkPredictor$Build", "lookUpField", "(LLinkPredictor$Reference;)I"⟩, 3) := ⟨⟨by decide +kernel, by decide +kernel⟩, List.mem_of_getElem? (i := 20) (by decide +kernel), List.mem_of_getElem? (i := 332) (by decide +kernel), List.mem_of_getElem? (i := 333) (by decide +kernel)⟩
theorem lw_p7 : lw_okq (⟨"LinkPredictor$Build", "findField", "(II)I"⟩, 3) := ⟨⟨by decide +kernel, by decide +kernel⟩, List.mem_of_getElem? (i := 20) (by decide +kernel), List.mem_of_getElem? (i := 336) (by decide +kernel), List.mem_of_getElem? (i := 337) (by decide +kernel)⟩
theorem lw_p8 : lw_okq (⟨"LinkPredictor$Build", "lookUpMethod", "(LLinkPredictor$Reference;)I"⟩, 3) := ⟨⟨by decide +kernel, by decide +kernel⟩, List.mem_of_getElem? (i := 20) (by decide +kernel), List.mem_of_getElem? (i := 350) (by decide +kernel), List.mem_of_getElem? (i := 351) (by decide +kernel)⟩
theorem lw_p9 : lw_okq (⟨"LinkPredictor$Build", "findInInterface", "(II)I"⟩, 3) := ⟨⟨by decide +kernel, by decide +kernel⟩, List.mem_of_getElem? (i := 20) (by decide +kernel), List.mem_of_getElem? (i := 355) (by decide +kernel), List.mem_of_getElem? (i := 356) (by decide +kernel)⟩
theorem lw_p10 : lw_okq (⟨"LinkPredictor$Build", "findInAbove", "(II)I"⟩, 3) := ⟨⟨by decide +kernel, by decide +kernel⟩, List.mem_of_getElem? (i := 20) (by decide +kernel), List.mem_of_getElem? (i := 367) (by decide +kernel), List.mem_of_getElem? (i := 368) (by decide +kernel)⟩
theorem lw_p11 : lw_okq (⟨"LinkPredictor$Build", "findBest", "(II)I"⟩, 3) := ⟨⟨by decide +kernel, by decide +kernel⟩, List.mem_of_getElem? (i := 20) (by decide +kernel), List.mem_of_getElem? (i := 371) (by decide +kernel), List.mem_of_getElem? (i := 372) (by decide +kernel)⟩
theorem lw_p12 : lw_okq (⟨"LinkPredictor$Build", "findOnlyWithBody", "(II)I"⟩, 3) := ⟨⟨by decide +kernel, by decide +kernel⟩, List.mem_of_getElem? (i := 20) (by decide +kernel), List.mem_of_getElem? (i := 391) (by decide +kernel), List.mem_of_getElem? (i := 392) (by decide +kernel)⟩
theorem lw_p13 : lw_okq (⟨"LinkPredictor$Build", "findLeast", "(II)I"⟩, 3) := ⟨⟨by decide +kernel, by decide +kernel⟩, List.mem_of_getElem? (i := 20) (by decide +kernel), List.mem_of_getElem? (i := 399) (by decide +kernel), List.mem_of_getElem? (i := 400) (by decide +kernel)⟩
theorem lw_p14 : lw_okq (⟨"LinkPredictor$Build", "checkMember", "(LLinkPredictor$Reference;I)I"⟩, 3) := ⟨⟨by decide +kernel, by decide +kernel⟩, List.mem_of_getElem? (i := 20) (by decide +kernel), List.mem_of_getElem? (i := 406) (by decide +kernel), List.mem_of_getElem? (i := 407) (by decide +kernel)⟩
theorem lw_p15 : lw_okq (⟨"LinkPredictor$Build", "isAccessible", "(III)Z"⟩, 3) := ⟨⟨by decide +kernel, by decide +kernel⟩, List.mem_of_getElem? (i := 20) (by decide +kernel), List.mem_of_getElem? (i := 410) (by decide +kernel), List.mem_of_getElem? (i := 411) (by decide +kernel)⟩
def lw_privs_1 : List (MethodName × Nat) := [(⟨"LinkPredictor$Hierarchy", "settle", "()V"⟩, 10), (⟨"LinkPredictor$Hierarchy", "loadInside", "(II)I"⟩, 10), (⟨"LinkPredictor$Hierarchy", "loadParents", "(II)I"⟩, 10), (⟨"LinkPredictor$Hierarchy", "hasWrongParents", "(I)Z"⟩, 10), (⟨"LinkPredictor$Hierarchy", "gatherSets", "(I)V"⟩, 10), (⟨"LinkPredictor$Members", "isPresent", "(I)Z"⟩, 6), (⟨"LinkPredictor$Build", "lookUpField", "(LLinkPredictor$Reference;)I"⟩, 3), (⟨"LinkPredictor$Build", "findField", "(II)I"⟩, 3), (⟨"LinkPredictor$Build", "lookUpMethod", "(LLinkPredictor$Reference;)I"⟩, 3), (⟨"LinkPredictor$Build", "findInInterface", "(II)I"⟩, 3), (⟨"LinkPredictor$Build", "findInAbove", "(II)I"⟩, 3), (⟨"LinkPredictor$Build", "findBest", "(II)I"⟩, 3), (⟨"LinkPredictor$Build", "findOnlyWithBody", "(II)I"⟩, 3), (⟨"LinkPredictor$Build", "findLeast", "(II)I"⟩, 3), (⟨"LinkPredictor$Build", "checkMember", "(LLinkPredictor$Reference;I)I"⟩, 3), (⟨"LinkPredictor$Build", "isAccessible", "(III)Z"⟩, 3)]
theorem lw_r1 : ∀ q ∈ lw_privs_1, lw_okq q := List.forall_mem_cons.mpr ⟨lw_p0, List.forall_mem_cons.mpr ⟨lw_p1, List.forall_mem_cons.mpr ⟨lw_p2, List.forall_mem_cons.mpr ⟨lw_p3, List.forall_mem_cons.mpr ⟨lw_p4, List.forall_mem_cons.mpr ⟨lw_p5, List.forall_mem_cons.mpr ⟨lw_p6, List.forall_mem_cons.mpr ⟨lw_p7, List.forall_mem_cons.mpr ⟨lw_p8, List.forall_mem_cons.mpr ⟨lw_p9, List.forall_mem_cons.mpr ⟨lw_p10, List.forall_mem_cons.mpr ⟨lw_p11, List.forall_mem_cons.mpr ⟨lw_p12, List.forall_mem_cons.mpr ⟨lw_p13, List.forall_mem_cons.mpr ⟨lw_p14, List.forall_mem_cons.mpr ⟨lw_p15, fun _ h => absurd h List.not_mem_nil⟩⟩⟩⟩⟩⟩⟩⟩⟩⟩⟩⟩⟩⟩⟩⟩
theorem lw_p16 : lw_okq (⟨"LinkPredictor$Build", "isInherited", "(III)Z"⟩, 3) := ⟨⟨by decide +kernel, by decide +kernel⟩, List.mem_of_getElem? (i := 20) (by decide +kernel), List.mem_of_getElem? (i := 419) (by decide +kernel), List.mem_of_getElem? (i := 420) (by decide +kernel)⟩
theorem lw_p17 : lw_okq (⟨"LinkPredictor$Build", "isFit", "(II)Z"⟩, 3) := ⟨⟨by decide +kernel, by decide +kernel⟩, List.mem_of_getElem? (i := 20) (by decide +kernel), List.mem_of_getElem? (i := 459) (by decide +kernel), List.mem_of_getElem? (i := 460) (by decide +kernel)⟩
theorem lw_p18 : lw_okq (⟨"LinkPredictor$Build", "selectFor", "(III)I"⟩, 3) := ⟨⟨by decide +kernel, by decide +kernel⟩, List.mem_of_getElem? (i := 20) (by decide +kernel), List.mem_of_getElem? (i := 467) (by decide +kernel), List.mem_of_getElem? (i := 468) (by decide +kernel)⟩
theorem lw_p19 : lw_okq (⟨"LinkPredictor$Build", "overrides", "(II)Z"⟩, 3) := ⟨⟨by decide +kernel, by decide +kernel⟩, List.mem_of_getElem? (i := 20) (by decide +kernel), List.mem_of_getElem? (i := 471) (by decide +kernel), List.mem_of_getElem? (i := 472) (by decide +kernel)⟩
theorem lw_p20 : lw_okq (⟨"LinkPredictor$Build", "selectFromFaces", "(II)I"⟩, 3) := ⟨⟨by decide +kernel, by decide +kernel⟩, List.mem_of_getElem? (i := 20) (by decide +kernel), List.mem_of_getElem? (i := 476) (by decide +kernel), List.mem_of_getElem? (i := 477) (by decide +kernel)⟩
theorem lw_p21 : lw_okq (⟨"LinkPredictor$Build", "checkSelected", "(LLinkPredictor$Reference;I)I"⟩, 3) := ⟨⟨by decide +kernel, by decide +kernel⟩, List.mem_of_getElem? (i := 20) (by decide +kernel), List.mem_of_getElem? (i := 480) (by decide +kernel), List.mem_of_getElem? (i := 481) (by decide +kernel)⟩
theorem lw_p22 : lw_okq (⟨"LinkPredictor", "areAlike", "(II)Z"⟩, 4) := ⟨⟨by decide +kernel, by decide +kernel⟩, List.mem_of_getElem? (i := 11) (by decide +kernel), List.mem_of_getElem? (i := 488) (by decide +kernel), List.mem_of_getElem? (i := 489) (by decide +kernel)⟩
theorem lw_p23 : lw_okq (⟨"LinkPredictor", "isSuchReceiver", "(III)Z"⟩, 4) := ⟨⟨by decide +kernel, by decide +kernel⟩, List.mem_of_getElem? (i := 11) (by decide +kernel), List.mem_of_getElem? (i := 501) (by decide +kernel), List.mem_of_getElem? (i := 502) (by decide +kernel)⟩
theorem lw_p24 : lw_okq (⟨"LinkPredictor", "countGoodReferences", "(LLinkPredictor$Build;)I"⟩, 4) := ⟨⟨by decide +kernel, by decide +kernel⟩, List.mem_of_getElem? (i := 11) (by decide +kernel), List.mem_of_getElem? (i := 523) (by decide +kernel), List.mem_of_getElem? (i := 524) (by decide +kernel)⟩
theorem lw_p25 : lw_okq (⟨"LinkPredictorModel", "at", "(I)I"⟩, 21) := ⟨⟨by decide +kernel, by decide +kernel⟩, List.mem_of_getElem? (i := 541) (by decide +kernel), List.mem_of_getElem? (i := 619) (by decide +kernel), List.mem_of_getElem? (i := 620) (by decide +kernel)⟩
theorem lw_p26 : lw_okq (⟨"LinkPredictorModel", "isThere", "(I)Z"⟩, 21) := ⟨⟨by decide +kernel, by decide +kernel⟩, List.mem_of_getElem? (i := 541) (by decide +kernel), List.mem_of_getElem? (i := 627) (by decide +kernel), List.mem_of_getElem? (i := 628) (by decide +kernel)⟩
theorem lw_p27 : lw_okq (⟨"LinkPredictorModel", "own", "(IIZI)I"⟩, 21) := ⟨⟨by decide +kernel, by decide +kernel⟩, List.mem_of_getElem? (i := 541) (by decide +kernel), List.mem_of_getElem? (i := 639) (by decide +kernel), List.mem_of_getElem? (i := 640) (by decide +kernel)⟩
theorem lw_p28 : lw_okq (⟨"LinkPredictorModel", "isMember", "(I)Z"⟩, 21) := ⟨⟨by decide +kernel, by decide +kernel⟩, List.mem_of_getElem? (i := 541) (by decide +kernel), List.mem_of_getElem? (i := 647) (by decide +kernel), List.mem_of_getElem? (i := 648) (by decide +kernel)⟩
theorem lw_p29 : lw_okq (⟨"LinkPredictorModel", "loaded", "(II)I"⟩, 21) := ⟨⟨by decide +kernel, by decide +kernel⟩, List.mem_of_getElem? (i := 541) (by decide +kernel), List.mem_of_getElem? (i := 675) (by decide +kernel), List.mem_of_getElem? (i := 676) (by decide +kernel)⟩
theorem lw_p30 : lw_okq (⟨"LinkPredictorModel", "isChanged", "(II)Z"⟩, 21) := ⟨⟨by decide +kernel, by decide +kernel⟩, List.mem_of_getElem? (i := 541) (by decide +kernel), List.mem_of_getElem? (i := 685) (by decide +kernel), List.mem_of_getElem? (i := 686) (by decide +kernel)⟩
theorem lw_p31 : lw_okq (⟨"LinkPredictorModel", "isAsk", "(II)Z"⟩, 21) := ⟨⟨by decide +kernel, by decide +kernel⟩, List.mem_of_getElem? (i := 541) (by decide +kernel), List.mem_of_getElem? (i := 693) (by decide +kernel), List.mem_of_getElem? (i := 694) (by decide +kernel)⟩
def lw_privs_2 : List (MethodName × Nat) := [(⟨"LinkPredictor$Build", "isInherited", "(III)Z"⟩, 3), (⟨"LinkPredictor$Build", "isFit", "(II)Z"⟩, 3), (⟨"LinkPredictor$Build", "selectFor", "(III)I"⟩, 3), (⟨"LinkPredictor$Build", "overrides", "(II)Z"⟩, 3), (⟨"LinkPredictor$Build", "selectFromFaces", "(II)I"⟩, 3), (⟨"LinkPredictor$Build", "checkSelected", "(LLinkPredictor$Reference;I)I"⟩, 3), (⟨"LinkPredictor", "areAlike", "(II)Z"⟩, 4), (⟨"LinkPredictor", "isSuchReceiver", "(III)Z"⟩, 4), (⟨"LinkPredictor", "countGoodReferences", "(LLinkPredictor$Build;)I"⟩, 4), (⟨"LinkPredictorModel", "at", "(I)I"⟩, 21), (⟨"LinkPredictorModel", "isThere", "(I)Z"⟩, 21), (⟨"LinkPredictorModel", "own", "(IIZI)I"⟩, 21), (⟨"LinkPredictorModel", "isMember", "(I)Z"⟩, 21), (⟨"LinkPredictorModel", "loaded", "(II)I"⟩, 21), (⟨"LinkPredictorModel", "isChanged", "(II)Z"⟩, 21), (⟨"LinkPredictorModel", "isAsk", "(II)Z"⟩, 21)]
theorem lw_r2 : ∀ q ∈ lw_privs_2, lw_okq q := List.forall_mem_cons.mpr ⟨lw_p16, List.forall_mem_cons.mpr ⟨lw_p17, List.forall_mem_cons.mpr ⟨lw_p18, List.forall_mem_cons.mpr ⟨lw_p19, List.forall_mem_cons.mpr ⟨lw_p20, List.forall_mem_cons.mpr ⟨lw_p21, List.forall_mem_cons.mpr ⟨lw_p22, List.forall_mem_cons.mpr ⟨lw_p23, List.forall_mem_cons.mpr ⟨lw_p24, List.forall_mem_cons.mpr ⟨lw_p25, List.forall_mem_cons.mpr ⟨lw_p26, List.forall_mem_cons.mpr ⟨lw_p27, List.forall_mem_cons.mpr ⟨lw_p28, List.forall_mem_cons.mpr ⟨lw_p29, List.forall_mem_cons.mpr ⟨lw_p30, List.forall_mem_cons.mpr ⟨lw_p31, fun _ h => absurd h List.not_mem_nil⟩⟩⟩⟩⟩⟩⟩⟩⟩⟩⟩⟩⟩⟩⟩⟩
theorem lw_p32 : lw_okq (⟨"LinkPredictorModel", "resolved", "(II)I"⟩, 21) := ⟨⟨by decide +kernel, by decide +kernel⟩, List.mem_of_getElem? (i := 541) (by decide +kernel), List.mem_of_getElem? (i := 697) (by decide +kernel), List.mem_of_getElem? (i := 698) (by decide +kernel)⟩
theorem lw_p33 : lw_okq (⟨"LinkPredictorModel", "field", "(III)I"⟩, 21) := ⟨⟨by decide +kernel, by decide +kernel⟩, List.mem_of_getElem? (i := 541) (by decide +kernel), List.mem_of_getElem? (i := 701) (by decide +kernel), List.mem_of_getElem? (i := 702) (by decide +kernel)⟩
theorem lw_p34 : lw_okq (⟨"LinkPredictorModel", "lay", "(II)I"⟩, 21) := ⟨⟨by decide +kernel, by decide +kernel⟩, List.mem_of_getElem? (i := 541) (by decide +kernel), List.mem_of_getElem? (i := 705) (by decide +kernel), List.mem_of_getElem? (i := 706) (by decide +kernel)⟩
theorem lw_p35 : lw_okq (⟨"LinkPredictorModel", "find", "(III)I"⟩, 21) := ⟨⟨by decide +kernel, by decide +kernel⟩, List.mem_of_getElem? (i := 541) (by decide +kernel), List.mem_of_getElem? (i := 709) (by decide +kernel), List.mem_of_getElem? (i := 710) (by decide +kernel)⟩
theorem lw_p36 : lw_okq (⟨"LinkPredictorModel", "specific", "(III)I"⟩, 21) := ⟨⟨by decide +kernel, by decide +kernel⟩, List.mem_of_getElem? (i := 541) (by decide +kernel), List.mem_of_getElem? (i := 713) (by decide +kernel), List.mem_of_getElem? (i := 714) (by decide +kernel)⟩
theorem lw_p37 : lw_okq (⟨"LinkPredictorModel", "facesOf", "(II)I"⟩, 21) := ⟨⟨by decide +kernel, by decide +kernel⟩, List.mem_of_getElem? (i := 541) (by decide +kernel), List.mem_of_getElem? (i := 717) (by decide +kernel), List.mem_of_getElem? (i := 718) (by decide +kernel)⟩
theorem lw_p38 : lw_okq (⟨"LinkPredictorModel", "aboveOf", "(II)I"⟩, 21) := ⟨⟨by decide +kernel, by decide +kernel⟩, List.mem_of_getElem? (i := 541) (by decide +kernel), List.mem_of_getElem? (i := 721) (by decide +kernel), List.mem_of_getElem? (i := 722) (by decide +kernel)⟩
theorem lw_p39 : lw_okq (⟨"LinkPredictorModel", "offers", "(III)Z"⟩, 21) := ⟨⟨by decide +kernel, by decide +kernel⟩, List.mem_of_getElem? (i := 541) (by decide +kernel), List.mem_of_getElem? (i := 725) (by decide +kernel), List.mem_of_getElem? (i := 726) (by decide +kernel)⟩
theorem lw_p40 : lw_okq (⟨"LinkPredictorModel", "under", "(III)Z"⟩, 21) := ⟨⟨by decide +kernel, by decide +kernel⟩, List.mem_of_getElem? (i := 541) (by decide +kernel), List.mem_of_getElem? (i := 729) (by decide +kernel), List.mem_of_getElem? (i := 730) (by decide +kernel)⟩
theorem lw_p41 : lw_okq (⟨"LinkPredictorModel", "bodied", "(III)I"⟩, 21) := ⟨⟨by decide +kernel, by decide +kernel⟩, List.mem_of_getElem? (i := 541) (by decide +kernel), List.mem_of_getElem? (i := 733) (by decide +kernel), List.mem_of_getElem? (i := 734) (by decide +kernel)⟩
theorem lw_p42 : lw_okq (⟨"LinkPredictorModel", "isOpen", "(IIII)Z"⟩, 21) := ⟨⟨by decide +kernel, by decide +kernel⟩, List.mem_of_getElem? (i := 541) (by decide +kernel), List.mem_of_getElem? (i := 737) (by decide +kernel), List.mem_of_getElem? (i := 738) (by decide +kernel)⟩
theorem lw_p43 : lw_okq (⟨"LinkPredictorModel", "nestOf", "(II)I"⟩, 21) := ⟨⟨by decide +kernel, by decide +kernel⟩, List.mem_of_getElem? (i := 541) (by decide +kernel), List.mem_of_getElem? (i := 741) (by decide +kernel), List.mem_of_getElem? (i := 742) (by decide +kernel)⟩
theorem lw_p44 : lw_okq (⟨"LinkPredictorModel", "selects", "(II)Z"⟩, 21) := ⟨⟨by decide +kernel, by decide +kernel⟩, List.mem_of_getElem? (i := 541) (by decide +kernel), List.mem_of_getElem? (i := 749) (by decide +kernel), List.mem_of_getElem? (i := 750) (by decide +kernel)⟩
theorem lw_p45 : lw_okq (⟨"LinkPredictorModel", "selected", "(III)I"⟩, 21) := ⟨⟨by decide +kernel, by decide +kernel⟩, List.mem_of_getElem? (i := 541) (by decide +kernel), List.mem_of_getElem? (i := 753) (by decide +kernel), List.mem_of_getElem? (i := 754) (by decide +kernel)⟩
theorem lw_p46 : lw_okq (⟨"LinkPredictorModel", "isLoaded", "(II)Z"⟩, 21) := ⟨⟨by decide +kernel, by decide +kernel⟩, List.mem_of_getElem? (i := 541) (by decide +kernel), List.mem_of_getElem? (i := 757) (by decide +kernel), List.mem_of_getElem? (i := 758) (by decide +kernel)⟩
theorem lw_p47 : lw_okq (⟨"LinkPredictorModel", "overrides", "(III)Z"⟩, 21) := ⟨⟨by decide +kernel, by decide +kernel⟩, List.mem_of_getElem? (i := 541) (by decide +kernel), List.mem_of_getElem? (i := 761) (by decide +kernel), List.mem_of_getElem? (i := 762) (by decide +kernel)⟩
def lw_privs_3 : List (MethodName × Nat) := [(⟨"LinkPredictorModel", "resolved", "(II)I"⟩, 21), (⟨"LinkPredictorModel", "field", "(III)I"⟩, 21), (⟨"LinkPredictorModel", "lay", "(II)I"⟩, 21), (⟨"LinkPredictorModel", "find", "(III)I"⟩, 21), (⟨"LinkPredictorModel", "specific", "(III)I"⟩, 21), (⟨"LinkPredictorModel", "facesOf", "(II)I"⟩, 21), (⟨"LinkPredictorModel", "aboveOf", "(II)I"⟩, 21), (⟨"LinkPredictorModel", "offers", "(III)Z"⟩, 21), (⟨"LinkPredictorModel", "under", "(III)Z"⟩, 21), (⟨"LinkPredictorModel", "bodied", "(III)I"⟩, 21), (⟨"LinkPredictorModel", "isOpen", "(IIII)Z"⟩, 21), (⟨"LinkPredictorModel", "nestOf", "(II)I"⟩, 21), (⟨"LinkPredictorModel", "selects", "(II)Z"⟩, 21), (⟨"LinkPredictorModel", "selected", "(III)I"⟩, 21), (⟨"LinkPredictorModel", "isLoaded", "(II)Z"⟩, 21), (⟨"LinkPredictorModel", "overrides", "(III)Z"⟩, 21)]
theorem lw_r3 : ∀ q ∈ lw_privs_3, lw_okq q := List.forall_mem_cons.mpr ⟨lw_p32, List.forall_mem_cons.mpr ⟨lw_p33, List.forall_mem_cons.mpr ⟨lw_p34, List.forall_mem_cons.mpr ⟨lw_p35, List.forall_mem_cons.mpr ⟨lw_p36, List.forall_mem_cons.mpr ⟨lw_p37, List.forall_mem_cons.mpr ⟨lw_p38, List.forall_mem_cons.mpr ⟨lw_p39, List.forall_mem_cons.mpr ⟨lw_p40, List.forall_mem_cons.mpr ⟨lw_p41, List.forall_mem_cons.mpr ⟨lw_p42, List.forall_mem_cons.mpr ⟨lw_p43, List.forall_mem_cons.mpr ⟨lw_p44, List.forall_mem_cons.mpr ⟨lw_p45, List.forall_mem_cons.mpr ⟨lw_p46, List.forall_mem_cons.mpr ⟨lw_p47, fun _ h => absurd h List.not_mem_nil⟩⟩⟩⟩⟩⟩⟩⟩⟩⟩⟩⟩⟩⟩⟩⟩
theorem lw_p48 : lw_okq (⟨"LinkPredictorModel", "areAlike", "(II)Z"⟩, 21) := ⟨⟨by decide +kernel, by decide +kernel⟩, List.mem_of_getElem? (i := 541) (by decide +kernel), List.mem_of_getElem? (i := 769) (by decide +kernel), List.mem_of_getElem? (i := 770) (by decide +kernel)⟩
theorem lw_p49 : lw_okq (⟨"LinkPredictorModel", "neighbours", "(I)I"⟩, 21) := ⟨⟨by decide +kernel, by decide +kernel⟩, List.mem_of_getElem? (i := 541) (by decide +kernel), List.mem_of_getElem? (i := 785) (by decide +kernel), List.mem_of_getElem? (i := 786) (by decide +kernel)⟩
def lw_privs_4 : List (MethodName × Nat) := [(⟨"LinkPredictorModel", "areAlike", "(II)Z"⟩, 21), (⟨"LinkPredictorModel", "neighbours", "(I)I"⟩, 21)]
theorem lw_r4 : ∀ q ∈ lw_privs_4, lw_okq q := List.forall_mem_cons.mpr ⟨lw_p48, List.forall_mem_cons.mpr ⟨lw_p49, fun _ h => absurd h List.not_mem_nil⟩⟩
def lw_privs : List (MethodName × Nat) := lw_privs_1 ++ (lw_privs_2 ++ (lw_privs_3 ++ (lw_privs_4)))
def lw_tbl : List Cond := k2_sels lw_privs ++ tables_1
theorem lw_privs_ok : ∀ q ∈ lw_privs, lw_okq q := by
  show ∀ q ∈ lw_privs_1 ++ (lw_privs_2 ++ (lw_privs_3 ++ (lw_privs_4))), lw_okq q
  exact List.forall_mem_append.mpr ⟨lw_r1, List.forall_mem_append.mpr ⟨lw_r2, List.forall_mem_append.mpr ⟨lw_r3, lw_r4⟩⟩⟩
end
section
/-! ===== BEGIN words of one list among another's, by their places ===== -/
theorem goodIn_r {big : List Cond} (ws : List Cond) (ps : List Nat) (hp : ws = ps.filterMap (fun i => big[i]?)) (h : ws.all goodWord = true) : GoodIn big ws := by
  intro w hw
  have h1 := List.all_eq_true.mp h w hw
  rw [hp] at hw
  obtain ⟨i, -, hi⟩ := List.mem_filterMap.mp hw
  have hm : w ∈ big := by first | exact List.mem_of_getElem? hi | exact List.getElem?_mem hi
  exact ⟨hm, good_of_word h1⟩
theorem goodIn_app {big a b : List Cond} (ha : GoodIn big a) (hb : GoodIn big b) : GoodIn big (a ++ b) := fun w h => (List.mem_append.mp h).elim (ha w) (hb w)
theorem goodIn_ca {big a b : List Cond} {c : Cond} (ha : GoodIn big (c :: a)) (hb : GoodIn big b) : GoodIn big (c :: (a ++ b)) := fun w h => (List.mem_cons.mp h).elim (fun e => ha w (List.mem_cons.mpr (Or.inl e))) (fun h => (List.mem_append.mp h).elim (fun h => ha w (List.mem_cons.mpr (Or.inr h))) (hb w))
theorem goodIn_sub {big ws : List Cond} (hm : ∀ w ∈ ws, w ∈ big) (h : ws.all goodWord = true) : GoodIn big ws := fun w hw => ⟨hm w hw, good_of_word (List.all_eq_true.mp h w hw)⟩
/-! ===== END ===== -/

/-! ===== BEGIN printed: names, fields, word lists, decode rows ===== -/
def RX0 : String := "LinkPredictor$Build"
def TX0 : u_T := fun k => match k with
  | 0 => ("LinkPredictor$Build", "types", "LLinkPredictor$Hierarchy;", true)
  | 1 => ("LinkPredictor$Build", "members", "LLinkPredictor$Members;", true)
  | _ => ("LinkPredictor$Build", "searched", "I", false)
def tyX0 : Nat → FieldType := fun k => match k with
  | 0 => .object "LinkPredictor$Hierarchy"
  | 1 => .object "LinkPredictor$Members"
  | _ => .int
abbrev wsX00 : List Cond := u_ws RX0 TX0 3
theorem nmX0 : ∀ a, a < 3 → ∀ b, b < 3 → a ≠ b → (TX0 a).2.1 ≠ (TX0 b).2.1 := by decide +kernel
theorem tyX0_ok : ∀ k, k < 3 → parseFieldDescriptor (TX0 k).2.2.1 = some (tyX0 k) := by decide +kernel
abbrev cX0_init : ByteArray := prog_2_method_1_code
def yX0_init : MethodName := ⟨RX0, "<init>", "()V"⟩
abbrev cX0_discardType : ByteArray := prog_2_method_2_code
def yX0_discardType : MethodName := ⟨RX0, "discardType", "(I)Z"⟩
abbrev cX0_addMember : ByteArray := prog_2_method_3_code
def yX0_addMember : MethodName := ⟨RX0, "addMember", "(IZIII)I"⟩
abbrev cX0_becomeAs : ByteArray := prog_2_method_4_code
def yX0_becomeAs : MethodName := ⟨RX0, "becomeAs", "(LLinkPredictor$Build;)V"⟩
abbrev cX0_resolution : ByteArray := prog_2_method_5_code
def yX0_resolution : MethodName := ⟨RX0, "resolution", "(LLinkPredictor$Reference;)I"⟩
abbrev cX0_selection : ByteArray := prog_2_method_6_code
def yX0_selection : MethodName := ⟨RX0, "selection", "(LLinkPredictor$Reference;II)I"⟩
abbrev cX0_lookUpField : ByteArray := prog_2_method_7_code
def yX0_lookUpField : MethodName := ⟨RX0, "lookUpField", "(LLinkPredictor$Reference;)I"⟩
abbrev cX0_findField : ByteArray := prog_2_method_8_code
def yX0_findField : MethodName := ⟨RX0, "findField", "(II)I"⟩
abbrev cX0_lookUpMethod : ByteArray := prog_2_method_9_code
def yX0_lookUpMethod : MethodName := ⟨RX0, "lookUpMethod", "(LLinkPredictor$Reference;)I"⟩
abbrev cX0_findInInterface : ByteArray := prog_2_method_10_code
def yX0_findInInterface : MethodName := ⟨RX0, "findInInterface", "(II)I"⟩
abbrev cX0_findInAbove : ByteArray := prog_2_method_11_code
def yX0_findInAbove : MethodName := ⟨RX0, "findInAbove", "(II)I"⟩
abbrev cX0_findBest : ByteArray := prog_2_method_12_code
def yX0_findBest : MethodName := ⟨RX0, "findBest", "(II)I"⟩
abbrev cX0_findLeast : ByteArray := prog_2_method_13_code
def yX0_findLeast : MethodName := ⟨RX0, "findLeast", "(II)I"⟩
abbrev cX0_findOnlyWithBody : ByteArray := prog_2_method_14_code
def yX0_findOnlyWithBody : MethodName := ⟨RX0, "findOnlyWithBody", "(II)I"⟩
abbrev cX0_checkMember : ByteArray := prog_2_method_15_code
def yX0_checkMember : MethodName := ⟨RX0, "checkMember", "(LLinkPredictor$Reference;I)I"⟩
abbrev cX0_isAccessible : ByteArray := prog_2_method_16_code
def yX0_isAccessible : MethodName := ⟨RX0, "isAccessible", "(III)Z"⟩
abbrev cX0_isInherited : ByteArray := prog_2_method_17_code
def yX0_isInherited : MethodName := ⟨RX0, "isInherited", "(III)Z"⟩
abbrev cX0_isFit : ByteArray := prog_2_method_18_code
def yX0_isFit : MethodName := ⟨RX0, "isFit", "(II)Z"⟩
abbrev cX0_selectFor : ByteArray := prog_2_method_19_code
def yX0_selectFor : MethodName := ⟨RX0, "selectFor", "(III)I"⟩
abbrev cX0_selectFromFaces : ByteArray := prog_2_method_20_code
def yX0_selectFromFaces : MethodName := ⟨RX0, "selectFromFaces", "(II)I"⟩
abbrev cX0_overrides : ByteArray := prog_2_method_21_code
def yX0_overrides : MethodName := ⟨RX0, "overrides", "(II)Z"⟩
abbrev cX0_checkSelected : ByteArray := prog_2_method_22_code
def yX0_checkSelected : MethodName := ⟨RX0, "checkSelected", "(LLinkPredictor$Reference;I)I"⟩
def RX1 : String := "LinkPredictor$Hierarchy"
def TX1 : u_T := fun k => match k with
  | 0 => ("LinkPredictor$Hierarchy", "there", "I", false)
  | 1 => ("LinkPredictor$Hierarchy", "flags", "[I", true)
  | 2 => ("LinkPredictor$Hierarchy", "packs", "[I", true)
  | 3 => ("LinkPredictor$Hierarchy", "supers", "[I", true)
  | 4 => ("LinkPredictor$Hierarchy", "directFaces", "[I", true)
  | 5 => ("LinkPredictor$Hierarchy", "hosts", "[I", true)
  | 6 => ("LinkPredictor$Hierarchy", "verdicts", "[I", true)
  | 7 => ("LinkPredictor$Hierarchy", "settled", "I", false)
  | 8 => ("LinkPredictor$Hierarchy", "aboves", "[I", true)
  | _ => ("LinkPredictor$Hierarchy", "allFaces", "[I", true)
def tyX1 : Nat → FieldType := fun k => match k with
  | 0 => .int
  | 1 => .array .int
  | 2 => .array .int
  | 3 => .array .int
  | 4 => .array .int
  | 5 => .array .int
  | 6 => .array .int
  | 7 => .int
  | 8 => .array .int
  | _ => .array .int
abbrev wsX10 : List Cond := u_ws RX1 TX1 10
theorem nmX1 : ∀ a, a < 10 → ∀ b, b < 10 → a ≠ b → (TX1 a).2.1 ≠ (TX1 b).2.1 := by decide +kernel
theorem tyX1_ok : ∀ k, k < 10 → parseFieldDescriptor (TX1 k).2.2.1 = some (tyX1 k) := by decide +kernel
abbrev cX1_init : ByteArray := prog_3_method_1_code
def yX1_init : MethodName := ⟨RX1, "<init>", "()V"⟩
abbrev cX1_define : ByteArray := prog_3_method_2_code
def yX1_define : MethodName := ⟨RX1, "define", "(IIIII)V"⟩
abbrev cX1_putHost : ByteArray := prog_3_method_3_code
def yX1_putHost : MethodName := ⟨RX1, "putHost", "(II)Z"⟩
abbrev cX1_takeAway : ByteArray := prog_3_method_4_code
def yX1_takeAway : MethodName := ⟨RX1, "takeAway", "(I)Z"⟩
abbrev cX1_becomeAs : ByteArray := prog_3_method_5_code
def yX1_becomeAs : MethodName := ⟨RX1, "becomeAs", "(LLinkPredictor$Hierarchy;)V"⟩
abbrev cX1_isThere : ByteArray := prog_3_method_6_code
def yX1_isThere : MethodName := ⟨RX1, "isThere", "(I)Z"⟩
abbrev cX1_isInterface : ByteArray := prog_3_method_7_code
def yX1_isInterface : MethodName := ⟨RX1, "isInterface", "(I)Z"⟩
abbrev cX1_canBeMade : ByteArray := prog_3_method_8_code
def yX1_canBeMade : MethodName := ⟨RX1, "canBeMade", "(I)Z"⟩
abbrev cX1_superOf : ByteArray := prog_3_method_9_code
def yX1_superOf : MethodName := ⟨RX1, "superOf", "(I)I"⟩
abbrev cX1_directFacesOf : ByteArray := prog_3_method_10_code
def yX1_directFacesOf : MethodName := ⟨RX1, "directFacesOf", "(I)I"⟩
abbrev cX1_facesOf : ByteArray := prog_3_method_11_code
def yX1_facesOf : MethodName := ⟨RX1, "facesOf", "(I)I"⟩
abbrev cX1_loading : ByteArray := prog_3_method_12_code
def yX1_loading : MethodName := ⟨RX1, "loading", "(I)I"⟩
abbrev cX1_reaching : ByteArray := prog_3_method_13_code
def yX1_reaching : MethodName := ⟨RX1, "reaching", "(II)I"⟩
abbrev cX1_isSamePackage : ByteArray := prog_3_method_14_code
def yX1_isSamePackage : MethodName := ⟨RX1, "isSamePackage", "(II)Z"⟩
abbrev cX1_hasAbove : ByteArray := prog_3_method_15_code
def yX1_hasAbove : MethodName := ⟨RX1, "hasAbove", "(II)Z"⟩
abbrev cX1_liesUnder : ByteArray := prog_3_method_16_code
def yX1_liesUnder : MethodName := ⟨RX1, "liesUnder", "(II)Z"⟩
abbrev cX1_mostSpecificOf : ByteArray := prog_3_method_17_code
def yX1_mostSpecificOf : MethodName := ⟨RX1, "mostSpecificOf", "(I)I"⟩
abbrev cX1_nestOf : ByteArray := prog_3_method_18_code
def yX1_nestOf : MethodName := ⟨RX1, "nestOf", "(I)I"⟩
abbrev cX1_countThere : ByteArray := prog_3_method_19_code
def yX1_countThere : MethodName := ⟨RX1, "countThere", "()I"⟩
abbrev cX1_countLoaded : ByteArray := prog_3_method_20_code
def yX1_countLoaded : MethodName := ⟨RX1, "countLoaded", "()I"⟩
abbrev cX1_nestSharers : ByteArray := prog_3_method_21_code
def yX1_nestSharers : MethodName := ⟨RX1, "nestSharers", "()I"⟩
abbrev cX1_settle : ByteArray := prog_3_method_22_code
def yX1_settle : MethodName := ⟨RX1, "settle", "()V"⟩
abbrev cX1_loadInside : ByteArray := prog_3_method_23_code
def yX1_loadInside : MethodName := ⟨RX1, "loadInside", "(II)I"⟩
abbrev cX1_loadParents : ByteArray := prog_3_method_24_code
def yX1_loadParents : MethodName := ⟨RX1, "loadParents", "(II)I"⟩
abbrev cX1_hasWrongParents : ByteArray := prog_3_method_25_code
def yX1_hasWrongParents : MethodName := ⟨RX1, "hasWrongParents", "(I)Z"⟩
abbrev cX1_gatherSets : ByteArray := prog_3_method_26_code
def yX1_gatherSets : MethodName := ⟨RX1, "gatherSets", "(I)V"⟩
def RX2 : String := "LinkPredictor$Members"
def TX2 : u_T := fun k => match k with
  | 0 => ("LinkPredictor$Members", "size", "I", false)
  | 1 => ("LinkPredictor$Members", "gone", "I", false)
  | 2 => ("LinkPredictor$Members", "owners", "[I", true)
  | 3 => ("LinkPredictor$Members", "keys", "[I", true)
  | 4 => ("LinkPredictor$Members", "accesses", "[I", true)
  | _ => ("LinkPredictor$Members", "flags", "[I", true)
def tyX2 : Nat → FieldType := fun k => match k with
  | 0 => .int
  | 1 => .int
  | 2 => .array .int
  | 3 => .array .int
  | 4 => .array .int
  | _ => .array .int
abbrev wsX20 : List Cond := u_ws RX2 TX2 6
theorem nmX2 : ∀ a, a < 6 → ∀ b, b < 6 → a ≠ b → (TX2 a).2.1 ≠ (TX2 b).2.1 := by decide +kernel
theorem tyX2_ok : ∀ k, k < 6 → parseFieldDescriptor (TX2 k).2.2.1 = some (tyX2 k) := by decide +kernel
abbrev cX2_init : ByteArray := prog_4_method_1_code
def yX2_init : MethodName := ⟨RX2, "<init>", "()V"⟩
abbrev cX2_append : ByteArray := prog_4_method_2_code
def yX2_append : MethodName := ⟨RX2, "append", "(IZIII)I"⟩
abbrev cX2_change : ByteArray := prog_4_method_3_code
def yX2_change : MethodName := ⟨RX2, "change", "(III)Z"⟩
abbrev cX2_discard : ByteArray := prog_4_method_4_code
def yX2_discard : MethodName := ⟨RX2, "discard", "(I)Z"⟩
abbrev cX2_discardAllOf : ByteArray := prog_4_method_5_code
def yX2_discardAllOf : MethodName := ⟨RX2, "discardAllOf", "(I)V"⟩
abbrev cX2_becomeAs : ByteArray := prog_4_method_6_code
def yX2_becomeAs : MethodName := ⟨RX2, "becomeAs", "(LLinkPredictor$Members;)V"⟩
abbrev cX2_find : ByteArray := prog_4_method_7_code
def yX2_find : MethodName := ⟨RX2, "find", "(IZI)I"⟩
abbrev cX2_ownersOfInheritable : ByteArray := prog_4_method_8_code
def yX2_ownersOfInheritable : MethodName := ⟨RX2, "ownersOfInheritable", "(I)I"⟩
abbrev cX2_isInheritable : ByteArray := prog_4_method_9_code
def yX2_isInheritable : MethodName := ⟨RX2, "isInheritable", "(I)Z"⟩
abbrev cX2_isSameThing : ByteArray := prog_4_method_10_code
def yX2_isSameThing : MethodName := ⟨RX2, "isSameThing", "(ILLinkPredictor$Members;I)Z"⟩
abbrev cX2_isStatic : ByteArray := prog_4_method_11_code
def yX2_isStatic : MethodName := ⟨RX2, "isStatic", "(I)Z"⟩
abbrev cX2_isAbstract : ByteArray := prog_4_method_12_code
def yX2_isAbstract : MethodName := ⟨RX2, "isAbstract", "(I)Z"⟩
abbrev cX2_isFinal : ByteArray := prog_4_method_13_code
def yX2_isFinal : MethodName := ⟨RX2, "isFinal", "(I)Z"⟩
abbrev cX2_ownerOf : ByteArray := prog_4_method_14_code
def yX2_ownerOf : MethodName := ⟨RX2, "ownerOf", "(I)I"⟩
abbrev cX2_accessOf : ByteArray := prog_4_method_15_code
def yX2_accessOf : MethodName := ⟨RX2, "accessOf", "(I)I"⟩
abbrev cX2_countAll : ByteArray := prog_4_method_16_code
def yX2_countAll : MethodName := ⟨RX2, "countAll", "()I"⟩
abbrev cX2_countPresent : ByteArray := prog_4_method_17_code
def yX2_countPresent : MethodName := ⟨RX2, "countPresent", "()I"⟩
abbrev cX2_countAbstractMethods : ByteArray := prog_4_method_18_code
def yX2_countAbstractMethods : MethodName := ⟨RX2, "countAbstractMethods", "()I"⟩
abbrev cX2_isPresent : ByteArray := prog_4_method_19_code
def yX2_isPresent : MethodName := ⟨RX2, "isPresent", "(I)Z"⟩
abbrev cX2_keyOf : ByteArray := prog_4_method_20_code
def yX2_keyOf : MethodName := ⟨RX2, "keyOf", "(ZI)I"⟩
def RX3 : String := "LinkPredictor$Reference"
def TX3 : u_T := fun k => match k with
  | 0 => ("LinkPredictor$Reference", "kind", "I", false)
  | 1 => ("LinkPredictor$Reference", "holder", "I", false)
  | 2 => ("LinkPredictor$Reference", "way", "I", false)
  | _ => ("LinkPredictor$Reference", "sign", "I", false)
def tyX3 : Nat → FieldType := fun k => match k with
  | 0 => .int
  | 1 => .int
  | 2 => .int
  | _ => .int
abbrev wsX30 : List Cond := u_ws RX3 TX3 4
theorem nmX3 : ∀ a, a < 4 → ∀ b, b < 4 → a ≠ b → (TX3 a).2.1 ≠ (TX3 b).2.1 := by decide +kernel
theorem tyX3_ok : ∀ k, k < 4 → parseFieldDescriptor (TX3 k).2.2.1 = some (tyX3 k) := by decide +kernel
abbrev cX3_init : ByteArray := prog_5_method_1_code
def yX3_init : MethodName := ⟨RX3, "<init>", "()V"⟩
abbrev cX3_put : ByteArray := prog_5_method_2_code
def yX3_put : MethodName := ⟨RX3, "put", "(IIII)V"⟩
abbrev cX3_isOfField : ByteArray := prog_5_method_3_code
def yX3_isOfField : MethodName := ⟨RX3, "isOfField", "()Z"⟩
abbrev cX3_isPut : ByteArray := prog_5_method_4_code
def yX3_isPut : MethodName := ⟨RX3, "isPut", "()Z"⟩
abbrev cX3_needsStatic : ByteArray := prog_5_method_5_code
def yX3_needsStatic : MethodName := ⟨RX3, "needsStatic", "()Z"⟩
abbrev cX3_hasReceiver : ByteArray := prog_5_method_6_code
def yX3_hasReceiver : MethodName := ⟨RX3, "hasReceiver", "()Z"⟩
def RX4 : String := "LinkPredictor"
def TX4 : u_T := fun k => match k with
  | 0 => ("LinkPredictor", "builds", "[LLinkPredictor$Build;", true)
  | 1 => ("LinkPredictor", "references", "[LLinkPredictor$Reference;", true)
  | 2 => ("LinkPredictor", "referenceCount", "I", false)
  | _ => ("LinkPredictor", "written", "I", false)
def tyX4 : Nat → FieldType := fun k => match k with
  | 0 => .array (.object "LinkPredictor$Build")
  | 1 => .array (.object "LinkPredictor$Reference")
  | 2 => .int
  | _ => .int
abbrev wsX40 : List Cond := u_ws RX4 TX4 4
theorem nmX4 : ∀ a, a < 4 → ∀ b, b < 4 → a ≠ b → (TX4 a).2.1 ≠ (TX4 b).2.1 := by decide +kernel
theorem tyX4_ok : ∀ k, k < 4 → parseFieldDescriptor (TX4 k).2.2.1 = some (tyX4 k) := by decide +kernel
abbrev cX4_init : ByteArray := prog_1_method_1_code
def yX4_init : MethodName := ⟨RX4, "<init>", "()V"⟩
abbrev cX4_type : ByteArray := prog_1_method_2_code
def yX4_type : MethodName := ⟨RX4, "type", "(IIIII)Z"⟩
abbrev cX4_nest : ByteArray := prog_1_method_3_code
def yX4_nest : MethodName := ⟨RX4, "nest", "(II)Z"⟩
abbrev cX4_drop : ByteArray := prog_1_method_4_code
def yX4_drop : MethodName := ⟨RX4, "drop", "(I)Z"⟩
abbrev cX4_member : ByteArray := prog_1_method_5_code
def yX4_member : MethodName := ⟨RX4, "member", "(IZIII)I"⟩
abbrev cX4_remake : ByteArray := prog_1_method_6_code
def yX4_remake : MethodName := ⟨RX4, "remake", "(III)Z"⟩
abbrev cX4_remove : ByteArray := prog_1_method_7_code
def yX4_remove : MethodName := ⟨RX4, "remove", "(I)Z"⟩
abbrev cX4_branch : ByteArray := prog_1_method_8_code
def yX4_branch : MethodName := ⟨RX4, "branch", "()I"⟩
abbrev cX4_write : ByteArray := prog_1_method_9_code
def yX4_write : MethodName := ⟨RX4, "write", "(I)Z"⟩
abbrev cX4_refer : ByteArray := prog_1_method_10_code
def yX4_refer : MethodName := ⟨RX4, "refer", "(IIII)I"⟩
abbrev cX4_forget : ByteArray := prog_1_method_11_code
def yX4_forget : MethodName := ⟨RX4, "forget", "()I"⟩
abbrev cX4_load : ByteArray := prog_1_method_12_code
def yX4_load : MethodName := ⟨RX4, "load", "(II)I"⟩
abbrev cX4_resolve : ByteArray := prog_1_method_13_code
def yX4_resolve : MethodName := ⟨RX4, "resolve", "(II)I"⟩
abbrev cX4_select : ByteArray := prog_1_method_14_code
def yX4_select : MethodName := ⟨RX4, "select", "(III)I"⟩
abbrev cX4_compare : ByteArray := prog_1_method_15_code
def yX4_compare : MethodName := ⟨RX4, "compare", "(I)I"⟩
abbrev cX4_receivers : ByteArray := prog_1_method_16_code
def yX4_receivers : MethodName := ⟨RX4, "receivers", "(II)I"⟩
abbrev cX4_isUnder : ByteArray := prog_1_method_17_code
def yX4_isUnder : MethodName := ⟨RX4, "isUnder", "(III)Z"⟩
abbrev cX4_count : ByteArray := prog_1_method_18_code
def yX4_count : MethodName := ⟨RX4, "count", "(II)I"⟩
abbrev cX4_countGoodReferences : ByteArray := prog_1_method_19_code
def yX4_countGoodReferences : MethodName := ⟨RX4, "countGoodReferences", "(LLinkPredictor$Build;)I"⟩
abbrev cX4_isSuchReceiver : ByteArray := prog_1_method_20_code
def yX4_isSuchReceiver : MethodName := ⟨RX4, "isSuchReceiver", "(III)Z"⟩
abbrev cX4_areAlike : ByteArray := prog_1_method_21_code
def yX4_areAlike : MethodName := ⟨RX4, "areAlike", "(II)Z"⟩
abbrev cX4_isWithin : ByteArray := prog_1_method_22_code
def yX4_isWithin : MethodName := ⟨RX4, "isWithin", "(II)Z"⟩
abbrev cX4_isOrdinaryType : ByteArray := prog_1_method_23_code
def yX4_isOrdinaryType : MethodName := ⟨RX4, "isOrdinaryType", "(I)Z"⟩
abbrev cX4_isGood : ByteArray := prog_1_method_24_code
def yX4_isGood : MethodName := ⟨RX4, "isGood", "(I)Z"⟩
abbrev cX4_bit : ByteArray := prog_1_method_25_code
def yX4_bit : MethodName := ⟨RX4, "bit", "(I)I"⟩
abbrev cX4_contains : ByteArray := prog_1_method_26_code
def yX4_contains : MethodName := ⟨RX4, "contains", "(II)Z"⟩
def RX5 : String := "LinkPredictorModel"
def TX5 : u_T := fun k => match k with
  | 0 => ("LinkPredictorModel", "there", "[Z", true)
  | 1 => ("LinkPredictorModel", "flags", "[I", true)
  | 2 => ("LinkPredictorModel", "pack", "[I", true)
  | 3 => ("LinkPredictorModel", "above", "[I", true)
  | 4 => ("LinkPredictorModel", "faces", "[I", true)
  | 5 => ("LinkPredictorModel", "host", "[I", true)
  | 6 => ("LinkPredictorModel", "method", "[Z", true)
  | 7 => ("LinkPredictorModel", "gone", "[Z", true)
  | 8 => ("LinkPredictorModel", "many", "[I", true)
  | 9 => ("LinkPredictorModel", "owner", "[I", true)
  | 10 => ("LinkPredictorModel", "sign", "[I", true)
  | 11 => ("LinkPredictorModel", "access", "[I", true)
  | 12 => ("LinkPredictorModel", "marks", "[I", true)
  | 13 => ("LinkPredictorModel", "kind", "[I", true)
  | 14 => ("LinkPredictorModel", "holder", "[I", true)
  | 15 => ("LinkPredictorModel", "way", "[I", true)
  | 16 => ("LinkPredictorModel", "asked", "[I", true)
  | 17 => ("LinkPredictorModel", "references", "I", false)
  | 18 => ("LinkPredictorModel", "written", "I", false)
  | 19 => ("LinkPredictorModel", "row", "[I", true)
  | _ => ("LinkPredictorModel", "stage", "[I", true)
def tyX5 : Nat → FieldType := fun k => match k with
  | 0 => .array .boolean
  | 1 => .array .int
  | 2 => .array .int
  | 3 => .array .int
  | 4 => .array .int
  | 5 => .array .int
  | 6 => .array .boolean
  | 7 => .array .boolean
  | 8 => .array .int
  | 9 => .array .int
  | 10 => .array .int
  | 11 => .array .int
  | 12 => .array .int
  | 13 => .array .int
  | 14 => .array .int
  | 15 => .array .int
  | 16 => .array .int
  | 17 => .int
  | 18 => .int
  | 19 => .array .int
  | _ => .array .int
abbrev wsX50 : List Cond := u_ws RX5 TX5 21
theorem nmX5 : ∀ a, a < 21 → ∀ b, b < 21 → a ≠ b → (TX5 a).2.1 ≠ (TX5 b).2.1 := by decide +kernel
theorem tyX5_ok : ∀ k, k < 21 → parseFieldDescriptor (TX5 k).2.2.1 = some (tyX5 k) := by decide +kernel
abbrev cX5_init : ByteArray := prog_7_method_1_code
def yX5_init : MethodName := ⟨RX5, "<init>", "()V"⟩
abbrev cX5_in : ByteArray := prog_7_method_2_code
def yX5_in : MethodName := ⟨RX5, "in", "(II)Z"⟩
abbrev cX5_has : ByteArray := prog_7_method_3_code
def yX5_has : MethodName := ⟨RX5, "has", "(II)Z"⟩
abbrev cX5_at : ByteArray := prog_7_method_4_code
def yX5_at : MethodName := ⟨RX5, "at", "(I)I"⟩
abbrev cX5_isThere : ByteArray := prog_7_method_5_code
def yX5_isThere : MethodName := ⟨RX5, "isThere", "(I)Z"⟩
abbrev cX5_type : ByteArray := prog_7_method_6_code
def yX5_type : MethodName := ⟨RX5, "type", "(IIIII)Z"⟩
abbrev cX5_nest : ByteArray := prog_7_method_7_code
def yX5_nest : MethodName := ⟨RX5, "nest", "(II)Z"⟩
abbrev cX5_drop : ByteArray := prog_7_method_8_code
def yX5_drop : MethodName := ⟨RX5, "drop", "(I)Z"⟩
abbrev cX5_own : ByteArray := prog_7_method_9_code
def yX5_own : MethodName := ⟨RX5, "own", "(IIZI)I"⟩
abbrev cX5_member : ByteArray := prog_7_method_10_code
def yX5_member : MethodName := ⟨RX5, "member", "(IZIII)I"⟩
abbrev cX5_isMember : ByteArray := prog_7_method_11_code
def yX5_isMember : MethodName := ⟨RX5, "isMember", "(I)Z"⟩
abbrev cX5_remake : ByteArray := prog_7_method_12_code
def yX5_remake : MethodName := ⟨RX5, "remake", "(III)Z"⟩
abbrev cX5_remove : ByteArray := prog_7_method_13_code
def yX5_remove : MethodName := ⟨RX5, "remove", "(I)Z"⟩
abbrev cX5_branch : ByteArray := prog_7_method_14_code
def yX5_branch : MethodName := ⟨RX5, "branch", "()I"⟩
abbrev cX5_write : ByteArray := prog_7_method_15_code
def yX5_write : MethodName := ⟨RX5, "write", "(I)Z"⟩
abbrev cX5_refer : ByteArray := prog_7_method_16_code
def yX5_refer : MethodName := ⟨RX5, "refer", "(IIII)I"⟩
abbrev cX5_forget : ByteArray := prog_7_method_17_code
def yX5_forget : MethodName := ⟨RX5, "forget", "()I"⟩
abbrev cX5_verdict : ByteArray := prog_7_method_18_code
def yX5_verdict : MethodName := ⟨RX5, "verdict", "(II)I"⟩
abbrev cX5_isChanged : ByteArray := prog_7_method_19_code
def yX5_isChanged : MethodName := ⟨RX5, "isChanged", "(II)Z"⟩
abbrev cX5_loaded : ByteArray := prog_7_method_20_code
def yX5_loaded : MethodName := ⟨RX5, "loaded", "(II)I"⟩
abbrev cX5_isLoaded : ByteArray := prog_7_method_21_code
def yX5_isLoaded : MethodName := ⟨RX5, "isLoaded", "(II)Z"⟩
abbrev cX5_aboveOf : ByteArray := prog_7_method_22_code
def yX5_aboveOf : MethodName := ⟨RX5, "aboveOf", "(II)I"⟩
abbrev cX5_facesOf : ByteArray := prog_7_method_23_code
def yX5_facesOf : MethodName := ⟨RX5, "facesOf", "(II)I"⟩
abbrev cX5_under : ByteArray := prog_7_method_24_code
def yX5_under : MethodName := ⟨RX5, "under", "(III)Z"⟩
abbrev cX5_nestOf : ByteArray := prog_7_method_25_code
def yX5_nestOf : MethodName := ⟨RX5, "nestOf", "(II)I"⟩
abbrev cX5_isOpen : ByteArray := prog_7_method_26_code
def yX5_isOpen : MethodName := ⟨RX5, "isOpen", "(IIII)Z"⟩
abbrev cX5_field : ByteArray := prog_7_method_27_code
def yX5_field : MethodName := ⟨RX5, "field", "(III)I"⟩
abbrev cX5_lay : ByteArray := prog_7_method_28_code
def yX5_lay : MethodName := ⟨RX5, "lay", "(II)I"⟩
abbrev cX5_offers : ByteArray := prog_7_method_29_code
def yX5_offers : MethodName := ⟨RX5, "offers", "(III)Z"⟩
abbrev cX5_specific : ByteArray := prog_7_method_30_code
def yX5_specific : MethodName := ⟨RX5, "specific", "(III)I"⟩
abbrev cX5_bodied : ByteArray := prog_7_method_31_code
def yX5_bodied : MethodName := ⟨RX5, "bodied", "(III)I"⟩
abbrev cX5_find : ByteArray := prog_7_method_32_code
def yX5_find : MethodName := ⟨RX5, "find", "(III)I"⟩
abbrev cX5_resolved : ByteArray := prog_7_method_33_code
def yX5_resolved : MethodName := ⟨RX5, "resolved", "(II)I"⟩
abbrev cX5_overrides : ByteArray := prog_7_method_34_code
def yX5_overrides : MethodName := ⟨RX5, "overrides", "(III)Z"⟩
abbrev cX5_selected : ByteArray := prog_7_method_35_code
def yX5_selected : MethodName := ⟨RX5, "selected", "(III)I"⟩
abbrev cX5_isAsk : ByteArray := prog_7_method_36_code
def yX5_isAsk : MethodName := ⟨RX5, "isAsk", "(II)Z"⟩
abbrev cX5_load : ByteArray := prog_7_method_37_code
def yX5_load : MethodName := ⟨RX5, "load", "(II)I"⟩
abbrev cX5_resolve : ByteArray := prog_7_method_38_code
def yX5_resolve : MethodName := ⟨RX5, "resolve", "(II)I"⟩
abbrev cX5_selects : ByteArray := prog_7_method_39_code
def yX5_selects : MethodName := ⟨RX5, "selects", "(II)Z"⟩
abbrev cX5_select : ByteArray := prog_7_method_40_code
def yX5_select : MethodName := ⟨RX5, "select", "(III)I"⟩
abbrev cX5_areAlike : ByteArray := prog_7_method_41_code
def yX5_areAlike : MethodName := ⟨RX5, "areAlike", "(II)Z"⟩
abbrev cX5_compare : ByteArray := prog_7_method_42_code
def yX5_compare : MethodName := ⟨RX5, "compare", "(I)I"⟩
abbrev cX5_receivers : ByteArray := prog_7_method_43_code
def yX5_receivers : MethodName := ⟨RX5, "receivers", "(II)I"⟩
abbrev cX5_isUnder : ByteArray := prog_7_method_44_code
def yX5_isUnder : MethodName := ⟨RX5, "isUnder", "(III)Z"⟩
abbrev cX5_neighbours : ByteArray := prog_7_method_45_code
def yX5_neighbours : MethodName := ⟨RX5, "neighbours", "(I)I"⟩
abbrev cX5_count : ByteArray := prog_7_method_46_code
def yX5_count : MethodName := ⟨RX5, "count", "(II)I"⟩
def RJ6 : String := "java/lang/Integer"
def TJ6 : u_T := fun k => match k with
  | _ => ("", "", "", false)
def tyJ6 : Nat → FieldType := fun k => match k with
  | _ => .int
abbrev wsJ60 : List Cond := u_ws RJ6 TJ6 0
theorem nmJ6 : ∀ a, a < 0 → ∀ b, b < 0 → a ≠ b → (TJ6 a).2.1 ≠ (TJ6 b).2.1 := by decide +kernel
theorem tyJ6_ok : ∀ k, k < 0 → parseFieldDescriptor (TJ6 k).2.2.1 = some (tyJ6 k) := by decide +kernel
abbrev cJ6_bitCount_0f7a4 : ByteArray := prog_8_method_49_code
def yJ6_bitCount_0f7a4 : MethodName := ⟨RJ6, "bitCount", "(I)I"⟩
def RJ9 : String := "java/lang/Math"
def TJ9 : u_T := fun k => match k with
  | _ => ("", "", "", false)
def tyJ9 : Nat → FieldType := fun k => match k with
  | _ => .int
abbrev wsJ90 : List Cond := u_ws RJ9 TJ9 0
theorem nmJ9 : ∀ a, a < 0 → ∀ b, b < 0 → a ≠ b → (TJ9 a).2.1 ≠ (TJ9 b).2.1 := by decide +kernel
theorem tyJ9_ok : ∀ k, k < 0 → parseFieldDescriptor (TJ9 k).2.2.1 = some (tyJ9 k) := by decide +kernel
abbrev cJ9_min_7cf53 : ByteArray := prog_9_method_69_code
def yJ9_min_7cf53 : MethodName := ⟨RJ9, "min", "(II)I"⟩
def RJ10 : String := "java/lang/System"
def TJ10 : u_T := fun k => match k with
  | _ => ("", "", "", false)
def tyJ10 : Nat → FieldType := fun k => match k with
  | _ => .int
abbrev wsJ100 : List Cond := u_ws RJ10 TJ10 0
theorem nmJ10 : ∀ a, a < 0 → ∀ b, b < 0 → a ≠ b → (TJ10 a).2.1 ≠ (TJ10 b).2.1 := by decide +kernel
theorem tyJ10_ok : ∀ k, k < 0 → parseFieldDescriptor (TJ10 k).2.2.1 = some (tyJ10 k) := by decide +kernel
def RL : String := "LinkPredictorLaw"
abbrev cL_law : ByteArray := code
def yL_law : MethodName := ⟨RL, "law", "([I)Z"⟩
def wsX4_bit : List Cond := .code yX4_bit cX4_bit 1 (some .int) :: ([])
def wsX4_contains : List Cond := .code yX4_contains cX4_contains 2 (some .boolean) :: ([])
def wsX1_isThere : List Cond := .code yX1_isThere cX1_isThere 2 (some .boolean) :: ([.fieldLink RX1 40 "LinkPredictor$Hierarchy" "there" "I", .static yX4_contains, .initialized RX4, .code yX4_contains cX4_contains 2 (some .boolean)] ++ wsX10)
def wsX4_isWithin : List Cond := .code yX4_isWithin cX4_isWithin 2 (some .boolean) :: ([])
def wsX4_isGood : List Cond := .code yX4_isGood cX4_isGood 1 (some .boolean) :: ([.methodLink RX4 34 yX4_isWithin, .static yX4_isWithin, .initialized RX4, .code yX4_isWithin cX4_isWithin 2 (some .boolean)])
def wsX1_isInterface : List Cond := .code yX1_isInterface cX1_isInterface 2 (some .boolean) :: ([.fieldLink RX1 9 "LinkPredictor$Hierarchy" "flags" "[I"] ++ wsX10)
def wsX1_hasWrongParents : List Cond := .code yX1_hasWrongParents cX1_hasWrongParents 4 (some .boolean) :: ([.fieldLink RX1 18 "LinkPredictor$Hierarchy" "supers" "[I", .fieldLink RX1 9 "LinkPredictor$Hierarchy" "flags" "[I", .fieldLink RX1 21 "LinkPredictor$Hierarchy" "directFaces" "[I", .methodLink RX1 92 yX1_isInterface, .instanceMethod yX1_isInterface, .selects RX1 yX1_isInterface yX1_isInterface, .initialized RX1, .code yX1_isInterface cX1_isInterface 2 (some .boolean), .static yX4_contains, .initialized RX4, .code yX4_contains cX4_contains 2 (some .boolean)] ++ wsX10)
def wsX1_gatherSets : List Cond := .code yX1_gatherSets cX1_gatherSets 5 none :: ([.fieldLink RX1 18 "LinkPredictor$Hierarchy" "supers" "[I", .fieldLink RX1 30 "LinkPredictor$Hierarchy" "aboves" "[I", .fieldLink RX1 21 "LinkPredictor$Hierarchy" "directFaces" "[I", .fieldLink RX1 33 "LinkPredictor$Hierarchy" "allFaces" "[I", .static yX4_bit, .initialized RX4, .code yX4_bit cX4_bit 1 (some .int), .static yX4_contains, .code yX4_contains cX4_contains 2 (some .boolean)] ++ wsX10)
def wsX1_loadInside_r1 : List Cond := [Cond.fieldLink RX1 72 "LinkPredictor$Hierarchy" "settled" "I", Cond.methodLink RX1 47 yX1_isThere, Cond.instanceMethod yX1_isThere, Cond.selects RX1 yX1_isThere yX1_isThere, Cond.initialized RX1, Cond.code yX1_isThere cX1_isThere 2 (some .boolean), Cond.fieldLink RX1 40 "LinkPredictor$Hierarchy" "there" "I", Cond.static yX4_contains, Cond.initialized RX4, Cond.code yX4_contains cX4_contains 2 (some .boolean), Cond.static yX4_bit, Cond.code yX4_bit cX4_bit 1 (some .int), Cond.methodLink RX1 82 yX1_loadParents, Cond.instanceMethod yX1_loadParents, Cond.selects RX1 yX1_loadParents yX1_loadParents, Cond.static yX4_isGood, Cond.code yX4_isGood cX4_isGood 1 (some .boolean), Cond.methodLink RX4 34 yX4_isWithin, Cond.static yX4_isWithin, Cond.code yX4_isWithin cX4_isWithin 2 (some .boolean), Cond.methodLink RX1 85 yX1_hasWrongParents, Cond.instanceMethod yX1_hasWrongParents, Cond.selects RX1 yX1_hasWrongParents yX1_hasWrongParents, Cond.code yX1_hasWrongParents cX1_hasWrongParents 4 (some .boolean)]
def wsX1_loadInside_r2 : List Cond := [Cond.fieldLink RX1 18 "LinkPredictor$Hierarchy" "supers" "[I", Cond.fieldLink RX1 9 "LinkPredictor$Hierarchy" "flags" "[I", Cond.fieldLink RX1 21 "LinkPredictor$Hierarchy" "directFaces" "[I", Cond.methodLink RX1 92 yX1_isInterface, Cond.instanceMethod yX1_isInterface, Cond.selects RX1 yX1_isInterface yX1_isInterface, Cond.code yX1_isInterface cX1_isInterface 2 (some .boolean), Cond.methodLink RX1 88 yX1_gatherSets, Cond.instanceMethod yX1_gatherSets, Cond.selects RX1 yX1_gatherSets yX1_gatherSets, Cond.code yX1_gatherSets cX1_gatherSets 5 none, Cond.fieldLink RX1 30 "LinkPredictor$Hierarchy" "aboves" "[I", Cond.fieldLink RX1 33 "LinkPredictor$Hierarchy" "allFaces" "[I", Cond.code yX1_loadParents cX1_loadParents 5 (some .int), Cond.methodLink RX1 78 yX1_loadInside, Cond.instanceMethod yX1_loadInside, Cond.selects RX1 yX1_loadInside yX1_loadInside]
def wsX1_loadInside : List Cond := .code yX1_loadInside cX1_loadInside 4 (some .int) :: ((wsX1_loadInside_r1 ++ wsX1_loadInside_r2) ++ wsX10)
def wsX1_loadParents_r1 : List Cond := [Cond.fieldLink RX1 18 "LinkPredictor$Hierarchy" "supers" "[I", Cond.fieldLink RX1 21 "LinkPredictor$Hierarchy" "directFaces" "[I", Cond.methodLink RX1 78 yX1_loadInside, Cond.instanceMethod yX1_loadInside, Cond.selects RX1 yX1_loadInside yX1_loadInside, Cond.initialized RX1, Cond.static yX4_isGood, Cond.initialized RX4, Cond.code yX4_isGood cX4_isGood 1 (some .boolean), Cond.methodLink RX4 34 yX4_isWithin, Cond.static yX4_isWithin, Cond.code yX4_isWithin cX4_isWithin 2 (some .boolean), Cond.static yX4_contains, Cond.code yX4_contains cX4_contains 2 (some .boolean), Cond.code yX1_loadInside cX1_loadInside 4 (some .int), Cond.fieldLink RX1 72 "LinkPredictor$Hierarchy" "settled" "I", Cond.methodLink RX1 47 yX1_isThere, Cond.instanceMethod yX1_isThere, Cond.selects RX1 yX1_isThere yX1_isThere, Cond.code yX1_isThere cX1_isThere 2 (some .boolean), Cond.fieldLink RX1 40 "LinkPredictor$Hierarchy" "there" "I", Cond.static yX4_bit, Cond.code yX4_bit cX4_bit 1 (some .int), Cond.methodLink RX1 82 yX1_loadParents]
def wsX1_loadParents_r2 : List Cond := [Cond.instanceMethod yX1_loadParents, Cond.selects RX1 yX1_loadParents yX1_loadParents, Cond.methodLink RX1 85 yX1_hasWrongParents, Cond.instanceMethod yX1_hasWrongParents, Cond.selects RX1 yX1_hasWrongParents yX1_hasWrongParents, Cond.code yX1_hasWrongParents cX1_hasWrongParents 4 (some .boolean), Cond.fieldLink RX1 9 "LinkPredictor$Hierarchy" "flags" "[I", Cond.methodLink RX1 92 yX1_isInterface, Cond.instanceMethod yX1_isInterface, Cond.selects RX1 yX1_isInterface yX1_isInterface, Cond.code yX1_isInterface cX1_isInterface 2 (some .boolean), Cond.methodLink RX1 88 yX1_gatherSets, Cond.instanceMethod yX1_gatherSets, Cond.selects RX1 yX1_gatherSets yX1_gatherSets, Cond.code yX1_gatherSets cX1_gatherSets 5 none, Cond.fieldLink RX1 30 "LinkPredictor$Hierarchy" "aboves" "[I", Cond.fieldLink RX1 33 "LinkPredictor$Hierarchy" "allFaces" "[I"]
def wsX1_loadParents : List Cond := .code yX1_loadParents cX1_loadParents 5 (some .int) :: ((wsX1_loadParents_r1 ++ wsX1_loadParents_r2) ++ wsX10)
def wsX1_settle_r1 : List Cond := [Cond.fieldLink RX1 72 "LinkPredictor$Hierarchy" "settled" "I", Cond.fieldLink RX1 27 "LinkPredictor$Hierarchy" "verdicts" "[I", Cond.methodLink RX1 78 yX1_loadInside, Cond.instanceMethod yX1_loadInside, Cond.selects RX1 yX1_loadInside yX1_loadInside, Cond.initialized RX1, Cond.code yX1_loadInside cX1_loadInside 4 (some .int), Cond.methodLink RX1 47 yX1_isThere, Cond.instanceMethod yX1_isThere, Cond.selects RX1 yX1_isThere yX1_isThere, Cond.code yX1_isThere cX1_isThere 2 (some .boolean), Cond.fieldLink RX1 40 "LinkPredictor$Hierarchy" "there" "I", Cond.static yX4_contains, Cond.initialized RX4, Cond.code yX4_contains cX4_contains 2 (some .boolean), Cond.static yX4_bit, Cond.code yX4_bit cX4_bit 1 (some .int), Cond.methodLink RX1 82 yX1_loadParents, Cond.instanceMethod yX1_loadParents, Cond.selects RX1 yX1_loadParents yX1_loadParents, Cond.static yX4_isGood, Cond.code yX4_isGood cX4_isGood 1 (some .boolean), Cond.methodLink RX4 34 yX4_isWithin, Cond.static yX4_isWithin]
def wsX1_settle_r2 : List Cond := [Cond.code yX4_isWithin cX4_isWithin 2 (some .boolean), Cond.methodLink RX1 85 yX1_hasWrongParents, Cond.instanceMethod yX1_hasWrongParents, Cond.selects RX1 yX1_hasWrongParents yX1_hasWrongParents, Cond.code yX1_hasWrongParents cX1_hasWrongParents 4 (some .boolean), Cond.fieldLink RX1 18 "LinkPredictor$Hierarchy" "supers" "[I", Cond.fieldLink RX1 9 "LinkPredictor$Hierarchy" "flags" "[I", Cond.fieldLink RX1 21 "LinkPredictor$Hierarchy" "directFaces" "[I", Cond.methodLink RX1 92 yX1_isInterface, Cond.instanceMethod yX1_isInterface, Cond.selects RX1 yX1_isInterface yX1_isInterface, Cond.code yX1_isInterface cX1_isInterface 2 (some .boolean), Cond.methodLink RX1 88 yX1_gatherSets, Cond.instanceMethod yX1_gatherSets, Cond.selects RX1 yX1_gatherSets yX1_gatherSets, Cond.code yX1_gatherSets cX1_gatherSets 5 none, Cond.fieldLink RX1 30 "LinkPredictor$Hierarchy" "aboves" "[I", Cond.fieldLink RX1 33 "LinkPredictor$Hierarchy" "allFaces" "[I", Cond.code yX1_loadParents cX1_loadParents 5 (some .int)]
def wsX1_settle : List Cond := .code yX1_settle cX1_settle 2 none :: ((wsX1_settle_r1 ++ wsX1_settle_r2) ++ wsX10)
def wsX1_init_r1 : List Cond := [Cond.methodLink RX1 3 objectInit, Cond.instanceMethod objectInit, Cond.code objectInit ⟨#[0xb1]⟩ 1 none, Cond.arrayClass .int, Cond.fieldLink RX1 9 "LinkPredictor$Hierarchy" "flags" "[I", Cond.fieldLink RX1 15 "LinkPredictor$Hierarchy" "packs" "[I", Cond.fieldLink RX1 18 "LinkPredictor$Hierarchy" "supers" "[I", Cond.fieldLink RX1 21 "LinkPredictor$Hierarchy" "directFaces" "[I", Cond.fieldLink RX1 24 "LinkPredictor$Hierarchy" "hosts" "[I", Cond.fieldLink RX1 27 "LinkPredictor$Hierarchy" "verdicts" "[I", Cond.fieldLink RX1 30 "LinkPredictor$Hierarchy" "aboves" "[I", Cond.fieldLink RX1 33 "LinkPredictor$Hierarchy" "allFaces" "[I", Cond.fieldLink RX1 40 "LinkPredictor$Hierarchy" "there" "I", Cond.static yX4_bit, Cond.initialized RX4, Cond.code yX4_bit cX4_bit 1 (some .int), Cond.methodLink RX1 44 yX1_settle, Cond.instanceMethod yX1_settle, Cond.selects RX1 yX1_settle yX1_settle, Cond.initialized RX1, Cond.code yX1_settle cX1_settle 2 none, Cond.fieldLink RX1 72 "LinkPredictor$Hierarchy" "settled" "I", Cond.methodLink RX1 78 yX1_loadInside, Cond.instanceMethod yX1_loadInside]
def wsX1_init_r2 : List Cond := [Cond.selects RX1 yX1_loadInside yX1_loadInside, Cond.code yX1_loadInside cX1_loadInside 4 (some .int), Cond.methodLink RX1 47 yX1_isThere, Cond.instanceMethod yX1_isThere, Cond.selects RX1 yX1_isThere yX1_isThere, Cond.code yX1_isThere cX1_isThere 2 (some .boolean), Cond.static yX4_contains, Cond.code yX4_contains cX4_contains 2 (some .boolean), Cond.methodLink RX1 82 yX1_loadParents, Cond.instanceMethod yX1_loadParents, Cond.selects RX1 yX1_loadParents yX1_loadParents, Cond.static yX4_isGood, Cond.code yX4_isGood cX4_isGood 1 (some .boolean), Cond.methodLink RX4 34 yX4_isWithin, Cond.static yX4_isWithin, Cond.code yX4_isWithin cX4_isWithin 2 (some .boolean), Cond.methodLink RX1 85 yX1_hasWrongParents, Cond.instanceMethod yX1_hasWrongParents, Cond.selects RX1 yX1_hasWrongParents yX1_hasWrongParents, Cond.code yX1_hasWrongParents cX1_hasWrongParents 4 (some .boolean), Cond.methodLink RX1 92 yX1_isInterface, Cond.instanceMethod yX1_isInterface, Cond.selects RX1 yX1_isInterface yX1_isInterface, Cond.code yX1_isInterface cX1_isInterface 2 (some .boolean)]
def wsX1_init_r3 : List Cond := [Cond.methodLink RX1 88 yX1_gatherSets, Cond.instanceMethod yX1_gatherSets, Cond.selects RX1 yX1_gatherSets yX1_gatherSets, Cond.code yX1_gatherSets cX1_gatherSets 5 none, Cond.code yX1_loadParents cX1_loadParents 5 (some .int)]
def wsX1_init : List Cond := .code yX1_init cX1_init 1 none :: ((wsX1_init_r1 ++ (wsX1_init_r2 ++ wsX1_init_r3)) ++ wsX10)
def wsX2_init : List Cond := .code yX2_init cX2_init 1 none :: ([.methodLink RX2 3 objectInit, .instanceMethod objectInit, .code objectInit ⟨#[0xb1]⟩ 1 none, .arrayClass .int, .fieldLink RX2 9 "LinkPredictor$Members" "owners" "[I", .fieldLink RX2 15 "LinkPredictor$Members" "keys" "[I", .fieldLink RX2 18 "LinkPredictor$Members" "accesses" "[I", .fieldLink RX2 21 "LinkPredictor$Members" "flags" "[I"] ++ wsX20)
def wsX0_init_r1 : List Cond := [Cond.methodLink RX0 3 objectInit, Cond.instanceMethod objectInit, Cond.code objectInit ⟨#[0xb1]⟩ 1 none, Cond.classLink RX0 9 RX1, Cond.instantiable RX1 10, Cond.initialized RX1, Cond.fieldLink RX0 12 "LinkPredictor$Build" "types" "LLinkPredictor$Hierarchy;", Cond.classLink RX0 18 RX2, Cond.instantiable RX2 6, Cond.initialized RX2, Cond.fieldLink RX0 21 "LinkPredictor$Build" "members" "LLinkPredictor$Members;", Cond.methodLink RX0 11 yX1_init, Cond.instanceMethod yX1_init, Cond.code yX1_init cX1_init 1 none, Cond.methodLink RX1 3 objectInit, Cond.arrayClass .int, Cond.fieldLink RX1 9 "LinkPredictor$Hierarchy" "flags" "[I", Cond.fieldLink RX1 15 "LinkPredictor$Hierarchy" "packs" "[I", Cond.fieldLink RX1 18 "LinkPredictor$Hierarchy" "supers" "[I", Cond.fieldLink RX1 21 "LinkPredictor$Hierarchy" "directFaces" "[I", Cond.fieldLink RX1 24 "LinkPredictor$Hierarchy" "hosts" "[I", Cond.fieldLink RX1 27 "LinkPredictor$Hierarchy" "verdicts" "[I", Cond.fieldLink RX1 30 "LinkPredictor$Hierarchy" "aboves" "[I", Cond.fieldLink RX1 33 "LinkPredictor$Hierarchy" "allFaces" "[I"]
def wsX0_init_r2 : List Cond := [Cond.fieldLink RX1 40 "LinkPredictor$Hierarchy" "there" "I", Cond.static yX4_bit, Cond.initialized RX4, Cond.code yX4_bit cX4_bit 1 (some .int), Cond.methodLink RX1 44 yX1_settle, Cond.instanceMethod yX1_settle, Cond.selects RX1 yX1_settle yX1_settle, Cond.code yX1_settle cX1_settle 2 none, Cond.fieldLink RX1 72 "LinkPredictor$Hierarchy" "settled" "I", Cond.methodLink RX1 78 yX1_loadInside, Cond.instanceMethod yX1_loadInside, Cond.selects RX1 yX1_loadInside yX1_loadInside, Cond.code yX1_loadInside cX1_loadInside 4 (some .int), Cond.methodLink RX1 47 yX1_isThere, Cond.instanceMethod yX1_isThere, Cond.selects RX1 yX1_isThere yX1_isThere, Cond.code yX1_isThere cX1_isThere 2 (some .boolean), Cond.static yX4_contains, Cond.code yX4_contains cX4_contains 2 (some .boolean), Cond.methodLink RX1 82 yX1_loadParents, Cond.instanceMethod yX1_loadParents, Cond.selects RX1 yX1_loadParents yX1_loadParents, Cond.static yX4_isGood, Cond.code yX4_isGood cX4_isGood 1 (some .boolean)]
def wsX0_init_r3 : List Cond := [Cond.methodLink RX4 34 yX4_isWithin, Cond.static yX4_isWithin, Cond.code yX4_isWithin cX4_isWithin 2 (some .boolean), Cond.methodLink RX1 85 yX1_hasWrongParents, Cond.instanceMethod yX1_hasWrongParents, Cond.selects RX1 yX1_hasWrongParents yX1_hasWrongParents, Cond.code yX1_hasWrongParents cX1_hasWrongParents 4 (some .boolean), Cond.methodLink RX1 92 yX1_isInterface, Cond.instanceMethod yX1_isInterface, Cond.selects RX1 yX1_isInterface yX1_isInterface, Cond.code yX1_isInterface cX1_isInterface 2 (some .boolean), Cond.methodLink RX1 88 yX1_gatherSets, Cond.instanceMethod yX1_gatherSets, Cond.selects RX1 yX1_gatherSets yX1_gatherSets, Cond.code yX1_gatherSets cX1_gatherSets 5 none, Cond.code yX1_loadParents cX1_loadParents 5 (some .int), Cond.instanceMethod yX2_init, Cond.code yX2_init cX2_init 1 none, Cond.methodLink RX2 3 objectInit, Cond.fieldLink RX2 9 "LinkPredictor$Members" "owners" "[I", Cond.fieldLink RX2 15 "LinkPredictor$Members" "keys" "[I", Cond.fieldLink RX2 18 "LinkPredictor$Members" "accesses" "[I", Cond.fieldLink RX2 21 "LinkPredictor$Members" "flags" "[I"]
def wsX0_init : List Cond := .code yX0_init cX0_init 1 none :: ((wsX0_init_r1 ++ (wsX0_init_r2 ++ wsX0_init_r3)) ++ wsX10 ++ wsX00 ++ wsX20)
def wsX1_takeAway_r1 : List Cond := [Cond.fieldLink RX1 40 "LinkPredictor$Hierarchy" "there" "I", Cond.methodLink RX1 47 yX1_isThere, Cond.instanceMethod yX1_isThere, Cond.selects RX1 yX1_isThere yX1_isThere, Cond.initialized RX1, Cond.code yX1_isThere cX1_isThere 2 (some .boolean), Cond.static yX4_contains, Cond.initialized RX4, Cond.code yX4_contains cX4_contains 2 (some .boolean), Cond.static yX4_bit, Cond.code yX4_bit cX4_bit 1 (some .int), Cond.methodLink RX1 44 yX1_settle, Cond.instanceMethod yX1_settle, Cond.selects RX1 yX1_settle yX1_settle, Cond.code yX1_settle cX1_settle 2 none, Cond.fieldLink RX1 72 "LinkPredictor$Hierarchy" "settled" "I", Cond.fieldLink RX1 27 "LinkPredictor$Hierarchy" "verdicts" "[I", Cond.methodLink RX1 78 yX1_loadInside, Cond.instanceMethod yX1_loadInside, Cond.selects RX1 yX1_loadInside yX1_loadInside, Cond.code yX1_loadInside cX1_loadInside 4 (some .int), Cond.methodLink RX1 82 yX1_loadParents, Cond.instanceMethod yX1_loadParents, Cond.selects RX1 yX1_loadParents yX1_loadParents]
def wsX1_takeAway_r2 : List Cond := [Cond.static yX4_isGood, Cond.code yX4_isGood cX4_isGood 1 (some .boolean), Cond.methodLink RX4 34 yX4_isWithin, Cond.static yX4_isWithin, Cond.code yX4_isWithin cX4_isWithin 2 (some .boolean), Cond.methodLink RX1 85 yX1_hasWrongParents, Cond.instanceMethod yX1_hasWrongParents, Cond.selects RX1 yX1_hasWrongParents yX1_hasWrongParents, Cond.code yX1_hasWrongParents cX1_hasWrongParents 4 (some .boolean), Cond.fieldLink RX1 18 "LinkPredictor$Hierarchy" "supers" "[I", Cond.fieldLink RX1 9 "LinkPredictor$Hierarchy" "flags" "[I", Cond.fieldLink RX1 21 "LinkPredictor$Hierarchy" "directFaces" "[I", Cond.methodLink RX1 92 yX1_isInterface, Cond.instanceMethod yX1_isInterface, Cond.selects RX1 yX1_isInterface yX1_isInterface, Cond.code yX1_isInterface cX1_isInterface 2 (some .boolean), Cond.methodLink RX1 88 yX1_gatherSets, Cond.instanceMethod yX1_gatherSets, Cond.selects RX1 yX1_gatherSets yX1_gatherSets, Cond.code yX1_gatherSets cX1_gatherSets 5 none, Cond.fieldLink RX1 30 "LinkPredictor$Hierarchy" "aboves" "[I", Cond.fieldLink RX1 33 "LinkPredictor$Hierarchy" "allFaces" "[I", Cond.code yX1_loadParents cX1_loadParents 5 (some .int)]
def wsX1_takeAway : List Cond := .code yX1_takeAway cX1_takeAway 2 (some .boolean) :: ((wsX1_takeAway_r1 ++ wsX1_takeAway_r2) ++ wsX10)
def wsX2_discardAllOf : List Cond := .code yX2_discardAllOf cX2_discardAllOf 3 none :: ([.fieldLink RX2 24 "LinkPredictor$Members" "size" "I", .fieldLink RX2 9 "LinkPredictor$Members" "owners" "[I", .fieldLink RX2 36 "LinkPredictor$Members" "gone" "I", .static yX4_bit, .initialized RX4, .code yX4_bit cX4_bit 1 (some .int)] ++ wsX20)
def wsX0_discardType_r1 : List Cond := [Cond.fieldLink RX0 12 "LinkPredictor$Build" "types" "LLinkPredictor$Hierarchy;", Cond.fieldLink RX0 21 "LinkPredictor$Build" "members" "LLinkPredictor$Members;", Cond.methodLink RX0 25 yX1_takeAway, Cond.instanceMethod yX1_takeAway, Cond.selects RX1 yX1_takeAway yX1_takeAway, Cond.initialized RX1, Cond.code yX1_takeAway cX1_takeAway 2 (some .boolean), Cond.fieldLink RX1 40 "LinkPredictor$Hierarchy" "there" "I", Cond.methodLink RX1 47 yX1_isThere, Cond.instanceMethod yX1_isThere, Cond.selects RX1 yX1_isThere yX1_isThere, Cond.code yX1_isThere cX1_isThere 2 (some .boolean), Cond.static yX4_contains, Cond.initialized RX4, Cond.code yX4_contains cX4_contains 2 (some .boolean), Cond.static yX4_bit, Cond.code yX4_bit cX4_bit 1 (some .int), Cond.methodLink RX1 44 yX1_settle, Cond.instanceMethod yX1_settle, Cond.selects RX1 yX1_settle yX1_settle, Cond.code yX1_settle cX1_settle 2 none, Cond.fieldLink RX1 72 "LinkPredictor$Hierarchy" "settled" "I", Cond.fieldLink RX1 27 "LinkPredictor$Hierarchy" "verdicts" "[I", Cond.methodLink RX1 78 yX1_loadInside]
def wsX0_discardType_r2 : List Cond := [Cond.instanceMethod yX1_loadInside, Cond.selects RX1 yX1_loadInside yX1_loadInside, Cond.code yX1_loadInside cX1_loadInside 4 (some .int), Cond.methodLink RX1 82 yX1_loadParents, Cond.instanceMethod yX1_loadParents, Cond.selects RX1 yX1_loadParents yX1_loadParents, Cond.static yX4_isGood, Cond.code yX4_isGood cX4_isGood 1 (some .boolean), Cond.methodLink RX4 34 yX4_isWithin, Cond.static yX4_isWithin, Cond.code yX4_isWithin cX4_isWithin 2 (some .boolean), Cond.methodLink RX1 85 yX1_hasWrongParents, Cond.instanceMethod yX1_hasWrongParents, Cond.selects RX1 yX1_hasWrongParents yX1_hasWrongParents, Cond.code yX1_hasWrongParents cX1_hasWrongParents 4 (some .boolean), Cond.fieldLink RX1 18 "LinkPredictor$Hierarchy" "supers" "[I", Cond.fieldLink RX1 9 "LinkPredictor$Hierarchy" "flags" "[I", Cond.fieldLink RX1 21 "LinkPredictor$Hierarchy" "directFaces" "[I", Cond.methodLink RX1 92 yX1_isInterface, Cond.instanceMethod yX1_isInterface, Cond.selects RX1 yX1_isInterface yX1_isInterface, Cond.code yX1_isInterface cX1_isInterface 2 (some .boolean), Cond.methodLink RX1 88 yX1_gatherSets, Cond.instanceMethod yX1_gatherSets]
def wsX0_discardType_r3 : List Cond := [Cond.selects RX1 yX1_gatherSets yX1_gatherSets, Cond.code yX1_gatherSets cX1_gatherSets 5 none, Cond.fieldLink RX1 30 "LinkPredictor$Hierarchy" "aboves" "[I", Cond.fieldLink RX1 33 "LinkPredictor$Hierarchy" "allFaces" "[I", Cond.code yX1_loadParents cX1_loadParents 5 (some .int), Cond.methodLink RX0 29 yX2_discardAllOf, Cond.instanceMethod yX2_discardAllOf, Cond.selects RX2 yX2_discardAllOf yX2_discardAllOf, Cond.initialized RX2, Cond.code yX2_discardAllOf cX2_discardAllOf 3 none, Cond.fieldLink RX2 24 "LinkPredictor$Members" "size" "I", Cond.fieldLink RX2 9 "LinkPredictor$Members" "owners" "[I", Cond.fieldLink RX2 36 "LinkPredictor$Members" "gone" "I"]
def wsX0_discardType : List Cond := .code yX0_discardType cX0_discardType 2 (some .boolean) :: ((wsX0_discardType_r1 ++ (wsX0_discardType_r2 ++ wsX0_discardType_r3)) ++ wsX00 ++ wsX10 ++ wsX20)
def wsX2_keyOf : List Cond := .code yX2_keyOf cX2_keyOf 2 (some .int) :: ([])
def wsX2_find : List Cond := .code yX2_find cX2_find 6 (some .int) :: ([.fieldLink RX2 24 "LinkPredictor$Members" "size" "I", .fieldLink RX2 15 "LinkPredictor$Members" "keys" "[I", .fieldLink RX2 9 "LinkPredictor$Members" "owners" "[I", .fieldLink RX2 36 "LinkPredictor$Members" "gone" "I", .methodLink RX2 28 yX2_keyOf, .static yX2_keyOf, .initialized RX2, .code yX2_keyOf cX2_keyOf 2 (some .int), .static yX4_contains, .initialized RX4, .code yX4_contains cX4_contains 2 (some .boolean)] ++ wsX20)
def wsX2_append : List Cond := .code yX2_append cX2_append 7 (some .int) :: ([.fieldLink RX2 24 "LinkPredictor$Members" "size" "I", .fieldLink RX2 9 "LinkPredictor$Members" "owners" "[I", .fieldLink RX2 15 "LinkPredictor$Members" "keys" "[I", .fieldLink RX2 18 "LinkPredictor$Members" "accesses" "[I", .fieldLink RX2 21 "LinkPredictor$Members" "flags" "[I", .methodLink RX2 28 yX2_keyOf, .static yX2_keyOf, .initialized RX2, .code yX2_keyOf cX2_keyOf 2 (some .int)] ++ wsX20)
def wsX0_addMember_r1 : List Cond := [Cond.fieldLink RX0 12 "LinkPredictor$Build" "types" "LLinkPredictor$Hierarchy;", Cond.fieldLink RX0 21 "LinkPredictor$Build" "members" "LLinkPredictor$Members;", Cond.methodLink RX0 33 yX1_isThere, Cond.instanceMethod yX1_isThere, Cond.selects RX1 yX1_isThere yX1_isThere, Cond.initialized RX1, Cond.code yX1_isThere cX1_isThere 2 (some .boolean), Cond.fieldLink RX1 40 "LinkPredictor$Hierarchy" "there" "I", Cond.static yX4_contains, Cond.initialized RX4, Cond.code yX4_contains cX4_contains 2 (some .boolean), Cond.methodLink RX0 36 yX2_find, Cond.instanceMethod yX2_find, Cond.selects RX2 yX2_find yX2_find, Cond.initialized RX2, Cond.code yX2_find cX2_find 6 (some .int), Cond.fieldLink RX2 24 "LinkPredictor$Members" "size" "I", Cond.fieldLink RX2 15 "LinkPredictor$Members" "keys" "[I", Cond.fieldLink RX2 9 "LinkPredictor$Members" "owners" "[I", Cond.fieldLink RX2 36 "LinkPredictor$Members" "gone" "I", Cond.methodLink RX2 28 yX2_keyOf, Cond.static yX2_keyOf, Cond.code yX2_keyOf cX2_keyOf 2 (some .int), Cond.methodLink RX0 40 yX2_append]
def wsX0_addMember_r2 : List Cond := [Cond.instanceMethod yX2_append, Cond.selects RX2 yX2_append yX2_append, Cond.code yX2_append cX2_append 7 (some .int), Cond.fieldLink RX2 18 "LinkPredictor$Members" "accesses" "[I", Cond.fieldLink RX2 21 "LinkPredictor$Members" "flags" "[I"]
def wsX0_addMember : List Cond := .code yX0_addMember cX0_addMember 6 (some .int) :: ((wsX0_addMember_r1 ++ wsX0_addMember_r2) ++ wsX00 ++ wsX10 ++ wsX20)
def wsX1_becomeAs_r1 : List Cond := [Cond.fieldLink RX1 40 "LinkPredictor$Hierarchy" "there" "I", Cond.fieldLink RX1 9 "LinkPredictor$Hierarchy" "flags" "[I", Cond.methodLink RX1 51 arraycopyName, Cond.native arraycopyName, Cond.static arraycopyName, Cond.initialized "java/lang/System", Cond.fieldLink RX1 15 "LinkPredictor$Hierarchy" "packs" "[I", Cond.fieldLink RX1 18 "LinkPredictor$Hierarchy" "supers" "[I", Cond.fieldLink RX1 21 "LinkPredictor$Hierarchy" "directFaces" "[I", Cond.fieldLink RX1 24 "LinkPredictor$Hierarchy" "hosts" "[I", Cond.methodLink RX1 44 yX1_settle, Cond.instanceMethod yX1_settle, Cond.selects RX1 yX1_settle yX1_settle, Cond.initialized RX1, Cond.code yX1_settle cX1_settle 2 none, Cond.fieldLink RX1 72 "LinkPredictor$Hierarchy" "settled" "I", Cond.fieldLink RX1 27 "LinkPredictor$Hierarchy" "verdicts" "[I", Cond.methodLink RX1 78 yX1_loadInside, Cond.instanceMethod yX1_loadInside, Cond.selects RX1 yX1_loadInside yX1_loadInside, Cond.code yX1_loadInside cX1_loadInside 4 (some .int), Cond.methodLink RX1 47 yX1_isThere, Cond.instanceMethod yX1_isThere, Cond.selects RX1 yX1_isThere yX1_isThere]
def wsX1_becomeAs_r2 : List Cond := [Cond.code yX1_isThere cX1_isThere 2 (some .boolean), Cond.static yX4_contains, Cond.initialized RX4, Cond.code yX4_contains cX4_contains 2 (some .boolean), Cond.static yX4_bit, Cond.code yX4_bit cX4_bit 1 (some .int), Cond.methodLink RX1 82 yX1_loadParents, Cond.instanceMethod yX1_loadParents, Cond.selects RX1 yX1_loadParents yX1_loadParents, Cond.static yX4_isGood, Cond.code yX4_isGood cX4_isGood 1 (some .boolean), Cond.methodLink RX4 34 yX4_isWithin, Cond.static yX4_isWithin, Cond.code yX4_isWithin cX4_isWithin 2 (some .boolean), Cond.methodLink RX1 85 yX1_hasWrongParents, Cond.instanceMethod yX1_hasWrongParents, Cond.selects RX1 yX1_hasWrongParents yX1_hasWrongParents, Cond.code yX1_hasWrongParents cX1_hasWrongParents 4 (some .boolean), Cond.methodLink RX1 92 yX1_isInterface, Cond.instanceMethod yX1_isInterface, Cond.selects RX1 yX1_isInterface yX1_isInterface, Cond.code yX1_isInterface cX1_isInterface 2 (some .boolean), Cond.methodLink RX1 88 yX1_gatherSets, Cond.instanceMethod yX1_gatherSets]
def wsX1_becomeAs_r3 : List Cond := [Cond.selects RX1 yX1_gatherSets yX1_gatherSets, Cond.code yX1_gatherSets cX1_gatherSets 5 none, Cond.fieldLink RX1 30 "LinkPredictor$Hierarchy" "aboves" "[I", Cond.fieldLink RX1 33 "LinkPredictor$Hierarchy" "allFaces" "[I", Cond.code yX1_loadParents cX1_loadParents 5 (some .int)]
def wsX1_becomeAs : List Cond := .code yX1_becomeAs cX1_becomeAs 2 none :: ((wsX1_becomeAs_r1 ++ (wsX1_becomeAs_r2 ++ wsX1_becomeAs_r3)) ++ wsX10)
def wsX2_becomeAs : List Cond := .code yX2_becomeAs cX2_becomeAs 2 none :: ([.fieldLink RX2 24 "LinkPredictor$Members" "size" "I", .fieldLink RX2 36 "LinkPredictor$Members" "gone" "I", .fieldLink RX2 9 "LinkPredictor$Members" "owners" "[I", .methodLink RX2 43 arraycopyName, .native arraycopyName, .static arraycopyName, .initialized "java/lang/System", .fieldLink RX2 15 "LinkPredictor$Members" "keys" "[I", .fieldLink RX2 18 "LinkPredictor$Members" "accesses" "[I", .fieldLink RX2 21 "LinkPredictor$Members" "flags" "[I"] ++ wsX20)
def wsX0_becomeAs_r1 : List Cond := [Cond.fieldLink RX0 12 "LinkPredictor$Build" "types" "LLinkPredictor$Hierarchy;", Cond.fieldLink RX0 21 "LinkPredictor$Build" "members" "LLinkPredictor$Members;", Cond.methodLink RX0 44 yX1_becomeAs, Cond.instanceMethod yX1_becomeAs, Cond.selects RX1 yX1_becomeAs yX1_becomeAs, Cond.initialized RX1, Cond.code yX1_becomeAs cX1_becomeAs 2 none, Cond.fieldLink RX1 40 "LinkPredictor$Hierarchy" "there" "I", Cond.fieldLink RX1 9 "LinkPredictor$Hierarchy" "flags" "[I", Cond.methodLink RX1 51 arraycopyName, Cond.native arraycopyName, Cond.static arraycopyName, Cond.initialized "java/lang/System", Cond.fieldLink RX1 15 "LinkPredictor$Hierarchy" "packs" "[I", Cond.fieldLink RX1 18 "LinkPredictor$Hierarchy" "supers" "[I", Cond.fieldLink RX1 21 "LinkPredictor$Hierarchy" "directFaces" "[I", Cond.fieldLink RX1 24 "LinkPredictor$Hierarchy" "hosts" "[I", Cond.methodLink RX1 44 yX1_settle, Cond.instanceMethod yX1_settle, Cond.selects RX1 yX1_settle yX1_settle, Cond.code yX1_settle cX1_settle 2 none, Cond.fieldLink RX1 72 "LinkPredictor$Hierarchy" "settled" "I", Cond.fieldLink RX1 27 "LinkPredictor$Hierarchy" "verdicts" "[I", Cond.methodLink RX1 78 yX1_loadInside]
def wsX0_becomeAs_r2 : List Cond := [Cond.instanceMethod yX1_loadInside, Cond.selects RX1 yX1_loadInside yX1_loadInside, Cond.code yX1_loadInside cX1_loadInside 4 (some .int), Cond.methodLink RX1 47 yX1_isThere, Cond.instanceMethod yX1_isThere, Cond.selects RX1 yX1_isThere yX1_isThere, Cond.code yX1_isThere cX1_isThere 2 (some .boolean), Cond.static yX4_contains, Cond.initialized RX4, Cond.code yX4_contains cX4_contains 2 (some .boolean), Cond.static yX4_bit, Cond.code yX4_bit cX4_bit 1 (some .int), Cond.methodLink RX1 82 yX1_loadParents, Cond.instanceMethod yX1_loadParents, Cond.selects RX1 yX1_loadParents yX1_loadParents, Cond.static yX4_isGood, Cond.code yX4_isGood cX4_isGood 1 (some .boolean), Cond.methodLink RX4 34 yX4_isWithin, Cond.static yX4_isWithin, Cond.code yX4_isWithin cX4_isWithin 2 (some .boolean), Cond.methodLink RX1 85 yX1_hasWrongParents, Cond.instanceMethod yX1_hasWrongParents, Cond.selects RX1 yX1_hasWrongParents yX1_hasWrongParents, Cond.code yX1_hasWrongParents cX1_hasWrongParents 4 (some .boolean)]
def wsX0_becomeAs_r3 : List Cond := [Cond.methodLink RX1 92 yX1_isInterface, Cond.instanceMethod yX1_isInterface, Cond.selects RX1 yX1_isInterface yX1_isInterface, Cond.code yX1_isInterface cX1_isInterface 2 (some .boolean), Cond.methodLink RX1 88 yX1_gatherSets, Cond.instanceMethod yX1_gatherSets, Cond.selects RX1 yX1_gatherSets yX1_gatherSets, Cond.code yX1_gatherSets cX1_gatherSets 5 none, Cond.fieldLink RX1 30 "LinkPredictor$Hierarchy" "aboves" "[I", Cond.fieldLink RX1 33 "LinkPredictor$Hierarchy" "allFaces" "[I", Cond.code yX1_loadParents cX1_loadParents 5 (some .int), Cond.methodLink RX0 48 yX2_becomeAs, Cond.instanceMethod yX2_becomeAs, Cond.selects RX2 yX2_becomeAs yX2_becomeAs, Cond.initialized RX2, Cond.code yX2_becomeAs cX2_becomeAs 2 none, Cond.fieldLink RX2 24 "LinkPredictor$Members" "size" "I", Cond.fieldLink RX2 36 "LinkPredictor$Members" "gone" "I", Cond.fieldLink RX2 9 "LinkPredictor$Members" "owners" "[I", Cond.methodLink RX2 43 arraycopyName, Cond.fieldLink RX2 15 "LinkPredictor$Members" "keys" "[I", Cond.fieldLink RX2 18 "LinkPredictor$Members" "accesses" "[I", Cond.fieldLink RX2 21 "LinkPredictor$Members" "flags" "[I"]
def wsX0_becomeAs : List Cond := .code yX0_becomeAs cX0_becomeAs 2 none :: ((wsX0_becomeAs_r1 ++ (wsX0_becomeAs_r2 ++ wsX0_becomeAs_r3)) ++ wsX00 ++ wsX10 ++ wsX20)
def wsX1_loading : List Cond := .code yX1_loading cX1_loading 2 (some .int) :: ([.fieldLink RX1 27 "LinkPredictor$Hierarchy" "verdicts" "[I"] ++ wsX10)
def wsX1_isSamePackage : List Cond := .code yX1_isSamePackage cX1_isSamePackage 3 (some .boolean) :: ([.fieldLink RX1 15 "LinkPredictor$Hierarchy" "packs" "[I"] ++ wsX10)
def wsX1_reaching : List Cond := .code yX1_reaching cX1_reaching 4 (some .int) :: ([.fieldLink RX1 27 "LinkPredictor$Hierarchy" "verdicts" "[I", .fieldLink RX1 9 "LinkPredictor$Hierarchy" "flags" "[I", .static yX4_isGood, .initialized RX4, .code yX4_isGood cX4_isGood 1 (some .boolean), .methodLink RX4 34 yX4_isWithin, .static yX4_isWithin, .code yX4_isWithin cX4_isWithin 2 (some .boolean), .methodLink RX1 64 yX1_isSamePackage, .instanceMethod yX1_isSamePackage, .selects RX1 yX1_isSamePackage yX1_isSamePackage, .initialized RX1, .code yX1_isSamePackage cX1_isSamePackage 3 (some .boolean), .fieldLink RX1 15 "LinkPredictor$Hierarchy" "packs" "[I"] ++ wsX10)
def wsX3_isOfField : List Cond := .code yX3_isOfField cX3_isOfField 1 (some .boolean) :: ([.fieldLink RX3 9 "LinkPredictor$Reference" "kind" "I"] ++ wsX30)
def wsX1_directFacesOf : List Cond := .code yX1_directFacesOf cX1_directFacesOf 2 (some .int) :: ([.fieldLink RX1 21 "LinkPredictor$Hierarchy" "directFaces" "[I"] ++ wsX10)
def wsX1_superOf : List Cond := .code yX1_superOf cX1_superOf 2 (some .int) :: ([.fieldLink RX1 18 "LinkPredictor$Hierarchy" "supers" "[I"] ++ wsX10)
def wsX0_findField_r1 : List Cond := [Cond.fieldLink RX0 109 "LinkPredictor$Build" "searched" "I", Cond.fieldLink RX0 21 "LinkPredictor$Build" "members" "LLinkPredictor$Members;", Cond.fieldLink RX0 12 "LinkPredictor$Build" "types" "LLinkPredictor$Hierarchy;", Cond.static yX4_contains, Cond.initialized RX4, Cond.code yX4_contains cX4_contains 2 (some .boolean), Cond.static yX4_bit, Cond.code yX4_bit cX4_bit 1 (some .int), Cond.methodLink RX0 36 yX2_find, Cond.instanceMethod yX2_find, Cond.selects RX2 yX2_find yX2_find, Cond.initialized RX2, Cond.code yX2_find cX2_find 6 (some .int), Cond.fieldLink RX2 24 "LinkPredictor$Members" "size" "I", Cond.fieldLink RX2 15 "LinkPredictor$Members" "keys" "[I", Cond.fieldLink RX2 9 "LinkPredictor$Members" "owners" "[I", Cond.fieldLink RX2 36 "LinkPredictor$Members" "gone" "I", Cond.methodLink RX2 28 yX2_keyOf, Cond.static yX2_keyOf, Cond.code yX2_keyOf cX2_keyOf 2 (some .int), Cond.methodLink RX0 121 yX1_directFacesOf, Cond.instanceMethod yX1_directFacesOf, Cond.selects RX1 yX1_directFacesOf yX1_directFacesOf, Cond.initialized RX1]
def wsX0_findField_r2 : List Cond := [Cond.code yX1_directFacesOf cX1_directFacesOf 2 (some .int), Cond.fieldLink RX1 21 "LinkPredictor$Hierarchy" "directFaces" "[I", Cond.methodLink RX0 112 yX0_findField, Cond.instanceMethod yX0_findField, Cond.selects RX0 yX0_findField yX0_findField, Cond.initialized RX0, Cond.methodLink RX0 124 yX1_superOf, Cond.instanceMethod yX1_superOf, Cond.selects RX1 yX1_superOf yX1_superOf, Cond.code yX1_superOf cX1_superOf 2 (some .int), Cond.fieldLink RX1 18 "LinkPredictor$Hierarchy" "supers" "[I"]
def wsX0_findField : List Cond := .code yX0_findField cX0_findField 5 (some .int) :: ((wsX0_findField_r1 ++ wsX0_findField_r2) ++ wsX00 ++ wsX20 ++ wsX10)
def wsX0_lookUpField_r1 : List Cond := [Cond.fieldLink RX0 109 "LinkPredictor$Build" "searched" "I", Cond.methodLink RX0 112 yX0_findField, Cond.instanceMethod yX0_findField, Cond.selects RX0 yX0_findField yX0_findField, Cond.initialized RX0, Cond.code yX0_findField cX0_findField 5 (some .int), Cond.fieldLink RX0 21 "LinkPredictor$Build" "members" "LLinkPredictor$Members;", Cond.fieldLink RX0 12 "LinkPredictor$Build" "types" "LLinkPredictor$Hierarchy;", Cond.static yX4_contains, Cond.initialized RX4, Cond.code yX4_contains cX4_contains 2 (some .boolean), Cond.static yX4_bit, Cond.code yX4_bit cX4_bit 1 (some .int), Cond.methodLink RX0 36 yX2_find, Cond.instanceMethod yX2_find, Cond.selects RX2 yX2_find yX2_find, Cond.initialized RX2, Cond.code yX2_find cX2_find 6 (some .int), Cond.fieldLink RX2 24 "LinkPredictor$Members" "size" "I", Cond.fieldLink RX2 15 "LinkPredictor$Members" "keys" "[I", Cond.fieldLink RX2 9 "LinkPredictor$Members" "owners" "[I", Cond.fieldLink RX2 36 "LinkPredictor$Members" "gone" "I", Cond.methodLink RX2 28 yX2_keyOf, Cond.static yX2_keyOf]
def wsX0_lookUpField_r2 : List Cond := [Cond.code yX2_keyOf cX2_keyOf 2 (some .int), Cond.methodLink RX0 121 yX1_directFacesOf, Cond.instanceMethod yX1_directFacesOf, Cond.selects RX1 yX1_directFacesOf yX1_directFacesOf, Cond.initialized RX1, Cond.code yX1_directFacesOf cX1_directFacesOf 2 (some .int), Cond.fieldLink RX1 21 "LinkPredictor$Hierarchy" "directFaces" "[I", Cond.methodLink RX0 124 yX1_superOf, Cond.instanceMethod yX1_superOf, Cond.selects RX1 yX1_superOf yX1_superOf, Cond.code yX1_superOf cX1_superOf 2 (some .int), Cond.fieldLink RX1 18 "LinkPredictor$Hierarchy" "supers" "[I"]
def wsX0_lookUpField : List Cond := .code yX0_lookUpField cX0_lookUpField 3 (some .int) :: ((wsX0_lookUpField_r1 ++ wsX0_lookUpField_r2) ++ wsX00 ++ wsX30 ++ wsX20 ++ wsX10)
def wsX2_accessOf : List Cond := .code yX2_accessOf cX2_accessOf 2 (some .int) :: ([.fieldLink RX2 18 "LinkPredictor$Members" "accesses" "[I"] ++ wsX20)
def wsX2_isStatic : List Cond := .code yX2_isStatic cX2_isStatic 2 (some .boolean) :: ([.fieldLink RX2 21 "LinkPredictor$Members" "flags" "[I"] ++ wsX20)
def wsX0_findInInterface_r1 : List Cond := [Cond.fieldLink RX0 21 "LinkPredictor$Build" "members" "LLinkPredictor$Members;", Cond.methodLink RX0 36 yX2_find, Cond.instanceMethod yX2_find, Cond.selects RX2 yX2_find yX2_find, Cond.initialized RX2, Cond.code yX2_find cX2_find 6 (some .int), Cond.fieldLink RX2 24 "LinkPredictor$Members" "size" "I", Cond.fieldLink RX2 15 "LinkPredictor$Members" "keys" "[I", Cond.fieldLink RX2 9 "LinkPredictor$Members" "owners" "[I", Cond.fieldLink RX2 36 "LinkPredictor$Members" "gone" "I", Cond.methodLink RX2 28 yX2_keyOf, Cond.static yX2_keyOf, Cond.code yX2_keyOf cX2_keyOf 2 (some .int), Cond.static yX4_contains, Cond.initialized RX4, Cond.code yX4_contains cX4_contains 2 (some .boolean), Cond.methodLink RX0 96 yX2_accessOf, Cond.instanceMethod yX2_accessOf, Cond.selects RX2 yX2_accessOf yX2_accessOf, Cond.code yX2_accessOf cX2_accessOf 2 (some .int), Cond.fieldLink RX2 18 "LinkPredictor$Members" "accesses" "[I", Cond.methodLink RX0 139 yX2_isStatic, Cond.instanceMethod yX2_isStatic, Cond.selects RX2 yX2_isStatic yX2_isStatic]
def wsX0_findInInterface_r2 : List Cond := [Cond.code yX2_isStatic cX2_isStatic 2 (some .boolean), Cond.fieldLink RX2 21 "LinkPredictor$Members" "flags" "[I"]
def wsX0_findInInterface : List Cond := .code yX0_findInInterface cX0_findInInterface 5 (some .int) :: ((wsX0_findInInterface_r1 ++ wsX0_findInInterface_r2) ++ wsX00 ++ wsX20)
def wsX0_findInAbove : List Cond := .code yX0_findInAbove cX0_findInAbove 6 (some .int) :: ([.fieldLink RX0 21 "LinkPredictor$Build" "members" "LLinkPredictor$Members;", .fieldLink RX0 12 "LinkPredictor$Build" "types" "LLinkPredictor$Hierarchy;", .methodLink RX0 36 yX2_find, .instanceMethod yX2_find, .selects RX2 yX2_find yX2_find, .initialized RX2, .code yX2_find cX2_find 6 (some .int), .fieldLink RX2 24 "LinkPredictor$Members" "size" "I", .fieldLink RX2 15 "LinkPredictor$Members" "keys" "[I", .fieldLink RX2 9 "LinkPredictor$Members" "owners" "[I", .fieldLink RX2 36 "LinkPredictor$Members" "gone" "I", .methodLink RX2 28 yX2_keyOf, .static yX2_keyOf, .code yX2_keyOf cX2_keyOf 2 (some .int), .static yX4_contains, .initialized RX4, .code yX4_contains cX4_contains 2 (some .boolean), .methodLink RX0 124 yX1_superOf, .instanceMethod yX1_superOf, .selects RX1 yX1_superOf yX1_superOf, .initialized RX1, .code yX1_superOf cX1_superOf 2 (some .int), .fieldLink RX1 18 "LinkPredictor$Hierarchy" "supers" "[I"] ++ wsX00 ++ wsX20 ++ wsX10)
def wsX1_facesOf : List Cond := .code yX1_facesOf cX1_facesOf 2 (some .int) :: ([.fieldLink RX1 33 "LinkPredictor$Hierarchy" "allFaces" "[I"] ++ wsX10)
def wsX2_isInheritable : List Cond := .code yX2_isInheritable cX2_isInheritable 2 (some .boolean) :: ([.fieldLink RX2 18 "LinkPredictor$Members" "accesses" "[I", .fieldLink RX2 21 "LinkPredictor$Members" "flags" "[I"] ++ wsX20)
def wsX2_ownersOfInheritable : List Cond := .code yX2_ownersOfInheritable cX2_ownersOfInheritable 5 (some .int) :: ([.fieldLink RX2 24 "LinkPredictor$Members" "size" "I", .fieldLink RX2 15 "LinkPredictor$Members" "keys" "[I", .fieldLink RX2 36 "LinkPredictor$Members" "gone" "I", .fieldLink RX2 9 "LinkPredictor$Members" "owners" "[I", .methodLink RX2 28 yX2_keyOf, .static yX2_keyOf, .initialized RX2, .code yX2_keyOf cX2_keyOf 2 (some .int), .static yX4_contains, .initialized RX4, .code yX4_contains cX4_contains 2 (some .boolean), .methodLink RX2 53 yX2_isInheritable, .instanceMethod yX2_isInheritable, .selects RX2 yX2_isInheritable yX2_isInheritable, .code yX2_isInheritable cX2_isInheritable 2 (some .boolean), .fieldLink RX2 18 "LinkPredictor$Members" "accesses" "[I", .fieldLink RX2 21 "LinkPredictor$Members" "flags" "[I", .static yX4_bit, .code yX4_bit cX4_bit 1 (some .int)] ++ wsX20)
def wsX1_mostSpecificOf : List Cond := .code yX1_mostSpecificOf cX1_mostSpecificOf 4 (some .int) :: ([.fieldLink RX1 33 "LinkPredictor$Hierarchy" "allFaces" "[I", .static yX4_contains, .initialized RX4, .code yX4_contains cX4_contains 2 (some .boolean)] ++ wsX10)
def wsX2_isAbstract : List Cond := .code yX2_isAbstract cX2_isAbstract 2 (some .boolean) :: ([.fieldLink RX2 21 "LinkPredictor$Members" "flags" "[I"] ++ wsX20)
def wsX0_findOnlyWithBody : List Cond := .code yX0_findOnlyWithBody cX0_findOnlyWithBody 6 (some .int) :: ([.fieldLink RX0 21 "LinkPredictor$Build" "members" "LLinkPredictor$Members;", .static yX4_contains, .initialized RX4, .code yX4_contains cX4_contains 2 (some .boolean), .methodLink RX0 36 yX2_find, .instanceMethod yX2_find, .selects RX2 yX2_find yX2_find, .initialized RX2, .code yX2_find cX2_find 6 (some .int), .fieldLink RX2 24 "LinkPredictor$Members" "size" "I", .fieldLink RX2 15 "LinkPredictor$Members" "keys" "[I", .fieldLink RX2 9 "LinkPredictor$Members" "owners" "[I", .fieldLink RX2 36 "LinkPredictor$Members" "gone" "I", .methodLink RX2 28 yX2_keyOf, .static yX2_keyOf, .code yX2_keyOf cX2_keyOf 2 (some .int), .methodLink RX0 162 yX2_isAbstract, .instanceMethod yX2_isAbstract, .selects RX2 yX2_isAbstract yX2_isAbstract, .code yX2_isAbstract cX2_isAbstract 2 (some .boolean), .fieldLink RX2 21 "LinkPredictor$Members" "flags" "[I"] ++ wsX00 ++ wsX20)
def wsX0_findLeast : List Cond := .code yX0_findLeast cX0_findLeast 6 (some .int) :: ([.fieldLink RX0 21 "LinkPredictor$Build" "members" "LLinkPredictor$Members;", .methodLink RX0 157 Lib.Math.min.name, .static Lib.Math.min.name, .initialized "java/lang/Math", .code Lib.Math.min.name Lib.Math.min.code 2 (some .int), .static yX4_contains, .initialized RX4, .code yX4_contains cX4_contains 2 (some .boolean), .methodLink RX0 36 yX2_find, .instanceMethod yX2_find, .selects RX2 yX2_find yX2_find, .initialized RX2, .code yX2_find cX2_find 6 (some .int), .fieldLink RX2 24 "LinkPredictor$Members" "size" "I", .fieldLink RX2 15 "LinkPredictor$Members" "keys" "[I", .fieldLink RX2 9 "LinkPredictor$Members" "owners" "[I", .fieldLink RX2 36 "LinkPredictor$Members" "gone" "I", .methodLink RX2 28 yX2_keyOf, .static yX2_keyOf, .code yX2_keyOf cX2_keyOf 2 (some .int)] ++ wsX00 ++ wsX20)
def wsX0_findBest_r1 : List Cond := [Cond.fieldLink RX0 12 "LinkPredictor$Build" "types" "LLinkPredictor$Hierarchy;", Cond.fieldLink RX0 21 "LinkPredictor$Build" "members" "LLinkPredictor$Members;", Cond.methodLink RX0 142 yX1_facesOf, Cond.instanceMethod yX1_facesOf, Cond.selects RX1 yX1_facesOf yX1_facesOf, Cond.initialized RX1, Cond.code yX1_facesOf cX1_facesOf 2 (some .int), Cond.fieldLink RX1 33 "LinkPredictor$Hierarchy" "allFaces" "[I", Cond.methodLink RX0 145 yX2_ownersOfInheritable, Cond.instanceMethod yX2_ownersOfInheritable, Cond.selects RX2 yX2_ownersOfInheritable yX2_ownersOfInheritable, Cond.initialized RX2, Cond.code yX2_ownersOfInheritable cX2_ownersOfInheritable 5 (some .int), Cond.fieldLink RX2 24 "LinkPredictor$Members" "size" "I", Cond.fieldLink RX2 15 "LinkPredictor$Members" "keys" "[I", Cond.fieldLink RX2 36 "LinkPredictor$Members" "gone" "I", Cond.fieldLink RX2 9 "LinkPredictor$Members" "owners" "[I", Cond.methodLink RX2 28 yX2_keyOf, Cond.static yX2_keyOf, Cond.code yX2_keyOf cX2_keyOf 2 (some .int), Cond.static yX4_contains, Cond.initialized RX4, Cond.code yX4_contains cX4_contains 2 (some .boolean), Cond.methodLink RX2 53 yX2_isInheritable]
def wsX0_findBest_r2 : List Cond := [Cond.instanceMethod yX2_isInheritable, Cond.selects RX2 yX2_isInheritable yX2_isInheritable, Cond.code yX2_isInheritable cX2_isInheritable 2 (some .boolean), Cond.fieldLink RX2 18 "LinkPredictor$Members" "accesses" "[I", Cond.fieldLink RX2 21 "LinkPredictor$Members" "flags" "[I", Cond.static yX4_bit, Cond.code yX4_bit cX4_bit 1 (some .int), Cond.methodLink RX0 148 yX1_mostSpecificOf, Cond.instanceMethod yX1_mostSpecificOf, Cond.selects RX1 yX1_mostSpecificOf yX1_mostSpecificOf, Cond.code yX1_mostSpecificOf cX1_mostSpecificOf 4 (some .int), Cond.methodLink RX0 151 yX0_findOnlyWithBody, Cond.instanceMethod yX0_findOnlyWithBody, Cond.selects RX0 yX0_findOnlyWithBody yX0_findOnlyWithBody, Cond.initialized RX0, Cond.code yX0_findOnlyWithBody cX0_findOnlyWithBody 6 (some .int), Cond.methodLink RX0 36 yX2_find, Cond.instanceMethod yX2_find, Cond.selects RX2 yX2_find yX2_find, Cond.code yX2_find cX2_find 6 (some .int), Cond.methodLink RX0 162 yX2_isAbstract, Cond.instanceMethod yX2_isAbstract, Cond.selects RX2 yX2_isAbstract yX2_isAbstract, Cond.code yX2_isAbstract cX2_isAbstract 2 (some .boolean)]
def wsX0_findBest_r3 : List Cond := [Cond.methodLink RX0 154 yX0_findLeast, Cond.instanceMethod yX0_findLeast, Cond.selects RX0 yX0_findLeast yX0_findLeast, Cond.code yX0_findLeast cX0_findLeast 6 (some .int), Cond.methodLink RX0 157 Lib.Math.min.name, Cond.static Lib.Math.min.name, Cond.initialized "java/lang/Math", Cond.code Lib.Math.min.name Lib.Math.min.code 2 (some .int)]
def wsX0_findBest : List Cond := .code yX0_findBest cX0_findBest 5 (some .int) :: ((wsX0_findBest_r1 ++ (wsX0_findBest_r2 ++ wsX0_findBest_r3)) ++ wsX00 ++ wsX10 ++ wsX20)
def wsX0_lookUpMethod_r1 : List Cond := [Cond.fieldLink RX0 12 "LinkPredictor$Build" "types" "LLinkPredictor$Hierarchy;", Cond.methodLink RX0 127 yX1_isInterface, Cond.instanceMethod yX1_isInterface, Cond.selects RX1 yX1_isInterface yX1_isInterface, Cond.initialized RX1, Cond.code yX1_isInterface cX1_isInterface 2 (some .boolean), Cond.fieldLink RX1 9 "LinkPredictor$Hierarchy" "flags" "[I", Cond.methodLink RX0 130 yX0_findInInterface, Cond.instanceMethod yX0_findInInterface, Cond.selects RX0 yX0_findInInterface yX0_findInInterface, Cond.initialized RX0, Cond.code yX0_findInInterface cX0_findInInterface 5 (some .int), Cond.fieldLink RX0 21 "LinkPredictor$Build" "members" "LLinkPredictor$Members;", Cond.methodLink RX0 36 yX2_find, Cond.instanceMethod yX2_find, Cond.selects RX2 yX2_find yX2_find, Cond.initialized RX2, Cond.code yX2_find cX2_find 6 (some .int), Cond.fieldLink RX2 24 "LinkPredictor$Members" "size" "I", Cond.fieldLink RX2 15 "LinkPredictor$Members" "keys" "[I", Cond.fieldLink RX2 9 "LinkPredictor$Members" "owners" "[I", Cond.fieldLink RX2 36 "LinkPredictor$Members" "gone" "I", Cond.methodLink RX2 28 yX2_keyOf, Cond.static yX2_keyOf]
def wsX0_lookUpMethod_r2 : List Cond := [Cond.code yX2_keyOf cX2_keyOf 2 (some .int), Cond.static yX4_contains, Cond.initialized RX4, Cond.code yX4_contains cX4_contains 2 (some .boolean), Cond.methodLink RX0 96 yX2_accessOf, Cond.instanceMethod yX2_accessOf, Cond.selects RX2 yX2_accessOf yX2_accessOf, Cond.code yX2_accessOf cX2_accessOf 2 (some .int), Cond.fieldLink RX2 18 "LinkPredictor$Members" "accesses" "[I", Cond.methodLink RX0 139 yX2_isStatic, Cond.instanceMethod yX2_isStatic, Cond.selects RX2 yX2_isStatic yX2_isStatic, Cond.code yX2_isStatic cX2_isStatic 2 (some .boolean), Cond.fieldLink RX2 21 "LinkPredictor$Members" "flags" "[I", Cond.methodLink RX0 133 yX0_findInAbove, Cond.instanceMethod yX0_findInAbove, Cond.selects RX0 yX0_findInAbove yX0_findInAbove, Cond.code yX0_findInAbove cX0_findInAbove 6 (some .int), Cond.methodLink RX0 124 yX1_superOf, Cond.instanceMethod yX1_superOf, Cond.selects RX1 yX1_superOf yX1_superOf, Cond.code yX1_superOf cX1_superOf 2 (some .int), Cond.fieldLink RX1 18 "LinkPredictor$Hierarchy" "supers" "[I", Cond.methodLink RX0 136 yX0_findBest]
def wsX0_lookUpMethod_r3 : List Cond := [Cond.instanceMethod yX0_findBest, Cond.selects RX0 yX0_findBest yX0_findBest, Cond.code yX0_findBest cX0_findBest 5 (some .int), Cond.methodLink RX0 142 yX1_facesOf, Cond.instanceMethod yX1_facesOf, Cond.selects RX1 yX1_facesOf yX1_facesOf, Cond.code yX1_facesOf cX1_facesOf 2 (some .int), Cond.fieldLink RX1 33 "LinkPredictor$Hierarchy" "allFaces" "[I", Cond.methodLink RX0 145 yX2_ownersOfInheritable, Cond.instanceMethod yX2_ownersOfInheritable, Cond.selects RX2 yX2_ownersOfInheritable yX2_ownersOfInheritable, Cond.code yX2_ownersOfInheritable cX2_ownersOfInheritable 5 (some .int), Cond.methodLink RX2 53 yX2_isInheritable, Cond.instanceMethod yX2_isInheritable, Cond.selects RX2 yX2_isInheritable yX2_isInheritable, Cond.code yX2_isInheritable cX2_isInheritable 2 (some .boolean), Cond.static yX4_bit, Cond.code yX4_bit cX4_bit 1 (some .int), Cond.methodLink RX0 148 yX1_mostSpecificOf, Cond.instanceMethod yX1_mostSpecificOf, Cond.selects RX1 yX1_mostSpecificOf yX1_mostSpecificOf, Cond.code yX1_mostSpecificOf cX1_mostSpecificOf 4 (some .int), Cond.methodLink RX0 151 yX0_findOnlyWithBody, Cond.instanceMethod yX0_findOnlyWithBody]
def wsX0_lookUpMethod_r4 : List Cond := [Cond.selects RX0 yX0_findOnlyWithBody yX0_findOnlyWithBody, Cond.code yX0_findOnlyWithBody cX0_findOnlyWithBody 6 (some .int), Cond.methodLink RX0 162 yX2_isAbstract, Cond.instanceMethod yX2_isAbstract, Cond.selects RX2 yX2_isAbstract yX2_isAbstract, Cond.code yX2_isAbstract cX2_isAbstract 2 (some .boolean), Cond.methodLink RX0 154 yX0_findLeast, Cond.instanceMethod yX0_findLeast, Cond.selects RX0 yX0_findLeast yX0_findLeast, Cond.code yX0_findLeast cX0_findLeast 6 (some .int), Cond.methodLink RX0 157 Lib.Math.min.name, Cond.static Lib.Math.min.name, Cond.initialized "java/lang/Math", Cond.code Lib.Math.min.name Lib.Math.min.code 2 (some .int)]
def wsX0_lookUpMethod : List Cond := .code yX0_lookUpMethod cX0_lookUpMethod 4 (some .int) :: ((wsX0_lookUpMethod_r1 ++ (wsX0_lookUpMethod_r2 ++ (wsX0_lookUpMethod_r3 ++ wsX0_lookUpMethod_r4))) ++ wsX00 ++ wsX30 ++ wsX10 ++ wsX20)
def wsX2_ownerOf : List Cond := .code yX2_ownerOf cX2_ownerOf 2 (some .int) :: ([.fieldLink RX2 9 "LinkPredictor$Members" "owners" "[I"] ++ wsX20)
def wsX1_hasAbove : List Cond := .code yX1_hasAbove cX1_hasAbove 3 (some .boolean) :: ([.fieldLink RX1 30 "LinkPredictor$Hierarchy" "aboves" "[I", .static yX4_contains, .initialized RX4, .code yX4_contains cX4_contains 2 (some .boolean)] ++ wsX10)
def wsX1_liesUnder : List Cond := .code yX1_liesUnder cX1_liesUnder 3 (some .boolean) :: ([.fieldLink RX1 30 "LinkPredictor$Hierarchy" "aboves" "[I", .fieldLink RX1 33 "LinkPredictor$Hierarchy" "allFaces" "[I", .static yX4_contains, .initialized RX4, .code yX4_contains cX4_contains 2 (some .boolean)] ++ wsX10)
def wsX0_isInherited_r1 : List Cond := [Cond.fieldLink RX0 12 "LinkPredictor$Build" "types" "LLinkPredictor$Hierarchy;", Cond.fieldLink RX0 21 "LinkPredictor$Build" "members" "LLinkPredictor$Members;", Cond.methodLink RX0 178 yX2_ownerOf, Cond.instanceMethod yX2_ownerOf, Cond.selects RX2 yX2_ownerOf yX2_ownerOf, Cond.initialized RX2, Cond.code yX2_ownerOf cX2_ownerOf 2 (some .int), Cond.fieldLink RX2 9 "LinkPredictor$Members" "owners" "[I", Cond.methodLink RX0 193 yX1_hasAbove, Cond.instanceMethod yX1_hasAbove, Cond.selects RX1 yX1_hasAbove yX1_hasAbove, Cond.initialized RX1, Cond.code yX1_hasAbove cX1_hasAbove 3 (some .boolean), Cond.fieldLink RX1 30 "LinkPredictor$Hierarchy" "aboves" "[I", Cond.static yX4_contains, Cond.initialized RX4, Cond.code yX4_contains cX4_contains 2 (some .boolean), Cond.methodLink RX0 139 yX2_isStatic, Cond.instanceMethod yX2_isStatic, Cond.selects RX2 yX2_isStatic yX2_isStatic, Cond.code yX2_isStatic cX2_isStatic 2 (some .boolean), Cond.fieldLink RX2 21 "LinkPredictor$Members" "flags" "[I", Cond.methodLink RX0 181 yX1_liesUnder, Cond.instanceMethod yX1_liesUnder]
def wsX0_isInherited_r2 : List Cond := [Cond.selects RX1 yX1_liesUnder yX1_liesUnder, Cond.code yX1_liesUnder cX1_liesUnder 3 (some .boolean), Cond.fieldLink RX1 33 "LinkPredictor$Hierarchy" "allFaces" "[I"]
def wsX0_isInherited : List Cond := .code yX0_isInherited cX0_isInherited 4 (some .boolean) :: ((wsX0_isInherited_r1 ++ wsX0_isInherited_r2) ++ wsX00 ++ wsX20 ++ wsX10)
def wsX1_nestOf : List Cond := .code yX1_nestOf cX1_nestOf 3 (some .int) :: ([.fieldLink RX1 24 "LinkPredictor$Hierarchy" "hosts" "[I", .methodLink RX1 47 yX1_isThere, .instanceMethod yX1_isThere, .selects RX1 yX1_isThere yX1_isThere, .initialized RX1, .code yX1_isThere cX1_isThere 2 (some .boolean), .fieldLink RX1 40 "LinkPredictor$Hierarchy" "there" "I", .static yX4_contains, .initialized RX4, .code yX4_contains cX4_contains 2 (some .boolean), .methodLink RX1 64 yX1_isSamePackage, .instanceMethod yX1_isSamePackage, .selects RX1 yX1_isSamePackage yX1_isSamePackage, .code yX1_isSamePackage cX1_isSamePackage 3 (some .boolean), .fieldLink RX1 15 "LinkPredictor$Hierarchy" "packs" "[I"] ++ wsX10)
def wsX0_isAccessible_r1 : List Cond := [Cond.fieldLink RX0 21 "LinkPredictor$Build" "members" "LLinkPredictor$Members;", Cond.fieldLink RX0 12 "LinkPredictor$Build" "types" "LLinkPredictor$Hierarchy;", Cond.methodLink RX0 178 yX2_ownerOf, Cond.instanceMethod yX2_ownerOf, Cond.selects RX2 yX2_ownerOf yX2_ownerOf, Cond.initialized RX2, Cond.code yX2_ownerOf cX2_ownerOf 2 (some .int), Cond.fieldLink RX2 9 "LinkPredictor$Members" "owners" "[I", Cond.methodLink RX0 96 yX2_accessOf, Cond.instanceMethod yX2_accessOf, Cond.selects RX2 yX2_accessOf yX2_accessOf, Cond.code yX2_accessOf cX2_accessOf 2 (some .int), Cond.fieldLink RX2 18 "LinkPredictor$Members" "accesses" "[I", Cond.methodLink RX0 184 yX1_isSamePackage, Cond.instanceMethod yX1_isSamePackage, Cond.selects RX1 yX1_isSamePackage yX1_isSamePackage, Cond.initialized RX1, Cond.code yX1_isSamePackage cX1_isSamePackage 3 (some .boolean), Cond.fieldLink RX1 15 "LinkPredictor$Hierarchy" "packs" "[I", Cond.methodLink RX0 187 yX0_isInherited, Cond.instanceMethod yX0_isInherited, Cond.selects RX0 yX0_isInherited yX0_isInherited, Cond.initialized RX0, Cond.code yX0_isInherited cX0_isInherited 4 (some .boolean)]
def wsX0_isAccessible_r2 : List Cond := [Cond.methodLink RX0 193 yX1_hasAbove, Cond.instanceMethod yX1_hasAbove, Cond.selects RX1 yX1_hasAbove yX1_hasAbove, Cond.code yX1_hasAbove cX1_hasAbove 3 (some .boolean), Cond.fieldLink RX1 30 "LinkPredictor$Hierarchy" "aboves" "[I", Cond.static yX4_contains, Cond.initialized RX4, Cond.code yX4_contains cX4_contains 2 (some .boolean), Cond.methodLink RX0 139 yX2_isStatic, Cond.instanceMethod yX2_isStatic, Cond.selects RX2 yX2_isStatic yX2_isStatic, Cond.code yX2_isStatic cX2_isStatic 2 (some .boolean), Cond.fieldLink RX2 21 "LinkPredictor$Members" "flags" "[I", Cond.methodLink RX0 181 yX1_liesUnder, Cond.instanceMethod yX1_liesUnder, Cond.selects RX1 yX1_liesUnder yX1_liesUnder, Cond.code yX1_liesUnder cX1_liesUnder 3 (some .boolean), Cond.fieldLink RX1 33 "LinkPredictor$Hierarchy" "allFaces" "[I", Cond.methodLink RX0 190 yX1_nestOf, Cond.instanceMethod yX1_nestOf, Cond.selects RX1 yX1_nestOf yX1_nestOf, Cond.code yX1_nestOf cX1_nestOf 3 (some .int), Cond.fieldLink RX1 24 "LinkPredictor$Hierarchy" "hosts" "[I", Cond.methodLink RX1 47 yX1_isThere]
def wsX0_isAccessible_r3 : List Cond := [Cond.instanceMethod yX1_isThere, Cond.selects RX1 yX1_isThere yX1_isThere, Cond.code yX1_isThere cX1_isThere 2 (some .boolean), Cond.fieldLink RX1 40 "LinkPredictor$Hierarchy" "there" "I", Cond.methodLink RX1 64 yX1_isSamePackage]
def wsX0_isAccessible : List Cond := .code yX0_isAccessible cX0_isAccessible 5 (some .boolean) :: ((wsX0_isAccessible_r1 ++ (wsX0_isAccessible_r2 ++ wsX0_isAccessible_r3)) ++ wsX00 ++ wsX20 ++ wsX10)
def wsX3_needsStatic : List Cond := .code yX3_needsStatic cX3_needsStatic 1 (some .boolean) :: ([.fieldLink RX3 9 "LinkPredictor$Reference" "kind" "I"] ++ wsX30)
def wsX3_isPut : List Cond := .code yX3_isPut cX3_isPut 1 (some .boolean) :: ([.fieldLink RX3 9 "LinkPredictor$Reference" "kind" "I"] ++ wsX30)
def wsX2_isFinal : List Cond := .code yX2_isFinal cX2_isFinal 2 (some .boolean) :: ([.fieldLink RX2 21 "LinkPredictor$Members" "flags" "[I"] ++ wsX20)
def wsX0_checkMember_r1 : List Cond := [Cond.fieldLink RX0 21 "LinkPredictor$Build" "members" "LLinkPredictor$Members;", Cond.fieldLink RX0 12 "LinkPredictor$Build" "types" "LLinkPredictor$Hierarchy;", Cond.methodLink RX0 165 yX0_isAccessible, Cond.instanceMethod yX0_isAccessible, Cond.selects RX0 yX0_isAccessible yX0_isAccessible, Cond.initialized RX0, Cond.code yX0_isAccessible cX0_isAccessible 5 (some .boolean), Cond.methodLink RX0 178 yX2_ownerOf, Cond.instanceMethod yX2_ownerOf, Cond.selects RX2 yX2_ownerOf yX2_ownerOf, Cond.initialized RX2, Cond.code yX2_ownerOf cX2_ownerOf 2 (some .int), Cond.fieldLink RX2 9 "LinkPredictor$Members" "owners" "[I", Cond.methodLink RX0 96 yX2_accessOf, Cond.instanceMethod yX2_accessOf, Cond.selects RX2 yX2_accessOf yX2_accessOf, Cond.code yX2_accessOf cX2_accessOf 2 (some .int), Cond.fieldLink RX2 18 "LinkPredictor$Members" "accesses" "[I", Cond.methodLink RX0 184 yX1_isSamePackage, Cond.instanceMethod yX1_isSamePackage, Cond.selects RX1 yX1_isSamePackage yX1_isSamePackage, Cond.initialized RX1, Cond.code yX1_isSamePackage cX1_isSamePackage 3 (some .boolean), Cond.fieldLink RX1 15 "LinkPredictor$Hierarchy" "packs" "[I"]
def wsX0_checkMember_r2 : List Cond := [Cond.methodLink RX0 187 yX0_isInherited, Cond.instanceMethod yX0_isInherited, Cond.selects RX0 yX0_isInherited yX0_isInherited, Cond.code yX0_isInherited cX0_isInherited 4 (some .boolean), Cond.methodLink RX0 193 yX1_hasAbove, Cond.instanceMethod yX1_hasAbove, Cond.selects RX1 yX1_hasAbove yX1_hasAbove, Cond.code yX1_hasAbove cX1_hasAbove 3 (some .boolean), Cond.fieldLink RX1 30 "LinkPredictor$Hierarchy" "aboves" "[I", Cond.static yX4_contains, Cond.initialized RX4, Cond.code yX4_contains cX4_contains 2 (some .boolean), Cond.methodLink RX0 139 yX2_isStatic, Cond.instanceMethod yX2_isStatic, Cond.selects RX2 yX2_isStatic yX2_isStatic, Cond.code yX2_isStatic cX2_isStatic 2 (some .boolean), Cond.fieldLink RX2 21 "LinkPredictor$Members" "flags" "[I", Cond.methodLink RX0 181 yX1_liesUnder, Cond.instanceMethod yX1_liesUnder, Cond.selects RX1 yX1_liesUnder yX1_liesUnder, Cond.code yX1_liesUnder cX1_liesUnder 3 (some .boolean), Cond.fieldLink RX1 33 "LinkPredictor$Hierarchy" "allFaces" "[I", Cond.methodLink RX0 190 yX1_nestOf, Cond.instanceMethod yX1_nestOf]
def wsX0_checkMember_r3 : List Cond := [Cond.selects RX1 yX1_nestOf yX1_nestOf, Cond.code yX1_nestOf cX1_nestOf 3 (some .int), Cond.fieldLink RX1 24 "LinkPredictor$Hierarchy" "hosts" "[I", Cond.methodLink RX1 47 yX1_isThere, Cond.instanceMethod yX1_isThere, Cond.selects RX1 yX1_isThere yX1_isThere, Cond.code yX1_isThere cX1_isThere 2 (some .boolean), Cond.fieldLink RX1 40 "LinkPredictor$Hierarchy" "there" "I", Cond.methodLink RX1 64 yX1_isSamePackage, Cond.methodLink RX0 169 yX3_needsStatic, Cond.instanceMethod yX3_needsStatic, Cond.selects RX3 yX3_needsStatic yX3_needsStatic, Cond.initialized RX3, Cond.code yX3_needsStatic cX3_needsStatic 1 (some .boolean), Cond.fieldLink RX3 9 "LinkPredictor$Reference" "kind" "I", Cond.methodLink RX0 172 yX3_isPut, Cond.instanceMethod yX3_isPut, Cond.selects RX3 yX3_isPut yX3_isPut, Cond.code yX3_isPut cX3_isPut 1 (some .boolean), Cond.methodLink RX0 175 yX2_isFinal, Cond.instanceMethod yX2_isFinal, Cond.selects RX2 yX2_isFinal yX2_isFinal, Cond.code yX2_isFinal cX2_isFinal 2 (some .boolean), Cond.methodLink RX0 162 yX2_isAbstract]
def wsX0_checkMember_r4 : List Cond := [Cond.instanceMethod yX2_isAbstract, Cond.selects RX2 yX2_isAbstract yX2_isAbstract, Cond.code yX2_isAbstract cX2_isAbstract 2 (some .boolean)]
def wsX0_checkMember : List Cond := .code yX0_checkMember cX0_checkMember 3 (some .int) :: ((wsX0_checkMember_r1 ++ (wsX0_checkMember_r2 ++ (wsX0_checkMember_r3 ++ wsX0_checkMember_r4))) ++ wsX30 ++ wsX00 ++ wsX20 ++ wsX10)
def wsX0_resolution_r1 : List Cond := [Cond.fieldLink RX0 12 "LinkPredictor$Build" "types" "LLinkPredictor$Hierarchy;", Cond.methodLink RX0 57 yX1_loading, Cond.instanceMethod yX1_loading, Cond.selects RX1 yX1_loading yX1_loading, Cond.initialized RX1, Cond.code yX1_loading cX1_loading 2 (some .int), Cond.fieldLink RX1 27 "LinkPredictor$Hierarchy" "verdicts" "[I", Cond.static yX4_isGood, Cond.initialized RX4, Cond.code yX4_isGood cX4_isGood 1 (some .boolean), Cond.methodLink RX4 34 yX4_isWithin, Cond.static yX4_isWithin, Cond.code yX4_isWithin cX4_isWithin 2 (some .boolean), Cond.methodLink RX0 67 yX1_reaching, Cond.instanceMethod yX1_reaching, Cond.selects RX1 yX1_reaching yX1_reaching, Cond.code yX1_reaching cX1_reaching 4 (some .int), Cond.fieldLink RX1 9 "LinkPredictor$Hierarchy" "flags" "[I", Cond.methodLink RX1 64 yX1_isSamePackage, Cond.instanceMethod yX1_isSamePackage, Cond.selects RX1 yX1_isSamePackage yX1_isSamePackage, Cond.code yX1_isSamePackage cX1_isSamePackage 3 (some .boolean), Cond.fieldLink RX1 15 "LinkPredictor$Hierarchy" "packs" "[I", Cond.methodLink RX0 74 yX3_isOfField]
def wsX0_resolution_r2 : List Cond := [Cond.instanceMethod yX3_isOfField, Cond.selects RX3 yX3_isOfField yX3_isOfField, Cond.initialized RX3, Cond.code yX3_isOfField cX3_isOfField 1 (some .boolean), Cond.fieldLink RX3 9 "LinkPredictor$Reference" "kind" "I", Cond.methodLink RX0 78 yX0_lookUpField, Cond.instanceMethod yX0_lookUpField, Cond.selects RX0 yX0_lookUpField yX0_lookUpField, Cond.initialized RX0, Cond.code yX0_lookUpField cX0_lookUpField 3 (some .int), Cond.fieldLink RX0 109 "LinkPredictor$Build" "searched" "I", Cond.methodLink RX0 112 yX0_findField, Cond.instanceMethod yX0_findField, Cond.selects RX0 yX0_findField yX0_findField, Cond.code yX0_findField cX0_findField 5 (some .int), Cond.fieldLink RX0 21 "LinkPredictor$Build" "members" "LLinkPredictor$Members;", Cond.static yX4_contains, Cond.code yX4_contains cX4_contains 2 (some .boolean), Cond.static yX4_bit, Cond.code yX4_bit cX4_bit 1 (some .int), Cond.methodLink RX0 36 yX2_find, Cond.instanceMethod yX2_find, Cond.selects RX2 yX2_find yX2_find, Cond.initialized RX2]
def wsX0_resolution_r3 : List Cond := [Cond.code yX2_find cX2_find 6 (some .int), Cond.fieldLink RX2 24 "LinkPredictor$Members" "size" "I", Cond.fieldLink RX2 15 "LinkPredictor$Members" "keys" "[I", Cond.fieldLink RX2 9 "LinkPredictor$Members" "owners" "[I", Cond.fieldLink RX2 36 "LinkPredictor$Members" "gone" "I", Cond.methodLink RX2 28 yX2_keyOf, Cond.static yX2_keyOf, Cond.code yX2_keyOf cX2_keyOf 2 (some .int), Cond.methodLink RX0 121 yX1_directFacesOf, Cond.instanceMethod yX1_directFacesOf, Cond.selects RX1 yX1_directFacesOf yX1_directFacesOf, Cond.code yX1_directFacesOf cX1_directFacesOf 2 (some .int), Cond.fieldLink RX1 21 "LinkPredictor$Hierarchy" "directFaces" "[I", Cond.methodLink RX0 124 yX1_superOf, Cond.instanceMethod yX1_superOf, Cond.selects RX1 yX1_superOf yX1_superOf, Cond.code yX1_superOf cX1_superOf 2 (some .int), Cond.fieldLink RX1 18 "LinkPredictor$Hierarchy" "supers" "[I", Cond.methodLink RX0 82 yX0_lookUpMethod, Cond.instanceMethod yX0_lookUpMethod, Cond.selects RX0 yX0_lookUpMethod yX0_lookUpMethod, Cond.code yX0_lookUpMethod cX0_lookUpMethod 4 (some .int), Cond.methodLink RX0 127 yX1_isInterface, Cond.instanceMethod yX1_isInterface]
def wsX0_resolution_r4 : List Cond := [Cond.selects RX1 yX1_isInterface yX1_isInterface, Cond.code yX1_isInterface cX1_isInterface 2 (some .boolean), Cond.methodLink RX0 130 yX0_findInInterface, Cond.instanceMethod yX0_findInInterface, Cond.selects RX0 yX0_findInInterface yX0_findInInterface, Cond.code yX0_findInInterface cX0_findInInterface 5 (some .int), Cond.methodLink RX0 96 yX2_accessOf, Cond.instanceMethod yX2_accessOf, Cond.selects RX2 yX2_accessOf yX2_accessOf, Cond.code yX2_accessOf cX2_accessOf 2 (some .int), Cond.fieldLink RX2 18 "LinkPredictor$Members" "accesses" "[I", Cond.methodLink RX0 139 yX2_isStatic, Cond.instanceMethod yX2_isStatic, Cond.selects RX2 yX2_isStatic yX2_isStatic, Cond.code yX2_isStatic cX2_isStatic 2 (some .boolean), Cond.fieldLink RX2 21 "LinkPredictor$Members" "flags" "[I", Cond.methodLink RX0 133 yX0_findInAbove, Cond.instanceMethod yX0_findInAbove, Cond.selects RX0 yX0_findInAbove yX0_findInAbove, Cond.code yX0_findInAbove cX0_findInAbove 6 (some .int), Cond.methodLink RX0 136 yX0_findBest, Cond.instanceMethod yX0_findBest, Cond.selects RX0 yX0_findBest yX0_findBest, Cond.code yX0_findBest cX0_findBest 5 (some .int)]
def wsX0_resolution_r5 : List Cond := [Cond.methodLink RX0 142 yX1_facesOf, Cond.instanceMethod yX1_facesOf, Cond.selects RX1 yX1_facesOf yX1_facesOf, Cond.code yX1_facesOf cX1_facesOf 2 (some .int), Cond.fieldLink RX1 33 "LinkPredictor$Hierarchy" "allFaces" "[I", Cond.methodLink RX0 145 yX2_ownersOfInheritable, Cond.instanceMethod yX2_ownersOfInheritable, Cond.selects RX2 yX2_ownersOfInheritable yX2_ownersOfInheritable, Cond.code yX2_ownersOfInheritable cX2_ownersOfInheritable 5 (some .int), Cond.methodLink RX2 53 yX2_isInheritable, Cond.instanceMethod yX2_isInheritable, Cond.selects RX2 yX2_isInheritable yX2_isInheritable, Cond.code yX2_isInheritable cX2_isInheritable 2 (some .boolean), Cond.methodLink RX0 148 yX1_mostSpecificOf, Cond.instanceMethod yX1_mostSpecificOf, Cond.selects RX1 yX1_mostSpecificOf yX1_mostSpecificOf, Cond.code yX1_mostSpecificOf cX1_mostSpecificOf 4 (some .int), Cond.methodLink RX0 151 yX0_findOnlyWithBody, Cond.instanceMethod yX0_findOnlyWithBody, Cond.selects RX0 yX0_findOnlyWithBody yX0_findOnlyWithBody, Cond.code yX0_findOnlyWithBody cX0_findOnlyWithBody 6 (some .int), Cond.methodLink RX0 162 yX2_isAbstract, Cond.instanceMethod yX2_isAbstract, Cond.selects RX2 yX2_isAbstract yX2_isAbstract]
def wsX0_resolution_r6 : List Cond := [Cond.code yX2_isAbstract cX2_isAbstract 2 (some .boolean), Cond.methodLink RX0 154 yX0_findLeast, Cond.instanceMethod yX0_findLeast, Cond.selects RX0 yX0_findLeast yX0_findLeast, Cond.code yX0_findLeast cX0_findLeast 6 (some .int), Cond.methodLink RX0 157 Lib.Math.min.name, Cond.static Lib.Math.min.name, Cond.initialized "java/lang/Math", Cond.code Lib.Math.min.name Lib.Math.min.code 2 (some .int), Cond.methodLink RX0 85 yX0_checkMember, Cond.instanceMethod yX0_checkMember, Cond.selects RX0 yX0_checkMember yX0_checkMember, Cond.code yX0_checkMember cX0_checkMember 3 (some .int), Cond.methodLink RX0 165 yX0_isAccessible, Cond.instanceMethod yX0_isAccessible, Cond.selects RX0 yX0_isAccessible yX0_isAccessible, Cond.code yX0_isAccessible cX0_isAccessible 5 (some .boolean), Cond.methodLink RX0 178 yX2_ownerOf, Cond.instanceMethod yX2_ownerOf, Cond.selects RX2 yX2_ownerOf yX2_ownerOf, Cond.code yX2_ownerOf cX2_ownerOf 2 (some .int), Cond.methodLink RX0 184 yX1_isSamePackage, Cond.methodLink RX0 187 yX0_isInherited, Cond.instanceMethod yX0_isInherited]
def wsX0_resolution_r7 : List Cond := [Cond.selects RX0 yX0_isInherited yX0_isInherited, Cond.code yX0_isInherited cX0_isInherited 4 (some .boolean), Cond.methodLink RX0 193 yX1_hasAbove, Cond.instanceMethod yX1_hasAbove, Cond.selects RX1 yX1_hasAbove yX1_hasAbove, Cond.code yX1_hasAbove cX1_hasAbove 3 (some .boolean), Cond.fieldLink RX1 30 "LinkPredictor$Hierarchy" "aboves" "[I", Cond.methodLink RX0 181 yX1_liesUnder, Cond.instanceMethod yX1_liesUnder, Cond.selects RX1 yX1_liesUnder yX1_liesUnder, Cond.code yX1_liesUnder cX1_liesUnder 3 (some .boolean), Cond.methodLink RX0 190 yX1_nestOf, Cond.instanceMethod yX1_nestOf, Cond.selects RX1 yX1_nestOf yX1_nestOf, Cond.code yX1_nestOf cX1_nestOf 3 (some .int), Cond.fieldLink RX1 24 "LinkPredictor$Hierarchy" "hosts" "[I", Cond.methodLink RX1 47 yX1_isThere, Cond.instanceMethod yX1_isThere, Cond.selects RX1 yX1_isThere yX1_isThere, Cond.code yX1_isThere cX1_isThere 2 (some .boolean), Cond.fieldLink RX1 40 "LinkPredictor$Hierarchy" "there" "I", Cond.methodLink RX0 169 yX3_needsStatic, Cond.instanceMethod yX3_needsStatic, Cond.selects RX3 yX3_needsStatic yX3_needsStatic]
def wsX0_resolution_r8 : List Cond := [Cond.code yX3_needsStatic cX3_needsStatic 1 (some .boolean), Cond.methodLink RX0 172 yX3_isPut, Cond.instanceMethod yX3_isPut, Cond.selects RX3 yX3_isPut yX3_isPut, Cond.code yX3_isPut cX3_isPut 1 (some .boolean), Cond.methodLink RX0 175 yX2_isFinal, Cond.instanceMethod yX2_isFinal, Cond.selects RX2 yX2_isFinal yX2_isFinal, Cond.code yX2_isFinal cX2_isFinal 2 (some .boolean)]
def wsX0_resolution : List Cond := .code yX0_resolution cX0_resolution 3 (some .int) :: ((wsX0_resolution_r1 ++ (wsX0_resolution_r2 ++ (wsX0_resolution_r3 ++ (wsX0_resolution_r4 ++ (wsX0_resolution_r5 ++ (wsX0_resolution_r6 ++ (wsX0_resolution_r7 ++ wsX0_resolution_r8))))))) ++ wsX00 ++ wsX30 ++ wsX10 ++ wsX20)
def wsX3_hasReceiver : List Cond := .code yX3_hasReceiver cX3_hasReceiver 1 (some .boolean) :: ([.fieldLink RX3 9 "LinkPredictor$Reference" "kind" "I"] ++ wsX30)
def wsX1_canBeMade : List Cond := .code yX1_canBeMade cX1_canBeMade 2 (some .boolean) :: ([.fieldLink RX1 9 "LinkPredictor$Hierarchy" "flags" "[I"] ++ wsX10)
def wsX0_isFit_r1 : List Cond := [Cond.fieldLink RX0 12 "LinkPredictor$Build" "types" "LLinkPredictor$Hierarchy;", Cond.methodLink RX0 57 yX1_loading, Cond.instanceMethod yX1_loading, Cond.selects RX1 yX1_loading yX1_loading, Cond.initialized RX1, Cond.code yX1_loading cX1_loading 2 (some .int), Cond.fieldLink RX1 27 "LinkPredictor$Hierarchy" "verdicts" "[I", Cond.static yX4_isGood, Cond.initialized RX4, Cond.code yX4_isGood cX4_isGood 1 (some .boolean), Cond.methodLink RX4 34 yX4_isWithin, Cond.static yX4_isWithin, Cond.code yX4_isWithin cX4_isWithin 2 (some .boolean), Cond.methodLink RX0 196 yX1_canBeMade, Cond.instanceMethod yX1_canBeMade, Cond.selects RX1 yX1_canBeMade yX1_canBeMade, Cond.code yX1_canBeMade cX1_canBeMade 2 (some .boolean), Cond.fieldLink RX1 9 "LinkPredictor$Hierarchy" "flags" "[I", Cond.methodLink RX0 181 yX1_liesUnder, Cond.instanceMethod yX1_liesUnder, Cond.selects RX1 yX1_liesUnder yX1_liesUnder, Cond.code yX1_liesUnder cX1_liesUnder 3 (some .boolean), Cond.fieldLink RX1 30 "LinkPredictor$Hierarchy" "aboves" "[I", Cond.fieldLink RX1 33 "LinkPredictor$Hierarchy" "allFaces" "[I"]
def wsX0_isFit_r2 : List Cond := [Cond.static yX4_contains, Cond.code yX4_contains cX4_contains 2 (some .boolean)]
def wsX0_isFit : List Cond := .code yX0_isFit cX0_isFit 3 (some .boolean) :: ((wsX0_isFit_r1 ++ wsX0_isFit_r2) ++ wsX00 ++ wsX10)
def wsX0_overrides : List Cond := .code yX0_overrides cX0_overrides 3 (some .boolean) :: ([.fieldLink RX0 21 "LinkPredictor$Build" "members" "LLinkPredictor$Members;", .fieldLink RX0 12 "LinkPredictor$Build" "types" "LLinkPredictor$Hierarchy;", .methodLink RX0 205 yX2_isInheritable, .instanceMethod yX2_isInheritable, .selects RX2 yX2_isInheritable yX2_isInheritable, .initialized RX2, .code yX2_isInheritable cX2_isInheritable 2 (some .boolean), .fieldLink RX2 18 "LinkPredictor$Members" "accesses" "[I", .fieldLink RX2 21 "LinkPredictor$Members" "flags" "[I", .methodLink RX0 96 yX2_accessOf, .instanceMethod yX2_accessOf, .selects RX2 yX2_accessOf yX2_accessOf, .code yX2_accessOf cX2_accessOf 2 (some .int), .methodLink RX0 178 yX2_ownerOf, .instanceMethod yX2_ownerOf, .selects RX2 yX2_ownerOf yX2_ownerOf, .code yX2_ownerOf cX2_ownerOf 2 (some .int), .fieldLink RX2 9 "LinkPredictor$Members" "owners" "[I", .methodLink RX0 184 yX1_isSamePackage, .instanceMethod yX1_isSamePackage, .selects RX1 yX1_isSamePackage yX1_isSamePackage, .initialized RX1, .code yX1_isSamePackage cX1_isSamePackage 3 (some .boolean), .fieldLink RX1 15 "LinkPredictor$Hierarchy" "packs" "[I"] ++ wsX00 ++ wsX20 ++ wsX10)
def wsX0_selectFromFaces_r1 : List Cond := [Cond.fieldLink RX0 12 "LinkPredictor$Build" "types" "LLinkPredictor$Hierarchy;", Cond.fieldLink RX0 21 "LinkPredictor$Build" "members" "LLinkPredictor$Members;", Cond.methodLink RX0 142 yX1_facesOf, Cond.instanceMethod yX1_facesOf, Cond.selects RX1 yX1_facesOf yX1_facesOf, Cond.initialized RX1, Cond.code yX1_facesOf cX1_facesOf 2 (some .int), Cond.fieldLink RX1 33 "LinkPredictor$Hierarchy" "allFaces" "[I", Cond.methodLink RX0 145 yX2_ownersOfInheritable, Cond.instanceMethod yX2_ownersOfInheritable, Cond.selects RX2 yX2_ownersOfInheritable yX2_ownersOfInheritable, Cond.initialized RX2, Cond.code yX2_ownersOfInheritable cX2_ownersOfInheritable 5 (some .int), Cond.fieldLink RX2 24 "LinkPredictor$Members" "size" "I", Cond.fieldLink RX2 15 "LinkPredictor$Members" "keys" "[I", Cond.fieldLink RX2 36 "LinkPredictor$Members" "gone" "I", Cond.fieldLink RX2 9 "LinkPredictor$Members" "owners" "[I", Cond.methodLink RX2 28 yX2_keyOf, Cond.static yX2_keyOf, Cond.code yX2_keyOf cX2_keyOf 2 (some .int), Cond.static yX4_contains, Cond.initialized RX4, Cond.code yX4_contains cX4_contains 2 (some .boolean), Cond.methodLink RX2 53 yX2_isInheritable]
def wsX0_selectFromFaces_r2 : List Cond := [Cond.instanceMethod yX2_isInheritable, Cond.selects RX2 yX2_isInheritable yX2_isInheritable, Cond.code yX2_isInheritable cX2_isInheritable 2 (some .boolean), Cond.fieldLink RX2 18 "LinkPredictor$Members" "accesses" "[I", Cond.fieldLink RX2 21 "LinkPredictor$Members" "flags" "[I", Cond.static yX4_bit, Cond.code yX4_bit cX4_bit 1 (some .int), Cond.methodLink RX0 148 yX1_mostSpecificOf, Cond.instanceMethod yX1_mostSpecificOf, Cond.selects RX1 yX1_mostSpecificOf yX1_mostSpecificOf, Cond.code yX1_mostSpecificOf cX1_mostSpecificOf 4 (some .int), Cond.methodLink RX0 151 yX0_findOnlyWithBody, Cond.instanceMethod yX0_findOnlyWithBody, Cond.selects RX0 yX0_findOnlyWithBody yX0_findOnlyWithBody, Cond.initialized RX0, Cond.code yX0_findOnlyWithBody cX0_findOnlyWithBody 6 (some .int), Cond.methodLink RX0 36 yX2_find, Cond.instanceMethod yX2_find, Cond.selects RX2 yX2_find yX2_find, Cond.code yX2_find cX2_find 6 (some .int), Cond.methodLink RX0 162 yX2_isAbstract, Cond.instanceMethod yX2_isAbstract, Cond.selects RX2 yX2_isAbstract yX2_isAbstract, Cond.code yX2_isAbstract cX2_isAbstract 2 (some .boolean)]
def wsX0_selectFromFaces : List Cond := .code yX0_selectFromFaces cX0_selectFromFaces 5 (some .int) :: ((wsX0_selectFromFaces_r1 ++ wsX0_selectFromFaces_r2) ++ wsX00 ++ wsX10 ++ wsX20)
def wsX0_selectFor_r1 : List Cond := [Cond.fieldLink RX0 21 "LinkPredictor$Build" "members" "LLinkPredictor$Members;", Cond.fieldLink RX0 12 "LinkPredictor$Build" "types" "LLinkPredictor$Hierarchy;", Cond.methodLink RX0 36 yX2_find, Cond.instanceMethod yX2_find, Cond.selects RX2 yX2_find yX2_find, Cond.initialized RX2, Cond.code yX2_find cX2_find 6 (some .int), Cond.fieldLink RX2 24 "LinkPredictor$Members" "size" "I", Cond.fieldLink RX2 15 "LinkPredictor$Members" "keys" "[I", Cond.fieldLink RX2 9 "LinkPredictor$Members" "owners" "[I", Cond.fieldLink RX2 36 "LinkPredictor$Members" "gone" "I", Cond.methodLink RX2 28 yX2_keyOf, Cond.static yX2_keyOf, Cond.code yX2_keyOf cX2_keyOf 2 (some .int), Cond.static yX4_contains, Cond.initialized RX4, Cond.code yX4_contains cX4_contains 2 (some .boolean), Cond.methodLink RX0 199 yX0_overrides, Cond.instanceMethod yX0_overrides, Cond.selects RX0 yX0_overrides yX0_overrides, Cond.initialized RX0, Cond.code yX0_overrides cX0_overrides 3 (some .boolean), Cond.methodLink RX0 205 yX2_isInheritable, Cond.instanceMethod yX2_isInheritable]
def wsX0_selectFor_r2 : List Cond := [Cond.selects RX2 yX2_isInheritable yX2_isInheritable, Cond.code yX2_isInheritable cX2_isInheritable 2 (some .boolean), Cond.fieldLink RX2 18 "LinkPredictor$Members" "accesses" "[I", Cond.fieldLink RX2 21 "LinkPredictor$Members" "flags" "[I", Cond.methodLink RX0 96 yX2_accessOf, Cond.instanceMethod yX2_accessOf, Cond.selects RX2 yX2_accessOf yX2_accessOf, Cond.code yX2_accessOf cX2_accessOf 2 (some .int), Cond.methodLink RX0 178 yX2_ownerOf, Cond.instanceMethod yX2_ownerOf, Cond.selects RX2 yX2_ownerOf yX2_ownerOf, Cond.code yX2_ownerOf cX2_ownerOf 2 (some .int), Cond.methodLink RX0 184 yX1_isSamePackage, Cond.instanceMethod yX1_isSamePackage, Cond.selects RX1 yX1_isSamePackage yX1_isSamePackage, Cond.initialized RX1, Cond.code yX1_isSamePackage cX1_isSamePackage 3 (some .boolean), Cond.fieldLink RX1 15 "LinkPredictor$Hierarchy" "packs" "[I", Cond.methodLink RX0 124 yX1_superOf, Cond.instanceMethod yX1_superOf, Cond.selects RX1 yX1_superOf yX1_superOf, Cond.code yX1_superOf cX1_superOf 2 (some .int), Cond.fieldLink RX1 18 "LinkPredictor$Hierarchy" "supers" "[I", Cond.methodLink RX0 202 yX0_selectFromFaces]
def wsX0_selectFor_r3 : List Cond := [Cond.instanceMethod yX0_selectFromFaces, Cond.selects RX0 yX0_selectFromFaces yX0_selectFromFaces, Cond.code yX0_selectFromFaces cX0_selectFromFaces 5 (some .int), Cond.methodLink RX0 142 yX1_facesOf, Cond.instanceMethod yX1_facesOf, Cond.selects RX1 yX1_facesOf yX1_facesOf, Cond.code yX1_facesOf cX1_facesOf 2 (some .int), Cond.fieldLink RX1 33 "LinkPredictor$Hierarchy" "allFaces" "[I", Cond.methodLink RX0 145 yX2_ownersOfInheritable, Cond.instanceMethod yX2_ownersOfInheritable, Cond.selects RX2 yX2_ownersOfInheritable yX2_ownersOfInheritable, Cond.code yX2_ownersOfInheritable cX2_ownersOfInheritable 5 (some .int), Cond.methodLink RX2 53 yX2_isInheritable, Cond.static yX4_bit, Cond.code yX4_bit cX4_bit 1 (some .int), Cond.methodLink RX0 148 yX1_mostSpecificOf, Cond.instanceMethod yX1_mostSpecificOf, Cond.selects RX1 yX1_mostSpecificOf yX1_mostSpecificOf, Cond.code yX1_mostSpecificOf cX1_mostSpecificOf 4 (some .int), Cond.methodLink RX0 151 yX0_findOnlyWithBody, Cond.instanceMethod yX0_findOnlyWithBody, Cond.selects RX0 yX0_findOnlyWithBody yX0_findOnlyWithBody, Cond.code yX0_findOnlyWithBody cX0_findOnlyWithBody 6 (some .int), Cond.methodLink RX0 162 yX2_isAbstract]
def wsX0_selectFor_r4 : List Cond := [Cond.instanceMethod yX2_isAbstract, Cond.selects RX2 yX2_isAbstract yX2_isAbstract, Cond.code yX2_isAbstract cX2_isAbstract 2 (some .boolean)]
def wsX0_selectFor : List Cond := .code yX0_selectFor cX0_selectFor 7 (some .int) :: ((wsX0_selectFor_r1 ++ (wsX0_selectFor_r2 ++ (wsX0_selectFor_r3 ++ wsX0_selectFor_r4))) ++ wsX00 ++ wsX20 ++ wsX10)
def wsX0_checkSelected : List Cond := .code yX0_checkSelected cX0_checkSelected 4 (some .int) :: ([.fieldLink RX0 21 "LinkPredictor$Build" "members" "LLinkPredictor$Members;", .methodLink RX0 162 yX2_isAbstract, .instanceMethod yX2_isAbstract, .selects RX2 yX2_isAbstract yX2_isAbstract, .initialized RX2, .code yX2_isAbstract cX2_isAbstract 2 (some .boolean), .fieldLink RX2 21 "LinkPredictor$Members" "flags" "[I", .methodLink RX0 96 yX2_accessOf, .instanceMethod yX2_accessOf, .selects RX2 yX2_accessOf yX2_accessOf, .code yX2_accessOf cX2_accessOf 2 (some .int), .fieldLink RX2 18 "LinkPredictor$Members" "accesses" "[I"] ++ wsX00 ++ wsX30 ++ wsX20)
def wsX0_selection_r1 : List Cond := [Cond.fieldLink RX0 21 "LinkPredictor$Build" "members" "LLinkPredictor$Members;", Cond.methodLink RX0 89 yX3_hasReceiver, Cond.instanceMethod yX3_hasReceiver, Cond.selects RX3 yX3_hasReceiver yX3_hasReceiver, Cond.initialized RX3, Cond.code yX3_hasReceiver cX3_hasReceiver 1 (some .boolean), Cond.fieldLink RX3 9 "LinkPredictor$Reference" "kind" "I", Cond.static yX4_isGood, Cond.initialized RX4, Cond.code yX4_isGood cX4_isGood 1 (some .boolean), Cond.methodLink RX4 34 yX4_isWithin, Cond.static yX4_isWithin, Cond.code yX4_isWithin cX4_isWithin 2 (some .boolean), Cond.methodLink RX0 92 yX0_isFit, Cond.instanceMethod yX0_isFit, Cond.selects RX0 yX0_isFit yX0_isFit, Cond.initialized RX0, Cond.code yX0_isFit cX0_isFit 3 (some .boolean), Cond.fieldLink RX0 12 "LinkPredictor$Build" "types" "LLinkPredictor$Hierarchy;", Cond.methodLink RX0 57 yX1_loading, Cond.instanceMethod yX1_loading, Cond.selects RX1 yX1_loading yX1_loading, Cond.initialized RX1, Cond.code yX1_loading cX1_loading 2 (some .int)]
def wsX0_selection_r2 : List Cond := [Cond.fieldLink RX1 27 "LinkPredictor$Hierarchy" "verdicts" "[I", Cond.methodLink RX0 196 yX1_canBeMade, Cond.instanceMethod yX1_canBeMade, Cond.selects RX1 yX1_canBeMade yX1_canBeMade, Cond.code yX1_canBeMade cX1_canBeMade 2 (some .boolean), Cond.fieldLink RX1 9 "LinkPredictor$Hierarchy" "flags" "[I", Cond.methodLink RX0 181 yX1_liesUnder, Cond.instanceMethod yX1_liesUnder, Cond.selects RX1 yX1_liesUnder yX1_liesUnder, Cond.code yX1_liesUnder cX1_liesUnder 3 (some .boolean), Cond.fieldLink RX1 30 "LinkPredictor$Hierarchy" "aboves" "[I", Cond.fieldLink RX1 33 "LinkPredictor$Hierarchy" "allFaces" "[I", Cond.static yX4_contains, Cond.code yX4_contains cX4_contains 2 (some .boolean), Cond.methodLink RX0 96 yX2_accessOf, Cond.instanceMethod yX2_accessOf, Cond.selects RX2 yX2_accessOf yX2_accessOf, Cond.initialized RX2, Cond.code yX2_accessOf cX2_accessOf 2 (some .int), Cond.fieldLink RX2 18 "LinkPredictor$Members" "accesses" "[I", Cond.methodLink RX0 102 yX0_selectFor, Cond.instanceMethod yX0_selectFor, Cond.selects RX0 yX0_selectFor yX0_selectFor, Cond.code yX0_selectFor cX0_selectFor 7 (some .int)]
def wsX0_selection_r3 : List Cond := [Cond.methodLink RX0 36 yX2_find, Cond.instanceMethod yX2_find, Cond.selects RX2 yX2_find yX2_find, Cond.code yX2_find cX2_find 6 (some .int), Cond.fieldLink RX2 24 "LinkPredictor$Members" "size" "I", Cond.fieldLink RX2 15 "LinkPredictor$Members" "keys" "[I", Cond.fieldLink RX2 9 "LinkPredictor$Members" "owners" "[I", Cond.fieldLink RX2 36 "LinkPredictor$Members" "gone" "I", Cond.methodLink RX2 28 yX2_keyOf, Cond.static yX2_keyOf, Cond.code yX2_keyOf cX2_keyOf 2 (some .int), Cond.methodLink RX0 199 yX0_overrides, Cond.instanceMethod yX0_overrides, Cond.selects RX0 yX0_overrides yX0_overrides, Cond.code yX0_overrides cX0_overrides 3 (some .boolean), Cond.methodLink RX0 205 yX2_isInheritable, Cond.instanceMethod yX2_isInheritable, Cond.selects RX2 yX2_isInheritable yX2_isInheritable, Cond.code yX2_isInheritable cX2_isInheritable 2 (some .boolean), Cond.fieldLink RX2 21 "LinkPredictor$Members" "flags" "[I", Cond.methodLink RX0 178 yX2_ownerOf, Cond.instanceMethod yX2_ownerOf, Cond.selects RX2 yX2_ownerOf yX2_ownerOf, Cond.code yX2_ownerOf cX2_ownerOf 2 (some .int)]
def wsX0_selection_r4 : List Cond := [Cond.methodLink RX0 184 yX1_isSamePackage, Cond.instanceMethod yX1_isSamePackage, Cond.selects RX1 yX1_isSamePackage yX1_isSamePackage, Cond.code yX1_isSamePackage cX1_isSamePackage 3 (some .boolean), Cond.fieldLink RX1 15 "LinkPredictor$Hierarchy" "packs" "[I", Cond.methodLink RX0 124 yX1_superOf, Cond.instanceMethod yX1_superOf, Cond.selects RX1 yX1_superOf yX1_superOf, Cond.code yX1_superOf cX1_superOf 2 (some .int), Cond.fieldLink RX1 18 "LinkPredictor$Hierarchy" "supers" "[I", Cond.methodLink RX0 202 yX0_selectFromFaces, Cond.instanceMethod yX0_selectFromFaces, Cond.selects RX0 yX0_selectFromFaces yX0_selectFromFaces, Cond.code yX0_selectFromFaces cX0_selectFromFaces 5 (some .int), Cond.methodLink RX0 142 yX1_facesOf, Cond.instanceMethod yX1_facesOf, Cond.selects RX1 yX1_facesOf yX1_facesOf, Cond.code yX1_facesOf cX1_facesOf 2 (some .int), Cond.methodLink RX0 145 yX2_ownersOfInheritable, Cond.instanceMethod yX2_ownersOfInheritable, Cond.selects RX2 yX2_ownersOfInheritable yX2_ownersOfInheritable, Cond.code yX2_ownersOfInheritable cX2_ownersOfInheritable 5 (some .int), Cond.methodLink RX2 53 yX2_isInheritable, Cond.static yX4_bit]
def wsX0_selection_r5 : List Cond := [Cond.code yX4_bit cX4_bit 1 (some .int), Cond.methodLink RX0 148 yX1_mostSpecificOf, Cond.instanceMethod yX1_mostSpecificOf, Cond.selects RX1 yX1_mostSpecificOf yX1_mostSpecificOf, Cond.code yX1_mostSpecificOf cX1_mostSpecificOf 4 (some .int), Cond.methodLink RX0 151 yX0_findOnlyWithBody, Cond.instanceMethod yX0_findOnlyWithBody, Cond.selects RX0 yX0_findOnlyWithBody yX0_findOnlyWithBody, Cond.code yX0_findOnlyWithBody cX0_findOnlyWithBody 6 (some .int), Cond.methodLink RX0 162 yX2_isAbstract, Cond.instanceMethod yX2_isAbstract, Cond.selects RX2 yX2_isAbstract yX2_isAbstract, Cond.code yX2_isAbstract cX2_isAbstract 2 (some .boolean), Cond.methodLink RX0 106 yX0_checkSelected, Cond.instanceMethod yX0_checkSelected, Cond.selects RX0 yX0_checkSelected yX0_checkSelected, Cond.code yX0_checkSelected cX0_checkSelected 4 (some .int)]
def wsX0_selection : List Cond := .code yX0_selection cX0_selection 6 (some .int) :: ((wsX0_selection_r1 ++ (wsX0_selection_r2 ++ (wsX0_selection_r3 ++ (wsX0_selection_r4 ++ wsX0_selection_r5)))) ++ wsX30 ++ wsX00 ++ wsX10 ++ wsX20)
def wsX1_define_r1 : List Cond := [Cond.fieldLink RX1 40 "LinkPredictor$Hierarchy" "there" "I", Cond.fieldLink RX1 9 "LinkPredictor$Hierarchy" "flags" "[I", Cond.fieldLink RX1 15 "LinkPredictor$Hierarchy" "packs" "[I", Cond.fieldLink RX1 18 "LinkPredictor$Hierarchy" "supers" "[I", Cond.fieldLink RX1 21 "LinkPredictor$Hierarchy" "directFaces" "[I", Cond.fieldLink RX1 24 "LinkPredictor$Hierarchy" "hosts" "[I", Cond.static yX4_bit, Cond.initialized RX4, Cond.code yX4_bit cX4_bit 1 (some .int), Cond.methodLink RX1 44 yX1_settle, Cond.instanceMethod yX1_settle, Cond.selects RX1 yX1_settle yX1_settle, Cond.initialized RX1, Cond.code yX1_settle cX1_settle 2 none, Cond.fieldLink RX1 72 "LinkPredictor$Hierarchy" "settled" "I", Cond.fieldLink RX1 27 "LinkPredictor$Hierarchy" "verdicts" "[I", Cond.methodLink RX1 78 yX1_loadInside, Cond.instanceMethod yX1_loadInside, Cond.selects RX1 yX1_loadInside yX1_loadInside, Cond.code yX1_loadInside cX1_loadInside 4 (some .int), Cond.methodLink RX1 47 yX1_isThere, Cond.instanceMethod yX1_isThere, Cond.selects RX1 yX1_isThere yX1_isThere, Cond.code yX1_isThere cX1_isThere 2 (some .boolean)]
def wsX1_define_r2 : List Cond := [Cond.static yX4_contains, Cond.code yX4_contains cX4_contains 2 (some .boolean), Cond.methodLink RX1 82 yX1_loadParents, Cond.instanceMethod yX1_loadParents, Cond.selects RX1 yX1_loadParents yX1_loadParents, Cond.static yX4_isGood, Cond.code yX4_isGood cX4_isGood 1 (some .boolean), Cond.methodLink RX4 34 yX4_isWithin, Cond.static yX4_isWithin, Cond.code yX4_isWithin cX4_isWithin 2 (some .boolean), Cond.methodLink RX1 85 yX1_hasWrongParents, Cond.instanceMethod yX1_hasWrongParents, Cond.selects RX1 yX1_hasWrongParents yX1_hasWrongParents, Cond.code yX1_hasWrongParents cX1_hasWrongParents 4 (some .boolean), Cond.methodLink RX1 92 yX1_isInterface, Cond.instanceMethod yX1_isInterface, Cond.selects RX1 yX1_isInterface yX1_isInterface, Cond.code yX1_isInterface cX1_isInterface 2 (some .boolean), Cond.methodLink RX1 88 yX1_gatherSets, Cond.instanceMethod yX1_gatherSets, Cond.selects RX1 yX1_gatherSets yX1_gatherSets, Cond.code yX1_gatherSets cX1_gatherSets 5 none, Cond.fieldLink RX1 30 "LinkPredictor$Hierarchy" "aboves" "[I", Cond.fieldLink RX1 33 "LinkPredictor$Hierarchy" "allFaces" "[I"]
def wsX1_define_r3 : List Cond := [Cond.code yX1_loadParents cX1_loadParents 5 (some .int)]
def wsX1_define : List Cond := .code yX1_define cX1_define 6 none :: ((wsX1_define_r1 ++ (wsX1_define_r2 ++ wsX1_define_r3)) ++ wsX10)
def wsX1_putHost : List Cond := .code yX1_putHost cX1_putHost 3 (some .boolean) :: ([.fieldLink RX1 24 "LinkPredictor$Hierarchy" "hosts" "[I", .methodLink RX1 47 yX1_isThere, .instanceMethod yX1_isThere, .selects RX1 yX1_isThere yX1_isThere, .initialized RX1, .code yX1_isThere cX1_isThere 2 (some .boolean), .fieldLink RX1 40 "LinkPredictor$Hierarchy" "there" "I", .static yX4_contains, .initialized RX4, .code yX4_contains cX4_contains 2 (some .boolean)] ++ wsX10)
def wsJ6_bitCount_0f7a4 : List Cond := .code yJ6_bitCount_0f7a4 cJ6_bitCount_0f7a4 1 (some .int) :: ([.constant RJ6 265 (1431655765), .constant RJ6 266 (858993459), .constant RJ6 267 (252645135)])
def wsX1_countThere : List Cond := .code yX1_countThere cX1_countThere 1 (some .int) :: ([.fieldLink RX1 40 "LinkPredictor$Hierarchy" "there" "I", .methodLink RX1 67 yJ6_bitCount_0f7a4, .static yJ6_bitCount_0f7a4, .initialized RJ6, .code yJ6_bitCount_0f7a4 cJ6_bitCount_0f7a4 1 (some .int), .constant RJ6 265 (1431655765), .constant RJ6 266 (858993459), .constant RJ6 267 (252645135)] ++ wsX10)
def wsX1_countLoaded : List Cond := .code yX1_countLoaded cX1_countLoaded 1 (some .int) :: ([.fieldLink RX1 72 "LinkPredictor$Hierarchy" "settled" "I", .methodLink RX1 67 yJ6_bitCount_0f7a4, .static yJ6_bitCount_0f7a4, .initialized RJ6, .code yJ6_bitCount_0f7a4 cJ6_bitCount_0f7a4 1 (some .int), .constant RJ6 265 (1431655765), .constant RJ6 266 (858993459), .constant RJ6 267 (252645135)] ++ wsX10)
def wsX1_nestSharers : List Cond := .code yX1_nestSharers cX1_nestSharers 4 (some .int) :: ([.methodLink RX1 47 yX1_isThere, .instanceMethod yX1_isThere, .selects RX1 yX1_isThere yX1_isThere, .initialized RX1, .code yX1_isThere cX1_isThere 2 (some .boolean), .fieldLink RX1 40 "LinkPredictor$Hierarchy" "there" "I", .static yX4_contains, .initialized RX4, .code yX4_contains cX4_contains 2 (some .boolean), .methodLink RX1 75 yX1_nestOf, .instanceMethod yX1_nestOf, .selects RX1 yX1_nestOf yX1_nestOf, .code yX1_nestOf cX1_nestOf 3 (some .int), .fieldLink RX1 24 "LinkPredictor$Hierarchy" "hosts" "[I", .methodLink RX1 64 yX1_isSamePackage, .instanceMethod yX1_isSamePackage, .selects RX1 yX1_isSamePackage yX1_isSamePackage, .code yX1_isSamePackage cX1_isSamePackage 3 (some .boolean), .fieldLink RX1 15 "LinkPredictor$Hierarchy" "packs" "[I", .static yX4_bit, .code yX4_bit cX4_bit 1 (some .int)] ++ wsX10)
def wsX2_isPresent : List Cond := .code yX2_isPresent cX2_isPresent 2 (some .boolean) :: ([.fieldLink RX2 24 "LinkPredictor$Members" "size" "I", .fieldLink RX2 36 "LinkPredictor$Members" "gone" "I", .static yX4_isWithin, .initialized RX4, .code yX4_isWithin cX4_isWithin 2 (some .boolean), .static yX4_contains, .code yX4_contains cX4_contains 2 (some .boolean)] ++ wsX20)
def wsX2_change : List Cond := .code yX2_change cX2_change 4 (some .boolean) :: ([.fieldLink RX2 18 "LinkPredictor$Members" "accesses" "[I", .fieldLink RX2 21 "LinkPredictor$Members" "flags" "[I", .methodLink RX2 32 yX2_isPresent, .instanceMethod yX2_isPresent, .selects RX2 yX2_isPresent yX2_isPresent, .initialized RX2, .code yX2_isPresent cX2_isPresent 2 (some .boolean), .fieldLink RX2 24 "LinkPredictor$Members" "size" "I", .fieldLink RX2 36 "LinkPredictor$Members" "gone" "I", .static yX4_isWithin, .initialized RX4, .code yX4_isWithin cX4_isWithin 2 (some .boolean), .static yX4_contains, .code yX4_contains cX4_contains 2 (some .boolean)] ++ wsX20)
def wsX2_discard : List Cond := .code yX2_discard cX2_discard 2 (some .boolean) :: ([.fieldLink RX2 36 "LinkPredictor$Members" "gone" "I", .methodLink RX2 32 yX2_isPresent, .instanceMethod yX2_isPresent, .selects RX2 yX2_isPresent yX2_isPresent, .initialized RX2, .code yX2_isPresent cX2_isPresent 2 (some .boolean), .fieldLink RX2 24 "LinkPredictor$Members" "size" "I", .static yX4_isWithin, .initialized RX4, .code yX4_isWithin cX4_isWithin 2 (some .boolean), .static yX4_contains, .code yX4_contains cX4_contains 2 (some .boolean), .static yX4_bit, .code yX4_bit cX4_bit 1 (some .int)] ++ wsX20)
def wsX2_isSameThing : List Cond := .code yX2_isSameThing cX2_isSameThing 4 (some .boolean) :: ([.fieldLink RX2 9 "LinkPredictor$Members" "owners" "[I", .fieldLink RX2 15 "LinkPredictor$Members" "keys" "[I"] ++ wsX20)
def wsX2_countAll : List Cond := .code yX2_countAll cX2_countAll 1 (some .int) :: ([.fieldLink RX2 24 "LinkPredictor$Members" "size" "I"] ++ wsX20)
def wsX2_countPresent : List Cond := .code yX2_countPresent cX2_countPresent 1 (some .int) :: ([.fieldLink RX2 24 "LinkPredictor$Members" "size" "I", .fieldLink RX2 36 "LinkPredictor$Members" "gone" "I", .methodLink RX2 56 yJ6_bitCount_0f7a4, .static yJ6_bitCount_0f7a4, .initialized RJ6, .code yJ6_bitCount_0f7a4 cJ6_bitCount_0f7a4 1 (some .int), .constant RJ6 265 (1431655765), .constant RJ6 266 (858993459), .constant RJ6 267 (252645135)] ++ wsX20)
def wsX2_countAbstractMethods : List Cond := .code yX2_countAbstractMethods cX2_countAbstractMethods 3 (some .int) :: ([.fieldLink RX2 24 "LinkPredictor$Members" "size" "I", .fieldLink RX2 15 "LinkPredictor$Members" "keys" "[I", .fieldLink RX2 36 "LinkPredictor$Members" "gone" "I", .methodLink RX2 61 yX2_isAbstract, .instanceMethod yX2_isAbstract, .selects RX2 yX2_isAbstract yX2_isAbstract, .initialized RX2, .code yX2_isAbstract cX2_isAbstract 2 (some .boolean), .fieldLink RX2 21 "LinkPredictor$Members" "flags" "[I", .static yX4_contains, .initialized RX4, .code yX4_contains cX4_contains 2 (some .boolean)] ++ wsX20)
def wsX3_init : List Cond := .code yX3_init cX3_init 1 none :: ([.methodLink RX3 3 objectInit, .instanceMethod objectInit, .code objectInit ⟨#[0xb1]⟩ 1 none])
def wsX3_put : List Cond := .code yX3_put cX3_put 5 none :: ([.fieldLink RX3 9 "LinkPredictor$Reference" "kind" "I", .fieldLink RX3 15 "LinkPredictor$Reference" "holder" "I", .fieldLink RX3 18 "LinkPredictor$Reference" "way" "I", .fieldLink RX3 21 "LinkPredictor$Reference" "sign" "I"] ++ wsX30)
def wsX4_init_r1 : List Cond := [Cond.methodLink RX4 3 objectInit, Cond.instanceMethod objectInit, Cond.code objectInit ⟨#[0xb1]⟩ 1 none, Cond.classLink RX4 9 RX0, Cond.instantiable RX0 3, Cond.initialized RX0, Cond.fieldLink RX4 12 "LinkPredictor" "builds" "[LLinkPredictor$Build;", Cond.classLink RX4 16 RX3, Cond.fieldLink RX4 18 "LinkPredictor" "references" "[LLinkPredictor$Reference;", Cond.instantiable RX3 4, Cond.initialized RX3, Cond.fieldLink RX4 23 "LinkPredictor" "referenceCount" "I", Cond.fieldLink RX4 27 "LinkPredictor" "written" "I", Cond.instanceMethod yX0_init, Cond.code yX0_init cX0_init 1 none, Cond.methodLink RX0 3 objectInit, Cond.classLink RX0 9 RX1, Cond.instantiable RX1 10, Cond.initialized RX1, Cond.fieldLink RX0 12 "LinkPredictor$Build" "types" "LLinkPredictor$Hierarchy;", Cond.classLink RX0 18 RX2, Cond.instantiable RX2 6, Cond.initialized RX2, Cond.fieldLink RX0 21 "LinkPredictor$Build" "members" "LLinkPredictor$Members;"]
def wsX4_init_r2 : List Cond := [Cond.methodLink RX0 11 yX1_init, Cond.instanceMethod yX1_init, Cond.code yX1_init cX1_init 1 none, Cond.methodLink RX1 3 objectInit, Cond.arrayClass .int, Cond.fieldLink RX1 9 "LinkPredictor$Hierarchy" "flags" "[I", Cond.fieldLink RX1 15 "LinkPredictor$Hierarchy" "packs" "[I", Cond.fieldLink RX1 18 "LinkPredictor$Hierarchy" "supers" "[I", Cond.fieldLink RX1 21 "LinkPredictor$Hierarchy" "directFaces" "[I", Cond.fieldLink RX1 24 "LinkPredictor$Hierarchy" "hosts" "[I", Cond.fieldLink RX1 27 "LinkPredictor$Hierarchy" "verdicts" "[I", Cond.fieldLink RX1 30 "LinkPredictor$Hierarchy" "aboves" "[I", Cond.fieldLink RX1 33 "LinkPredictor$Hierarchy" "allFaces" "[I", Cond.fieldLink RX1 40 "LinkPredictor$Hierarchy" "there" "I", Cond.static yX4_bit, Cond.initialized RX4, Cond.code yX4_bit cX4_bit 1 (some .int), Cond.methodLink RX1 44 yX1_settle, Cond.instanceMethod yX1_settle, Cond.selects RX1 yX1_settle yX1_settle, Cond.code yX1_settle cX1_settle 2 none, Cond.fieldLink RX1 72 "LinkPredictor$Hierarchy" "settled" "I", Cond.methodLink RX1 78 yX1_loadInside, Cond.instanceMethod yX1_loadInside]
def wsX4_init_r3 : List Cond := [Cond.selects RX1 yX1_loadInside yX1_loadInside, Cond.code yX1_loadInside cX1_loadInside 4 (some .int), Cond.methodLink RX1 47 yX1_isThere, Cond.instanceMethod yX1_isThere, Cond.selects RX1 yX1_isThere yX1_isThere, Cond.code yX1_isThere cX1_isThere 2 (some .boolean), Cond.static yX4_contains, Cond.code yX4_contains cX4_contains 2 (some .boolean), Cond.methodLink RX1 82 yX1_loadParents, Cond.instanceMethod yX1_loadParents, Cond.selects RX1 yX1_loadParents yX1_loadParents, Cond.static yX4_isGood, Cond.code yX4_isGood cX4_isGood 1 (some .boolean), Cond.methodLink RX4 34 yX4_isWithin, Cond.static yX4_isWithin, Cond.code yX4_isWithin cX4_isWithin 2 (some .boolean), Cond.methodLink RX1 85 yX1_hasWrongParents, Cond.instanceMethod yX1_hasWrongParents, Cond.selects RX1 yX1_hasWrongParents yX1_hasWrongParents, Cond.code yX1_hasWrongParents cX1_hasWrongParents 4 (some .boolean), Cond.methodLink RX1 92 yX1_isInterface, Cond.instanceMethod yX1_isInterface, Cond.selects RX1 yX1_isInterface yX1_isInterface, Cond.code yX1_isInterface cX1_isInterface 2 (some .boolean)]
def wsX4_init_r4 : List Cond := [Cond.methodLink RX1 88 yX1_gatherSets, Cond.instanceMethod yX1_gatherSets, Cond.selects RX1 yX1_gatherSets yX1_gatherSets, Cond.code yX1_gatherSets cX1_gatherSets 5 none, Cond.code yX1_loadParents cX1_loadParents 5 (some .int), Cond.instanceMethod yX2_init, Cond.code yX2_init cX2_init 1 none, Cond.methodLink RX2 3 objectInit, Cond.fieldLink RX2 9 "LinkPredictor$Members" "owners" "[I", Cond.fieldLink RX2 15 "LinkPredictor$Members" "keys" "[I", Cond.fieldLink RX2 18 "LinkPredictor$Members" "accesses" "[I", Cond.fieldLink RX2 21 "LinkPredictor$Members" "flags" "[I", Cond.instanceMethod yX3_init, Cond.code yX3_init cX3_init 1 none, Cond.methodLink RX3 3 objectInit]
def wsX4_init : List Cond := .code yX4_init cX4_init 2 none :: ((wsX4_init_r1 ++ (wsX4_init_r2 ++ (wsX4_init_r3 ++ wsX4_init_r4))) ++ wsX00 ++ wsX40 ++ wsX30 ++ wsX10 ++ wsX20)
def wsX4_isOrdinaryType : List Cond := .code yX4_isOrdinaryType cX4_isOrdinaryType 1 (some .boolean) :: ([.methodLink RX4 34 yX4_isWithin, .static yX4_isWithin, .initialized RX4, .code yX4_isWithin cX4_isWithin 2 (some .boolean)])
def wsX4_type_r1 : List Cond := [Cond.fieldLink RX4 12 "LinkPredictor" "builds" "[LLinkPredictor$Build;", Cond.fieldLink RX4 27 "LinkPredictor" "written" "I", Cond.methodLink RX4 30 yX4_isOrdinaryType, Cond.static yX4_isOrdinaryType, Cond.initialized RX4, Cond.code yX4_isOrdinaryType cX4_isOrdinaryType 1 (some .boolean), Cond.methodLink RX4 34 yX4_isWithin, Cond.static yX4_isWithin, Cond.code yX4_isWithin cX4_isWithin 2 (some .boolean), Cond.methodLink RX4 42 yX1_define, Cond.instanceMethod yX1_define, Cond.selects RX1 yX1_define yX1_define, Cond.initialized RX1, Cond.code yX1_define cX1_define 6 none, Cond.fieldLink RX1 40 "LinkPredictor$Hierarchy" "there" "I", Cond.fieldLink RX1 9 "LinkPredictor$Hierarchy" "flags" "[I", Cond.fieldLink RX1 15 "LinkPredictor$Hierarchy" "packs" "[I", Cond.fieldLink RX1 18 "LinkPredictor$Hierarchy" "supers" "[I", Cond.fieldLink RX1 21 "LinkPredictor$Hierarchy" "directFaces" "[I", Cond.fieldLink RX1 24 "LinkPredictor$Hierarchy" "hosts" "[I", Cond.static yX4_bit, Cond.code yX4_bit cX4_bit 1 (some .int), Cond.methodLink RX1 44 yX1_settle, Cond.instanceMethod yX1_settle]
def wsX4_type_r2 : List Cond := [Cond.selects RX1 yX1_settle yX1_settle, Cond.code yX1_settle cX1_settle 2 none, Cond.fieldLink RX1 72 "LinkPredictor$Hierarchy" "settled" "I", Cond.fieldLink RX1 27 "LinkPredictor$Hierarchy" "verdicts" "[I", Cond.methodLink RX1 78 yX1_loadInside, Cond.instanceMethod yX1_loadInside, Cond.selects RX1 yX1_loadInside yX1_loadInside, Cond.code yX1_loadInside cX1_loadInside 4 (some .int), Cond.methodLink RX1 47 yX1_isThere, Cond.instanceMethod yX1_isThere, Cond.selects RX1 yX1_isThere yX1_isThere, Cond.code yX1_isThere cX1_isThere 2 (some .boolean), Cond.static yX4_contains, Cond.code yX4_contains cX4_contains 2 (some .boolean), Cond.methodLink RX1 82 yX1_loadParents, Cond.instanceMethod yX1_loadParents, Cond.selects RX1 yX1_loadParents yX1_loadParents, Cond.static yX4_isGood, Cond.code yX4_isGood cX4_isGood 1 (some .boolean), Cond.methodLink RX1 85 yX1_hasWrongParents, Cond.instanceMethod yX1_hasWrongParents, Cond.selects RX1 yX1_hasWrongParents yX1_hasWrongParents, Cond.code yX1_hasWrongParents cX1_hasWrongParents 4 (some .boolean), Cond.methodLink RX1 92 yX1_isInterface]
def wsX4_type_r3 : List Cond := [Cond.instanceMethod yX1_isInterface, Cond.selects RX1 yX1_isInterface yX1_isInterface, Cond.code yX1_isInterface cX1_isInterface 2 (some .boolean), Cond.methodLink RX1 88 yX1_gatherSets, Cond.instanceMethod yX1_gatherSets, Cond.selects RX1 yX1_gatherSets yX1_gatherSets, Cond.code yX1_gatherSets cX1_gatherSets 5 none, Cond.fieldLink RX1 30 "LinkPredictor$Hierarchy" "aboves" "[I", Cond.fieldLink RX1 33 "LinkPredictor$Hierarchy" "allFaces" "[I", Cond.code yX1_loadParents cX1_loadParents 5 (some .int)]
def wsX4_type : List Cond := .code yX4_type cX4_type 6 (some .boolean) :: ((wsX4_type_r1 ++ (wsX4_type_r2 ++ wsX4_type_r3)) ++ wsX40 ++ wsX00 ++ wsX10)
def wsX4_nest : List Cond := .code yX4_nest cX4_nest 3 (some .boolean) :: ([.fieldLink RX4 12 "LinkPredictor" "builds" "[LLinkPredictor$Build;", .fieldLink RX4 27 "LinkPredictor" "written" "I", .methodLink RX4 30 yX4_isOrdinaryType, .static yX4_isOrdinaryType, .initialized RX4, .code yX4_isOrdinaryType cX4_isOrdinaryType 1 (some .boolean), .methodLink RX4 34 yX4_isWithin, .static yX4_isWithin, .code yX4_isWithin cX4_isWithin 2 (some .boolean), .methodLink RX4 48 yX1_putHost, .instanceMethod yX1_putHost, .selects RX1 yX1_putHost yX1_putHost, .initialized RX1, .code yX1_putHost cX1_putHost 3 (some .boolean), .fieldLink RX1 24 "LinkPredictor$Hierarchy" "hosts" "[I", .methodLink RX1 47 yX1_isThere, .instanceMethod yX1_isThere, .selects RX1 yX1_isThere yX1_isThere, .code yX1_isThere cX1_isThere 2 (some .boolean), .fieldLink RX1 40 "LinkPredictor$Hierarchy" "there" "I", .static yX4_contains, .code yX4_contains cX4_contains 2 (some .boolean)] ++ wsX40 ++ wsX00 ++ wsX10)
def wsX4_drop_r1 : List Cond := [Cond.fieldLink RX4 12 "LinkPredictor" "builds" "[LLinkPredictor$Build;", Cond.fieldLink RX4 27 "LinkPredictor" "written" "I", Cond.methodLink RX4 30 yX4_isOrdinaryType, Cond.static yX4_isOrdinaryType, Cond.initialized RX4, Cond.code yX4_isOrdinaryType cX4_isOrdinaryType 1 (some .boolean), Cond.methodLink RX4 34 yX4_isWithin, Cond.static yX4_isWithin, Cond.code yX4_isWithin cX4_isWithin 2 (some .boolean), Cond.methodLink RX4 51 yX0_discardType, Cond.instanceMethod yX0_discardType, Cond.selects RX0 yX0_discardType yX0_discardType, Cond.initialized RX0, Cond.code yX0_discardType cX0_discardType 2 (some .boolean), Cond.fieldLink RX0 12 "LinkPredictor$Build" "types" "LLinkPredictor$Hierarchy;", Cond.fieldLink RX0 21 "LinkPredictor$Build" "members" "LLinkPredictor$Members;", Cond.methodLink RX0 25 yX1_takeAway, Cond.instanceMethod yX1_takeAway, Cond.selects RX1 yX1_takeAway yX1_takeAway, Cond.initialized RX1, Cond.code yX1_takeAway cX1_takeAway 2 (some .boolean), Cond.fieldLink RX1 40 "LinkPredictor$Hierarchy" "there" "I", Cond.methodLink RX1 47 yX1_isThere, Cond.instanceMethod yX1_isThere]
def wsX4_drop_r2 : List Cond := [Cond.selects RX1 yX1_isThere yX1_isThere, Cond.code yX1_isThere cX1_isThere 2 (some .boolean), Cond.static yX4_contains, Cond.code yX4_contains cX4_contains 2 (some .boolean), Cond.static yX4_bit, Cond.code yX4_bit cX4_bit 1 (some .int), Cond.methodLink RX1 44 yX1_settle, Cond.instanceMethod yX1_settle, Cond.selects RX1 yX1_settle yX1_settle, Cond.code yX1_settle cX1_settle 2 none, Cond.fieldLink RX1 72 "LinkPredictor$Hierarchy" "settled" "I", Cond.fieldLink RX1 27 "LinkPredictor$Hierarchy" "verdicts" "[I", Cond.methodLink RX1 78 yX1_loadInside, Cond.instanceMethod yX1_loadInside, Cond.selects RX1 yX1_loadInside yX1_loadInside, Cond.code yX1_loadInside cX1_loadInside 4 (some .int), Cond.methodLink RX1 82 yX1_loadParents, Cond.instanceMethod yX1_loadParents, Cond.selects RX1 yX1_loadParents yX1_loadParents, Cond.static yX4_isGood, Cond.code yX4_isGood cX4_isGood 1 (some .boolean), Cond.methodLink RX1 85 yX1_hasWrongParents, Cond.instanceMethod yX1_hasWrongParents, Cond.selects RX1 yX1_hasWrongParents yX1_hasWrongParents]
def wsX4_drop_r3 : List Cond := [Cond.code yX1_hasWrongParents cX1_hasWrongParents 4 (some .boolean), Cond.fieldLink RX1 18 "LinkPredictor$Hierarchy" "supers" "[I", Cond.fieldLink RX1 9 "LinkPredictor$Hierarchy" "flags" "[I", Cond.fieldLink RX1 21 "LinkPredictor$Hierarchy" "directFaces" "[I", Cond.methodLink RX1 92 yX1_isInterface, Cond.instanceMethod yX1_isInterface, Cond.selects RX1 yX1_isInterface yX1_isInterface, Cond.code yX1_isInterface cX1_isInterface 2 (some .boolean), Cond.methodLink RX1 88 yX1_gatherSets, Cond.instanceMethod yX1_gatherSets, Cond.selects RX1 yX1_gatherSets yX1_gatherSets, Cond.code yX1_gatherSets cX1_gatherSets 5 none, Cond.fieldLink RX1 30 "LinkPredictor$Hierarchy" "aboves" "[I", Cond.fieldLink RX1 33 "LinkPredictor$Hierarchy" "allFaces" "[I", Cond.code yX1_loadParents cX1_loadParents 5 (some .int), Cond.methodLink RX0 29 yX2_discardAllOf, Cond.instanceMethod yX2_discardAllOf, Cond.selects RX2 yX2_discardAllOf yX2_discardAllOf, Cond.initialized RX2, Cond.code yX2_discardAllOf cX2_discardAllOf 3 none, Cond.fieldLink RX2 24 "LinkPredictor$Members" "size" "I", Cond.fieldLink RX2 9 "LinkPredictor$Members" "owners" "[I", Cond.fieldLink RX2 36 "LinkPredictor$Members" "gone" "I"]
def wsX4_drop : List Cond := .code yX4_drop cX4_drop 2 (some .boolean) :: ((wsX4_drop_r1 ++ (wsX4_drop_r2 ++ wsX4_drop_r3)) ++ wsX40 ++ wsX00 ++ wsX10 ++ wsX20)
def wsX4_member_r1 : List Cond := [Cond.fieldLink RX4 12 "LinkPredictor" "builds" "[LLinkPredictor$Build;", Cond.fieldLink RX4 27 "LinkPredictor" "written" "I", Cond.methodLink RX4 34 yX4_isWithin, Cond.static yX4_isWithin, Cond.initialized RX4, Cond.code yX4_isWithin cX4_isWithin 2 (some .boolean), Cond.methodLink RX4 54 yX0_addMember, Cond.instanceMethod yX0_addMember, Cond.selects RX0 yX0_addMember yX0_addMember, Cond.initialized RX0, Cond.code yX0_addMember cX0_addMember 6 (some .int), Cond.fieldLink RX0 12 "LinkPredictor$Build" "types" "LLinkPredictor$Hierarchy;", Cond.fieldLink RX0 21 "LinkPredictor$Build" "members" "LLinkPredictor$Members;", Cond.methodLink RX0 33 yX1_isThere, Cond.instanceMethod yX1_isThere, Cond.selects RX1 yX1_isThere yX1_isThere, Cond.initialized RX1, Cond.code yX1_isThere cX1_isThere 2 (some .boolean), Cond.fieldLink RX1 40 "LinkPredictor$Hierarchy" "there" "I", Cond.static yX4_contains, Cond.code yX4_contains cX4_contains 2 (some .boolean), Cond.methodLink RX0 36 yX2_find, Cond.instanceMethod yX2_find, Cond.selects RX2 yX2_find yX2_find]
def wsX4_member_r2 : List Cond := [Cond.initialized RX2, Cond.code yX2_find cX2_find 6 (some .int), Cond.fieldLink RX2 24 "LinkPredictor$Members" "size" "I", Cond.fieldLink RX2 15 "LinkPredictor$Members" "keys" "[I", Cond.fieldLink RX2 9 "LinkPredictor$Members" "owners" "[I", Cond.fieldLink RX2 36 "LinkPredictor$Members" "gone" "I", Cond.methodLink RX2 28 yX2_keyOf, Cond.static yX2_keyOf, Cond.code yX2_keyOf cX2_keyOf 2 (some .int), Cond.methodLink RX0 40 yX2_append, Cond.instanceMethod yX2_append, Cond.selects RX2 yX2_append yX2_append, Cond.code yX2_append cX2_append 7 (some .int), Cond.fieldLink RX2 18 "LinkPredictor$Members" "accesses" "[I", Cond.fieldLink RX2 21 "LinkPredictor$Members" "flags" "[I"]
def wsX4_member : List Cond := .code yX4_member cX4_member 6 (some .int) :: ((wsX4_member_r1 ++ wsX4_member_r2) ++ wsX40 ++ wsX00 ++ wsX10 ++ wsX20)
def wsX4_remake : List Cond := .code yX4_remake cX4_remake 4 (some .boolean) :: ([.fieldLink RX4 12 "LinkPredictor" "builds" "[LLinkPredictor$Build;", .fieldLink RX4 27 "LinkPredictor" "written" "I", .methodLink RX4 34 yX4_isWithin, .static yX4_isWithin, .initialized RX4, .code yX4_isWithin cX4_isWithin 2 (some .boolean), .methodLink RX4 62 yX2_change, .instanceMethod yX2_change, .selects RX2 yX2_change yX2_change, .initialized RX2, .code yX2_change cX2_change 4 (some .boolean), .fieldLink RX2 18 "LinkPredictor$Members" "accesses" "[I", .fieldLink RX2 21 "LinkPredictor$Members" "flags" "[I", .methodLink RX2 32 yX2_isPresent, .instanceMethod yX2_isPresent, .selects RX2 yX2_isPresent yX2_isPresent, .code yX2_isPresent cX2_isPresent 2 (some .boolean), .fieldLink RX2 24 "LinkPredictor$Members" "size" "I", .fieldLink RX2 36 "LinkPredictor$Members" "gone" "I", .static yX4_contains, .code yX4_contains cX4_contains 2 (some .boolean)] ++ wsX40 ++ wsX00 ++ wsX20)
def wsX4_remove : List Cond := .code yX4_remove cX4_remove 2 (some .boolean) :: ([.fieldLink RX4 12 "LinkPredictor" "builds" "[LLinkPredictor$Build;", .fieldLink RX4 27 "LinkPredictor" "written" "I", .methodLink RX4 68 yX2_discard, .instanceMethod yX2_discard, .selects RX2 yX2_discard yX2_discard, .initialized RX2, .code yX2_discard cX2_discard 2 (some .boolean), .fieldLink RX2 36 "LinkPredictor$Members" "gone" "I", .methodLink RX2 32 yX2_isPresent, .instanceMethod yX2_isPresent, .selects RX2 yX2_isPresent yX2_isPresent, .code yX2_isPresent cX2_isPresent 2 (some .boolean), .fieldLink RX2 24 "LinkPredictor$Members" "size" "I", .static yX4_isWithin, .initialized RX4, .code yX4_isWithin cX4_isWithin 2 (some .boolean), .static yX4_contains, .code yX4_contains cX4_contains 2 (some .boolean), .static yX4_bit, .code yX4_bit cX4_bit 1 (some .int)] ++ wsX40 ++ wsX00 ++ wsX20)
def wsX4_branch_r1 : List Cond := [Cond.fieldLink RX4 12 "LinkPredictor" "builds" "[LLinkPredictor$Build;", Cond.fieldLink RX4 27 "LinkPredictor" "written" "I", Cond.methodLink RX4 71 yX0_becomeAs, Cond.instanceMethod yX0_becomeAs, Cond.selects RX0 yX0_becomeAs yX0_becomeAs, Cond.initialized RX0, Cond.code yX0_becomeAs cX0_becomeAs 2 none, Cond.fieldLink RX0 12 "LinkPredictor$Build" "types" "LLinkPredictor$Hierarchy;", Cond.fieldLink RX0 21 "LinkPredictor$Build" "members" "LLinkPredictor$Members;", Cond.methodLink RX0 44 yX1_becomeAs, Cond.instanceMethod yX1_becomeAs, Cond.selects RX1 yX1_becomeAs yX1_becomeAs, Cond.initialized RX1, Cond.code yX1_becomeAs cX1_becomeAs 2 none, Cond.fieldLink RX1 40 "LinkPredictor$Hierarchy" "there" "I", Cond.fieldLink RX1 9 "LinkPredictor$Hierarchy" "flags" "[I", Cond.methodLink RX1 51 arraycopyName, Cond.native arraycopyName, Cond.static arraycopyName, Cond.initialized "java/lang/System", Cond.fieldLink RX1 15 "LinkPredictor$Hierarchy" "packs" "[I", Cond.fieldLink RX1 18 "LinkPredictor$Hierarchy" "supers" "[I", Cond.fieldLink RX1 21 "LinkPredictor$Hierarchy" "directFaces" "[I", Cond.fieldLink RX1 24 "LinkPredictor$Hierarchy" "hosts" "[I"]
def wsX4_branch_r2 : List Cond := [Cond.methodLink RX1 44 yX1_settle, Cond.instanceMethod yX1_settle, Cond.selects RX1 yX1_settle yX1_settle, Cond.code yX1_settle cX1_settle 2 none, Cond.fieldLink RX1 72 "LinkPredictor$Hierarchy" "settled" "I", Cond.fieldLink RX1 27 "LinkPredictor$Hierarchy" "verdicts" "[I", Cond.methodLink RX1 78 yX1_loadInside, Cond.instanceMethod yX1_loadInside, Cond.selects RX1 yX1_loadInside yX1_loadInside, Cond.code yX1_loadInside cX1_loadInside 4 (some .int), Cond.methodLink RX1 47 yX1_isThere, Cond.instanceMethod yX1_isThere, Cond.selects RX1 yX1_isThere yX1_isThere, Cond.code yX1_isThere cX1_isThere 2 (some .boolean), Cond.static yX4_contains, Cond.initialized RX4, Cond.code yX4_contains cX4_contains 2 (some .boolean), Cond.static yX4_bit, Cond.code yX4_bit cX4_bit 1 (some .int), Cond.methodLink RX1 82 yX1_loadParents, Cond.instanceMethod yX1_loadParents, Cond.selects RX1 yX1_loadParents yX1_loadParents, Cond.static yX4_isGood, Cond.code yX4_isGood cX4_isGood 1 (some .boolean)]
def wsX4_branch_r3 : List Cond := [Cond.methodLink RX4 34 yX4_isWithin, Cond.static yX4_isWithin, Cond.code yX4_isWithin cX4_isWithin 2 (some .boolean), Cond.methodLink RX1 85 yX1_hasWrongParents, Cond.instanceMethod yX1_hasWrongParents, Cond.selects RX1 yX1_hasWrongParents yX1_hasWrongParents, Cond.code yX1_hasWrongParents cX1_hasWrongParents 4 (some .boolean), Cond.methodLink RX1 92 yX1_isInterface, Cond.instanceMethod yX1_isInterface, Cond.selects RX1 yX1_isInterface yX1_isInterface, Cond.code yX1_isInterface cX1_isInterface 2 (some .boolean), Cond.methodLink RX1 88 yX1_gatherSets, Cond.instanceMethod yX1_gatherSets, Cond.selects RX1 yX1_gatherSets yX1_gatherSets, Cond.code yX1_gatherSets cX1_gatherSets 5 none, Cond.fieldLink RX1 30 "LinkPredictor$Hierarchy" "aboves" "[I", Cond.fieldLink RX1 33 "LinkPredictor$Hierarchy" "allFaces" "[I", Cond.code yX1_loadParents cX1_loadParents 5 (some .int), Cond.methodLink RX0 48 yX2_becomeAs, Cond.instanceMethod yX2_becomeAs, Cond.selects RX2 yX2_becomeAs yX2_becomeAs, Cond.initialized RX2, Cond.code yX2_becomeAs cX2_becomeAs 2 none, Cond.fieldLink RX2 24 "LinkPredictor$Members" "size" "I"]
def wsX4_branch_r4 : List Cond := [Cond.fieldLink RX2 36 "LinkPredictor$Members" "gone" "I", Cond.fieldLink RX2 9 "LinkPredictor$Members" "owners" "[I", Cond.methodLink RX2 43 arraycopyName, Cond.fieldLink RX2 15 "LinkPredictor$Members" "keys" "[I", Cond.fieldLink RX2 18 "LinkPredictor$Members" "accesses" "[I", Cond.fieldLink RX2 21 "LinkPredictor$Members" "flags" "[I", Cond.methodLink RX4 75 yX1_countThere, Cond.instanceMethod yX1_countThere, Cond.selects RX1 yX1_countThere yX1_countThere, Cond.code yX1_countThere cX1_countThere 1 (some .int), Cond.methodLink RX1 67 yJ6_bitCount_0f7a4, Cond.static yJ6_bitCount_0f7a4, Cond.initialized RJ6, Cond.code yJ6_bitCount_0f7a4 cJ6_bitCount_0f7a4 1 (some .int), Cond.constant RJ6 265 (1431655765), Cond.constant RJ6 266 (858993459), Cond.constant RJ6 267 (252645135)]
def wsX4_branch : List Cond := .code yX4_branch cX4_branch 1 (some .int) :: ((wsX4_branch_r1 ++ (wsX4_branch_r2 ++ (wsX4_branch_r3 ++ wsX4_branch_r4))) ++ wsX40 ++ wsX00 ++ wsX10 ++ wsX20)
def wsX4_write : List Cond := .code yX4_write cX4_write 2 (some .boolean) :: ([.fieldLink RX4 27 "LinkPredictor" "written" "I", .methodLink RX4 34 yX4_isWithin, .static yX4_isWithin, .initialized RX4, .code yX4_isWithin cX4_isWithin 2 (some .boolean)] ++ wsX40)
def wsX4_refer : List Cond := .code yX4_refer cX4_refer 5 (some .int) :: ([.fieldLink RX4 23 "LinkPredictor" "referenceCount" "I", .fieldLink RX4 18 "LinkPredictor" "references" "[LLinkPredictor$Reference;", .methodLink RX4 34 yX4_isWithin, .static yX4_isWithin, .initialized RX4, .code yX4_isWithin cX4_isWithin 2 (some .boolean), .methodLink RX4 79 yX3_put, .instanceMethod yX3_put, .selects RX3 yX3_put yX3_put, .initialized RX3, .code yX3_put cX3_put 5 none, .fieldLink RX3 9 "LinkPredictor$Reference" "kind" "I", .fieldLink RX3 15 "LinkPredictor$Reference" "holder" "I", .fieldLink RX3 18 "LinkPredictor$Reference" "way" "I", .fieldLink RX3 21 "LinkPredictor$Reference" "sign" "I"] ++ wsX40 ++ wsX30)
def wsX4_forget : List Cond := .code yX4_forget cX4_forget 2 (some .int) :: ([.fieldLink RX4 23 "LinkPredictor" "referenceCount" "I"] ++ wsX40)
def wsX4_load : List Cond := .code yX4_load cX4_load 3 (some .int) :: ([.fieldLink RX4 12 "LinkPredictor" "builds" "[LLinkPredictor$Build;", .methodLink RX4 34 yX4_isWithin, .static yX4_isWithin, .initialized RX4, .code yX4_isWithin cX4_isWithin 2 (some .boolean), .methodLink RX4 83 yX1_loading, .instanceMethod yX1_loading, .selects RX1 yX1_loading yX1_loading, .initialized RX1, .code yX1_loading cX1_loading 2 (some .int), .fieldLink RX1 27 "LinkPredictor$Hierarchy" "verdicts" "[I"] ++ wsX40 ++ wsX00 ++ wsX10)
def wsX4_resolve_r1 : List Cond := [Cond.fieldLink RX4 23 "LinkPredictor" "referenceCount" "I", Cond.fieldLink RX4 12 "LinkPredictor" "builds" "[LLinkPredictor$Build;", Cond.fieldLink RX4 18 "LinkPredictor" "references" "[LLinkPredictor$Reference;", Cond.methodLink RX4 34 yX4_isWithin, Cond.static yX4_isWithin, Cond.initialized RX4, Cond.code yX4_isWithin cX4_isWithin 2 (some .boolean), Cond.methodLink RX4 87 yX0_resolution, Cond.instanceMethod yX0_resolution, Cond.selects RX0 yX0_resolution yX0_resolution, Cond.initialized RX0, Cond.code yX0_resolution cX0_resolution 3 (some .int), Cond.fieldLink RX0 12 "LinkPredictor$Build" "types" "LLinkPredictor$Hierarchy;", Cond.methodLink RX0 57 yX1_loading, Cond.instanceMethod yX1_loading, Cond.selects RX1 yX1_loading yX1_loading, Cond.initialized RX1, Cond.code yX1_loading cX1_loading 2 (some .int), Cond.fieldLink RX1 27 "LinkPredictor$Hierarchy" "verdicts" "[I", Cond.static yX4_isGood, Cond.code yX4_isGood cX4_isGood 1 (some .boolean), Cond.methodLink RX0 67 yX1_reaching, Cond.instanceMethod yX1_reaching, Cond.selects RX1 yX1_reaching yX1_reaching]
def wsX4_resolve_r2 : List Cond := [Cond.code yX1_reaching cX1_reaching 4 (some .int), Cond.fieldLink RX1 9 "LinkPredictor$Hierarchy" "flags" "[I", Cond.methodLink RX1 64 yX1_isSamePackage, Cond.instanceMethod yX1_isSamePackage, Cond.selects RX1 yX1_isSamePackage yX1_isSamePackage, Cond.code yX1_isSamePackage cX1_isSamePackage 3 (some .boolean), Cond.fieldLink RX1 15 "LinkPredictor$Hierarchy" "packs" "[I", Cond.methodLink RX0 74 yX3_isOfField, Cond.instanceMethod yX3_isOfField, Cond.selects RX3 yX3_isOfField yX3_isOfField, Cond.initialized RX3, Cond.code yX3_isOfField cX3_isOfField 1 (some .boolean), Cond.fieldLink RX3 9 "LinkPredictor$Reference" "kind" "I", Cond.methodLink RX0 78 yX0_lookUpField, Cond.instanceMethod yX0_lookUpField, Cond.selects RX0 yX0_lookUpField yX0_lookUpField, Cond.code yX0_lookUpField cX0_lookUpField 3 (some .int), Cond.fieldLink RX0 109 "LinkPredictor$Build" "searched" "I", Cond.methodLink RX0 112 yX0_findField, Cond.instanceMethod yX0_findField, Cond.selects RX0 yX0_findField yX0_findField, Cond.code yX0_findField cX0_findField 5 (some .int), Cond.fieldLink RX0 21 "LinkPredictor$Build" "members" "LLinkPredictor$Members;", Cond.static yX4_contains]
def wsX4_resolve_r3 : List Cond := [Cond.code yX4_contains cX4_contains 2 (some .boolean), Cond.static yX4_bit, Cond.code yX4_bit cX4_bit 1 (some .int), Cond.methodLink RX0 36 yX2_find, Cond.instanceMethod yX2_find, Cond.selects RX2 yX2_find yX2_find, Cond.initialized RX2, Cond.code yX2_find cX2_find 6 (some .int), Cond.fieldLink RX2 24 "LinkPredictor$Members" "size" "I", Cond.fieldLink RX2 15 "LinkPredictor$Members" "keys" "[I", Cond.fieldLink RX2 9 "LinkPredictor$Members" "owners" "[I", Cond.fieldLink RX2 36 "LinkPredictor$Members" "gone" "I", Cond.methodLink RX2 28 yX2_keyOf, Cond.static yX2_keyOf, Cond.code yX2_keyOf cX2_keyOf 2 (some .int), Cond.methodLink RX0 121 yX1_directFacesOf, Cond.instanceMethod yX1_directFacesOf, Cond.selects RX1 yX1_directFacesOf yX1_directFacesOf, Cond.code yX1_directFacesOf cX1_directFacesOf 2 (some .int), Cond.fieldLink RX1 21 "LinkPredictor$Hierarchy" "directFaces" "[I", Cond.methodLink RX0 124 yX1_superOf, Cond.instanceMethod yX1_superOf, Cond.selects RX1 yX1_superOf yX1_superOf, Cond.code yX1_superOf cX1_superOf 2 (some .int)]
def wsX4_resolve_r4 : List Cond := [Cond.fieldLink RX1 18 "LinkPredictor$Hierarchy" "supers" "[I", Cond.methodLink RX0 82 yX0_lookUpMethod, Cond.instanceMethod yX0_lookUpMethod, Cond.selects RX0 yX0_lookUpMethod yX0_lookUpMethod, Cond.code yX0_lookUpMethod cX0_lookUpMethod 4 (some .int), Cond.methodLink RX0 127 yX1_isInterface, Cond.instanceMethod yX1_isInterface, Cond.selects RX1 yX1_isInterface yX1_isInterface, Cond.code yX1_isInterface cX1_isInterface 2 (some .boolean), Cond.methodLink RX0 130 yX0_findInInterface, Cond.instanceMethod yX0_findInInterface, Cond.selects RX0 yX0_findInInterface yX0_findInInterface, Cond.code yX0_findInInterface cX0_findInInterface 5 (some .int), Cond.methodLink RX0 96 yX2_accessOf, Cond.instanceMethod yX2_accessOf, Cond.selects RX2 yX2_accessOf yX2_accessOf, Cond.code yX2_accessOf cX2_accessOf 2 (some .int), Cond.fieldLink RX2 18 "LinkPredictor$Members" "accesses" "[I", Cond.methodLink RX0 139 yX2_isStatic, Cond.instanceMethod yX2_isStatic, Cond.selects RX2 yX2_isStatic yX2_isStatic, Cond.code yX2_isStatic cX2_isStatic 2 (some .boolean), Cond.fieldLink RX2 21 "LinkPredictor$Members" "flags" "[I", Cond.methodLink RX0 133 yX0_findInAbove]
def wsX4_resolve_r5 : List Cond := [Cond.instanceMethod yX0_findInAbove, Cond.selects RX0 yX0_findInAbove yX0_findInAbove, Cond.code yX0_findInAbove cX0_findInAbove 6 (some .int), Cond.methodLink RX0 136 yX0_findBest, Cond.instanceMethod yX0_findBest, Cond.selects RX0 yX0_findBest yX0_findBest, Cond.code yX0_findBest cX0_findBest 5 (some .int), Cond.methodLink RX0 142 yX1_facesOf, Cond.instanceMethod yX1_facesOf, Cond.selects RX1 yX1_facesOf yX1_facesOf, Cond.code yX1_facesOf cX1_facesOf 2 (some .int), Cond.fieldLink RX1 33 "LinkPredictor$Hierarchy" "allFaces" "[I", Cond.methodLink RX0 145 yX2_ownersOfInheritable, Cond.instanceMethod yX2_ownersOfInheritable, Cond.selects RX2 yX2_ownersOfInheritable yX2_ownersOfInheritable, Cond.code yX2_ownersOfInheritable cX2_ownersOfInheritable 5 (some .int), Cond.methodLink RX2 53 yX2_isInheritable, Cond.instanceMethod yX2_isInheritable, Cond.selects RX2 yX2_isInheritable yX2_isInheritable, Cond.code yX2_isInheritable cX2_isInheritable 2 (some .boolean), Cond.methodLink RX0 148 yX1_mostSpecificOf, Cond.instanceMethod yX1_mostSpecificOf, Cond.selects RX1 yX1_mostSpecificOf yX1_mostSpecificOf, Cond.code yX1_mostSpecificOf cX1_mostSpecificOf 4 (some .int)]
def wsX4_resolve_r6 : List Cond := [Cond.methodLink RX0 151 yX0_findOnlyWithBody, Cond.instanceMethod yX0_findOnlyWithBody, Cond.selects RX0 yX0_findOnlyWithBody yX0_findOnlyWithBody, Cond.code yX0_findOnlyWithBody cX0_findOnlyWithBody 6 (some .int), Cond.methodLink RX0 162 yX2_isAbstract, Cond.instanceMethod yX2_isAbstract, Cond.selects RX2 yX2_isAbstract yX2_isAbstract, Cond.code yX2_isAbstract cX2_isAbstract 2 (some .boolean), Cond.methodLink RX0 154 yX0_findLeast, Cond.instanceMethod yX0_findLeast, Cond.selects RX0 yX0_findLeast yX0_findLeast, Cond.code yX0_findLeast cX0_findLeast 6 (some .int), Cond.methodLink RX0 157 Lib.Math.min.name, Cond.static Lib.Math.min.name, Cond.initialized "java/lang/Math", Cond.code Lib.Math.min.name Lib.Math.min.code 2 (some .int), Cond.methodLink RX0 85 yX0_checkMember, Cond.instanceMethod yX0_checkMember, Cond.selects RX0 yX0_checkMember yX0_checkMember, Cond.code yX0_checkMember cX0_checkMember 3 (some .int), Cond.methodLink RX0 165 yX0_isAccessible, Cond.instanceMethod yX0_isAccessible, Cond.selects RX0 yX0_isAccessible yX0_isAccessible, Cond.code yX0_isAccessible cX0_isAccessible 5 (some .boolean)]
def wsX4_resolve_r7 : List Cond := [Cond.methodLink RX0 178 yX2_ownerOf, Cond.instanceMethod yX2_ownerOf, Cond.selects RX2 yX2_ownerOf yX2_ownerOf, Cond.code yX2_ownerOf cX2_ownerOf 2 (some .int), Cond.methodLink RX0 184 yX1_isSamePackage, Cond.methodLink RX0 187 yX0_isInherited, Cond.instanceMethod yX0_isInherited, Cond.selects RX0 yX0_isInherited yX0_isInherited, Cond.code yX0_isInherited cX0_isInherited 4 (some .boolean), Cond.methodLink RX0 193 yX1_hasAbove, Cond.instanceMethod yX1_hasAbove, Cond.selects RX1 yX1_hasAbove yX1_hasAbove, Cond.code yX1_hasAbove cX1_hasAbove 3 (some .boolean), Cond.fieldLink RX1 30 "LinkPredictor$Hierarchy" "aboves" "[I", Cond.methodLink RX0 181 yX1_liesUnder, Cond.instanceMethod yX1_liesUnder, Cond.selects RX1 yX1_liesUnder yX1_liesUnder, Cond.code yX1_liesUnder cX1_liesUnder 3 (some .boolean), Cond.methodLink RX0 190 yX1_nestOf, Cond.instanceMethod yX1_nestOf, Cond.selects RX1 yX1_nestOf yX1_nestOf, Cond.code yX1_nestOf cX1_nestOf 3 (some .int), Cond.fieldLink RX1 24 "LinkPredictor$Hierarchy" "hosts" "[I", Cond.methodLink RX1 47 yX1_isThere]
def wsX4_resolve_r8 : List Cond := [Cond.instanceMethod yX1_isThere, Cond.selects RX1 yX1_isThere yX1_isThere, Cond.code yX1_isThere cX1_isThere 2 (some .boolean), Cond.fieldLink RX1 40 "LinkPredictor$Hierarchy" "there" "I", Cond.methodLink RX0 169 yX3_needsStatic, Cond.instanceMethod yX3_needsStatic, Cond.selects RX3 yX3_needsStatic yX3_needsStatic, Cond.code yX3_needsStatic cX3_needsStatic 1 (some .boolean), Cond.methodLink RX0 172 yX3_isPut, Cond.instanceMethod yX3_isPut, Cond.selects RX3 yX3_isPut yX3_isPut, Cond.code yX3_isPut cX3_isPut 1 (some .boolean), Cond.methodLink RX0 175 yX2_isFinal, Cond.instanceMethod yX2_isFinal, Cond.selects RX2 yX2_isFinal yX2_isFinal, Cond.code yX2_isFinal cX2_isFinal 2 (some .boolean)]
def wsX4_resolve : List Cond := .code yX4_resolve cX4_resolve 3 (some .int) :: ((wsX4_resolve_r1 ++ (wsX4_resolve_r2 ++ (wsX4_resolve_r3 ++ (wsX4_resolve_r4 ++ (wsX4_resolve_r5 ++ (wsX4_resolve_r6 ++ (wsX4_resolve_r7 ++ wsX4_resolve_r8))))))) ++ wsX40 ++ wsX00 ++ wsX30 ++ wsX10 ++ wsX20)
def wsX4_select_r1 : List Cond := [Cond.fieldLink RX4 23 "LinkPredictor" "referenceCount" "I", Cond.fieldLink RX4 18 "LinkPredictor" "references" "[LLinkPredictor$Reference;", Cond.fieldLink RX4 12 "LinkPredictor" "builds" "[LLinkPredictor$Build;", Cond.methodLink RX4 34 yX4_isWithin, Cond.static yX4_isWithin, Cond.initialized RX4, Cond.code yX4_isWithin cX4_isWithin 2 (some .boolean), Cond.methodLink RX4 87 yX0_resolution, Cond.instanceMethod yX0_resolution, Cond.selects RX0 yX0_resolution yX0_resolution, Cond.initialized RX0, Cond.code yX0_resolution cX0_resolution 3 (some .int), Cond.fieldLink RX0 12 "LinkPredictor$Build" "types" "LLinkPredictor$Hierarchy;", Cond.methodLink RX0 57 yX1_loading, Cond.instanceMethod yX1_loading, Cond.selects RX1 yX1_loading yX1_loading, Cond.initialized RX1, Cond.code yX1_loading cX1_loading 2 (some .int), Cond.fieldLink RX1 27 "LinkPredictor$Hierarchy" "verdicts" "[I", Cond.static yX4_isGood, Cond.code yX4_isGood cX4_isGood 1 (some .boolean), Cond.methodLink RX0 67 yX1_reaching, Cond.instanceMethod yX1_reaching, Cond.selects RX1 yX1_reaching yX1_reaching]
def wsX4_select_r2 : List Cond := [Cond.code yX1_reaching cX1_reaching 4 (some .int), Cond.fieldLink RX1 9 "LinkPredictor$Hierarchy" "flags" "[I", Cond.methodLink RX1 64 yX1_isSamePackage, Cond.instanceMethod yX1_isSamePackage, Cond.selects RX1 yX1_isSamePackage yX1_isSamePackage, Cond.code yX1_isSamePackage cX1_isSamePackage 3 (some .boolean), Cond.fieldLink RX1 15 "LinkPredictor$Hierarchy" "packs" "[I", Cond.methodLink RX0 74 yX3_isOfField, Cond.instanceMethod yX3_isOfField, Cond.selects RX3 yX3_isOfField yX3_isOfField, Cond.initialized RX3, Cond.code yX3_isOfField cX3_isOfField 1 (some .boolean), Cond.fieldLink RX3 9 "LinkPredictor$Reference" "kind" "I", Cond.methodLink RX0 78 yX0_lookUpField, Cond.instanceMethod yX0_lookUpField, Cond.selects RX0 yX0_lookUpField yX0_lookUpField, Cond.code yX0_lookUpField cX0_lookUpField 3 (some .int), Cond.fieldLink RX0 109 "LinkPredictor$Build" "searched" "I", Cond.methodLink RX0 112 yX0_findField, Cond.instanceMethod yX0_findField, Cond.selects RX0 yX0_findField yX0_findField, Cond.code yX0_findField cX0_findField 5 (some .int), Cond.fieldLink RX0 21 "LinkPredictor$Build" "members" "LLinkPredictor$Members;", Cond.static yX4_contains]
def wsX4_select_r3 : List Cond := [Cond.code yX4_contains cX4_contains 2 (some .boolean), Cond.static yX4_bit, Cond.code yX4_bit cX4_bit 1 (some .int), Cond.methodLink RX0 36 yX2_find, Cond.instanceMethod yX2_find, Cond.selects RX2 yX2_find yX2_find, Cond.initialized RX2, Cond.code yX2_find cX2_find 6 (some .int), Cond.fieldLink RX2 24 "LinkPredictor$Members" "size" "I", Cond.fieldLink RX2 15 "LinkPredictor$Members" "keys" "[I", Cond.fieldLink RX2 9 "LinkPredictor$Members" "owners" "[I", Cond.fieldLink RX2 36 "LinkPredictor$Members" "gone" "I", Cond.methodLink RX2 28 yX2_keyOf, Cond.static yX2_keyOf, Cond.code yX2_keyOf cX2_keyOf 2 (some .int), Cond.methodLink RX0 121 yX1_directFacesOf, Cond.instanceMethod yX1_directFacesOf, Cond.selects RX1 yX1_directFacesOf yX1_directFacesOf, Cond.code yX1_directFacesOf cX1_directFacesOf 2 (some .int), Cond.fieldLink RX1 21 "LinkPredictor$Hierarchy" "directFaces" "[I", Cond.methodLink RX0 124 yX1_superOf, Cond.instanceMethod yX1_superOf, Cond.selects RX1 yX1_superOf yX1_superOf, Cond.code yX1_superOf cX1_superOf 2 (some .int)]
def wsX4_select_r4 : List Cond := [Cond.fieldLink RX1 18 "LinkPredictor$Hierarchy" "supers" "[I", Cond.methodLink RX0 82 yX0_lookUpMethod, Cond.instanceMethod yX0_lookUpMethod, Cond.selects RX0 yX0_lookUpMethod yX0_lookUpMethod, Cond.code yX0_lookUpMethod cX0_lookUpMethod 4 (some .int), Cond.methodLink RX0 127 yX1_isInterface, Cond.instanceMethod yX1_isInterface, Cond.selects RX1 yX1_isInterface yX1_isInterface, Cond.code yX1_isInterface cX1_isInterface 2 (some .boolean), Cond.methodLink RX0 130 yX0_findInInterface, Cond.instanceMethod yX0_findInInterface, Cond.selects RX0 yX0_findInInterface yX0_findInInterface, Cond.code yX0_findInInterface cX0_findInInterface 5 (some .int), Cond.methodLink RX0 96 yX2_accessOf, Cond.instanceMethod yX2_accessOf, Cond.selects RX2 yX2_accessOf yX2_accessOf, Cond.code yX2_accessOf cX2_accessOf 2 (some .int), Cond.fieldLink RX2 18 "LinkPredictor$Members" "accesses" "[I", Cond.methodLink RX0 139 yX2_isStatic, Cond.instanceMethod yX2_isStatic, Cond.selects RX2 yX2_isStatic yX2_isStatic, Cond.code yX2_isStatic cX2_isStatic 2 (some .boolean), Cond.fieldLink RX2 21 "LinkPredictor$Members" "flags" "[I", Cond.methodLink RX0 133 yX0_findInAbove]
def wsX4_select_r5 : List Cond := [Cond.instanceMethod yX0_findInAbove, Cond.selects RX0 yX0_findInAbove yX0_findInAbove, Cond.code yX0_findInAbove cX0_findInAbove 6 (some .int), Cond.methodLink RX0 136 yX0_findBest, Cond.instanceMethod yX0_findBest, Cond.selects RX0 yX0_findBest yX0_findBest, Cond.code yX0_findBest cX0_findBest 5 (some .int), Cond.methodLink RX0 142 yX1_facesOf, Cond.instanceMethod yX1_facesOf, Cond.selects RX1 yX1_facesOf yX1_facesOf, Cond.code yX1_facesOf cX1_facesOf 2 (some .int), Cond.fieldLink RX1 33 "LinkPredictor$Hierarchy" "allFaces" "[I", Cond.methodLink RX0 145 yX2_ownersOfInheritable, Cond.instanceMethod yX2_ownersOfInheritable, Cond.selects RX2 yX2_ownersOfInheritable yX2_ownersOfInheritable, Cond.code yX2_ownersOfInheritable cX2_ownersOfInheritable 5 (some .int), Cond.methodLink RX2 53 yX2_isInheritable, Cond.instanceMethod yX2_isInheritable, Cond.selects RX2 yX2_isInheritable yX2_isInheritable, Cond.code yX2_isInheritable cX2_isInheritable 2 (some .boolean), Cond.methodLink RX0 148 yX1_mostSpecificOf, Cond.instanceMethod yX1_mostSpecificOf, Cond.selects RX1 yX1_mostSpecificOf yX1_mostSpecificOf, Cond.code yX1_mostSpecificOf cX1_mostSpecificOf 4 (some .int)]
def wsX4_select_r6 : List Cond := [Cond.methodLink RX0 151 yX0_findOnlyWithBody, Cond.instanceMethod yX0_findOnlyWithBody, Cond.selects RX0 yX0_findOnlyWithBody yX0_findOnlyWithBody, Cond.code yX0_findOnlyWithBody cX0_findOnlyWithBody 6 (some .int), Cond.methodLink RX0 162 yX2_isAbstract, Cond.instanceMethod yX2_isAbstract, Cond.selects RX2 yX2_isAbstract yX2_isAbstract, Cond.code yX2_isAbstract cX2_isAbstract 2 (some .boolean), Cond.methodLink RX0 154 yX0_findLeast, Cond.instanceMethod yX0_findLeast, Cond.selects RX0 yX0_findLeast yX0_findLeast, Cond.code yX0_findLeast cX0_findLeast 6 (some .int), Cond.methodLink RX0 157 Lib.Math.min.name, Cond.static Lib.Math.min.name, Cond.initialized "java/lang/Math", Cond.code Lib.Math.min.name Lib.Math.min.code 2 (some .int), Cond.methodLink RX0 85 yX0_checkMember, Cond.instanceMethod yX0_checkMember, Cond.selects RX0 yX0_checkMember yX0_checkMember, Cond.code yX0_checkMember cX0_checkMember 3 (some .int), Cond.methodLink RX0 165 yX0_isAccessible, Cond.instanceMethod yX0_isAccessible, Cond.selects RX0 yX0_isAccessible yX0_isAccessible, Cond.code yX0_isAccessible cX0_isAccessible 5 (some .boolean)]
def wsX4_select_r7 : List Cond := [Cond.methodLink RX0 178 yX2_ownerOf, Cond.instanceMethod yX2_ownerOf, Cond.selects RX2 yX2_ownerOf yX2_ownerOf, Cond.code yX2_ownerOf cX2_ownerOf 2 (some .int), Cond.methodLink RX0 184 yX1_isSamePackage, Cond.methodLink RX0 187 yX0_isInherited, Cond.instanceMethod yX0_isInherited, Cond.selects RX0 yX0_isInherited yX0_isInherited, Cond.code yX0_isInherited cX0_isInherited 4 (some .boolean), Cond.methodLink RX0 193 yX1_hasAbove, Cond.instanceMethod yX1_hasAbove, Cond.selects RX1 yX1_hasAbove yX1_hasAbove, Cond.code yX1_hasAbove cX1_hasAbove 3 (some .boolean), Cond.fieldLink RX1 30 "LinkPredictor$Hierarchy" "aboves" "[I", Cond.methodLink RX0 181 yX1_liesUnder, Cond.instanceMethod yX1_liesUnder, Cond.selects RX1 yX1_liesUnder yX1_liesUnder, Cond.code yX1_liesUnder cX1_liesUnder 3 (some .boolean), Cond.methodLink RX0 190 yX1_nestOf, Cond.instanceMethod yX1_nestOf, Cond.selects RX1 yX1_nestOf yX1_nestOf, Cond.code yX1_nestOf cX1_nestOf 3 (some .int), Cond.fieldLink RX1 24 "LinkPredictor$Hierarchy" "hosts" "[I", Cond.methodLink RX1 47 yX1_isThere]
def wsX4_select_r8 : List Cond := [Cond.instanceMethod yX1_isThere, Cond.selects RX1 yX1_isThere yX1_isThere, Cond.code yX1_isThere cX1_isThere 2 (some .boolean), Cond.fieldLink RX1 40 "LinkPredictor$Hierarchy" "there" "I", Cond.methodLink RX0 169 yX3_needsStatic, Cond.instanceMethod yX3_needsStatic, Cond.selects RX3 yX3_needsStatic yX3_needsStatic, Cond.code yX3_needsStatic cX3_needsStatic 1 (some .boolean), Cond.methodLink RX0 172 yX3_isPut, Cond.instanceMethod yX3_isPut, Cond.selects RX3 yX3_isPut yX3_isPut, Cond.code yX3_isPut cX3_isPut 1 (some .boolean), Cond.methodLink RX0 175 yX2_isFinal, Cond.instanceMethod yX2_isFinal, Cond.selects RX2 yX2_isFinal yX2_isFinal, Cond.code yX2_isFinal cX2_isFinal 2 (some .boolean), Cond.methodLink RX4 91 yX0_selection, Cond.instanceMethod yX0_selection, Cond.selects RX0 yX0_selection yX0_selection, Cond.code yX0_selection cX0_selection 6 (some .int), Cond.methodLink RX0 89 yX3_hasReceiver, Cond.instanceMethod yX3_hasReceiver, Cond.selects RX3 yX3_hasReceiver yX3_hasReceiver, Cond.code yX3_hasReceiver cX3_hasReceiver 1 (some .boolean)]
def wsX4_select_r9 : List Cond := [Cond.methodLink RX0 92 yX0_isFit, Cond.instanceMethod yX0_isFit, Cond.selects RX0 yX0_isFit yX0_isFit, Cond.code yX0_isFit cX0_isFit 3 (some .boolean), Cond.methodLink RX0 196 yX1_canBeMade, Cond.instanceMethod yX1_canBeMade, Cond.selects RX1 yX1_canBeMade yX1_canBeMade, Cond.code yX1_canBeMade cX1_canBeMade 2 (some .boolean), Cond.methodLink RX0 102 yX0_selectFor, Cond.instanceMethod yX0_selectFor, Cond.selects RX0 yX0_selectFor yX0_selectFor, Cond.code yX0_selectFor cX0_selectFor 7 (some .int), Cond.methodLink RX0 199 yX0_overrides, Cond.instanceMethod yX0_overrides, Cond.selects RX0 yX0_overrides yX0_overrides, Cond.code yX0_overrides cX0_overrides 3 (some .boolean), Cond.methodLink RX0 205 yX2_isInheritable, Cond.methodLink RX0 202 yX0_selectFromFaces, Cond.instanceMethod yX0_selectFromFaces, Cond.selects RX0 yX0_selectFromFaces yX0_selectFromFaces, Cond.code yX0_selectFromFaces cX0_selectFromFaces 5 (some .int), Cond.methodLink RX0 106 yX0_checkSelected, Cond.instanceMethod yX0_checkSelected, Cond.selects RX0 yX0_checkSelected yX0_checkSelected]
def wsX4_select_r10 : List Cond := [Cond.code yX0_checkSelected cX0_checkSelected 4 (some .int)]
def wsX4_select : List Cond := .code yX4_select cX4_select 5 (some .int) :: ((wsX4_select_r1 ++ (wsX4_select_r2 ++ (wsX4_select_r3 ++ (wsX4_select_r4 ++ (wsX4_select_r5 ++ (wsX4_select_r6 ++ (wsX4_select_r7 ++ (wsX4_select_r8 ++ (wsX4_select_r9 ++ wsX4_select_r10))))))))) ++ wsX40 ++ wsX00 ++ wsX30 ++ wsX10 ++ wsX20)
def wsX4_areAlike : List Cond := .code yX4_areAlike cX4_areAlike 5 (some .boolean) :: ([.fieldLink RX4 12 "LinkPredictor" "builds" "[LLinkPredictor$Build;", .methodLink RX4 126 yX2_isSameThing, .instanceMethod yX2_isSameThing, .selects RX2 yX2_isSameThing yX2_isSameThing, .initialized RX2, .code yX2_isSameThing cX2_isSameThing 4 (some .boolean), .fieldLink RX2 9 "LinkPredictor$Members" "owners" "[I", .fieldLink RX2 15 "LinkPredictor$Members" "keys" "[I"] ++ wsX40 ++ wsX00 ++ wsX20)
def wsX4_compare_r1 : List Cond := [Cond.fieldLink RX4 23 "LinkPredictor" "referenceCount" "I", Cond.fieldLink RX4 12 "LinkPredictor" "builds" "[LLinkPredictor$Build;", Cond.fieldLink RX4 18 "LinkPredictor" "references" "[LLinkPredictor$Reference;", Cond.methodLink RX4 34 yX4_isWithin, Cond.static yX4_isWithin, Cond.initialized RX4, Cond.code yX4_isWithin cX4_isWithin 2 (some .boolean), Cond.methodLink RX4 87 yX0_resolution, Cond.instanceMethod yX0_resolution, Cond.selects RX0 yX0_resolution yX0_resolution, Cond.initialized RX0, Cond.code yX0_resolution cX0_resolution 3 (some .int), Cond.fieldLink RX0 12 "LinkPredictor$Build" "types" "LLinkPredictor$Hierarchy;", Cond.methodLink RX0 57 yX1_loading, Cond.instanceMethod yX1_loading, Cond.selects RX1 yX1_loading yX1_loading, Cond.initialized RX1, Cond.code yX1_loading cX1_loading 2 (some .int), Cond.fieldLink RX1 27 "LinkPredictor$Hierarchy" "verdicts" "[I", Cond.static yX4_isGood, Cond.code yX4_isGood cX4_isGood 1 (some .boolean), Cond.methodLink RX0 67 yX1_reaching, Cond.instanceMethod yX1_reaching, Cond.selects RX1 yX1_reaching yX1_reaching]
def wsX4_compare_r2 : List Cond := [Cond.code yX1_reaching cX1_reaching 4 (some .int), Cond.fieldLink RX1 9 "LinkPredictor$Hierarchy" "flags" "[I", Cond.methodLink RX1 64 yX1_isSamePackage, Cond.instanceMethod yX1_isSamePackage, Cond.selects RX1 yX1_isSamePackage yX1_isSamePackage, Cond.code yX1_isSamePackage cX1_isSamePackage 3 (some .boolean), Cond.fieldLink RX1 15 "LinkPredictor$Hierarchy" "packs" "[I", Cond.methodLink RX0 74 yX3_isOfField, Cond.instanceMethod yX3_isOfField, Cond.selects RX3 yX3_isOfField yX3_isOfField, Cond.initialized RX3, Cond.code yX3_isOfField cX3_isOfField 1 (some .boolean), Cond.fieldLink RX3 9 "LinkPredictor$Reference" "kind" "I", Cond.methodLink RX0 78 yX0_lookUpField, Cond.instanceMethod yX0_lookUpField, Cond.selects RX0 yX0_lookUpField yX0_lookUpField, Cond.code yX0_lookUpField cX0_lookUpField 3 (some .int), Cond.fieldLink RX0 109 "LinkPredictor$Build" "searched" "I", Cond.methodLink RX0 112 yX0_findField, Cond.instanceMethod yX0_findField, Cond.selects RX0 yX0_findField yX0_findField, Cond.code yX0_findField cX0_findField 5 (some .int), Cond.fieldLink RX0 21 "LinkPredictor$Build" "members" "LLinkPredictor$Members;", Cond.static yX4_contains]
def wsX4_compare_r3 : List Cond := [Cond.code yX4_contains cX4_contains 2 (some .boolean), Cond.static yX4_bit, Cond.code yX4_bit cX4_bit 1 (some .int), Cond.methodLink RX0 36 yX2_find, Cond.instanceMethod yX2_find, Cond.selects RX2 yX2_find yX2_find, Cond.initialized RX2, Cond.code yX2_find cX2_find 6 (some .int), Cond.fieldLink RX2 24 "LinkPredictor$Members" "size" "I", Cond.fieldLink RX2 15 "LinkPredictor$Members" "keys" "[I", Cond.fieldLink RX2 9 "LinkPredictor$Members" "owners" "[I", Cond.fieldLink RX2 36 "LinkPredictor$Members" "gone" "I", Cond.methodLink RX2 28 yX2_keyOf, Cond.static yX2_keyOf, Cond.code yX2_keyOf cX2_keyOf 2 (some .int), Cond.methodLink RX0 121 yX1_directFacesOf, Cond.instanceMethod yX1_directFacesOf, Cond.selects RX1 yX1_directFacesOf yX1_directFacesOf, Cond.code yX1_directFacesOf cX1_directFacesOf 2 (some .int), Cond.fieldLink RX1 21 "LinkPredictor$Hierarchy" "directFaces" "[I", Cond.methodLink RX0 124 yX1_superOf, Cond.instanceMethod yX1_superOf, Cond.selects RX1 yX1_superOf yX1_superOf, Cond.code yX1_superOf cX1_superOf 2 (some .int)]
def wsX4_compare_r4 : List Cond := [Cond.fieldLink RX1 18 "LinkPredictor$Hierarchy" "supers" "[I", Cond.methodLink RX0 82 yX0_lookUpMethod, Cond.instanceMethod yX0_lookUpMethod, Cond.selects RX0 yX0_lookUpMethod yX0_lookUpMethod, Cond.code yX0_lookUpMethod cX0_lookUpMethod 4 (some .int), Cond.methodLink RX0 127 yX1_isInterface, Cond.instanceMethod yX1_isInterface, Cond.selects RX1 yX1_isInterface yX1_isInterface, Cond.code yX1_isInterface cX1_isInterface 2 (some .boolean), Cond.methodLink RX0 130 yX0_findInInterface, Cond.instanceMethod yX0_findInInterface, Cond.selects RX0 yX0_findInInterface yX0_findInInterface, Cond.code yX0_findInInterface cX0_findInInterface 5 (some .int), Cond.methodLink RX0 96 yX2_accessOf, Cond.instanceMethod yX2_accessOf, Cond.selects RX2 yX2_accessOf yX2_accessOf, Cond.code yX2_accessOf cX2_accessOf 2 (some .int), Cond.fieldLink RX2 18 "LinkPredictor$Members" "accesses" "[I", Cond.methodLink RX0 139 yX2_isStatic, Cond.instanceMethod yX2_isStatic, Cond.selects RX2 yX2_isStatic yX2_isStatic, Cond.code yX2_isStatic cX2_isStatic 2 (some .boolean), Cond.fieldLink RX2 21 "LinkPredictor$Members" "flags" "[I", Cond.methodLink RX0 133 yX0_findInAbove]
def wsX4_compare_r5 : List Cond := [Cond.instanceMethod yX0_findInAbove, Cond.selects RX0 yX0_findInAbove yX0_findInAbove, Cond.code yX0_findInAbove cX0_findInAbove 6 (some .int), Cond.methodLink RX0 136 yX0_findBest, Cond.instanceMethod yX0_findBest, Cond.selects RX0 yX0_findBest yX0_findBest, Cond.code yX0_findBest cX0_findBest 5 (some .int), Cond.methodLink RX0 142 yX1_facesOf, Cond.instanceMethod yX1_facesOf, Cond.selects RX1 yX1_facesOf yX1_facesOf, Cond.code yX1_facesOf cX1_facesOf 2 (some .int), Cond.fieldLink RX1 33 "LinkPredictor$Hierarchy" "allFaces" "[I", Cond.methodLink RX0 145 yX2_ownersOfInheritable, Cond.instanceMethod yX2_ownersOfInheritable, Cond.selects RX2 yX2_ownersOfInheritable yX2_ownersOfInheritable, Cond.code yX2_ownersOfInheritable cX2_ownersOfInheritable 5 (some .int), Cond.methodLink RX2 53 yX2_isInheritable, Cond.instanceMethod yX2_isInheritable, Cond.selects RX2 yX2_isInheritable yX2_isInheritable, Cond.code yX2_isInheritable cX2_isInheritable 2 (some .boolean), Cond.methodLink RX0 148 yX1_mostSpecificOf, Cond.instanceMethod yX1_mostSpecificOf, Cond.selects RX1 yX1_mostSpecificOf yX1_mostSpecificOf, Cond.code yX1_mostSpecificOf cX1_mostSpecificOf 4 (some .int)]
def wsX4_compare_r6 : List Cond := [Cond.methodLink RX0 151 yX0_findOnlyWithBody, Cond.instanceMethod yX0_findOnlyWithBody, Cond.selects RX0 yX0_findOnlyWithBody yX0_findOnlyWithBody, Cond.code yX0_findOnlyWithBody cX0_findOnlyWithBody 6 (some .int), Cond.methodLink RX0 162 yX2_isAbstract, Cond.instanceMethod yX2_isAbstract, Cond.selects RX2 yX2_isAbstract yX2_isAbstract, Cond.code yX2_isAbstract cX2_isAbstract 2 (some .boolean), Cond.methodLink RX0 154 yX0_findLeast, Cond.instanceMethod yX0_findLeast, Cond.selects RX0 yX0_findLeast yX0_findLeast, Cond.code yX0_findLeast cX0_findLeast 6 (some .int), Cond.methodLink RX0 157 Lib.Math.min.name, Cond.static Lib.Math.min.name, Cond.initialized "java/lang/Math", Cond.code Lib.Math.min.name Lib.Math.min.code 2 (some .int), Cond.methodLink RX0 85 yX0_checkMember, Cond.instanceMethod yX0_checkMember, Cond.selects RX0 yX0_checkMember yX0_checkMember, Cond.code yX0_checkMember cX0_checkMember 3 (some .int), Cond.methodLink RX0 165 yX0_isAccessible, Cond.instanceMethod yX0_isAccessible, Cond.selects RX0 yX0_isAccessible yX0_isAccessible, Cond.code yX0_isAccessible cX0_isAccessible 5 (some .boolean)]
def wsX4_compare_r7 : List Cond := [Cond.methodLink RX0 178 yX2_ownerOf, Cond.instanceMethod yX2_ownerOf, Cond.selects RX2 yX2_ownerOf yX2_ownerOf, Cond.code yX2_ownerOf cX2_ownerOf 2 (some .int), Cond.methodLink RX0 184 yX1_isSamePackage, Cond.methodLink RX0 187 yX0_isInherited, Cond.instanceMethod yX0_isInherited, Cond.selects RX0 yX0_isInherited yX0_isInherited, Cond.code yX0_isInherited cX0_isInherited 4 (some .boolean), Cond.methodLink RX0 193 yX1_hasAbove, Cond.instanceMethod yX1_hasAbove, Cond.selects RX1 yX1_hasAbove yX1_hasAbove, Cond.code yX1_hasAbove cX1_hasAbove 3 (some .boolean), Cond.fieldLink RX1 30 "LinkPredictor$Hierarchy" "aboves" "[I", Cond.methodLink RX0 181 yX1_liesUnder, Cond.instanceMethod yX1_liesUnder, Cond.selects RX1 yX1_liesUnder yX1_liesUnder, Cond.code yX1_liesUnder cX1_liesUnder 3 (some .boolean), Cond.methodLink RX0 190 yX1_nestOf, Cond.instanceMethod yX1_nestOf, Cond.selects RX1 yX1_nestOf yX1_nestOf, Cond.code yX1_nestOf cX1_nestOf 3 (some .int), Cond.fieldLink RX1 24 "LinkPredictor$Hierarchy" "hosts" "[I", Cond.methodLink RX1 47 yX1_isThere]
def wsX4_compare_r8 : List Cond := [Cond.instanceMethod yX1_isThere, Cond.selects RX1 yX1_isThere yX1_isThere, Cond.code yX1_isThere cX1_isThere 2 (some .boolean), Cond.fieldLink RX1 40 "LinkPredictor$Hierarchy" "there" "I", Cond.methodLink RX0 169 yX3_needsStatic, Cond.instanceMethod yX3_needsStatic, Cond.selects RX3 yX3_needsStatic yX3_needsStatic, Cond.code yX3_needsStatic cX3_needsStatic 1 (some .boolean), Cond.methodLink RX0 172 yX3_isPut, Cond.instanceMethod yX3_isPut, Cond.selects RX3 yX3_isPut yX3_isPut, Cond.code yX3_isPut cX3_isPut 1 (some .boolean), Cond.methodLink RX0 175 yX2_isFinal, Cond.instanceMethod yX2_isFinal, Cond.selects RX2 yX2_isFinal yX2_isFinal, Cond.code yX2_isFinal cX2_isFinal 2 (some .boolean), Cond.methodLink RX4 95 yX4_areAlike, Cond.instanceMethod yX4_areAlike, Cond.selects RX4 yX4_areAlike yX4_areAlike, Cond.code yX4_areAlike cX4_areAlike 5 (some .boolean), Cond.methodLink RX4 126 yX2_isSameThing, Cond.instanceMethod yX2_isSameThing, Cond.selects RX2 yX2_isSameThing yX2_isSameThing, Cond.code yX2_isSameThing cX2_isSameThing 4 (some .boolean)]
def wsX4_compare_r9 : List Cond := [Cond.methodLink RX4 98 yX4_isGood]
def wsX4_compare : List Cond := .code yX4_compare cX4_compare 4 (some .int) :: ((wsX4_compare_r1 ++ (wsX4_compare_r2 ++ (wsX4_compare_r3 ++ (wsX4_compare_r4 ++ (wsX4_compare_r5 ++ (wsX4_compare_r6 ++ (wsX4_compare_r7 ++ (wsX4_compare_r8 ++ wsX4_compare_r9)))))))) ++ wsX40 ++ wsX00 ++ wsX30 ++ wsX10 ++ wsX20)
def wsX4_isSuchReceiver : List Cond := .code yX4_isSuchReceiver cX4_isSuchReceiver 4 (some .boolean) :: ([.methodLink RX4 98 yX4_isGood, .static yX4_isGood, .initialized RX4, .code yX4_isGood cX4_isGood 1 (some .boolean), .methodLink RX4 34 yX4_isWithin, .static yX4_isWithin, .code yX4_isWithin cX4_isWithin 2 (some .boolean), .methodLink RX4 95 yX4_areAlike, .instanceMethod yX4_areAlike, .selects RX4 yX4_areAlike yX4_areAlike, .code yX4_areAlike cX4_areAlike 5 (some .boolean), .fieldLink RX4 12 "LinkPredictor" "builds" "[LLinkPredictor$Build;", .methodLink RX4 126 yX2_isSameThing, .instanceMethod yX2_isSameThing, .selects RX2 yX2_isSameThing yX2_isSameThing, .initialized RX2, .code yX2_isSameThing cX2_isSameThing 4 (some .boolean), .fieldLink RX2 9 "LinkPredictor$Members" "owners" "[I", .fieldLink RX2 15 "LinkPredictor$Members" "keys" "[I"] ++ wsX40 ++ wsX00 ++ wsX20)
def wsX4_receivers_r1 : List Cond := [Cond.fieldLink RX4 23 "LinkPredictor" "referenceCount" "I", Cond.fieldLink RX4 18 "LinkPredictor" "references" "[LLinkPredictor$Reference;", Cond.fieldLink RX4 12 "LinkPredictor" "builds" "[LLinkPredictor$Build;", Cond.methodLink RX4 34 yX4_isWithin, Cond.static yX4_isWithin, Cond.initialized RX4, Cond.code yX4_isWithin cX4_isWithin 2 (some .boolean), Cond.methodLink RX4 87 yX0_resolution, Cond.instanceMethod yX0_resolution, Cond.selects RX0 yX0_resolution yX0_resolution, Cond.initialized RX0, Cond.code yX0_resolution cX0_resolution 3 (some .int), Cond.fieldLink RX0 12 "LinkPredictor$Build" "types" "LLinkPredictor$Hierarchy;", Cond.methodLink RX0 57 yX1_loading, Cond.instanceMethod yX1_loading, Cond.selects RX1 yX1_loading yX1_loading, Cond.initialized RX1, Cond.code yX1_loading cX1_loading 2 (some .int), Cond.fieldLink RX1 27 "LinkPredictor$Hierarchy" "verdicts" "[I", Cond.static yX4_isGood, Cond.code yX4_isGood cX4_isGood 1 (some .boolean), Cond.methodLink RX0 67 yX1_reaching, Cond.instanceMethod yX1_reaching, Cond.selects RX1 yX1_reaching yX1_reaching]
def wsX4_receivers_r2 : List Cond := [Cond.code yX1_reaching cX1_reaching 4 (some .int), Cond.fieldLink RX1 9 "LinkPredictor$Hierarchy" "flags" "[I", Cond.methodLink RX1 64 yX1_isSamePackage, Cond.instanceMethod yX1_isSamePackage, Cond.selects RX1 yX1_isSamePackage yX1_isSamePackage, Cond.code yX1_isSamePackage cX1_isSamePackage 3 (some .boolean), Cond.fieldLink RX1 15 "LinkPredictor$Hierarchy" "packs" "[I", Cond.methodLink RX0 74 yX3_isOfField, Cond.instanceMethod yX3_isOfField, Cond.selects RX3 yX3_isOfField yX3_isOfField, Cond.initialized RX3, Cond.code yX3_isOfField cX3_isOfField 1 (some .boolean), Cond.fieldLink RX3 9 "LinkPredictor$Reference" "kind" "I", Cond.methodLink RX0 78 yX0_lookUpField, Cond.instanceMethod yX0_lookUpField, Cond.selects RX0 yX0_lookUpField yX0_lookUpField, Cond.code yX0_lookUpField cX0_lookUpField 3 (some .int), Cond.fieldLink RX0 109 "LinkPredictor$Build" "searched" "I", Cond.methodLink RX0 112 yX0_findField, Cond.instanceMethod yX0_findField, Cond.selects RX0 yX0_findField yX0_findField, Cond.code yX0_findField cX0_findField 5 (some .int), Cond.fieldLink RX0 21 "LinkPredictor$Build" "members" "LLinkPredictor$Members;", Cond.static yX4_contains]
def wsX4_receivers_r3 : List Cond := [Cond.code yX4_contains cX4_contains 2 (some .boolean), Cond.static yX4_bit, Cond.code yX4_bit cX4_bit 1 (some .int), Cond.methodLink RX0 36 yX2_find, Cond.instanceMethod yX2_find, Cond.selects RX2 yX2_find yX2_find, Cond.initialized RX2, Cond.code yX2_find cX2_find 6 (some .int), Cond.fieldLink RX2 24 "LinkPredictor$Members" "size" "I", Cond.fieldLink RX2 15 "LinkPredictor$Members" "keys" "[I", Cond.fieldLink RX2 9 "LinkPredictor$Members" "owners" "[I", Cond.fieldLink RX2 36 "LinkPredictor$Members" "gone" "I", Cond.methodLink RX2 28 yX2_keyOf, Cond.static yX2_keyOf, Cond.code yX2_keyOf cX2_keyOf 2 (some .int), Cond.methodLink RX0 121 yX1_directFacesOf, Cond.instanceMethod yX1_directFacesOf, Cond.selects RX1 yX1_directFacesOf yX1_directFacesOf, Cond.code yX1_directFacesOf cX1_directFacesOf 2 (some .int), Cond.fieldLink RX1 21 "LinkPredictor$Hierarchy" "directFaces" "[I", Cond.methodLink RX0 124 yX1_superOf, Cond.instanceMethod yX1_superOf, Cond.selects RX1 yX1_superOf yX1_superOf, Cond.code yX1_superOf cX1_superOf 2 (some .int)]
def wsX4_receivers_r4 : List Cond := [Cond.fieldLink RX1 18 "LinkPredictor$Hierarchy" "supers" "[I", Cond.methodLink RX0 82 yX0_lookUpMethod, Cond.instanceMethod yX0_lookUpMethod, Cond.selects RX0 yX0_lookUpMethod yX0_lookUpMethod, Cond.code yX0_lookUpMethod cX0_lookUpMethod 4 (some .int), Cond.methodLink RX0 127 yX1_isInterface, Cond.instanceMethod yX1_isInterface, Cond.selects RX1 yX1_isInterface yX1_isInterface, Cond.code yX1_isInterface cX1_isInterface 2 (some .boolean), Cond.methodLink RX0 130 yX0_findInInterface, Cond.instanceMethod yX0_findInInterface, Cond.selects RX0 yX0_findInInterface yX0_findInInterface, Cond.code yX0_findInInterface cX0_findInInterface 5 (some .int), Cond.methodLink RX0 96 yX2_accessOf, Cond.instanceMethod yX2_accessOf, Cond.selects RX2 yX2_accessOf yX2_accessOf, Cond.code yX2_accessOf cX2_accessOf 2 (some .int), Cond.fieldLink RX2 18 "LinkPredictor$Members" "accesses" "[I", Cond.methodLink RX0 139 yX2_isStatic, Cond.instanceMethod yX2_isStatic, Cond.selects RX2 yX2_isStatic yX2_isStatic, Cond.code yX2_isStatic cX2_isStatic 2 (some .boolean), Cond.fieldLink RX2 21 "LinkPredictor$Members" "flags" "[I", Cond.methodLink RX0 133 yX0_findInAbove]
def wsX4_receivers_r5 : List Cond := [Cond.instanceMethod yX0_findInAbove, Cond.selects RX0 yX0_findInAbove yX0_findInAbove, Cond.code yX0_findInAbove cX0_findInAbove 6 (some .int), Cond.methodLink RX0 136 yX0_findBest, Cond.instanceMethod yX0_findBest, Cond.selects RX0 yX0_findBest yX0_findBest, Cond.code yX0_findBest cX0_findBest 5 (some .int), Cond.methodLink RX0 142 yX1_facesOf, Cond.instanceMethod yX1_facesOf, Cond.selects RX1 yX1_facesOf yX1_facesOf, Cond.code yX1_facesOf cX1_facesOf 2 (some .int), Cond.fieldLink RX1 33 "LinkPredictor$Hierarchy" "allFaces" "[I", Cond.methodLink RX0 145 yX2_ownersOfInheritable, Cond.instanceMethod yX2_ownersOfInheritable, Cond.selects RX2 yX2_ownersOfInheritable yX2_ownersOfInheritable, Cond.code yX2_ownersOfInheritable cX2_ownersOfInheritable 5 (some .int), Cond.methodLink RX2 53 yX2_isInheritable, Cond.instanceMethod yX2_isInheritable, Cond.selects RX2 yX2_isInheritable yX2_isInheritable, Cond.code yX2_isInheritable cX2_isInheritable 2 (some .boolean), Cond.methodLink RX0 148 yX1_mostSpecificOf, Cond.instanceMethod yX1_mostSpecificOf, Cond.selects RX1 yX1_mostSpecificOf yX1_mostSpecificOf, Cond.code yX1_mostSpecificOf cX1_mostSpecificOf 4 (some .int)]
def wsX4_receivers_r6 : List Cond := [Cond.methodLink RX0 151 yX0_findOnlyWithBody, Cond.instanceMethod yX0_findOnlyWithBody, Cond.selects RX0 yX0_findOnlyWithBody yX0_findOnlyWithBody, Cond.code yX0_findOnlyWithBody cX0_findOnlyWithBody 6 (some .int), Cond.methodLink RX0 162 yX2_isAbstract, Cond.instanceMethod yX2_isAbstract, Cond.selects RX2 yX2_isAbstract yX2_isAbstract, Cond.code yX2_isAbstract cX2_isAbstract 2 (some .boolean), Cond.methodLink RX0 154 yX0_findLeast, Cond.instanceMethod yX0_findLeast, Cond.selects RX0 yX0_findLeast yX0_findLeast, Cond.code yX0_findLeast cX0_findLeast 6 (some .int), Cond.methodLink RX0 157 Lib.Math.min.name, Cond.static Lib.Math.min.name, Cond.initialized "java/lang/Math", Cond.code Lib.Math.min.name Lib.Math.min.code 2 (some .int), Cond.methodLink RX0 85 yX0_checkMember, Cond.instanceMethod yX0_checkMember, Cond.selects RX0 yX0_checkMember yX0_checkMember, Cond.code yX0_checkMember cX0_checkMember 3 (some .int), Cond.methodLink RX0 165 yX0_isAccessible, Cond.instanceMethod yX0_isAccessible, Cond.selects RX0 yX0_isAccessible yX0_isAccessible, Cond.code yX0_isAccessible cX0_isAccessible 5 (some .boolean)]
def wsX4_receivers_r7 : List Cond := [Cond.methodLink RX0 178 yX2_ownerOf, Cond.instanceMethod yX2_ownerOf, Cond.selects RX2 yX2_ownerOf yX2_ownerOf, Cond.code yX2_ownerOf cX2_ownerOf 2 (some .int), Cond.methodLink RX0 184 yX1_isSamePackage, Cond.methodLink RX0 187 yX0_isInherited, Cond.instanceMethod yX0_isInherited, Cond.selects RX0 yX0_isInherited yX0_isInherited, Cond.code yX0_isInherited cX0_isInherited 4 (some .boolean), Cond.methodLink RX0 193 yX1_hasAbove, Cond.instanceMethod yX1_hasAbove, Cond.selects RX1 yX1_hasAbove yX1_hasAbove, Cond.code yX1_hasAbove cX1_hasAbove 3 (some .boolean), Cond.fieldLink RX1 30 "LinkPredictor$Hierarchy" "aboves" "[I", Cond.methodLink RX0 181 yX1_liesUnder, Cond.instanceMethod yX1_liesUnder, Cond.selects RX1 yX1_liesUnder yX1_liesUnder, Cond.code yX1_liesUnder cX1_liesUnder 3 (some .boolean), Cond.methodLink RX0 190 yX1_nestOf, Cond.instanceMethod yX1_nestOf, Cond.selects RX1 yX1_nestOf yX1_nestOf, Cond.code yX1_nestOf cX1_nestOf 3 (some .int), Cond.fieldLink RX1 24 "LinkPredictor$Hierarchy" "hosts" "[I", Cond.methodLink RX1 47 yX1_isThere]
def wsX4_receivers_r8 : List Cond := [Cond.instanceMethod yX1_isThere, Cond.selects RX1 yX1_isThere yX1_isThere, Cond.code yX1_isThere cX1_isThere 2 (some .boolean), Cond.fieldLink RX1 40 "LinkPredictor$Hierarchy" "there" "I", Cond.methodLink RX0 169 yX3_needsStatic, Cond.instanceMethod yX3_needsStatic, Cond.selects RX3 yX3_needsStatic yX3_needsStatic, Cond.code yX3_needsStatic cX3_needsStatic 1 (some .boolean), Cond.methodLink RX0 172 yX3_isPut, Cond.instanceMethod yX3_isPut, Cond.selects RX3 yX3_isPut yX3_isPut, Cond.code yX3_isPut cX3_isPut 1 (some .boolean), Cond.methodLink RX0 175 yX2_isFinal, Cond.instanceMethod yX2_isFinal, Cond.selects RX2 yX2_isFinal yX2_isFinal, Cond.code yX2_isFinal cX2_isFinal 2 (some .boolean), Cond.methodLink RX4 91 yX0_selection, Cond.instanceMethod yX0_selection, Cond.selects RX0 yX0_selection yX0_selection, Cond.code yX0_selection cX0_selection 6 (some .int), Cond.methodLink RX0 89 yX3_hasReceiver, Cond.instanceMethod yX3_hasReceiver, Cond.selects RX3 yX3_hasReceiver yX3_hasReceiver, Cond.code yX3_hasReceiver cX3_hasReceiver 1 (some .boolean)]
def wsX4_receivers_r9 : List Cond := [Cond.methodLink RX0 92 yX0_isFit, Cond.instanceMethod yX0_isFit, Cond.selects RX0 yX0_isFit yX0_isFit, Cond.code yX0_isFit cX0_isFit 3 (some .boolean), Cond.methodLink RX0 196 yX1_canBeMade, Cond.instanceMethod yX1_canBeMade, Cond.selects RX1 yX1_canBeMade yX1_canBeMade, Cond.code yX1_canBeMade cX1_canBeMade 2 (some .boolean), Cond.methodLink RX0 102 yX0_selectFor, Cond.instanceMethod yX0_selectFor, Cond.selects RX0 yX0_selectFor yX0_selectFor, Cond.code yX0_selectFor cX0_selectFor 7 (some .int), Cond.methodLink RX0 199 yX0_overrides, Cond.instanceMethod yX0_overrides, Cond.selects RX0 yX0_overrides yX0_overrides, Cond.code yX0_overrides cX0_overrides 3 (some .boolean), Cond.methodLink RX0 205 yX2_isInheritable, Cond.methodLink RX0 202 yX0_selectFromFaces, Cond.instanceMethod yX0_selectFromFaces, Cond.selects RX0 yX0_selectFromFaces yX0_selectFromFaces, Cond.code yX0_selectFromFaces cX0_selectFromFaces 5 (some .int), Cond.methodLink RX0 106 yX0_checkSelected, Cond.instanceMethod yX0_checkSelected, Cond.selects RX0 yX0_checkSelected yX0_checkSelected]
def wsX4_receivers_r10 : List Cond := [Cond.code yX0_checkSelected cX0_checkSelected 4 (some .int), Cond.methodLink RX4 101 yX4_isSuchReceiver, Cond.instanceMethod yX4_isSuchReceiver, Cond.selects RX4 yX4_isSuchReceiver yX4_isSuchReceiver, Cond.code yX4_isSuchReceiver cX4_isSuchReceiver 4 (some .boolean), Cond.methodLink RX4 98 yX4_isGood, Cond.methodLink RX4 95 yX4_areAlike, Cond.instanceMethod yX4_areAlike, Cond.selects RX4 yX4_areAlike yX4_areAlike, Cond.code yX4_areAlike cX4_areAlike 5 (some .boolean), Cond.methodLink RX4 126 yX2_isSameThing, Cond.instanceMethod yX2_isSameThing, Cond.selects RX2 yX2_isSameThing yX2_isSameThing, Cond.code yX2_isSameThing cX2_isSameThing 4 (some .boolean)]
def wsX4_receivers : List Cond := .code yX4_receivers cX4_receivers 10 (some .int) :: ((wsX4_receivers_r1 ++ (wsX4_receivers_r2 ++ (wsX4_receivers_r3 ++ (wsX4_receivers_r4 ++ (wsX4_receivers_r5 ++ (wsX4_receivers_r6 ++ (wsX4_receivers_r7 ++ (wsX4_receivers_r8 ++ (wsX4_receivers_r9 ++ wsX4_receivers_r10))))))))) ++ wsX40 ++ wsX00 ++ wsX30 ++ wsX10 ++ wsX20)
def wsX4_isUnder : List Cond := .code yX4_isUnder cX4_isUnder 5 (some .boolean) :: ([.fieldLink RX4 12 "LinkPredictor" "builds" "[LLinkPredictor$Build;", .methodLink RX4 34 yX4_isWithin, .static yX4_isWithin, .initialized RX4, .code yX4_isWithin cX4_isWithin 2 (some .boolean), .methodLink RX4 83 yX1_loading, .instanceMethod yX1_loading, .selects RX1 yX1_loading yX1_loading, .initialized RX1, .code yX1_loading cX1_loading 2 (some .int), .fieldLink RX1 27 "LinkPredictor$Hierarchy" "verdicts" "[I", .methodLink RX4 98 yX4_isGood, .static yX4_isGood, .code yX4_isGood cX4_isGood 1 (some .boolean), .methodLink RX4 104 yX1_liesUnder, .instanceMethod yX1_liesUnder, .selects RX1 yX1_liesUnder yX1_liesUnder, .code yX1_liesUnder cX1_liesUnder 3 (some .boolean), .fieldLink RX1 30 "LinkPredictor$Hierarchy" "aboves" "[I", .fieldLink RX1 33 "LinkPredictor$Hierarchy" "allFaces" "[I", .static yX4_contains, .code yX4_contains cX4_contains 2 (some .boolean)] ++ wsX40 ++ wsX00 ++ wsX10)
def wsX4_countGoodReferences_r1 : List Cond := [Cond.fieldLink RX4 23 "LinkPredictor" "referenceCount" "I", Cond.fieldLink RX4 18 "LinkPredictor" "references" "[LLinkPredictor$Reference;", Cond.methodLink RX4 87 yX0_resolution, Cond.instanceMethod yX0_resolution, Cond.selects RX0 yX0_resolution yX0_resolution, Cond.initialized RX0, Cond.code yX0_resolution cX0_resolution 3 (some .int), Cond.fieldLink RX0 12 "LinkPredictor$Build" "types" "LLinkPredictor$Hierarchy;", Cond.methodLink RX0 57 yX1_loading, Cond.instanceMethod yX1_loading, Cond.selects RX1 yX1_loading yX1_loading, Cond.initialized RX1, Cond.code yX1_loading cX1_loading 2 (some .int), Cond.fieldLink RX1 27 "LinkPredictor$Hierarchy" "verdicts" "[I", Cond.static yX4_isGood, Cond.initialized RX4, Cond.code yX4_isGood cX4_isGood 1 (some .boolean), Cond.methodLink RX4 34 yX4_isWithin, Cond.static yX4_isWithin, Cond.code yX4_isWithin cX4_isWithin 2 (some .boolean), Cond.methodLink RX0 67 yX1_reaching, Cond.instanceMethod yX1_reaching, Cond.selects RX1 yX1_reaching yX1_reaching, Cond.code yX1_reaching cX1_reaching 4 (some .int)]
def wsX4_countGoodReferences_r2 : List Cond := [Cond.fieldLink RX1 9 "LinkPredictor$Hierarchy" "flags" "[I", Cond.methodLink RX1 64 yX1_isSamePackage, Cond.instanceMethod yX1_isSamePackage, Cond.selects RX1 yX1_isSamePackage yX1_isSamePackage, Cond.code yX1_isSamePackage cX1_isSamePackage 3 (some .boolean), Cond.fieldLink RX1 15 "LinkPredictor$Hierarchy" "packs" "[I", Cond.methodLink RX0 74 yX3_isOfField, Cond.instanceMethod yX3_isOfField, Cond.selects RX3 yX3_isOfField yX3_isOfField, Cond.initialized RX3, Cond.code yX3_isOfField cX3_isOfField 1 (some .boolean), Cond.fieldLink RX3 9 "LinkPredictor$Reference" "kind" "I", Cond.methodLink RX0 78 yX0_lookUpField, Cond.instanceMethod yX0_lookUpField, Cond.selects RX0 yX0_lookUpField yX0_lookUpField, Cond.code yX0_lookUpField cX0_lookUpField 3 (some .int), Cond.fieldLink RX0 109 "LinkPredictor$Build" "searched" "I", Cond.methodLink RX0 112 yX0_findField, Cond.instanceMethod yX0_findField, Cond.selects RX0 yX0_findField yX0_findField, Cond.code yX0_findField cX0_findField 5 (some .int), Cond.fieldLink RX0 21 "LinkPredictor$Build" "members" "LLinkPredictor$Members;", Cond.static yX4_contains, Cond.code yX4_contains cX4_contains 2 (some .boolean)]
def wsX4_countGoodReferences_r3 : List Cond := [Cond.static yX4_bit, Cond.code yX4_bit cX4_bit 1 (some .int), Cond.methodLink RX0 36 yX2_find, Cond.instanceMethod yX2_find, Cond.selects RX2 yX2_find yX2_find, Cond.initialized RX2, Cond.code yX2_find cX2_find 6 (some .int), Cond.fieldLink RX2 24 "LinkPredictor$Members" "size" "I", Cond.fieldLink RX2 15 "LinkPredictor$Members" "keys" "[I", Cond.fieldLink RX2 9 "LinkPredictor$Members" "owners" "[I", Cond.fieldLink RX2 36 "LinkPredictor$Members" "gone" "I", Cond.methodLink RX2 28 yX2_keyOf, Cond.static yX2_keyOf, Cond.code yX2_keyOf cX2_keyOf 2 (some .int), Cond.methodLink RX0 121 yX1_directFacesOf, Cond.instanceMethod yX1_directFacesOf, Cond.selects RX1 yX1_directFacesOf yX1_directFacesOf, Cond.code yX1_directFacesOf cX1_directFacesOf 2 (some .int), Cond.fieldLink RX1 21 "LinkPredictor$Hierarchy" "directFaces" "[I", Cond.methodLink RX0 124 yX1_superOf, Cond.instanceMethod yX1_superOf, Cond.selects RX1 yX1_superOf yX1_superOf, Cond.code yX1_superOf cX1_superOf 2 (some .int), Cond.fieldLink RX1 18 "LinkPredictor$Hierarchy" "supers" "[I"]
def wsX4_countGoodReferences_r4 : List Cond := [Cond.methodLink RX0 82 yX0_lookUpMethod, Cond.instanceMethod yX0_lookUpMethod, Cond.selects RX0 yX0_lookUpMethod yX0_lookUpMethod, Cond.code yX0_lookUpMethod cX0_lookUpMethod 4 (some .int), Cond.methodLink RX0 127 yX1_isInterface, Cond.instanceMethod yX1_isInterface, Cond.selects RX1 yX1_isInterface yX1_isInterface, Cond.code yX1_isInterface cX1_isInterface 2 (some .boolean), Cond.methodLink RX0 130 yX0_findInInterface, Cond.instanceMethod yX0_findInInterface, Cond.selects RX0 yX0_findInInterface yX0_findInInterface, Cond.code yX0_findInInterface cX0_findInInterface 5 (some .int), Cond.methodLink RX0 96 yX2_accessOf, Cond.instanceMethod yX2_accessOf, Cond.selects RX2 yX2_accessOf yX2_accessOf, Cond.code yX2_accessOf cX2_accessOf 2 (some .int), Cond.fieldLink RX2 18 "LinkPredictor$Members" "accesses" "[I", Cond.methodLink RX0 139 yX2_isStatic, Cond.instanceMethod yX2_isStatic, Cond.selects RX2 yX2_isStatic yX2_isStatic, Cond.code yX2_isStatic cX2_isStatic 2 (some .boolean), Cond.fieldLink RX2 21 "LinkPredictor$Members" "flags" "[I", Cond.methodLink RX0 133 yX0_findInAbove, Cond.instanceMethod yX0_findInAbove]
def wsX4_countGoodReferences_r5 : List Cond := [Cond.selects RX0 yX0_findInAbove yX0_findInAbove, Cond.code yX0_findInAbove cX0_findInAbove 6 (some .int), Cond.methodLink RX0 136 yX0_findBest, Cond.instanceMethod yX0_findBest, Cond.selects RX0 yX0_findBest yX0_findBest, Cond.code yX0_findBest cX0_findBest 5 (some .int), Cond.methodLink RX0 142 yX1_facesOf, Cond.instanceMethod yX1_facesOf, Cond.selects RX1 yX1_facesOf yX1_facesOf, Cond.code yX1_facesOf cX1_facesOf 2 (some .int), Cond.fieldLink RX1 33 "LinkPredictor$Hierarchy" "allFaces" "[I", Cond.methodLink RX0 145 yX2_ownersOfInheritable, Cond.instanceMethod yX2_ownersOfInheritable, Cond.selects RX2 yX2_ownersOfInheritable yX2_ownersOfInheritable, Cond.code yX2_ownersOfInheritable cX2_ownersOfInheritable 5 (some .int), Cond.methodLink RX2 53 yX2_isInheritable, Cond.instanceMethod yX2_isInheritable, Cond.selects RX2 yX2_isInheritable yX2_isInheritable, Cond.code yX2_isInheritable cX2_isInheritable 2 (some .boolean), Cond.methodLink RX0 148 yX1_mostSpecificOf, Cond.instanceMethod yX1_mostSpecificOf, Cond.selects RX1 yX1_mostSpecificOf yX1_mostSpecificOf, Cond.code yX1_mostSpecificOf cX1_mostSpecificOf 4 (some .int), Cond.methodLink RX0 151 yX0_findOnlyWithBody]
def wsX4_countGoodReferences_r6 : List Cond := [Cond.instanceMethod yX0_findOnlyWithBody, Cond.selects RX0 yX0_findOnlyWithBody yX0_findOnlyWithBody, Cond.code yX0_findOnlyWithBody cX0_findOnlyWithBody 6 (some .int), Cond.methodLink RX0 162 yX2_isAbstract, Cond.instanceMethod yX2_isAbstract, Cond.selects RX2 yX2_isAbstract yX2_isAbstract, Cond.code yX2_isAbstract cX2_isAbstract 2 (some .boolean), Cond.methodLink RX0 154 yX0_findLeast, Cond.instanceMethod yX0_findLeast, Cond.selects RX0 yX0_findLeast yX0_findLeast, Cond.code yX0_findLeast cX0_findLeast 6 (some .int), Cond.methodLink RX0 157 Lib.Math.min.name, Cond.static Lib.Math.min.name, Cond.initialized "java/lang/Math", Cond.code Lib.Math.min.name Lib.Math.min.code 2 (some .int), Cond.methodLink RX0 85 yX0_checkMember, Cond.instanceMethod yX0_checkMember, Cond.selects RX0 yX0_checkMember yX0_checkMember, Cond.code yX0_checkMember cX0_checkMember 3 (some .int), Cond.methodLink RX0 165 yX0_isAccessible, Cond.instanceMethod yX0_isAccessible, Cond.selects RX0 yX0_isAccessible yX0_isAccessible, Cond.code yX0_isAccessible cX0_isAccessible 5 (some .boolean), Cond.methodLink RX0 178 yX2_ownerOf]
def wsX4_countGoodReferences_r7 : List Cond := [Cond.instanceMethod yX2_ownerOf, Cond.selects RX2 yX2_ownerOf yX2_ownerOf, Cond.code yX2_ownerOf cX2_ownerOf 2 (some .int), Cond.methodLink RX0 184 yX1_isSamePackage, Cond.methodLink RX0 187 yX0_isInherited, Cond.instanceMethod yX0_isInherited, Cond.selects RX0 yX0_isInherited yX0_isInherited, Cond.code yX0_isInherited cX0_isInherited 4 (some .boolean), Cond.methodLink RX0 193 yX1_hasAbove, Cond.instanceMethod yX1_hasAbove, Cond.selects RX1 yX1_hasAbove yX1_hasAbove, Cond.code yX1_hasAbove cX1_hasAbove 3 (some .boolean), Cond.fieldLink RX1 30 "LinkPredictor$Hierarchy" "aboves" "[I", Cond.methodLink RX0 181 yX1_liesUnder, Cond.instanceMethod yX1_liesUnder, Cond.selects RX1 yX1_liesUnder yX1_liesUnder, Cond.code yX1_liesUnder cX1_liesUnder 3 (some .boolean), Cond.methodLink RX0 190 yX1_nestOf, Cond.instanceMethod yX1_nestOf, Cond.selects RX1 yX1_nestOf yX1_nestOf, Cond.code yX1_nestOf cX1_nestOf 3 (some .int), Cond.fieldLink RX1 24 "LinkPredictor$Hierarchy" "hosts" "[I", Cond.methodLink RX1 47 yX1_isThere, Cond.instanceMethod yX1_isThere]
def wsX4_countGoodReferences_r8 : List Cond := [Cond.selects RX1 yX1_isThere yX1_isThere, Cond.code yX1_isThere cX1_isThere 2 (some .boolean), Cond.fieldLink RX1 40 "LinkPredictor$Hierarchy" "there" "I", Cond.methodLink RX0 169 yX3_needsStatic, Cond.instanceMethod yX3_needsStatic, Cond.selects RX3 yX3_needsStatic yX3_needsStatic, Cond.code yX3_needsStatic cX3_needsStatic 1 (some .boolean), Cond.methodLink RX0 172 yX3_isPut, Cond.instanceMethod yX3_isPut, Cond.selects RX3 yX3_isPut yX3_isPut, Cond.code yX3_isPut cX3_isPut 1 (some .boolean), Cond.methodLink RX0 175 yX2_isFinal, Cond.instanceMethod yX2_isFinal, Cond.selects RX2 yX2_isFinal yX2_isFinal, Cond.code yX2_isFinal cX2_isFinal 2 (some .boolean), Cond.methodLink RX4 98 yX4_isGood]
def wsX4_countGoodReferences : List Cond := .code yX4_countGoodReferences cX4_countGoodReferences 4 (some .int) :: ((wsX4_countGoodReferences_r1 ++ (wsX4_countGoodReferences_r2 ++ (wsX4_countGoodReferences_r3 ++ (wsX4_countGoodReferences_r4 ++ (wsX4_countGoodReferences_r5 ++ (wsX4_countGoodReferences_r6 ++ (wsX4_countGoodReferences_r7 ++ wsX4_countGoodReferences_r8))))))) ++ wsX40 ++ wsX00 ++ wsX30 ++ wsX10 ++ wsX20)
def wsX4_count_r1 : List Cond := [Cond.fieldLink RX4 12 "LinkPredictor" "builds" "[LLinkPredictor$Build;", Cond.methodLink RX4 34 yX4_isWithin, Cond.static yX4_isWithin, Cond.initialized RX4, Cond.code yX4_isWithin cX4_isWithin 2 (some .boolean), Cond.methodLink RX4 75 yX1_countThere, Cond.instanceMethod yX1_countThere, Cond.selects RX1 yX1_countThere yX1_countThere, Cond.initialized RX1, Cond.code yX1_countThere cX1_countThere 1 (some .int), Cond.fieldLink RX1 40 "LinkPredictor$Hierarchy" "there" "I", Cond.methodLink RX1 67 yJ6_bitCount_0f7a4, Cond.static yJ6_bitCount_0f7a4, Cond.initialized RJ6, Cond.code yJ6_bitCount_0f7a4 cJ6_bitCount_0f7a4 1 (some .int), Cond.constant RJ6 265 (1431655765), Cond.constant RJ6 266 (858993459), Cond.constant RJ6 267 (252645135), Cond.methodLink RX4 107 yX2_countPresent, Cond.instanceMethod yX2_countPresent, Cond.selects RX2 yX2_countPresent yX2_countPresent, Cond.initialized RX2, Cond.code yX2_countPresent cX2_countPresent 1 (some .int), Cond.fieldLink RX2 24 "LinkPredictor$Members" "size" "I"]
def wsX4_count_r2 : List Cond := [Cond.fieldLink RX2 36 "LinkPredictor$Members" "gone" "I", Cond.methodLink RX2 56 yJ6_bitCount_0f7a4, Cond.methodLink RX4 110 yX2_countAll, Cond.instanceMethod yX2_countAll, Cond.selects RX2 yX2_countAll yX2_countAll, Cond.code yX2_countAll cX2_countAll 1 (some .int), Cond.methodLink RX4 113 yX4_countGoodReferences, Cond.instanceMethod yX4_countGoodReferences, Cond.selects RX4 yX4_countGoodReferences yX4_countGoodReferences, Cond.code yX4_countGoodReferences cX4_countGoodReferences 4 (some .int), Cond.fieldLink RX4 23 "LinkPredictor" "referenceCount" "I", Cond.fieldLink RX4 18 "LinkPredictor" "references" "[LLinkPredictor$Reference;", Cond.methodLink RX4 87 yX0_resolution, Cond.instanceMethod yX0_resolution, Cond.selects RX0 yX0_resolution yX0_resolution, Cond.initialized RX0, Cond.code yX0_resolution cX0_resolution 3 (some .int), Cond.fieldLink RX0 12 "LinkPredictor$Build" "types" "LLinkPredictor$Hierarchy;", Cond.methodLink RX0 57 yX1_loading, Cond.instanceMethod yX1_loading, Cond.selects RX1 yX1_loading yX1_loading, Cond.code yX1_loading cX1_loading 2 (some .int), Cond.fieldLink RX1 27 "LinkPredictor$Hierarchy" "verdicts" "[I", Cond.static yX4_isGood]
def wsX4_count_r3 : List Cond := [Cond.code yX4_isGood cX4_isGood 1 (some .boolean), Cond.methodLink RX0 67 yX1_reaching, Cond.instanceMethod yX1_reaching, Cond.selects RX1 yX1_reaching yX1_reaching, Cond.code yX1_reaching cX1_reaching 4 (some .int), Cond.fieldLink RX1 9 "LinkPredictor$Hierarchy" "flags" "[I", Cond.methodLink RX1 64 yX1_isSamePackage, Cond.instanceMethod yX1_isSamePackage, Cond.selects RX1 yX1_isSamePackage yX1_isSamePackage, Cond.code yX1_isSamePackage cX1_isSamePackage 3 (some .boolean), Cond.fieldLink RX1 15 "LinkPredictor$Hierarchy" "packs" "[I", Cond.methodLink RX0 74 yX3_isOfField, Cond.instanceMethod yX3_isOfField, Cond.selects RX3 yX3_isOfField yX3_isOfField, Cond.initialized RX3, Cond.code yX3_isOfField cX3_isOfField 1 (some .boolean), Cond.fieldLink RX3 9 "LinkPredictor$Reference" "kind" "I", Cond.methodLink RX0 78 yX0_lookUpField, Cond.instanceMethod yX0_lookUpField, Cond.selects RX0 yX0_lookUpField yX0_lookUpField, Cond.code yX0_lookUpField cX0_lookUpField 3 (some .int), Cond.fieldLink RX0 109 "LinkPredictor$Build" "searched" "I", Cond.methodLink RX0 112 yX0_findField, Cond.instanceMethod yX0_findField]
def wsX4_count_r4 : List Cond := [Cond.selects RX0 yX0_findField yX0_findField, Cond.code yX0_findField cX0_findField 5 (some .int), Cond.fieldLink RX0 21 "LinkPredictor$Build" "members" "LLinkPredictor$Members;", Cond.static yX4_contains, Cond.code yX4_contains cX4_contains 2 (some .boolean), Cond.static yX4_bit, Cond.code yX4_bit cX4_bit 1 (some .int), Cond.methodLink RX0 36 yX2_find, Cond.instanceMethod yX2_find, Cond.selects RX2 yX2_find yX2_find, Cond.code yX2_find cX2_find 6 (some .int), Cond.fieldLink RX2 15 "LinkPredictor$Members" "keys" "[I", Cond.fieldLink RX2 9 "LinkPredictor$Members" "owners" "[I", Cond.methodLink RX2 28 yX2_keyOf, Cond.static yX2_keyOf, Cond.code yX2_keyOf cX2_keyOf 2 (some .int), Cond.methodLink RX0 121 yX1_directFacesOf, Cond.instanceMethod yX1_directFacesOf, Cond.selects RX1 yX1_directFacesOf yX1_directFacesOf, Cond.code yX1_directFacesOf cX1_directFacesOf 2 (some .int), Cond.fieldLink RX1 21 "LinkPredictor$Hierarchy" "directFaces" "[I", Cond.methodLink RX0 124 yX1_superOf, Cond.instanceMethod yX1_superOf, Cond.selects RX1 yX1_superOf yX1_superOf]
def wsX4_count_r5 : List Cond := [Cond.code yX1_superOf cX1_superOf 2 (some .int), Cond.fieldLink RX1 18 "LinkPredictor$Hierarchy" "supers" "[I", Cond.methodLink RX0 82 yX0_lookUpMethod, Cond.instanceMethod yX0_lookUpMethod, Cond.selects RX0 yX0_lookUpMethod yX0_lookUpMethod, Cond.code yX0_lookUpMethod cX0_lookUpMethod 4 (some .int), Cond.methodLink RX0 127 yX1_isInterface, Cond.instanceMethod yX1_isInterface, Cond.selects RX1 yX1_isInterface yX1_isInterface, Cond.code yX1_isInterface cX1_isInterface 2 (some .boolean), Cond.methodLink RX0 130 yX0_findInInterface, Cond.instanceMethod yX0_findInInterface, Cond.selects RX0 yX0_findInInterface yX0_findInInterface, Cond.code yX0_findInInterface cX0_findInInterface 5 (some .int), Cond.methodLink RX0 96 yX2_accessOf, Cond.instanceMethod yX2_accessOf, Cond.selects RX2 yX2_accessOf yX2_accessOf, Cond.code yX2_accessOf cX2_accessOf 2 (some .int), Cond.fieldLink RX2 18 "LinkPredictor$Members" "accesses" "[I", Cond.methodLink RX0 139 yX2_isStatic, Cond.instanceMethod yX2_isStatic, Cond.selects RX2 yX2_isStatic yX2_isStatic, Cond.code yX2_isStatic cX2_isStatic 2 (some .boolean), Cond.fieldLink RX2 21 "LinkPredictor$Members" "flags" "[I"]
def wsX4_count_r6 : List Cond := [Cond.methodLink RX0 133 yX0_findInAbove, Cond.instanceMethod yX0_findInAbove, Cond.selects RX0 yX0_findInAbove yX0_findInAbove, Cond.code yX0_findInAbove cX0_findInAbove 6 (some .int), Cond.methodLink RX0 136 yX0_findBest, Cond.instanceMethod yX0_findBest, Cond.selects RX0 yX0_findBest yX0_findBest, Cond.code yX0_findBest cX0_findBest 5 (some .int), Cond.methodLink RX0 142 yX1_facesOf, Cond.instanceMethod yX1_facesOf, Cond.selects RX1 yX1_facesOf yX1_facesOf, Cond.code yX1_facesOf cX1_facesOf 2 (some .int), Cond.fieldLink RX1 33 "LinkPredictor$Hierarchy" "allFaces" "[I", Cond.methodLink RX0 145 yX2_ownersOfInheritable, Cond.instanceMethod yX2_ownersOfInheritable, Cond.selects RX2 yX2_ownersOfInheritable yX2_ownersOfInheritable, Cond.code yX2_ownersOfInheritable cX2_ownersOfInheritable 5 (some .int), Cond.methodLink RX2 53 yX2_isInheritable, Cond.instanceMethod yX2_isInheritable, Cond.selects RX2 yX2_isInheritable yX2_isInheritable, Cond.code yX2_isInheritable cX2_isInheritable 2 (some .boolean), Cond.methodLink RX0 148 yX1_mostSpecificOf, Cond.instanceMethod yX1_mostSpecificOf, Cond.selects RX1 yX1_mostSpecificOf yX1_mostSpecificOf]
def wsX4_count_r7 : List Cond := [Cond.code yX1_mostSpecificOf cX1_mostSpecificOf 4 (some .int), Cond.methodLink RX0 151 yX0_findOnlyWithBody, Cond.instanceMethod yX0_findOnlyWithBody, Cond.selects RX0 yX0_findOnlyWithBody yX0_findOnlyWithBody, Cond.code yX0_findOnlyWithBody cX0_findOnlyWithBody 6 (some .int), Cond.methodLink RX0 162 yX2_isAbstract, Cond.instanceMethod yX2_isAbstract, Cond.selects RX2 yX2_isAbstract yX2_isAbstract, Cond.code yX2_isAbstract cX2_isAbstract 2 (some .boolean), Cond.methodLink RX0 154 yX0_findLeast, Cond.instanceMethod yX0_findLeast, Cond.selects RX0 yX0_findLeast yX0_findLeast, Cond.code yX0_findLeast cX0_findLeast 6 (some .int), Cond.methodLink RX0 157 Lib.Math.min.name, Cond.static Lib.Math.min.name, Cond.initialized "java/lang/Math", Cond.code Lib.Math.min.name Lib.Math.min.code 2 (some .int), Cond.methodLink RX0 85 yX0_checkMember, Cond.instanceMethod yX0_checkMember, Cond.selects RX0 yX0_checkMember yX0_checkMember, Cond.code yX0_checkMember cX0_checkMember 3 (some .int), Cond.methodLink RX0 165 yX0_isAccessible, Cond.instanceMethod yX0_isAccessible, Cond.selects RX0 yX0_isAccessible yX0_isAccessible]
def wsX4_count_r8 : List Cond := [Cond.code yX0_isAccessible cX0_isAccessible 5 (some .boolean), Cond.methodLink RX0 178 yX2_ownerOf, Cond.instanceMethod yX2_ownerOf, Cond.selects RX2 yX2_ownerOf yX2_ownerOf, Cond.code yX2_ownerOf cX2_ownerOf 2 (some .int), Cond.methodLink RX0 184 yX1_isSamePackage, Cond.methodLink RX0 187 yX0_isInherited, Cond.instanceMethod yX0_isInherited, Cond.selects RX0 yX0_isInherited yX0_isInherited, Cond.code yX0_isInherited cX0_isInherited 4 (some .boolean), Cond.methodLink RX0 193 yX1_hasAbove, Cond.instanceMethod yX1_hasAbove, Cond.selects RX1 yX1_hasAbove yX1_hasAbove, Cond.code yX1_hasAbove cX1_hasAbove 3 (some .boolean), Cond.fieldLink RX1 30 "LinkPredictor$Hierarchy" "aboves" "[I", Cond.methodLink RX0 181 yX1_liesUnder, Cond.instanceMethod yX1_liesUnder, Cond.selects RX1 yX1_liesUnder yX1_liesUnder, Cond.code yX1_liesUnder cX1_liesUnder 3 (some .boolean), Cond.methodLink RX0 190 yX1_nestOf, Cond.instanceMethod yX1_nestOf, Cond.selects RX1 yX1_nestOf yX1_nestOf, Cond.code yX1_nestOf cX1_nestOf 3 (some .int), Cond.fieldLink RX1 24 "LinkPredictor$Hierarchy" "hosts" "[I"]
def wsX4_count_r9 : List Cond := [Cond.methodLink RX1 47 yX1_isThere, Cond.instanceMethod yX1_isThere, Cond.selects RX1 yX1_isThere yX1_isThere, Cond.code yX1_isThere cX1_isThere 2 (some .boolean), Cond.methodLink RX0 169 yX3_needsStatic, Cond.instanceMethod yX3_needsStatic, Cond.selects RX3 yX3_needsStatic yX3_needsStatic, Cond.code yX3_needsStatic cX3_needsStatic 1 (some .boolean), Cond.methodLink RX0 172 yX3_isPut, Cond.instanceMethod yX3_isPut, Cond.selects RX3 yX3_isPut yX3_isPut, Cond.code yX3_isPut cX3_isPut 1 (some .boolean), Cond.methodLink RX0 175 yX2_isFinal, Cond.instanceMethod yX2_isFinal, Cond.selects RX2 yX2_isFinal yX2_isFinal, Cond.code yX2_isFinal cX2_isFinal 2 (some .boolean), Cond.methodLink RX4 98 yX4_isGood, Cond.methodLink RX4 117 yX1_countLoaded, Cond.instanceMethod yX1_countLoaded, Cond.selects RX1 yX1_countLoaded yX1_countLoaded, Cond.code yX1_countLoaded cX1_countLoaded 1 (some .int), Cond.fieldLink RX1 72 "LinkPredictor$Hierarchy" "settled" "I", Cond.methodLink RX4 120 yX2_countAbstractMethods, Cond.instanceMethod yX2_countAbstractMethods]
def wsX4_count_r10 : List Cond := [Cond.selects RX2 yX2_countAbstractMethods yX2_countAbstractMethods, Cond.code yX2_countAbstractMethods cX2_countAbstractMethods 3 (some .int), Cond.methodLink RX2 61 yX2_isAbstract, Cond.methodLink RX4 123 yX1_nestSharers, Cond.instanceMethod yX1_nestSharers, Cond.selects RX1 yX1_nestSharers yX1_nestSharers, Cond.code yX1_nestSharers cX1_nestSharers 4 (some .int), Cond.methodLink RX1 75 yX1_nestOf]
def wsX4_count : List Cond := .code yX4_count cX4_count 4 (some .int) :: ((wsX4_count_r1 ++ (wsX4_count_r2 ++ (wsX4_count_r3 ++ (wsX4_count_r4 ++ (wsX4_count_r5 ++ (wsX4_count_r6 ++ (wsX4_count_r7 ++ (wsX4_count_r8 ++ (wsX4_count_r9 ++ wsX4_count_r10))))))))) ++ wsX40 ++ wsX00 ++ wsX10 ++ wsX20 ++ wsX30)
def wsX5_init : List Cond := .code yX5_init cX5_init 3 none :: ([.methodLink RX5 1 objectInit, .instanceMethod objectInit, .code objectInit ⟨#[0xb1]⟩ 1 none, .arrayClass .boolean, .fieldLink RX5 7 "LinkPredictorModel" "there" "[Z", .arrayClass .int, .fieldLink RX5 13 "LinkPredictorModel" "flags" "[I", .fieldLink RX5 17 "LinkPredictorModel" "pack" "[I", .fieldLink RX5 20 "LinkPredictorModel" "above" "[I", .fieldLink RX5 23 "LinkPredictorModel" "faces" "[I", .fieldLink RX5 26 "LinkPredictorModel" "host" "[I", .fieldLink RX5 29 "LinkPredictorModel" "method" "[Z", .fieldLink RX5 32 "LinkPredictorModel" "gone" "[Z", .fieldLink RX5 35 "LinkPredictorModel" "many" "[I", .fieldLink RX5 38 "LinkPredictorModel" "owner" "[I", .fieldLink RX5 41 "LinkPredictorModel" "sign" "[I", .fieldLink RX5 44 "LinkPredictorModel" "access" "[I", .fieldLink RX5 47 "LinkPredictorModel" "marks" "[I", .fieldLink RX5 50 "LinkPredictorModel" "kind" "[I", .fieldLink RX5 53 "LinkPredictorModel" "holder" "[I", .fieldLink RX5 56 "LinkPredictorModel" "way" "[I", .fieldLink RX5 59 "LinkPredictorModel" "asked" "[I", .fieldLink RX5 62 "LinkPredictorModel" "row" "[I", .fieldLink RX5 65 "LinkPredictorModel" "stage" "[I"] ++ wsX50)
def wsX5_in : List Cond := .code yX5_in cX5_in 2 (some .boolean) :: ([])
def wsX5_has : List Cond := .code yX5_has cX5_has 2 (some .boolean) :: ([])
def wsX5_at : List Cond := .code yX5_at cX5_at 2 (some .int) :: ([.fieldLink RX5 68 "LinkPredictorModel" "written" "I"] ++ wsX50)
def wsX5_isThere : List Cond := .code yX5_isThere cX5_isThere 2 (some .boolean) :: ([.fieldLink RX5 7 "LinkPredictorModel" "there" "[Z", .methodLink RX5 72 yX5_in, .static yX5_in, .initialized RX5, .code yX5_in cX5_in 2 (some .boolean), .methodLink RX5 76 yX5_at, .instanceMethod yX5_at, .selects RX5 yX5_at yX5_at, .code yX5_at cX5_at 2 (some .int), .fieldLink RX5 68 "LinkPredictorModel" "written" "I"] ++ wsX50)
def wsX5_type : List Cond := .code yX5_type cX5_type 7 (some .boolean) :: ([.fieldLink RX5 7 "LinkPredictorModel" "there" "[Z", .fieldLink RX5 13 "LinkPredictorModel" "flags" "[I", .fieldLink RX5 17 "LinkPredictorModel" "pack" "[I", .fieldLink RX5 20 "LinkPredictorModel" "above" "[I", .fieldLink RX5 23 "LinkPredictorModel" "faces" "[I", .fieldLink RX5 26 "LinkPredictorModel" "host" "[I", .methodLink RX5 72 yX5_in, .static yX5_in, .initialized RX5, .code yX5_in cX5_in 2 (some .boolean), .methodLink RX5 76 yX5_at, .instanceMethod yX5_at, .selects RX5 yX5_at yX5_at, .code yX5_at cX5_at 2 (some .int), .fieldLink RX5 68 "LinkPredictorModel" "written" "I"] ++ wsX50)
def wsX5_nest : List Cond := .code yX5_nest cX5_nest 3 (some .boolean) :: ([.fieldLink RX5 26 "LinkPredictorModel" "host" "[I", .methodLink RX5 80 yX5_isThere, .instanceMethod yX5_isThere, .selects RX5 yX5_isThere yX5_isThere, .initialized RX5, .code yX5_isThere cX5_isThere 2 (some .boolean), .fieldLink RX5 7 "LinkPredictorModel" "there" "[Z", .methodLink RX5 72 yX5_in, .static yX5_in, .code yX5_in cX5_in 2 (some .boolean), .methodLink RX5 76 yX5_at, .instanceMethod yX5_at, .selects RX5 yX5_at yX5_at, .code yX5_at cX5_at 2 (some .int), .fieldLink RX5 68 "LinkPredictorModel" "written" "I"] ++ wsX50)
def wsX5_drop : List Cond := .code yX5_drop cX5_drop 3 (some .boolean) :: ([.fieldLink RX5 7 "LinkPredictorModel" "there" "[Z", .fieldLink RX5 68 "LinkPredictorModel" "written" "I", .fieldLink RX5 35 "LinkPredictorModel" "many" "[I", .fieldLink RX5 38 "LinkPredictorModel" "owner" "[I", .fieldLink RX5 32 "LinkPredictorModel" "gone" "[Z", .methodLink RX5 80 yX5_isThere, .instanceMethod yX5_isThere, .selects RX5 yX5_isThere yX5_isThere, .initialized RX5, .code yX5_isThere cX5_isThere 2 (some .boolean), .methodLink RX5 72 yX5_in, .static yX5_in, .code yX5_in cX5_in 2 (some .boolean), .methodLink RX5 76 yX5_at, .instanceMethod yX5_at, .selects RX5 yX5_at yX5_at, .code yX5_at cX5_at 2 (some .int)] ++ wsX50)
def wsX5_own : List Cond := .code yX5_own cX5_own 7 (some .int) :: ([.fieldLink RX5 35 "LinkPredictorModel" "many" "[I", .fieldLink RX5 32 "LinkPredictorModel" "gone" "[Z", .fieldLink RX5 38 "LinkPredictorModel" "owner" "[I", .fieldLink RX5 29 "LinkPredictorModel" "method" "[Z", .fieldLink RX5 41 "LinkPredictorModel" "sign" "[I"] ++ wsX50)
def wsX5_member_r1 : List Cond := [Cond.fieldLink RX5 68 "LinkPredictorModel" "written" "I", Cond.fieldLink RX5 35 "LinkPredictorModel" "many" "[I", Cond.fieldLink RX5 32 "LinkPredictorModel" "gone" "[Z", Cond.fieldLink RX5 38 "LinkPredictorModel" "owner" "[I", Cond.fieldLink RX5 29 "LinkPredictorModel" "method" "[Z", Cond.fieldLink RX5 41 "LinkPredictorModel" "sign" "[I", Cond.fieldLink RX5 44 "LinkPredictorModel" "access" "[I", Cond.fieldLink RX5 47 "LinkPredictorModel" "marks" "[I", Cond.methodLink RX5 80 yX5_isThere, Cond.instanceMethod yX5_isThere, Cond.selects RX5 yX5_isThere yX5_isThere, Cond.initialized RX5, Cond.code yX5_isThere cX5_isThere 2 (some .boolean), Cond.fieldLink RX5 7 "LinkPredictorModel" "there" "[Z", Cond.methodLink RX5 72 yX5_in, Cond.static yX5_in, Cond.code yX5_in cX5_in 2 (some .boolean), Cond.methodLink RX5 76 yX5_at, Cond.instanceMethod yX5_at, Cond.selects RX5 yX5_at yX5_at, Cond.code yX5_at cX5_at 2 (some .int), Cond.methodLink RX5 84 yX5_own, Cond.instanceMethod yX5_own, Cond.selects RX5 yX5_own yX5_own]
def wsX5_member_r2 : List Cond := [Cond.code yX5_own cX5_own 7 (some .int)]
def wsX5_member : List Cond := .code yX5_member cX5_member 7 (some .int) :: ((wsX5_member_r1 ++ wsX5_member_r2) ++ wsX50)
def wsX5_isMember : List Cond := .code yX5_isMember cX5_isMember 2 (some .boolean) :: ([.fieldLink RX5 35 "LinkPredictorModel" "many" "[I", .fieldLink RX5 68 "LinkPredictorModel" "written" "I", .fieldLink RX5 32 "LinkPredictorModel" "gone" "[Z", .methodLink RX5 72 yX5_in, .static yX5_in, .initialized RX5, .code yX5_in cX5_in 2 (some .boolean)] ++ wsX50)
def wsX5_remake : List Cond := .code yX5_remake cX5_remake 4 (some .boolean) :: ([.fieldLink RX5 44 "LinkPredictorModel" "access" "[I", .fieldLink RX5 68 "LinkPredictorModel" "written" "I", .fieldLink RX5 47 "LinkPredictorModel" "marks" "[I", .methodLink RX5 88 yX5_isMember, .instanceMethod yX5_isMember, .selects RX5 yX5_isMember yX5_isMember, .initialized RX5, .code yX5_isMember cX5_isMember 2 (some .boolean), .fieldLink RX5 35 "LinkPredictorModel" "many" "[I", .fieldLink RX5 32 "LinkPredictorModel" "gone" "[Z", .methodLink RX5 72 yX5_in, .static yX5_in, .code yX5_in cX5_in 2 (some .boolean)] ++ wsX50)
def wsX5_remove : List Cond := .code yX5_remove cX5_remove 2 (some .boolean) :: ([.fieldLink RX5 32 "LinkPredictorModel" "gone" "[Z", .fieldLink RX5 68 "LinkPredictorModel" "written" "I", .methodLink RX5 88 yX5_isMember, .instanceMethod yX5_isMember, .selects RX5 yX5_isMember yX5_isMember, .initialized RX5, .code yX5_isMember cX5_isMember 2 (some .boolean), .fieldLink RX5 35 "LinkPredictorModel" "many" "[I", .methodLink RX5 72 yX5_in, .static yX5_in, .code yX5_in cX5_in 2 (some .boolean)] ++ wsX50)
def wsX5_branch : List Cond := .code yX5_branch cX5_branch 3 (some .int) :: ([.fieldLink RX5 7 "LinkPredictorModel" "there" "[Z", .fieldLink RX5 13 "LinkPredictorModel" "flags" "[I", .fieldLink RX5 17 "LinkPredictorModel" "pack" "[I", .fieldLink RX5 20 "LinkPredictorModel" "above" "[I", .fieldLink RX5 23 "LinkPredictorModel" "faces" "[I", .fieldLink RX5 26 "LinkPredictorModel" "host" "[I", .fieldLink RX5 35 "LinkPredictorModel" "many" "[I", .fieldLink RX5 32 "LinkPredictorModel" "gone" "[Z", .fieldLink RX5 38 "LinkPredictorModel" "owner" "[I", .fieldLink RX5 29 "LinkPredictorModel" "method" "[Z", .fieldLink RX5 41 "LinkPredictorModel" "sign" "[I", .fieldLink RX5 44 "LinkPredictorModel" "access" "[I", .fieldLink RX5 47 "LinkPredictorModel" "marks" "[I", .fieldLink RX5 68 "LinkPredictorModel" "written" "I"] ++ wsX50)
def wsX5_write : List Cond := .code yX5_write cX5_write 2 (some .boolean) :: ([.fieldLink RX5 68 "LinkPredictorModel" "written" "I", .methodLink RX5 72 yX5_in, .static yX5_in, .initialized RX5, .code yX5_in cX5_in 2 (some .boolean)] ++ wsX50)
def wsX5_refer : List Cond := .code yX5_refer cX5_refer 5 (some .int) :: ([.fieldLink RX5 91 "LinkPredictorModel" "references" "I", .fieldLink RX5 50 "LinkPredictorModel" "kind" "[I", .fieldLink RX5 53 "LinkPredictorModel" "holder" "[I", .fieldLink RX5 56 "LinkPredictorModel" "way" "[I", .fieldLink RX5 59 "LinkPredictorModel" "asked" "[I", .methodLink RX5 72 yX5_in, .static yX5_in, .initialized RX5, .code yX5_in cX5_in 2 (some .boolean)] ++ wsX50)
def wsX5_forget : List Cond := .code yX5_forget cX5_forget 2 (some .int) :: ([.fieldLink RX5 91 "LinkPredictorModel" "references" "I"] ++ wsX50)
def wsX5_verdict : List Cond := .code yX5_verdict cX5_verdict 2 (some .int) :: ([])
def wsX5_isChanged : List Cond := .code yX5_isChanged cX5_isChanged 6 (some .boolean) :: ([.fieldLink RX5 20 "LinkPredictorModel" "above" "[I", .fieldLink RX5 13 "LinkPredictorModel" "flags" "[I", .fieldLink RX5 23 "LinkPredictorModel" "faces" "[I", .methodLink RX5 94 yX5_has, .static yX5_has, .initialized RX5, .code yX5_has cX5_has 2 (some .boolean)] ++ wsX50)
def wsX5_loaded : List Cond := .code yX5_loaded cX5_loaded 10 (some .int) :: ([.fieldLink RX5 62 "LinkPredictorModel" "row" "[I", .fieldLink RX5 65 "LinkPredictorModel" "stage" "[I", .fieldLink RX5 7 "LinkPredictorModel" "there" "[Z", .fieldLink RX5 20 "LinkPredictorModel" "above" "[I", .fieldLink RX5 23 "LinkPredictorModel" "faces" "[I", .methodLink RX5 97 yX5_verdict, .static yX5_verdict, .initialized RX5, .code yX5_verdict cX5_verdict 2 (some .int), .methodLink RX5 94 yX5_has, .static yX5_has, .code yX5_has cX5_has 2 (some .boolean), .methodLink RX5 101 yX5_isChanged, .instanceMethod yX5_isChanged, .selects RX5 yX5_isChanged yX5_isChanged, .code yX5_isChanged cX5_isChanged 6 (some .boolean), .fieldLink RX5 13 "LinkPredictorModel" "flags" "[I"] ++ wsX50)
def wsX5_isLoaded : List Cond := .code yX5_isLoaded cX5_isLoaded 3 (some .boolean) :: ([.methodLink RX5 104 yX5_loaded, .instanceMethod yX5_loaded, .selects RX5 yX5_loaded yX5_loaded, .initialized RX5, .code yX5_loaded cX5_loaded 10 (some .int), .fieldLink RX5 62 "LinkPredictorModel" "row" "[I", .fieldLink RX5 65 "LinkPredictorModel" "stage" "[I", .fieldLink RX5 7 "LinkPredictorModel" "there" "[Z", .fieldLink RX5 20 "LinkPredictorModel" "above" "[I", .fieldLink RX5 23 "LinkPredictorModel" "faces" "[I", .methodLink RX5 97 yX5_verdict, .static yX5_verdict, .code yX5_verdict cX5_verdict 2 (some .int), .methodLink RX5 94 yX5_has, .static yX5_has, .code yX5_has cX5_has 2 (some .boolean), .methodLink RX5 101 yX5_isChanged, .instanceMethod yX5_isChanged, .selects RX5 yX5_isChanged yX5_isChanged, .code yX5_isChanged cX5_isChanged 6 (some .boolean), .fieldLink RX5 13 "LinkPredictorModel" "flags" "[I"] ++ wsX50)
def wsX5_aboveOf : List Cond := .code yX5_aboveOf cX5_aboveOf 5 (some .int) :: ([.fieldLink RX5 20 "LinkPredictorModel" "above" "[I"] ++ wsX50)
def wsX5_facesOf : List Cond := .code yX5_facesOf cX5_facesOf 7 (some .int) :: ([.fieldLink RX5 23 "LinkPredictorModel" "faces" "[I", .methodLink RX5 107 yX5_aboveOf, .instanceMethod yX5_aboveOf, .selects RX5 yX5_aboveOf yX5_aboveOf, .initialized RX5, .code yX5_aboveOf cX5_aboveOf 5 (some .int), .fieldLink RX5 20 "LinkPredictorModel" "above" "[I", .methodLink RX5 94 yX5_has, .static yX5_has, .code yX5_has cX5_has 2 (some .boolean)] ++ wsX50)
def wsX5_under : List Cond := .code yX5_under cX5_under 4 (some .boolean) :: ([.methodLink RX5 107 yX5_aboveOf, .instanceMethod yX5_aboveOf, .selects RX5 yX5_aboveOf yX5_aboveOf, .initialized RX5, .code yX5_aboveOf cX5_aboveOf 5 (some .int), .fieldLink RX5 20 "LinkPredictorModel" "above" "[I", .methodLink RX5 110 yX5_facesOf, .instanceMethod yX5_facesOf, .selects RX5 yX5_facesOf yX5_facesOf, .code yX5_facesOf cX5_facesOf 7 (some .int), .fieldLink RX5 23 "LinkPredictorModel" "faces" "[I", .methodLink RX5 94 yX5_has, .static yX5_has, .code yX5_has cX5_has 2 (some .boolean)] ++ wsX50)
def wsX5_nestOf : List Cond := .code yX5_nestOf cX5_nestOf 5 (some .int) :: ([.fieldLink RX5 26 "LinkPredictorModel" "host" "[I", .fieldLink RX5 7 "LinkPredictorModel" "there" "[Z", .fieldLink RX5 17 "LinkPredictorModel" "pack" "[I"] ++ wsX50)
def wsX5_isOpen_r1 : List Cond := [Cond.fieldLink RX5 38 "LinkPredictorModel" "owner" "[I", Cond.fieldLink RX5 44 "LinkPredictorModel" "access" "[I", Cond.fieldLink RX5 17 "LinkPredictorModel" "pack" "[I", Cond.fieldLink RX5 47 "LinkPredictorModel" "marks" "[I", Cond.methodLink RX5 113 yX5_nestOf, Cond.instanceMethod yX5_nestOf, Cond.selects RX5 yX5_nestOf yX5_nestOf, Cond.initialized RX5, Cond.code yX5_nestOf cX5_nestOf 5 (some .int), Cond.fieldLink RX5 26 "LinkPredictorModel" "host" "[I", Cond.fieldLink RX5 7 "LinkPredictorModel" "there" "[Z", Cond.methodLink RX5 107 yX5_aboveOf, Cond.instanceMethod yX5_aboveOf, Cond.selects RX5 yX5_aboveOf yX5_aboveOf, Cond.code yX5_aboveOf cX5_aboveOf 5 (some .int), Cond.fieldLink RX5 20 "LinkPredictorModel" "above" "[I", Cond.methodLink RX5 94 yX5_has, Cond.static yX5_has, Cond.code yX5_has cX5_has 2 (some .boolean), Cond.methodLink RX5 116 yX5_under, Cond.instanceMethod yX5_under, Cond.selects RX5 yX5_under yX5_under, Cond.code yX5_under cX5_under 4 (some .boolean), Cond.methodLink RX5 110 yX5_facesOf]
def wsX5_isOpen_r2 : List Cond := [Cond.instanceMethod yX5_facesOf, Cond.selects RX5 yX5_facesOf yX5_facesOf, Cond.code yX5_facesOf cX5_facesOf 7 (some .int), Cond.fieldLink RX5 23 "LinkPredictorModel" "faces" "[I"]
def wsX5_isOpen : List Cond := .code yX5_isOpen cX5_isOpen 9 (some .boolean) :: ((wsX5_isOpen_r1 ++ wsX5_isOpen_r2) ++ wsX50)
def wsX5_lay : List Cond := .code yX5_lay cX5_lay 5 (some .int) :: ([.fieldLink RX5 62 "LinkPredictorModel" "row" "[I"] ++ wsX50)
def wsX5_field : List Cond := .code yX5_field cX5_field 10 (some .int) :: ([.fieldLink RX5 62 "LinkPredictorModel" "row" "[I", .fieldLink RX5 20 "LinkPredictorModel" "above" "[I", .fieldLink RX5 23 "LinkPredictorModel" "faces" "[I", .methodLink RX5 94 yX5_has, .static yX5_has, .initialized RX5, .code yX5_has cX5_has 2 (some .boolean), .methodLink RX5 84 yX5_own, .instanceMethod yX5_own, .selects RX5 yX5_own yX5_own, .code yX5_own cX5_own 7 (some .int), .fieldLink RX5 35 "LinkPredictorModel" "many" "[I", .fieldLink RX5 32 "LinkPredictorModel" "gone" "[Z", .fieldLink RX5 38 "LinkPredictorModel" "owner" "[I", .fieldLink RX5 29 "LinkPredictorModel" "method" "[Z", .fieldLink RX5 41 "LinkPredictorModel" "sign" "[I", .methodLink RX5 120 yX5_lay, .instanceMethod yX5_lay, .selects RX5 yX5_lay yX5_lay, .code yX5_lay cX5_lay 5 (some .int)] ++ wsX50)
def wsX5_offers : List Cond := .code yX5_offers cX5_offers 5 (some .boolean) :: ([.fieldLink RX5 44 "LinkPredictorModel" "access" "[I", .fieldLink RX5 47 "LinkPredictorModel" "marks" "[I", .methodLink RX5 84 yX5_own, .instanceMethod yX5_own, .selects RX5 yX5_own yX5_own, .initialized RX5, .code yX5_own cX5_own 7 (some .int), .fieldLink RX5 35 "LinkPredictorModel" "many" "[I", .fieldLink RX5 32 "LinkPredictorModel" "gone" "[Z", .fieldLink RX5 38 "LinkPredictorModel" "owner" "[I", .fieldLink RX5 29 "LinkPredictorModel" "method" "[Z", .fieldLink RX5 41 "LinkPredictorModel" "sign" "[I"] ++ wsX50)
def wsX5_specific_r1 : List Cond := [Cond.methodLink RX5 110 yX5_facesOf, Cond.instanceMethod yX5_facesOf, Cond.selects RX5 yX5_facesOf yX5_facesOf, Cond.initialized RX5, Cond.code yX5_facesOf cX5_facesOf 7 (some .int), Cond.fieldLink RX5 23 "LinkPredictorModel" "faces" "[I", Cond.methodLink RX5 107 yX5_aboveOf, Cond.instanceMethod yX5_aboveOf, Cond.selects RX5 yX5_aboveOf yX5_aboveOf, Cond.code yX5_aboveOf cX5_aboveOf 5 (some .int), Cond.fieldLink RX5 20 "LinkPredictorModel" "above" "[I", Cond.methodLink RX5 94 yX5_has, Cond.static yX5_has, Cond.code yX5_has cX5_has 2 (some .boolean), Cond.methodLink RX5 123 yX5_offers, Cond.instanceMethod yX5_offers, Cond.selects RX5 yX5_offers yX5_offers, Cond.code yX5_offers cX5_offers 5 (some .boolean), Cond.fieldLink RX5 44 "LinkPredictorModel" "access" "[I", Cond.fieldLink RX5 47 "LinkPredictorModel" "marks" "[I", Cond.methodLink RX5 84 yX5_own, Cond.instanceMethod yX5_own, Cond.selects RX5 yX5_own yX5_own, Cond.code yX5_own cX5_own 7 (some .int)]
def wsX5_specific_r2 : List Cond := [Cond.fieldLink RX5 35 "LinkPredictorModel" "many" "[I", Cond.fieldLink RX5 32 "LinkPredictorModel" "gone" "[Z", Cond.fieldLink RX5 38 "LinkPredictorModel" "owner" "[I", Cond.fieldLink RX5 29 "LinkPredictorModel" "method" "[Z", Cond.fieldLink RX5 41 "LinkPredictorModel" "sign" "[I", Cond.methodLink RX5 116 yX5_under, Cond.instanceMethod yX5_under, Cond.selects RX5 yX5_under yX5_under, Cond.code yX5_under cX5_under 4 (some .boolean)]
def wsX5_specific : List Cond := .code yX5_specific cX5_specific 10 (some .int) :: ((wsX5_specific_r1 ++ wsX5_specific_r2) ++ wsX50)
def wsX5_bodied : List Cond := .code yX5_bodied cX5_bodied 7 (some .int) :: ([.fieldLink RX5 47 "LinkPredictorModel" "marks" "[I", .methodLink RX5 94 yX5_has, .static yX5_has, .initialized RX5, .code yX5_has cX5_has 2 (some .boolean), .methodLink RX5 84 yX5_own, .instanceMethod yX5_own, .selects RX5 yX5_own yX5_own, .code yX5_own cX5_own 7 (some .int), .fieldLink RX5 35 "LinkPredictorModel" "many" "[I", .fieldLink RX5 32 "LinkPredictorModel" "gone" "[Z", .fieldLink RX5 38 "LinkPredictorModel" "owner" "[I", .fieldLink RX5 29 "LinkPredictorModel" "method" "[Z", .fieldLink RX5 41 "LinkPredictorModel" "sign" "[I"] ++ wsX50)
def wsX5_find_r1 : List Cond := [Cond.fieldLink RX5 13 "LinkPredictorModel" "flags" "[I", Cond.fieldLink RX5 44 "LinkPredictorModel" "access" "[I", Cond.fieldLink RX5 47 "LinkPredictorModel" "marks" "[I", Cond.fieldLink RX5 20 "LinkPredictorModel" "above" "[I", Cond.fieldLink RX5 35 "LinkPredictorModel" "many" "[I", Cond.fieldLink RX5 32 "LinkPredictorModel" "gone" "[Z", Cond.fieldLink RX5 29 "LinkPredictorModel" "method" "[Z", Cond.fieldLink RX5 41 "LinkPredictorModel" "sign" "[I", Cond.fieldLink RX5 38 "LinkPredictorModel" "owner" "[I", Cond.methodLink RX5 84 yX5_own, Cond.instanceMethod yX5_own, Cond.selects RX5 yX5_own yX5_own, Cond.initialized RX5, Cond.code yX5_own cX5_own 7 (some .int), Cond.methodLink RX5 126 yX5_specific, Cond.instanceMethod yX5_specific, Cond.selects RX5 yX5_specific yX5_specific, Cond.code yX5_specific cX5_specific 10 (some .int), Cond.methodLink RX5 110 yX5_facesOf, Cond.instanceMethod yX5_facesOf, Cond.selects RX5 yX5_facesOf yX5_facesOf, Cond.code yX5_facesOf cX5_facesOf 7 (some .int), Cond.fieldLink RX5 23 "LinkPredictorModel" "faces" "[I", Cond.methodLink RX5 107 yX5_aboveOf]
def wsX5_find_r2 : List Cond := [Cond.instanceMethod yX5_aboveOf, Cond.selects RX5 yX5_aboveOf yX5_aboveOf, Cond.code yX5_aboveOf cX5_aboveOf 5 (some .int), Cond.methodLink RX5 94 yX5_has, Cond.static yX5_has, Cond.code yX5_has cX5_has 2 (some .boolean), Cond.methodLink RX5 123 yX5_offers, Cond.instanceMethod yX5_offers, Cond.selects RX5 yX5_offers yX5_offers, Cond.code yX5_offers cX5_offers 5 (some .boolean), Cond.methodLink RX5 116 yX5_under, Cond.instanceMethod yX5_under, Cond.selects RX5 yX5_under yX5_under, Cond.code yX5_under cX5_under 4 (some .boolean), Cond.methodLink RX5 130 yX5_bodied, Cond.instanceMethod yX5_bodied, Cond.selects RX5 yX5_bodied yX5_bodied, Cond.code yX5_bodied cX5_bodied 7 (some .int)]
def wsX5_find : List Cond := .code yX5_find cX5_find 9 (some .int) :: ((wsX5_find_r1 ++ wsX5_find_r2) ++ wsX50)
def wsX5_resolved_r1 : List Cond := [Cond.fieldLink RX5 50 "LinkPredictorModel" "kind" "[I", Cond.fieldLink RX5 53 "LinkPredictorModel" "holder" "[I", Cond.fieldLink RX5 56 "LinkPredictorModel" "way" "[I", Cond.fieldLink RX5 13 "LinkPredictorModel" "flags" "[I", Cond.fieldLink RX5 17 "LinkPredictorModel" "pack" "[I", Cond.fieldLink RX5 59 "LinkPredictorModel" "asked" "[I", Cond.fieldLink RX5 47 "LinkPredictorModel" "marks" "[I", Cond.fieldLink RX5 38 "LinkPredictorModel" "owner" "[I", Cond.methodLink RX5 104 yX5_loaded, Cond.instanceMethod yX5_loaded, Cond.selects RX5 yX5_loaded yX5_loaded, Cond.initialized RX5, Cond.code yX5_loaded cX5_loaded 10 (some .int), Cond.fieldLink RX5 62 "LinkPredictorModel" "row" "[I", Cond.fieldLink RX5 65 "LinkPredictorModel" "stage" "[I", Cond.fieldLink RX5 7 "LinkPredictorModel" "there" "[Z", Cond.fieldLink RX5 20 "LinkPredictorModel" "above" "[I", Cond.fieldLink RX5 23 "LinkPredictorModel" "faces" "[I", Cond.methodLink RX5 97 yX5_verdict, Cond.static yX5_verdict, Cond.code yX5_verdict cX5_verdict 2 (some .int), Cond.methodLink RX5 94 yX5_has, Cond.static yX5_has, Cond.code yX5_has cX5_has 2 (some .boolean)]
def wsX5_resolved_r2 : List Cond := [Cond.methodLink RX5 101 yX5_isChanged, Cond.instanceMethod yX5_isChanged, Cond.selects RX5 yX5_isChanged yX5_isChanged, Cond.code yX5_isChanged cX5_isChanged 6 (some .boolean), Cond.methodLink RX5 133 yX5_field, Cond.instanceMethod yX5_field, Cond.selects RX5 yX5_field yX5_field, Cond.code yX5_field cX5_field 10 (some .int), Cond.methodLink RX5 84 yX5_own, Cond.instanceMethod yX5_own, Cond.selects RX5 yX5_own yX5_own, Cond.code yX5_own cX5_own 7 (some .int), Cond.fieldLink RX5 35 "LinkPredictorModel" "many" "[I", Cond.fieldLink RX5 32 "LinkPredictorModel" "gone" "[Z", Cond.fieldLink RX5 29 "LinkPredictorModel" "method" "[Z", Cond.fieldLink RX5 41 "LinkPredictorModel" "sign" "[I", Cond.methodLink RX5 120 yX5_lay, Cond.instanceMethod yX5_lay, Cond.selects RX5 yX5_lay yX5_lay, Cond.code yX5_lay cX5_lay 5 (some .int), Cond.methodLink RX5 136 yX5_find, Cond.instanceMethod yX5_find, Cond.selects RX5 yX5_find yX5_find, Cond.code yX5_find cX5_find 9 (some .int)]
def wsX5_resolved_r3 : List Cond := [Cond.fieldLink RX5 44 "LinkPredictorModel" "access" "[I", Cond.methodLink RX5 126 yX5_specific, Cond.instanceMethod yX5_specific, Cond.selects RX5 yX5_specific yX5_specific, Cond.code yX5_specific cX5_specific 10 (some .int), Cond.methodLink RX5 110 yX5_facesOf, Cond.instanceMethod yX5_facesOf, Cond.selects RX5 yX5_facesOf yX5_facesOf, Cond.code yX5_facesOf cX5_facesOf 7 (some .int), Cond.methodLink RX5 107 yX5_aboveOf, Cond.instanceMethod yX5_aboveOf, Cond.selects RX5 yX5_aboveOf yX5_aboveOf, Cond.code yX5_aboveOf cX5_aboveOf 5 (some .int), Cond.methodLink RX5 123 yX5_offers, Cond.instanceMethod yX5_offers, Cond.selects RX5 yX5_offers yX5_offers, Cond.code yX5_offers cX5_offers 5 (some .boolean), Cond.methodLink RX5 116 yX5_under, Cond.instanceMethod yX5_under, Cond.selects RX5 yX5_under yX5_under, Cond.code yX5_under cX5_under 4 (some .boolean), Cond.methodLink RX5 130 yX5_bodied, Cond.instanceMethod yX5_bodied, Cond.selects RX5 yX5_bodied yX5_bodied]
def wsX5_resolved_r4 : List Cond := [Cond.code yX5_bodied cX5_bodied 7 (some .int), Cond.methodLink RX5 139 yX5_isOpen, Cond.instanceMethod yX5_isOpen, Cond.selects RX5 yX5_isOpen yX5_isOpen, Cond.code yX5_isOpen cX5_isOpen 9 (some .boolean), Cond.methodLink RX5 113 yX5_nestOf, Cond.instanceMethod yX5_nestOf, Cond.selects RX5 yX5_nestOf yX5_nestOf, Cond.code yX5_nestOf cX5_nestOf 5 (some .int), Cond.fieldLink RX5 26 "LinkPredictorModel" "host" "[I"]
def wsX5_resolved : List Cond := .code yX5_resolved cX5_resolved 12 (some .int) :: ((wsX5_resolved_r1 ++ (wsX5_resolved_r2 ++ (wsX5_resolved_r3 ++ wsX5_resolved_r4))) ++ wsX50)
def wsX5_overrides : List Cond := .code yX5_overrides cX5_overrides 6 (some .boolean) :: ([.fieldLink RX5 44 "LinkPredictorModel" "access" "[I", .fieldLink RX5 17 "LinkPredictorModel" "pack" "[I", .fieldLink RX5 38 "LinkPredictorModel" "owner" "[I"] ++ wsX50)
def wsX5_selected_r1 : List Cond := [Cond.fieldLink RX5 59 "LinkPredictorModel" "asked" "[I", Cond.fieldLink RX5 13 "LinkPredictorModel" "flags" "[I", Cond.fieldLink RX5 56 "LinkPredictorModel" "way" "[I", Cond.fieldLink RX5 44 "LinkPredictorModel" "access" "[I", Cond.fieldLink RX5 20 "LinkPredictorModel" "above" "[I", Cond.fieldLink RX5 47 "LinkPredictorModel" "marks" "[I", Cond.fieldLink RX5 50 "LinkPredictorModel" "kind" "[I", Cond.methodLink RX5 143 yX5_resolved, Cond.instanceMethod yX5_resolved, Cond.selects RX5 yX5_resolved yX5_resolved, Cond.initialized RX5, Cond.code yX5_resolved cX5_resolved 12 (some .int), Cond.fieldLink RX5 53 "LinkPredictorModel" "holder" "[I", Cond.fieldLink RX5 17 "LinkPredictorModel" "pack" "[I", Cond.fieldLink RX5 38 "LinkPredictorModel" "owner" "[I", Cond.methodLink RX5 104 yX5_loaded, Cond.instanceMethod yX5_loaded, Cond.selects RX5 yX5_loaded yX5_loaded, Cond.code yX5_loaded cX5_loaded 10 (some .int), Cond.fieldLink RX5 62 "LinkPredictorModel" "row" "[I", Cond.fieldLink RX5 65 "LinkPredictorModel" "stage" "[I", Cond.fieldLink RX5 7 "LinkPredictorModel" "there" "[Z", Cond.fieldLink RX5 23 "LinkPredictorModel" "faces" "[I", Cond.methodLink RX5 97 yX5_verdict]
def wsX5_selected_r2 : List Cond := [Cond.static yX5_verdict, Cond.code yX5_verdict cX5_verdict 2 (some .int), Cond.methodLink RX5 94 yX5_has, Cond.static yX5_has, Cond.code yX5_has cX5_has 2 (some .boolean), Cond.methodLink RX5 101 yX5_isChanged, Cond.instanceMethod yX5_isChanged, Cond.selects RX5 yX5_isChanged yX5_isChanged, Cond.code yX5_isChanged cX5_isChanged 6 (some .boolean), Cond.methodLink RX5 133 yX5_field, Cond.instanceMethod yX5_field, Cond.selects RX5 yX5_field yX5_field, Cond.code yX5_field cX5_field 10 (some .int), Cond.methodLink RX5 84 yX5_own, Cond.instanceMethod yX5_own, Cond.selects RX5 yX5_own yX5_own, Cond.code yX5_own cX5_own 7 (some .int), Cond.fieldLink RX5 35 "LinkPredictorModel" "many" "[I", Cond.fieldLink RX5 32 "LinkPredictorModel" "gone" "[Z", Cond.fieldLink RX5 29 "LinkPredictorModel" "method" "[Z", Cond.fieldLink RX5 41 "LinkPredictorModel" "sign" "[I", Cond.methodLink RX5 120 yX5_lay, Cond.instanceMethod yX5_lay, Cond.selects RX5 yX5_lay yX5_lay]
def wsX5_selected_r3 : List Cond := [Cond.code yX5_lay cX5_lay 5 (some .int), Cond.methodLink RX5 136 yX5_find, Cond.instanceMethod yX5_find, Cond.selects RX5 yX5_find yX5_find, Cond.code yX5_find cX5_find 9 (some .int), Cond.methodLink RX5 126 yX5_specific, Cond.instanceMethod yX5_specific, Cond.selects RX5 yX5_specific yX5_specific, Cond.code yX5_specific cX5_specific 10 (some .int), Cond.methodLink RX5 110 yX5_facesOf, Cond.instanceMethod yX5_facesOf, Cond.selects RX5 yX5_facesOf yX5_facesOf, Cond.code yX5_facesOf cX5_facesOf 7 (some .int), Cond.methodLink RX5 107 yX5_aboveOf, Cond.instanceMethod yX5_aboveOf, Cond.selects RX5 yX5_aboveOf yX5_aboveOf, Cond.code yX5_aboveOf cX5_aboveOf 5 (some .int), Cond.methodLink RX5 123 yX5_offers, Cond.instanceMethod yX5_offers, Cond.selects RX5 yX5_offers yX5_offers, Cond.code yX5_offers cX5_offers 5 (some .boolean), Cond.methodLink RX5 116 yX5_under, Cond.instanceMethod yX5_under, Cond.selects RX5 yX5_under yX5_under]
def wsX5_selected_r4 : List Cond := [Cond.code yX5_under cX5_under 4 (some .boolean), Cond.methodLink RX5 130 yX5_bodied, Cond.instanceMethod yX5_bodied, Cond.selects RX5 yX5_bodied yX5_bodied, Cond.code yX5_bodied cX5_bodied 7 (some .int), Cond.methodLink RX5 139 yX5_isOpen, Cond.instanceMethod yX5_isOpen, Cond.selects RX5 yX5_isOpen yX5_isOpen, Cond.code yX5_isOpen cX5_isOpen 9 (some .boolean), Cond.methodLink RX5 113 yX5_nestOf, Cond.instanceMethod yX5_nestOf, Cond.selects RX5 yX5_nestOf yX5_nestOf, Cond.code yX5_nestOf cX5_nestOf 5 (some .int), Cond.fieldLink RX5 26 "LinkPredictorModel" "host" "[I", Cond.methodLink RX5 146 yX5_isLoaded, Cond.instanceMethod yX5_isLoaded, Cond.selects RX5 yX5_isLoaded yX5_isLoaded, Cond.code yX5_isLoaded cX5_isLoaded 3 (some .boolean), Cond.methodLink RX5 149 yX5_overrides, Cond.instanceMethod yX5_overrides, Cond.selects RX5 yX5_overrides yX5_overrides, Cond.code yX5_overrides cX5_overrides 6 (some .boolean)]
def wsX5_selected : List Cond := .code yX5_selected cX5_selected 10 (some .int) :: ((wsX5_selected_r1 ++ (wsX5_selected_r2 ++ (wsX5_selected_r3 ++ wsX5_selected_r4))) ++ wsX50)
def wsX5_isAsk : List Cond := .code yX5_isAsk cX5_isAsk 3 (some .boolean) :: ([.fieldLink RX5 91 "LinkPredictorModel" "references" "I", .methodLink RX5 72 yX5_in, .static yX5_in, .initialized RX5, .code yX5_in cX5_in 2 (some .boolean)] ++ wsX50)
def wsX5_load : List Cond := .code yX5_load cX5_load 3 (some .int) :: ([.methodLink RX5 72 yX5_in, .static yX5_in, .initialized RX5, .code yX5_in cX5_in 2 (some .boolean), .methodLink RX5 104 yX5_loaded, .instanceMethod yX5_loaded, .selects RX5 yX5_loaded yX5_loaded, .code yX5_loaded cX5_loaded 10 (some .int), .fieldLink RX5 62 "LinkPredictorModel" "row" "[I", .fieldLink RX5 65 "LinkPredictorModel" "stage" "[I", .fieldLink RX5 7 "LinkPredictorModel" "there" "[Z", .fieldLink RX5 20 "LinkPredictorModel" "above" "[I", .fieldLink RX5 23 "LinkPredictorModel" "faces" "[I", .methodLink RX5 97 yX5_verdict, .static yX5_verdict, .code yX5_verdict cX5_verdict 2 (some .int), .methodLink RX5 94 yX5_has, .static yX5_has, .code yX5_has cX5_has 2 (some .boolean), .methodLink RX5 101 yX5_isChanged, .instanceMethod yX5_isChanged, .selects RX5 yX5_isChanged yX5_isChanged, .code yX5_isChanged cX5_isChanged 6 (some .boolean), .fieldLink RX5 13 "LinkPredictorModel" "flags" "[I"] ++ wsX50)
def wsX5_resolve_r1 : List Cond := [Cond.methodLink RX5 152 yX5_isAsk, Cond.instanceMethod yX5_isAsk, Cond.selects RX5 yX5_isAsk yX5_isAsk, Cond.initialized RX5, Cond.code yX5_isAsk cX5_isAsk 3 (some .boolean), Cond.fieldLink RX5 91 "LinkPredictorModel" "references" "I", Cond.methodLink RX5 72 yX5_in, Cond.static yX5_in, Cond.code yX5_in cX5_in 2 (some .boolean), Cond.methodLink RX5 143 yX5_resolved, Cond.instanceMethod yX5_resolved, Cond.selects RX5 yX5_resolved yX5_resolved, Cond.code yX5_resolved cX5_resolved 12 (some .int), Cond.fieldLink RX5 50 "LinkPredictorModel" "kind" "[I", Cond.fieldLink RX5 53 "LinkPredictorModel" "holder" "[I", Cond.fieldLink RX5 56 "LinkPredictorModel" "way" "[I", Cond.fieldLink RX5 13 "LinkPredictorModel" "flags" "[I", Cond.fieldLink RX5 17 "LinkPredictorModel" "pack" "[I", Cond.fieldLink RX5 59 "LinkPredictorModel" "asked" "[I", Cond.fieldLink RX5 47 "LinkPredictorModel" "marks" "[I", Cond.fieldLink RX5 38 "LinkPredictorModel" "owner" "[I", Cond.methodLink RX5 104 yX5_loaded, Cond.instanceMethod yX5_loaded, Cond.selects RX5 yX5_loaded yX5_loaded]
def wsX5_resolve_r2 : List Cond := [Cond.code yX5_loaded cX5_loaded 10 (some .int), Cond.fieldLink RX5 62 "LinkPredictorModel" "row" "[I", Cond.fieldLink RX5 65 "LinkPredictorModel" "stage" "[I", Cond.fieldLink RX5 7 "LinkPredictorModel" "there" "[Z", Cond.fieldLink RX5 20 "LinkPredictorModel" "above" "[I", Cond.fieldLink RX5 23 "LinkPredictorModel" "faces" "[I", Cond.methodLink RX5 97 yX5_verdict, Cond.static yX5_verdict, Cond.code yX5_verdict cX5_verdict 2 (some .int), Cond.methodLink RX5 94 yX5_has, Cond.static yX5_has, Cond.code yX5_has cX5_has 2 (some .boolean), Cond.methodLink RX5 101 yX5_isChanged, Cond.instanceMethod yX5_isChanged, Cond.selects RX5 yX5_isChanged yX5_isChanged, Cond.code yX5_isChanged cX5_isChanged 6 (some .boolean), Cond.methodLink RX5 133 yX5_field, Cond.instanceMethod yX5_field, Cond.selects RX5 yX5_field yX5_field, Cond.code yX5_field cX5_field 10 (some .int), Cond.methodLink RX5 84 yX5_own, Cond.instanceMethod yX5_own, Cond.selects RX5 yX5_own yX5_own, Cond.code yX5_own cX5_own 7 (some .int)]
def wsX5_resolve_r3 : List Cond := [Cond.fieldLink RX5 35 "LinkPredictorModel" "many" "[I", Cond.fieldLink RX5 32 "LinkPredictorModel" "gone" "[Z", Cond.fieldLink RX5 29 "LinkPredictorModel" "method" "[Z", Cond.fieldLink RX5 41 "LinkPredictorModel" "sign" "[I", Cond.methodLink RX5 120 yX5_lay, Cond.instanceMethod yX5_lay, Cond.selects RX5 yX5_lay yX5_lay, Cond.code yX5_lay cX5_lay 5 (some .int), Cond.methodLink RX5 136 yX5_find, Cond.instanceMethod yX5_find, Cond.selects RX5 yX5_find yX5_find, Cond.code yX5_find cX5_find 9 (some .int), Cond.fieldLink RX5 44 "LinkPredictorModel" "access" "[I", Cond.methodLink RX5 126 yX5_specific, Cond.instanceMethod yX5_specific, Cond.selects RX5 yX5_specific yX5_specific, Cond.code yX5_specific cX5_specific 10 (some .int), Cond.methodLink RX5 110 yX5_facesOf, Cond.instanceMethod yX5_facesOf, Cond.selects RX5 yX5_facesOf yX5_facesOf, Cond.code yX5_facesOf cX5_facesOf 7 (some .int), Cond.methodLink RX5 107 yX5_aboveOf, Cond.instanceMethod yX5_aboveOf, Cond.selects RX5 yX5_aboveOf yX5_aboveOf]
def wsX5_resolve_r4 : List Cond := [Cond.code yX5_aboveOf cX5_aboveOf 5 (some .int), Cond.methodLink RX5 123 yX5_offers, Cond.instanceMethod yX5_offers, Cond.selects RX5 yX5_offers yX5_offers, Cond.code yX5_offers cX5_offers 5 (some .boolean), Cond.methodLink RX5 116 yX5_under, Cond.instanceMethod yX5_under, Cond.selects RX5 yX5_under yX5_under, Cond.code yX5_under cX5_under 4 (some .boolean), Cond.methodLink RX5 130 yX5_bodied, Cond.instanceMethod yX5_bodied, Cond.selects RX5 yX5_bodied yX5_bodied, Cond.code yX5_bodied cX5_bodied 7 (some .int), Cond.methodLink RX5 139 yX5_isOpen, Cond.instanceMethod yX5_isOpen, Cond.selects RX5 yX5_isOpen yX5_isOpen, Cond.code yX5_isOpen cX5_isOpen 9 (some .boolean), Cond.methodLink RX5 113 yX5_nestOf, Cond.instanceMethod yX5_nestOf, Cond.selects RX5 yX5_nestOf yX5_nestOf, Cond.code yX5_nestOf cX5_nestOf 5 (some .int), Cond.fieldLink RX5 26 "LinkPredictorModel" "host" "[I"]
def wsX5_resolve : List Cond := .code yX5_resolve cX5_resolve 3 (some .int) :: ((wsX5_resolve_r1 ++ (wsX5_resolve_r2 ++ (wsX5_resolve_r3 ++ wsX5_resolve_r4))) ++ wsX50)
def wsX5_selects_r1 : List Cond := [Cond.fieldLink RX5 50 "LinkPredictorModel" "kind" "[I", Cond.methodLink RX5 143 yX5_resolved, Cond.instanceMethod yX5_resolved, Cond.selects RX5 yX5_resolved yX5_resolved, Cond.initialized RX5, Cond.code yX5_resolved cX5_resolved 12 (some .int), Cond.fieldLink RX5 53 "LinkPredictorModel" "holder" "[I", Cond.fieldLink RX5 56 "LinkPredictorModel" "way" "[I", Cond.fieldLink RX5 13 "LinkPredictorModel" "flags" "[I", Cond.fieldLink RX5 17 "LinkPredictorModel" "pack" "[I", Cond.fieldLink RX5 59 "LinkPredictorModel" "asked" "[I", Cond.fieldLink RX5 47 "LinkPredictorModel" "marks" "[I", Cond.fieldLink RX5 38 "LinkPredictorModel" "owner" "[I", Cond.methodLink RX5 104 yX5_loaded, Cond.instanceMethod yX5_loaded, Cond.selects RX5 yX5_loaded yX5_loaded, Cond.code yX5_loaded cX5_loaded 10 (some .int), Cond.fieldLink RX5 62 "LinkPredictorModel" "row" "[I", Cond.fieldLink RX5 65 "LinkPredictorModel" "stage" "[I", Cond.fieldLink RX5 7 "LinkPredictorModel" "there" "[Z", Cond.fieldLink RX5 20 "LinkPredictorModel" "above" "[I", Cond.fieldLink RX5 23 "LinkPredictorModel" "faces" "[I", Cond.methodLink RX5 97 yX5_verdict, Cond.static yX5_verdict]
def wsX5_selects_r2 : List Cond := [Cond.code yX5_verdict cX5_verdict 2 (some .int), Cond.methodLink RX5 94 yX5_has, Cond.static yX5_has, Cond.code yX5_has cX5_has 2 (some .boolean), Cond.methodLink RX5 101 yX5_isChanged, Cond.instanceMethod yX5_isChanged, Cond.selects RX5 yX5_isChanged yX5_isChanged, Cond.code yX5_isChanged cX5_isChanged 6 (some .boolean), Cond.methodLink RX5 133 yX5_field, Cond.instanceMethod yX5_field, Cond.selects RX5 yX5_field yX5_field, Cond.code yX5_field cX5_field 10 (some .int), Cond.methodLink RX5 84 yX5_own, Cond.instanceMethod yX5_own, Cond.selects RX5 yX5_own yX5_own, Cond.code yX5_own cX5_own 7 (some .int), Cond.fieldLink RX5 35 "LinkPredictorModel" "many" "[I", Cond.fieldLink RX5 32 "LinkPredictorModel" "gone" "[Z", Cond.fieldLink RX5 29 "LinkPredictorModel" "method" "[Z", Cond.fieldLink RX5 41 "LinkPredictorModel" "sign" "[I", Cond.methodLink RX5 120 yX5_lay, Cond.instanceMethod yX5_lay, Cond.selects RX5 yX5_lay yX5_lay, Cond.code yX5_lay cX5_lay 5 (some .int)]
def wsX5_selects_r3 : List Cond := [Cond.methodLink RX5 136 yX5_find, Cond.instanceMethod yX5_find, Cond.selects RX5 yX5_find yX5_find, Cond.code yX5_find cX5_find 9 (some .int), Cond.fieldLink RX5 44 "LinkPredictorModel" "access" "[I", Cond.methodLink RX5 126 yX5_specific, Cond.instanceMethod yX5_specific, Cond.selects RX5 yX5_specific yX5_specific, Cond.code yX5_specific cX5_specific 10 (some .int), Cond.methodLink RX5 110 yX5_facesOf, Cond.instanceMethod yX5_facesOf, Cond.selects RX5 yX5_facesOf yX5_facesOf, Cond.code yX5_facesOf cX5_facesOf 7 (some .int), Cond.methodLink RX5 107 yX5_aboveOf, Cond.instanceMethod yX5_aboveOf, Cond.selects RX5 yX5_aboveOf yX5_aboveOf, Cond.code yX5_aboveOf cX5_aboveOf 5 (some .int), Cond.methodLink RX5 123 yX5_offers, Cond.instanceMethod yX5_offers, Cond.selects RX5 yX5_offers yX5_offers, Cond.code yX5_offers cX5_offers 5 (some .boolean), Cond.methodLink RX5 116 yX5_under, Cond.instanceMethod yX5_under, Cond.selects RX5 yX5_under yX5_under]
def wsX5_selects_r4 : List Cond := [Cond.code yX5_under cX5_under 4 (some .boolean), Cond.methodLink RX5 130 yX5_bodied, Cond.instanceMethod yX5_bodied, Cond.selects RX5 yX5_bodied yX5_bodied, Cond.code yX5_bodied cX5_bodied 7 (some .int), Cond.methodLink RX5 139 yX5_isOpen, Cond.instanceMethod yX5_isOpen, Cond.selects RX5 yX5_isOpen yX5_isOpen, Cond.code yX5_isOpen cX5_isOpen 9 (some .boolean), Cond.methodLink RX5 113 yX5_nestOf, Cond.instanceMethod yX5_nestOf, Cond.selects RX5 yX5_nestOf yX5_nestOf, Cond.code yX5_nestOf cX5_nestOf 5 (some .int), Cond.fieldLink RX5 26 "LinkPredictorModel" "host" "[I"]
def wsX5_selects : List Cond := .code yX5_selects cX5_selects 3 (some .boolean) :: ((wsX5_selects_r1 ++ (wsX5_selects_r2 ++ (wsX5_selects_r3 ++ wsX5_selects_r4))) ++ wsX50)
def wsX5_select_r1 : List Cond := [Cond.methodLink RX5 152 yX5_isAsk, Cond.instanceMethod yX5_isAsk, Cond.selects RX5 yX5_isAsk yX5_isAsk, Cond.initialized RX5, Cond.code yX5_isAsk cX5_isAsk 3 (some .boolean), Cond.fieldLink RX5 91 "LinkPredictorModel" "references" "I", Cond.methodLink RX5 72 yX5_in, Cond.static yX5_in, Cond.code yX5_in cX5_in 2 (some .boolean), Cond.methodLink RX5 155 yX5_selects, Cond.instanceMethod yX5_selects, Cond.selects RX5 yX5_selects yX5_selects, Cond.code yX5_selects cX5_selects 3 (some .boolean), Cond.fieldLink RX5 50 "LinkPredictorModel" "kind" "[I", Cond.methodLink RX5 143 yX5_resolved, Cond.instanceMethod yX5_resolved, Cond.selects RX5 yX5_resolved yX5_resolved, Cond.code yX5_resolved cX5_resolved 12 (some .int), Cond.fieldLink RX5 53 "LinkPredictorModel" "holder" "[I", Cond.fieldLink RX5 56 "LinkPredictorModel" "way" "[I", Cond.fieldLink RX5 13 "LinkPredictorModel" "flags" "[I", Cond.fieldLink RX5 17 "LinkPredictorModel" "pack" "[I", Cond.fieldLink RX5 59 "LinkPredictorModel" "asked" "[I", Cond.fieldLink RX5 47 "LinkPredictorModel" "marks" "[I"]
def wsX5_select_r2 : List Cond := [Cond.fieldLink RX5 38 "LinkPredictorModel" "owner" "[I", Cond.methodLink RX5 104 yX5_loaded, Cond.instanceMethod yX5_loaded, Cond.selects RX5 yX5_loaded yX5_loaded, Cond.code yX5_loaded cX5_loaded 10 (some .int), Cond.fieldLink RX5 62 "LinkPredictorModel" "row" "[I", Cond.fieldLink RX5 65 "LinkPredictorModel" "stage" "[I", Cond.fieldLink RX5 7 "LinkPredictorModel" "there" "[Z", Cond.fieldLink RX5 20 "LinkPredictorModel" "above" "[I", Cond.fieldLink RX5 23 "LinkPredictorModel" "faces" "[I", Cond.methodLink RX5 97 yX5_verdict, Cond.static yX5_verdict, Cond.code yX5_verdict cX5_verdict 2 (some .int), Cond.methodLink RX5 94 yX5_has, Cond.static yX5_has, Cond.code yX5_has cX5_has 2 (some .boolean), Cond.methodLink RX5 101 yX5_isChanged, Cond.instanceMethod yX5_isChanged, Cond.selects RX5 yX5_isChanged yX5_isChanged, Cond.code yX5_isChanged cX5_isChanged 6 (some .boolean), Cond.methodLink RX5 133 yX5_field, Cond.instanceMethod yX5_field, Cond.selects RX5 yX5_field yX5_field, Cond.code yX5_field cX5_field 10 (some .int)]
def wsX5_select_r3 : List Cond := [Cond.methodLink RX5 84 yX5_own, Cond.instanceMethod yX5_own, Cond.selects RX5 yX5_own yX5_own, Cond.code yX5_own cX5_own 7 (some .int), Cond.fieldLink RX5 35 "LinkPredictorModel" "many" "[I", Cond.fieldLink RX5 32 "LinkPredictorModel" "gone" "[Z", Cond.fieldLink RX5 29 "LinkPredictorModel" "method" "[Z", Cond.fieldLink RX5 41 "LinkPredictorModel" "sign" "[I", Cond.methodLink RX5 120 yX5_lay, Cond.instanceMethod yX5_lay, Cond.selects RX5 yX5_lay yX5_lay, Cond.code yX5_lay cX5_lay 5 (some .int), Cond.methodLink RX5 136 yX5_find, Cond.instanceMethod yX5_find, Cond.selects RX5 yX5_find yX5_find, Cond.code yX5_find cX5_find 9 (some .int), Cond.fieldLink RX5 44 "LinkPredictorModel" "access" "[I", Cond.methodLink RX5 126 yX5_specific, Cond.instanceMethod yX5_specific, Cond.selects RX5 yX5_specific yX5_specific, Cond.code yX5_specific cX5_specific 10 (some .int), Cond.methodLink RX5 110 yX5_facesOf, Cond.instanceMethod yX5_facesOf, Cond.selects RX5 yX5_facesOf yX5_facesOf]
def wsX5_select_r4 : List Cond := [Cond.code yX5_facesOf cX5_facesOf 7 (some .int), Cond.methodLink RX5 107 yX5_aboveOf, Cond.instanceMethod yX5_aboveOf, Cond.selects RX5 yX5_aboveOf yX5_aboveOf, Cond.code yX5_aboveOf cX5_aboveOf 5 (some .int), Cond.methodLink RX5 123 yX5_offers, Cond.instanceMethod yX5_offers, Cond.selects RX5 yX5_offers yX5_offers, Cond.code yX5_offers cX5_offers 5 (some .boolean), Cond.methodLink RX5 116 yX5_under, Cond.instanceMethod yX5_under, Cond.selects RX5 yX5_under yX5_under, Cond.code yX5_under cX5_under 4 (some .boolean), Cond.methodLink RX5 130 yX5_bodied, Cond.instanceMethod yX5_bodied, Cond.selects RX5 yX5_bodied yX5_bodied, Cond.code yX5_bodied cX5_bodied 7 (some .int), Cond.methodLink RX5 139 yX5_isOpen, Cond.instanceMethod yX5_isOpen, Cond.selects RX5 yX5_isOpen yX5_isOpen, Cond.code yX5_isOpen cX5_isOpen 9 (some .boolean), Cond.methodLink RX5 113 yX5_nestOf, Cond.instanceMethod yX5_nestOf, Cond.selects RX5 yX5_nestOf yX5_nestOf]
def wsX5_select_r5 : List Cond := [Cond.code yX5_nestOf cX5_nestOf 5 (some .int), Cond.fieldLink RX5 26 "LinkPredictorModel" "host" "[I", Cond.methodLink RX5 158 yX5_selected, Cond.instanceMethod yX5_selected, Cond.selects RX5 yX5_selected yX5_selected, Cond.code yX5_selected cX5_selected 10 (some .int), Cond.methodLink RX5 146 yX5_isLoaded, Cond.instanceMethod yX5_isLoaded, Cond.selects RX5 yX5_isLoaded yX5_isLoaded, Cond.code yX5_isLoaded cX5_isLoaded 3 (some .boolean), Cond.methodLink RX5 149 yX5_overrides, Cond.instanceMethod yX5_overrides, Cond.selects RX5 yX5_overrides yX5_overrides, Cond.code yX5_overrides cX5_overrides 6 (some .boolean)]
def wsX5_select : List Cond := .code yX5_select cX5_select 4 (some .int) :: ((wsX5_select_r1 ++ (wsX5_select_r2 ++ (wsX5_select_r3 ++ (wsX5_select_r4 ++ wsX5_select_r5)))) ++ wsX50)
def wsX5_areAlike : List Cond := .code yX5_areAlike cX5_areAlike 7 (some .boolean) :: ([.fieldLink RX5 38 "LinkPredictorModel" "owner" "[I", .fieldLink RX5 29 "LinkPredictorModel" "method" "[Z", .fieldLink RX5 41 "LinkPredictorModel" "sign" "[I"] ++ wsX50)
def wsX5_compare_r1 : List Cond := [Cond.fieldLink RX5 91 "LinkPredictorModel" "references" "I", Cond.methodLink RX5 72 yX5_in, Cond.static yX5_in, Cond.initialized RX5, Cond.code yX5_in cX5_in 2 (some .boolean), Cond.methodLink RX5 143 yX5_resolved, Cond.instanceMethod yX5_resolved, Cond.selects RX5 yX5_resolved yX5_resolved, Cond.code yX5_resolved cX5_resolved 12 (some .int), Cond.fieldLink RX5 50 "LinkPredictorModel" "kind" "[I", Cond.fieldLink RX5 53 "LinkPredictorModel" "holder" "[I", Cond.fieldLink RX5 56 "LinkPredictorModel" "way" "[I", Cond.fieldLink RX5 13 "LinkPredictorModel" "flags" "[I", Cond.fieldLink RX5 17 "LinkPredictorModel" "pack" "[I", Cond.fieldLink RX5 59 "LinkPredictorModel" "asked" "[I", Cond.fieldLink RX5 47 "LinkPredictorModel" "marks" "[I", Cond.fieldLink RX5 38 "LinkPredictorModel" "owner" "[I", Cond.methodLink RX5 104 yX5_loaded, Cond.instanceMethod yX5_loaded, Cond.selects RX5 yX5_loaded yX5_loaded, Cond.code yX5_loaded cX5_loaded 10 (some .int), Cond.fieldLink RX5 62 "LinkPredictorModel" "row" "[I", Cond.fieldLink RX5 65 "LinkPredictorModel" "stage" "[I", Cond.fieldLink RX5 7 "LinkPredictorModel" "there" "[Z"]
def wsX5_compare_r2 : List Cond := [Cond.fieldLink RX5 20 "LinkPredictorModel" "above" "[I", Cond.fieldLink RX5 23 "LinkPredictorModel" "faces" "[I", Cond.methodLink RX5 97 yX5_verdict, Cond.static yX5_verdict, Cond.code yX5_verdict cX5_verdict 2 (some .int), Cond.methodLink RX5 94 yX5_has, Cond.static yX5_has, Cond.code yX5_has cX5_has 2 (some .boolean), Cond.methodLink RX5 101 yX5_isChanged, Cond.instanceMethod yX5_isChanged, Cond.selects RX5 yX5_isChanged yX5_isChanged, Cond.code yX5_isChanged cX5_isChanged 6 (some .boolean), Cond.methodLink RX5 133 yX5_field, Cond.instanceMethod yX5_field, Cond.selects RX5 yX5_field yX5_field, Cond.code yX5_field cX5_field 10 (some .int), Cond.methodLink RX5 84 yX5_own, Cond.instanceMethod yX5_own, Cond.selects RX5 yX5_own yX5_own, Cond.code yX5_own cX5_own 7 (some .int), Cond.fieldLink RX5 35 "LinkPredictorModel" "many" "[I", Cond.fieldLink RX5 32 "LinkPredictorModel" "gone" "[Z", Cond.fieldLink RX5 29 "LinkPredictorModel" "method" "[Z", Cond.fieldLink RX5 41 "LinkPredictorModel" "sign" "[I"]
def wsX5_compare_r3 : List Cond := [Cond.methodLink RX5 120 yX5_lay, Cond.instanceMethod yX5_lay, Cond.selects RX5 yX5_lay yX5_lay, Cond.code yX5_lay cX5_lay 5 (some .int), Cond.methodLink RX5 136 yX5_find, Cond.instanceMethod yX5_find, Cond.selects RX5 yX5_find yX5_find, Cond.code yX5_find cX5_find 9 (some .int), Cond.fieldLink RX5 44 "LinkPredictorModel" "access" "[I", Cond.methodLink RX5 126 yX5_specific, Cond.instanceMethod yX5_specific, Cond.selects RX5 yX5_specific yX5_specific, Cond.code yX5_specific cX5_specific 10 (some .int), Cond.methodLink RX5 110 yX5_facesOf, Cond.instanceMethod yX5_facesOf, Cond.selects RX5 yX5_facesOf yX5_facesOf, Cond.code yX5_facesOf cX5_facesOf 7 (some .int), Cond.methodLink RX5 107 yX5_aboveOf, Cond.instanceMethod yX5_aboveOf, Cond.selects RX5 yX5_aboveOf yX5_aboveOf, Cond.code yX5_aboveOf cX5_aboveOf 5 (some .int), Cond.methodLink RX5 123 yX5_offers, Cond.instanceMethod yX5_offers, Cond.selects RX5 yX5_offers yX5_offers]
def wsX5_compare_r4 : List Cond := [Cond.code yX5_offers cX5_offers 5 (some .boolean), Cond.methodLink RX5 116 yX5_under, Cond.instanceMethod yX5_under, Cond.selects RX5 yX5_under yX5_under, Cond.code yX5_under cX5_under 4 (some .boolean), Cond.methodLink RX5 130 yX5_bodied, Cond.instanceMethod yX5_bodied, Cond.selects RX5 yX5_bodied yX5_bodied, Cond.code yX5_bodied cX5_bodied 7 (some .int), Cond.methodLink RX5 139 yX5_isOpen, Cond.instanceMethod yX5_isOpen, Cond.selects RX5 yX5_isOpen yX5_isOpen, Cond.code yX5_isOpen cX5_isOpen 9 (some .boolean), Cond.methodLink RX5 113 yX5_nestOf, Cond.instanceMethod yX5_nestOf, Cond.selects RX5 yX5_nestOf yX5_nestOf, Cond.code yX5_nestOf cX5_nestOf 5 (some .int), Cond.fieldLink RX5 26 "LinkPredictorModel" "host" "[I", Cond.methodLink RX5 161 yX5_areAlike, Cond.instanceMethod yX5_areAlike, Cond.selects RX5 yX5_areAlike yX5_areAlike, Cond.code yX5_areAlike cX5_areAlike 7 (some .boolean)]
def wsX5_compare : List Cond := .code yX5_compare cX5_compare 4 (some .int) :: ((wsX5_compare_r1 ++ (wsX5_compare_r2 ++ (wsX5_compare_r3 ++ wsX5_compare_r4))) ++ wsX50)
def wsX5_receivers_r1 : List Cond := [Cond.fieldLink RX5 91 "LinkPredictorModel" "references" "I", Cond.fieldLink RX5 50 "LinkPredictorModel" "kind" "[I", Cond.methodLink RX5 72 yX5_in, Cond.static yX5_in, Cond.initialized RX5, Cond.code yX5_in cX5_in 2 (some .boolean), Cond.methodLink RX5 155 yX5_selects, Cond.instanceMethod yX5_selects, Cond.selects RX5 yX5_selects yX5_selects, Cond.code yX5_selects cX5_selects 3 (some .boolean), Cond.methodLink RX5 143 yX5_resolved, Cond.instanceMethod yX5_resolved, Cond.selects RX5 yX5_resolved yX5_resolved, Cond.code yX5_resolved cX5_resolved 12 (some .int), Cond.fieldLink RX5 53 "LinkPredictorModel" "holder" "[I", Cond.fieldLink RX5 56 "LinkPredictorModel" "way" "[I", Cond.fieldLink RX5 13 "LinkPredictorModel" "flags" "[I", Cond.fieldLink RX5 17 "LinkPredictorModel" "pack" "[I", Cond.fieldLink RX5 59 "LinkPredictorModel" "asked" "[I", Cond.fieldLink RX5 47 "LinkPredictorModel" "marks" "[I", Cond.fieldLink RX5 38 "LinkPredictorModel" "owner" "[I", Cond.methodLink RX5 104 yX5_loaded, Cond.instanceMethod yX5_loaded, Cond.selects RX5 yX5_loaded yX5_loaded]
def wsX5_receivers_r2 : List Cond := [Cond.code yX5_loaded cX5_loaded 10 (some .int), Cond.fieldLink RX5 62 "LinkPredictorModel" "row" "[I", Cond.fieldLink RX5 65 "LinkPredictorModel" "stage" "[I", Cond.fieldLink RX5 7 "LinkPredictorModel" "there" "[Z", Cond.fieldLink RX5 20 "LinkPredictorModel" "above" "[I", Cond.fieldLink RX5 23 "LinkPredictorModel" "faces" "[I", Cond.methodLink RX5 97 yX5_verdict, Cond.static yX5_verdict, Cond.code yX5_verdict cX5_verdict 2 (some .int), Cond.methodLink RX5 94 yX5_has, Cond.static yX5_has, Cond.code yX5_has cX5_has 2 (some .boolean), Cond.methodLink RX5 101 yX5_isChanged, Cond.instanceMethod yX5_isChanged, Cond.selects RX5 yX5_isChanged yX5_isChanged, Cond.code yX5_isChanged cX5_isChanged 6 (some .boolean), Cond.methodLink RX5 133 yX5_field, Cond.instanceMethod yX5_field, Cond.selects RX5 yX5_field yX5_field, Cond.code yX5_field cX5_field 10 (some .int), Cond.methodLink RX5 84 yX5_own, Cond.instanceMethod yX5_own, Cond.selects RX5 yX5_own yX5_own, Cond.code yX5_own cX5_own 7 (some .int)]
def wsX5_receivers_r3 : List Cond := [Cond.fieldLink RX5 35 "LinkPredictorModel" "many" "[I", Cond.fieldLink RX5 32 "LinkPredictorModel" "gone" "[Z", Cond.fieldLink RX5 29 "LinkPredictorModel" "method" "[Z", Cond.fieldLink RX5 41 "LinkPredictorModel" "sign" "[I", Cond.methodLink RX5 120 yX5_lay, Cond.instanceMethod yX5_lay, Cond.selects RX5 yX5_lay yX5_lay, Cond.code yX5_lay cX5_lay 5 (some .int), Cond.methodLink RX5 136 yX5_find, Cond.instanceMethod yX5_find, Cond.selects RX5 yX5_find yX5_find, Cond.code yX5_find cX5_find 9 (some .int), Cond.fieldLink RX5 44 "LinkPredictorModel" "access" "[I", Cond.methodLink RX5 126 yX5_specific, Cond.instanceMethod yX5_specific, Cond.selects RX5 yX5_specific yX5_specific, Cond.code yX5_specific cX5_specific 10 (some .int), Cond.methodLink RX5 110 yX5_facesOf, Cond.instanceMethod yX5_facesOf, Cond.selects RX5 yX5_facesOf yX5_facesOf, Cond.code yX5_facesOf cX5_facesOf 7 (some .int), Cond.methodLink RX5 107 yX5_aboveOf, Cond.instanceMethod yX5_aboveOf, Cond.selects RX5 yX5_aboveOf yX5_aboveOf]
def wsX5_receivers_r4 : List Cond := [Cond.code yX5_aboveOf cX5_aboveOf 5 (some .int), Cond.methodLink RX5 123 yX5_offers, Cond.instanceMethod yX5_offers, Cond.selects RX5 yX5_offers yX5_offers, Cond.code yX5_offers cX5_offers 5 (some .boolean), Cond.methodLink RX5 116 yX5_under, Cond.instanceMethod yX5_under, Cond.selects RX5 yX5_under yX5_under, Cond.code yX5_under cX5_under 4 (some .boolean), Cond.methodLink RX5 130 yX5_bodied, Cond.instanceMethod yX5_bodied, Cond.selects RX5 yX5_bodied yX5_bodied, Cond.code yX5_bodied cX5_bodied 7 (some .int), Cond.methodLink RX5 139 yX5_isOpen, Cond.instanceMethod yX5_isOpen, Cond.selects RX5 yX5_isOpen yX5_isOpen, Cond.code yX5_isOpen cX5_isOpen 9 (some .boolean), Cond.methodLink RX5 113 yX5_nestOf, Cond.instanceMethod yX5_nestOf, Cond.selects RX5 yX5_nestOf yX5_nestOf, Cond.code yX5_nestOf cX5_nestOf 5 (some .int), Cond.fieldLink RX5 26 "LinkPredictorModel" "host" "[I", Cond.methodLink RX5 158 yX5_selected, Cond.instanceMethod yX5_selected]
def wsX5_receivers_r5 : List Cond := [Cond.selects RX5 yX5_selected yX5_selected, Cond.code yX5_selected cX5_selected 10 (some .int), Cond.methodLink RX5 146 yX5_isLoaded, Cond.instanceMethod yX5_isLoaded, Cond.selects RX5 yX5_isLoaded yX5_isLoaded, Cond.code yX5_isLoaded cX5_isLoaded 3 (some .boolean), Cond.methodLink RX5 149 yX5_overrides, Cond.instanceMethod yX5_overrides, Cond.selects RX5 yX5_overrides yX5_overrides, Cond.code yX5_overrides cX5_overrides 6 (some .boolean), Cond.methodLink RX5 161 yX5_areAlike, Cond.instanceMethod yX5_areAlike, Cond.selects RX5 yX5_areAlike yX5_areAlike, Cond.code yX5_areAlike cX5_areAlike 7 (some .boolean)]
def wsX5_receivers : List Cond := .code yX5_receivers cX5_receivers 9 (some .int) :: ((wsX5_receivers_r1 ++ (wsX5_receivers_r2 ++ (wsX5_receivers_r3 ++ (wsX5_receivers_r4 ++ wsX5_receivers_r5)))) ++ wsX50)
def wsX5_isUnder_r1 : List Cond := [Cond.methodLink RX5 72 yX5_in, Cond.static yX5_in, Cond.initialized RX5, Cond.code yX5_in cX5_in 2 (some .boolean), Cond.methodLink RX5 146 yX5_isLoaded, Cond.instanceMethod yX5_isLoaded, Cond.selects RX5 yX5_isLoaded yX5_isLoaded, Cond.code yX5_isLoaded cX5_isLoaded 3 (some .boolean), Cond.methodLink RX5 104 yX5_loaded, Cond.instanceMethod yX5_loaded, Cond.selects RX5 yX5_loaded yX5_loaded, Cond.code yX5_loaded cX5_loaded 10 (some .int), Cond.fieldLink RX5 62 "LinkPredictorModel" "row" "[I", Cond.fieldLink RX5 65 "LinkPredictorModel" "stage" "[I", Cond.fieldLink RX5 7 "LinkPredictorModel" "there" "[Z", Cond.fieldLink RX5 20 "LinkPredictorModel" "above" "[I", Cond.fieldLink RX5 23 "LinkPredictorModel" "faces" "[I", Cond.methodLink RX5 97 yX5_verdict, Cond.static yX5_verdict, Cond.code yX5_verdict cX5_verdict 2 (some .int), Cond.methodLink RX5 94 yX5_has, Cond.static yX5_has, Cond.code yX5_has cX5_has 2 (some .boolean), Cond.methodLink RX5 101 yX5_isChanged]
def wsX5_isUnder_r2 : List Cond := [Cond.instanceMethod yX5_isChanged, Cond.selects RX5 yX5_isChanged yX5_isChanged, Cond.code yX5_isChanged cX5_isChanged 6 (some .boolean), Cond.fieldLink RX5 13 "LinkPredictorModel" "flags" "[I", Cond.methodLink RX5 116 yX5_under, Cond.instanceMethod yX5_under, Cond.selects RX5 yX5_under yX5_under, Cond.code yX5_under cX5_under 4 (some .boolean), Cond.methodLink RX5 107 yX5_aboveOf, Cond.instanceMethod yX5_aboveOf, Cond.selects RX5 yX5_aboveOf yX5_aboveOf, Cond.code yX5_aboveOf cX5_aboveOf 5 (some .int), Cond.methodLink RX5 110 yX5_facesOf, Cond.instanceMethod yX5_facesOf, Cond.selects RX5 yX5_facesOf yX5_facesOf, Cond.code yX5_facesOf cX5_facesOf 7 (some .int)]
def wsX5_isUnder : List Cond := .code yX5_isUnder cX5_isUnder 4 (some .boolean) :: ((wsX5_isUnder_r1 ++ wsX5_isUnder_r2) ++ wsX50)
def wsX5_neighbours : List Cond := .code yX5_neighbours cX5_neighbours 5 (some .int) :: ([.fieldLink RX5 7 "LinkPredictorModel" "there" "[Z", .methodLink RX5 113 yX5_nestOf, .instanceMethod yX5_nestOf, .selects RX5 yX5_nestOf yX5_nestOf, .initialized RX5, .code yX5_nestOf cX5_nestOf 5 (some .int), .fieldLink RX5 26 "LinkPredictorModel" "host" "[I", .fieldLink RX5 17 "LinkPredictorModel" "pack" "[I"] ++ wsX50)
def wsX5_count_r1 : List Cond := [Cond.fieldLink RX5 7 "LinkPredictorModel" "there" "[Z", Cond.fieldLink RX5 35 "LinkPredictorModel" "many" "[I", Cond.fieldLink RX5 32 "LinkPredictorModel" "gone" "[Z", Cond.fieldLink RX5 29 "LinkPredictorModel" "method" "[Z", Cond.fieldLink RX5 47 "LinkPredictorModel" "marks" "[I", Cond.fieldLink RX5 91 "LinkPredictorModel" "references" "I", Cond.methodLink RX5 72 yX5_in, Cond.static yX5_in, Cond.initialized RX5, Cond.code yX5_in cX5_in 2 (some .boolean), Cond.methodLink RX5 146 yX5_isLoaded, Cond.instanceMethod yX5_isLoaded, Cond.selects RX5 yX5_isLoaded yX5_isLoaded, Cond.code yX5_isLoaded cX5_isLoaded 3 (some .boolean), Cond.methodLink RX5 104 yX5_loaded, Cond.instanceMethod yX5_loaded, Cond.selects RX5 yX5_loaded yX5_loaded, Cond.code yX5_loaded cX5_loaded 10 (some .int), Cond.fieldLink RX5 62 "LinkPredictorModel" "row" "[I", Cond.fieldLink RX5 65 "LinkPredictorModel" "stage" "[I", Cond.fieldLink RX5 20 "LinkPredictorModel" "above" "[I", Cond.fieldLink RX5 23 "LinkPredictorModel" "faces" "[I", Cond.methodLink RX5 97 yX5_verdict, Cond.static yX5_verdict]
def wsX5_count_r2 : List Cond := [Cond.code yX5_verdict cX5_verdict 2 (some .int), Cond.methodLink RX5 94 yX5_has, Cond.static yX5_has, Cond.code yX5_has cX5_has 2 (some .boolean), Cond.methodLink RX5 101 yX5_isChanged, Cond.instanceMethod yX5_isChanged, Cond.selects RX5 yX5_isChanged yX5_isChanged, Cond.code yX5_isChanged cX5_isChanged 6 (some .boolean), Cond.fieldLink RX5 13 "LinkPredictorModel" "flags" "[I", Cond.methodLink RX5 143 yX5_resolved, Cond.instanceMethod yX5_resolved, Cond.selects RX5 yX5_resolved yX5_resolved, Cond.code yX5_resolved cX5_resolved 12 (some .int), Cond.fieldLink RX5 50 "LinkPredictorModel" "kind" "[I", Cond.fieldLink RX5 53 "LinkPredictorModel" "holder" "[I", Cond.fieldLink RX5 56 "LinkPredictorModel" "way" "[I", Cond.fieldLink RX5 17 "LinkPredictorModel" "pack" "[I", Cond.fieldLink RX5 59 "LinkPredictorModel" "asked" "[I", Cond.fieldLink RX5 38 "LinkPredictorModel" "owner" "[I", Cond.methodLink RX5 133 yX5_field, Cond.instanceMethod yX5_field, Cond.selects RX5 yX5_field yX5_field, Cond.code yX5_field cX5_field 10 (some .int), Cond.methodLink RX5 84 yX5_own]
def wsX5_count_r3 : List Cond := [Cond.instanceMethod yX5_own, Cond.selects RX5 yX5_own yX5_own, Cond.code yX5_own cX5_own 7 (some .int), Cond.fieldLink RX5 41 "LinkPredictorModel" "sign" "[I", Cond.methodLink RX5 120 yX5_lay, Cond.instanceMethod yX5_lay, Cond.selects RX5 yX5_lay yX5_lay, Cond.code yX5_lay cX5_lay 5 (some .int), Cond.methodLink RX5 136 yX5_find, Cond.instanceMethod yX5_find, Cond.selects RX5 yX5_find yX5_find, Cond.code yX5_find cX5_find 9 (some .int), Cond.fieldLink RX5 44 "LinkPredictorModel" "access" "[I", Cond.methodLink RX5 126 yX5_specific, Cond.instanceMethod yX5_specific, Cond.selects RX5 yX5_specific yX5_specific, Cond.code yX5_specific cX5_specific 10 (some .int), Cond.methodLink RX5 110 yX5_facesOf, Cond.instanceMethod yX5_facesOf, Cond.selects RX5 yX5_facesOf yX5_facesOf, Cond.code yX5_facesOf cX5_facesOf 7 (some .int), Cond.methodLink RX5 107 yX5_aboveOf, Cond.instanceMethod yX5_aboveOf, Cond.selects RX5 yX5_aboveOf yX5_aboveOf]
def wsX5_count_r4 : List Cond := [Cond.code yX5_aboveOf cX5_aboveOf 5 (some .int), Cond.methodLink RX5 123 yX5_offers, Cond.instanceMethod yX5_offers, Cond.selects RX5 yX5_offers yX5_offers, Cond.code yX5_offers cX5_offers 5 (some .boolean), Cond.methodLink RX5 116 yX5_under, Cond.instanceMethod yX5_under, Cond.selects RX5 yX5_under yX5_under, Cond.code yX5_under cX5_under 4 (some .boolean), Cond.methodLink RX5 130 yX5_bodied, Cond.instanceMethod yX5_bodied, Cond.selects RX5 yX5_bodied yX5_bodied, Cond.code yX5_bodied cX5_bodied 7 (some .int), Cond.methodLink RX5 139 yX5_isOpen, Cond.instanceMethod yX5_isOpen, Cond.selects RX5 yX5_isOpen yX5_isOpen, Cond.code yX5_isOpen cX5_isOpen 9 (some .boolean), Cond.methodLink RX5 113 yX5_nestOf, Cond.instanceMethod yX5_nestOf, Cond.selects RX5 yX5_nestOf yX5_nestOf, Cond.code yX5_nestOf cX5_nestOf 5 (some .int), Cond.fieldLink RX5 26 "LinkPredictorModel" "host" "[I", Cond.methodLink RX5 164 yX5_neighbours, Cond.instanceMethod yX5_neighbours]
def wsX5_count_r5 : List Cond := [Cond.selects RX5 yX5_neighbours yX5_neighbours, Cond.code yX5_neighbours cX5_neighbours 5 (some .int)]
def wsX5_count : List Cond := .code yX5_count cX5_count 5 (some .int) :: ((wsX5_count_r1 ++ (wsX5_count_r2 ++ (wsX5_count_r3 ++ (wsX5_count_r4 ++ wsX5_count_r5)))) ++ wsX50)
def wsJ9_min_7cf53 : List Cond := .code yJ9_min_7cf53 cJ9_min_7cf53 2 (some .int) :: ([])
def wsL_law_r1 : List Cond := [Cond.classLink RL 7 RX4, Cond.instantiable RX4 4, Cond.initialized RX4, Cond.classLink RL 10 RX5, Cond.instantiable RX5 21, Cond.initialized RX5, Cond.methodLink RL 9 yX4_init, Cond.instanceMethod yX4_init, Cond.code yX4_init cX4_init 2 none, Cond.methodLink RX4 3 objectInit, Cond.instanceMethod objectInit, Cond.code objectInit ⟨#[0xb1]⟩ 1 none, Cond.classLink RX4 9 RX0, Cond.instantiable RX0 3, Cond.initialized RX0, Cond.fieldLink RX4 12 "LinkPredictor" "builds" "[LLinkPredictor$Build;", Cond.classLink RX4 16 RX3, Cond.fieldLink RX4 18 "LinkPredictor" "references" "[LLinkPredictor$Reference;", Cond.instantiable RX3 4, Cond.initialized RX3, Cond.fieldLink RX4 23 "LinkPredictor" "referenceCount" "I", Cond.fieldLink RX4 27 "LinkPredictor" "written" "I", Cond.instanceMethod yX0_init, Cond.code yX0_init cX0_init 1 none]
def wsL_law_r2 : List Cond := [Cond.methodLink RX0 3 objectInit, Cond.classLink RX0 9 RX1, Cond.instantiable RX1 10, Cond.initialized RX1, Cond.fieldLink RX0 12 "LinkPredictor$Build" "types" "LLinkPredictor$Hierarchy;", Cond.classLink RX0 18 RX2, Cond.instantiable RX2 6, Cond.initialized RX2, Cond.fieldLink RX0 21 "LinkPredictor$Build" "members" "LLinkPredictor$Members;", Cond.methodLink RX0 11 yX1_init, Cond.instanceMethod yX1_init, Cond.code yX1_init cX1_init 1 none, Cond.methodLink RX1 3 objectInit, Cond.arrayClass .int, Cond.fieldLink RX1 9 "LinkPredictor$Hierarchy" "flags" "[I", Cond.fieldLink RX1 15 "LinkPredictor$Hierarchy" "packs" "[I", Cond.fieldLink RX1 18 "LinkPredictor$Hierarchy" "supers" "[I", Cond.fieldLink RX1 21 "LinkPredictor$Hierarchy" "directFaces" "[I", Cond.fieldLink RX1 24 "LinkPredictor$Hierarchy" "hosts" "[I", Cond.fieldLink RX1 27 "LinkPredictor$Hierarchy" "verdicts" "[I", Cond.fieldLink RX1 30 "LinkPredictor$Hierarchy" "aboves" "[I", Cond.fieldLink RX1 33 "LinkPredictor$Hierarchy" "allFaces" "[I", Cond.fieldLink RX1 40 "LinkPredictor$Hierarchy" "there" "I", Cond.static yX4_bit]
def wsL_law_r3 : List Cond := [Cond.code yX4_bit cX4_bit 1 (some .int), Cond.methodLink RX1 44 yX1_settle, Cond.instanceMethod yX1_settle, Cond.selects RX1 yX1_settle yX1_settle, Cond.code yX1_settle cX1_settle 2 none, Cond.fieldLink RX1 72 "LinkPredictor$Hierarchy" "settled" "I", Cond.methodLink RX1 78 yX1_loadInside, Cond.instanceMethod yX1_loadInside, Cond.selects RX1 yX1_loadInside yX1_loadInside, Cond.code yX1_loadInside cX1_loadInside 4 (some .int), Cond.methodLink RX1 47 yX1_isThere, Cond.instanceMethod yX1_isThere, Cond.selects RX1 yX1_isThere yX1_isThere, Cond.code yX1_isThere cX1_isThere 2 (some .boolean), Cond.static yX4_contains, Cond.code yX4_contains cX4_contains 2 (some .boolean), Cond.methodLink RX1 82 yX1_loadParents, Cond.instanceMethod yX1_loadParents, Cond.selects RX1 yX1_loadParents yX1_loadParents, Cond.static yX4_isGood, Cond.code yX4_isGood cX4_isGood 1 (some .boolean), Cond.methodLink RX4 34 yX4_isWithin, Cond.static yX4_isWithin, Cond.code yX4_isWithin cX4_isWithin 2 (some .boolean)]
def wsL_law_r4 : List Cond := [Cond.methodLink RX1 85 yX1_hasWrongParents, Cond.instanceMethod yX1_hasWrongParents, Cond.selects RX1 yX1_hasWrongParents yX1_hasWrongParents, Cond.code yX1_hasWrongParents cX1_hasWrongParents 4 (some .boolean), Cond.methodLink RX1 92 yX1_isInterface, Cond.instanceMethod yX1_isInterface, Cond.selects RX1 yX1_isInterface yX1_isInterface, Cond.code yX1_isInterface cX1_isInterface 2 (some .boolean), Cond.methodLink RX1 88 yX1_gatherSets, Cond.instanceMethod yX1_gatherSets, Cond.selects RX1 yX1_gatherSets yX1_gatherSets, Cond.code yX1_gatherSets cX1_gatherSets 5 none, Cond.code yX1_loadParents cX1_loadParents 5 (some .int), Cond.instanceMethod yX2_init, Cond.code yX2_init cX2_init 1 none, Cond.methodLink RX2 3 objectInit, Cond.fieldLink RX2 9 "LinkPredictor$Members" "owners" "[I", Cond.fieldLink RX2 15 "LinkPredictor$Members" "keys" "[I", Cond.fieldLink RX2 18 "LinkPredictor$Members" "accesses" "[I", Cond.fieldLink RX2 21 "LinkPredictor$Members" "flags" "[I", Cond.instanceMethod yX3_init, Cond.code yX3_init cX3_init 1 none, Cond.methodLink RX3 3 objectInit, Cond.methodLink RL 12 yX5_init]
def wsL_law_r5 : List Cond := [Cond.instanceMethod yX5_init, Cond.code yX5_init cX5_init 3 none, Cond.methodLink RX5 1 objectInit, Cond.arrayClass .boolean, Cond.fieldLink RX5 7 "LinkPredictorModel" "there" "[Z", Cond.fieldLink RX5 13 "LinkPredictorModel" "flags" "[I", Cond.fieldLink RX5 17 "LinkPredictorModel" "pack" "[I", Cond.fieldLink RX5 20 "LinkPredictorModel" "above" "[I", Cond.fieldLink RX5 23 "LinkPredictorModel" "faces" "[I", Cond.fieldLink RX5 26 "LinkPredictorModel" "host" "[I", Cond.fieldLink RX5 29 "LinkPredictorModel" "method" "[Z", Cond.fieldLink RX5 32 "LinkPredictorModel" "gone" "[Z", Cond.fieldLink RX5 35 "LinkPredictorModel" "many" "[I", Cond.fieldLink RX5 38 "LinkPredictorModel" "owner" "[I", Cond.fieldLink RX5 41 "LinkPredictorModel" "sign" "[I", Cond.fieldLink RX5 44 "LinkPredictorModel" "access" "[I", Cond.fieldLink RX5 47 "LinkPredictorModel" "marks" "[I", Cond.fieldLink RX5 50 "LinkPredictorModel" "kind" "[I", Cond.fieldLink RX5 53 "LinkPredictorModel" "holder" "[I", Cond.fieldLink RX5 56 "LinkPredictorModel" "way" "[I", Cond.fieldLink RX5 59 "LinkPredictorModel" "asked" "[I", Cond.fieldLink RX5 62 "LinkPredictorModel" "row" "[I", Cond.fieldLink RX5 65 "LinkPredictorModel" "stage" "[I", Cond.methodLink RL 13 yX4_type]
def wsL_law_r6 : List Cond := [Cond.instanceMethod yX4_type, Cond.selects RX4 yX4_type yX4_type, Cond.code yX4_type cX4_type 6 (some .boolean), Cond.methodLink RX4 30 yX4_isOrdinaryType, Cond.static yX4_isOrdinaryType, Cond.code yX4_isOrdinaryType cX4_isOrdinaryType 1 (some .boolean), Cond.methodLink RX4 42 yX1_define, Cond.instanceMethod yX1_define, Cond.selects RX1 yX1_define yX1_define, Cond.code yX1_define cX1_define 6 none, Cond.methodLink RL 17 yX5_type, Cond.instanceMethod yX5_type, Cond.selects RX5 yX5_type yX5_type, Cond.code yX5_type cX5_type 7 (some .boolean), Cond.methodLink RX5 72 yX5_in, Cond.static yX5_in, Cond.code yX5_in cX5_in 2 (some .boolean), Cond.methodLink RX5 76 yX5_at, Cond.instanceMethod yX5_at, Cond.selects RX5 yX5_at yX5_at, Cond.code yX5_at cX5_at 2 (some .int), Cond.fieldLink RX5 68 "LinkPredictorModel" "written" "I", Cond.methodLink RL 18 yX4_nest, Cond.instanceMethod yX4_nest]
def wsL_law_r7 : List Cond := [Cond.selects RX4 yX4_nest yX4_nest, Cond.code yX4_nest cX4_nest 3 (some .boolean), Cond.methodLink RX4 48 yX1_putHost, Cond.instanceMethod yX1_putHost, Cond.selects RX1 yX1_putHost yX1_putHost, Cond.code yX1_putHost cX1_putHost 3 (some .boolean), Cond.methodLink RL 22 yX5_nest, Cond.instanceMethod yX5_nest, Cond.selects RX5 yX5_nest yX5_nest, Cond.code yX5_nest cX5_nest 3 (some .boolean), Cond.methodLink RX5 80 yX5_isThere, Cond.instanceMethod yX5_isThere, Cond.selects RX5 yX5_isThere yX5_isThere, Cond.code yX5_isThere cX5_isThere 2 (some .boolean), Cond.methodLink RL 23 yX4_drop, Cond.instanceMethod yX4_drop, Cond.selects RX4 yX4_drop yX4_drop, Cond.code yX4_drop cX4_drop 2 (some .boolean), Cond.methodLink RX4 51 yX0_discardType, Cond.instanceMethod yX0_discardType, Cond.selects RX0 yX0_discardType yX0_discardType, Cond.code yX0_discardType cX0_discardType 2 (some .boolean), Cond.methodLink RX0 25 yX1_takeAway, Cond.instanceMethod yX1_takeAway]
def wsL_law_r8 : List Cond := [Cond.selects RX1 yX1_takeAway yX1_takeAway, Cond.code yX1_takeAway cX1_takeAway 2 (some .boolean), Cond.methodLink RX0 29 yX2_discardAllOf, Cond.instanceMethod yX2_discardAllOf, Cond.selects RX2 yX2_discardAllOf yX2_discardAllOf, Cond.code yX2_discardAllOf cX2_discardAllOf 3 none, Cond.fieldLink RX2 24 "LinkPredictor$Members" "size" "I", Cond.fieldLink RX2 36 "LinkPredictor$Members" "gone" "I", Cond.methodLink RL 27 yX5_drop, Cond.instanceMethod yX5_drop, Cond.selects RX5 yX5_drop yX5_drop, Cond.code yX5_drop cX5_drop 3 (some .boolean), Cond.methodLink RL 28 yX4_member, Cond.instanceMethod yX4_member, Cond.selects RX4 yX4_member yX4_member, Cond.code yX4_member cX4_member 6 (some .int), Cond.methodLink RX4 54 yX0_addMember, Cond.instanceMethod yX0_addMember, Cond.selects RX0 yX0_addMember yX0_addMember, Cond.code yX0_addMember cX0_addMember 6 (some .int), Cond.methodLink RX0 33 yX1_isThere, Cond.methodLink RX0 36 yX2_find, Cond.instanceMethod yX2_find, Cond.selects RX2 yX2_find yX2_find]
def wsL_law_r9 : List Cond := [Cond.code yX2_find cX2_find 6 (some .int), Cond.methodLink RX2 28 yX2_keyOf, Cond.static yX2_keyOf, Cond.code yX2_keyOf cX2_keyOf 2 (some .int), Cond.methodLink RX0 40 yX2_append, Cond.instanceMethod yX2_append, Cond.selects RX2 yX2_append yX2_append, Cond.code yX2_append cX2_append 7 (some .int), Cond.methodLink RL 32 yX5_member, Cond.instanceMethod yX5_member, Cond.selects RX5 yX5_member yX5_member, Cond.code yX5_member cX5_member 7 (some .int), Cond.methodLink RX5 84 yX5_own, Cond.instanceMethod yX5_own, Cond.selects RX5 yX5_own yX5_own, Cond.code yX5_own cX5_own 7 (some .int), Cond.methodLink RL 33 yX4_remake, Cond.instanceMethod yX4_remake, Cond.selects RX4 yX4_remake yX4_remake, Cond.code yX4_remake cX4_remake 4 (some .boolean), Cond.methodLink RX4 62 yX2_change, Cond.instanceMethod yX2_change, Cond.selects RX2 yX2_change yX2_change, Cond.code yX2_change cX2_change 4 (some .boolean)]
def wsL_law_r10 : List Cond := [Cond.methodLink RX2 32 yX2_isPresent, Cond.instanceMethod yX2_isPresent, Cond.selects RX2 yX2_isPresent yX2_isPresent, Cond.code yX2_isPresent cX2_isPresent 2 (some .boolean), Cond.methodLink RL 37 yX5_remake, Cond.instanceMethod yX5_remake, Cond.selects RX5 yX5_remake yX5_remake, Cond.code yX5_remake cX5_remake 4 (some .boolean), Cond.methodLink RX5 88 yX5_isMember, Cond.instanceMethod yX5_isMember, Cond.selects RX5 yX5_isMember yX5_isMember, Cond.code yX5_isMember cX5_isMember 2 (some .boolean), Cond.methodLink RL 38 yX4_remove, Cond.instanceMethod yX4_remove, Cond.selects RX4 yX4_remove yX4_remove, Cond.code yX4_remove cX4_remove 2 (some .boolean), Cond.methodLink RX4 68 yX2_discard, Cond.instanceMethod yX2_discard, Cond.selects RX2 yX2_discard yX2_discard, Cond.code yX2_discard cX2_discard 2 (some .boolean), Cond.methodLink RL 41 yX5_remove, Cond.instanceMethod yX5_remove, Cond.selects RX5 yX5_remove yX5_remove, Cond.code yX5_remove cX5_remove 2 (some .boolean)]
def wsL_law_r11 : List Cond := [Cond.methodLink RL 42 yX4_branch, Cond.instanceMethod yX4_branch, Cond.selects RX4 yX4_branch yX4_branch, Cond.code yX4_branch cX4_branch 1 (some .int), Cond.methodLink RX4 71 yX0_becomeAs, Cond.instanceMethod yX0_becomeAs, Cond.selects RX0 yX0_becomeAs yX0_becomeAs, Cond.code yX0_becomeAs cX0_becomeAs 2 none, Cond.methodLink RX0 44 yX1_becomeAs, Cond.instanceMethod yX1_becomeAs, Cond.selects RX1 yX1_becomeAs yX1_becomeAs, Cond.code yX1_becomeAs cX1_becomeAs 2 none, Cond.methodLink RX1 51 arraycopyName, Cond.native arraycopyName, Cond.static arraycopyName, Cond.initialized "java/lang/System", Cond.methodLink RX0 48 yX2_becomeAs, Cond.instanceMethod yX2_becomeAs, Cond.selects RX2 yX2_becomeAs yX2_becomeAs, Cond.code yX2_becomeAs cX2_becomeAs 2 none, Cond.methodLink RX2 43 arraycopyName, Cond.methodLink RX4 75 yX1_countThere, Cond.instanceMethod yX1_countThere, Cond.selects RX1 yX1_countThere yX1_countThere]
def wsL_law_r12 : List Cond := [Cond.code yX1_countThere cX1_countThere 1 (some .int), Cond.methodLink RX1 67 yJ6_bitCount_0f7a4, Cond.static yJ6_bitCount_0f7a4, Cond.initialized RJ6, Cond.code yJ6_bitCount_0f7a4 cJ6_bitCount_0f7a4 1 (some .int), Cond.constant RJ6 265 (1431655765), Cond.constant RJ6 266 (858993459), Cond.constant RJ6 267 (252645135), Cond.methodLink RL 46 yX5_branch, Cond.instanceMethod yX5_branch, Cond.selects RX5 yX5_branch yX5_branch, Cond.code yX5_branch cX5_branch 3 (some .int), Cond.methodLink RL 47 yX4_write, Cond.instanceMethod yX4_write, Cond.selects RX4 yX4_write yX4_write, Cond.code yX4_write cX4_write 2 (some .boolean), Cond.methodLink RL 50 yX5_write, Cond.instanceMethod yX5_write, Cond.selects RX5 yX5_write yX5_write, Cond.code yX5_write cX5_write 2 (some .boolean), Cond.methodLink RL 51 yX4_refer, Cond.instanceMethod yX4_refer, Cond.selects RX4 yX4_refer yX4_refer, Cond.code yX4_refer cX4_refer 5 (some .int)]
def wsL_law_r13 : List Cond := [Cond.methodLink RX4 79 yX3_put, Cond.instanceMethod yX3_put, Cond.selects RX3 yX3_put yX3_put, Cond.code yX3_put cX3_put 5 none, Cond.fieldLink RX3 9 "LinkPredictor$Reference" "kind" "I", Cond.fieldLink RX3 15 "LinkPredictor$Reference" "holder" "I", Cond.fieldLink RX3 18 "LinkPredictor$Reference" "way" "I", Cond.fieldLink RX3 21 "LinkPredictor$Reference" "sign" "I", Cond.methodLink RL 55 yX5_refer, Cond.instanceMethod yX5_refer, Cond.selects RX5 yX5_refer yX5_refer, Cond.code yX5_refer cX5_refer 5 (some .int), Cond.fieldLink RX5 91 "LinkPredictorModel" "references" "I", Cond.methodLink RL 56 yX4_forget, Cond.instanceMethod yX4_forget, Cond.selects RX4 yX4_forget yX4_forget, Cond.code yX4_forget cX4_forget 2 (some .int), Cond.methodLink RL 59 yX5_forget, Cond.instanceMethod yX5_forget, Cond.selects RX5 yX5_forget yX5_forget, Cond.code yX5_forget cX5_forget 2 (some .int), Cond.methodLink RL 60 yX4_load, Cond.instanceMethod yX4_load, Cond.selects RX4 yX4_load yX4_load]
def wsL_law_r14 : List Cond := [Cond.code yX4_load cX4_load 3 (some .int), Cond.methodLink RX4 83 yX1_loading, Cond.instanceMethod yX1_loading, Cond.selects RX1 yX1_loading yX1_loading, Cond.code yX1_loading cX1_loading 2 (some .int), Cond.methodLink RL 64 yX5_load, Cond.instanceMethod yX5_load, Cond.selects RX5 yX5_load yX5_load, Cond.code yX5_load cX5_load 3 (some .int), Cond.methodLink RX5 104 yX5_loaded, Cond.instanceMethod yX5_loaded, Cond.selects RX5 yX5_loaded yX5_loaded, Cond.code yX5_loaded cX5_loaded 10 (some .int), Cond.methodLink RX5 97 yX5_verdict, Cond.static yX5_verdict, Cond.code yX5_verdict cX5_verdict 2 (some .int), Cond.methodLink RX5 94 yX5_has, Cond.static yX5_has, Cond.code yX5_has cX5_has 2 (some .boolean), Cond.methodLink RX5 101 yX5_isChanged, Cond.instanceMethod yX5_isChanged, Cond.selects RX5 yX5_isChanged yX5_isChanged, Cond.code yX5_isChanged cX5_isChanged 6 (some .boolean), Cond.methodLink RL 65 yX4_resolve]
def wsL_law_r15 : List Cond := [Cond.instanceMethod yX4_resolve, Cond.selects RX4 yX4_resolve yX4_resolve, Cond.code yX4_resolve cX4_resolve 3 (some .int), Cond.methodLink RX4 87 yX0_resolution, Cond.instanceMethod yX0_resolution, Cond.selects RX0 yX0_resolution yX0_resolution, Cond.code yX0_resolution cX0_resolution 3 (some .int), Cond.methodLink RX0 57 yX1_loading, Cond.methodLink RX0 67 yX1_reaching, Cond.instanceMethod yX1_reaching, Cond.selects RX1 yX1_reaching yX1_reaching, Cond.code yX1_reaching cX1_reaching 4 (some .int), Cond.methodLink RX1 64 yX1_isSamePackage, Cond.instanceMethod yX1_isSamePackage, Cond.selects RX1 yX1_isSamePackage yX1_isSamePackage, Cond.code yX1_isSamePackage cX1_isSamePackage 3 (some .boolean), Cond.methodLink RX0 74 yX3_isOfField, Cond.instanceMethod yX3_isOfField, Cond.selects RX3 yX3_isOfField yX3_isOfField, Cond.code yX3_isOfField cX3_isOfField 1 (some .boolean), Cond.methodLink RX0 78 yX0_lookUpField, Cond.instanceMethod yX0_lookUpField, Cond.selects RX0 yX0_lookUpField yX0_lookUpField, Cond.code yX0_lookUpField cX0_lookUpField 3 (some .int)]
def wsL_law_r16 : List Cond := [Cond.fieldLink RX0 109 "LinkPredictor$Build" "searched" "I", Cond.methodLink RX0 112 yX0_findField, Cond.instanceMethod yX0_findField, Cond.selects RX0 yX0_findField yX0_findField, Cond.code yX0_findField cX0_findField 5 (some .int), Cond.methodLink RX0 121 yX1_directFacesOf, Cond.instanceMethod yX1_directFacesOf, Cond.selects RX1 yX1_directFacesOf yX1_directFacesOf, Cond.code yX1_directFacesOf cX1_directFacesOf 2 (some .int), Cond.methodLink RX0 124 yX1_superOf, Cond.instanceMethod yX1_superOf, Cond.selects RX1 yX1_superOf yX1_superOf, Cond.code yX1_superOf cX1_superOf 2 (some .int), Cond.methodLink RX0 82 yX0_lookUpMethod, Cond.instanceMethod yX0_lookUpMethod, Cond.selects RX0 yX0_lookUpMethod yX0_lookUpMethod, Cond.code yX0_lookUpMethod cX0_lookUpMethod 4 (some .int), Cond.methodLink RX0 127 yX1_isInterface, Cond.methodLink RX0 130 yX0_findInInterface, Cond.instanceMethod yX0_findInInterface, Cond.selects RX0 yX0_findInInterface yX0_findInInterface, Cond.code yX0_findInInterface cX0_findInInterface 5 (some .int), Cond.methodLink RX0 96 yX2_accessOf, Cond.instanceMethod yX2_accessOf]
def wsL_law_r17 : List Cond := [Cond.selects RX2 yX2_accessOf yX2_accessOf, Cond.code yX2_accessOf cX2_accessOf 2 (some .int), Cond.methodLink RX0 139 yX2_isStatic, Cond.instanceMethod yX2_isStatic, Cond.selects RX2 yX2_isStatic yX2_isStatic, Cond.code yX2_isStatic cX2_isStatic 2 (some .boolean), Cond.methodLink RX0 133 yX0_findInAbove, Cond.instanceMethod yX0_findInAbove, Cond.selects RX0 yX0_findInAbove yX0_findInAbove, Cond.code yX0_findInAbove cX0_findInAbove 6 (some .int), Cond.methodLink RX0 136 yX0_findBest, Cond.instanceMethod yX0_findBest, Cond.selects RX0 yX0_findBest yX0_findBest, Cond.code yX0_findBest cX0_findBest 5 (some .int), Cond.methodLink RX0 142 yX1_facesOf, Cond.instanceMethod yX1_facesOf, Cond.selects RX1 yX1_facesOf yX1_facesOf, Cond.code yX1_facesOf cX1_facesOf 2 (some .int), Cond.methodLink RX0 145 yX2_ownersOfInheritable, Cond.instanceMethod yX2_ownersOfInheritable, Cond.selects RX2 yX2_ownersOfInheritable yX2_ownersOfInheritable, Cond.code yX2_ownersOfInheritable cX2_ownersOfInheritable 5 (some .int), Cond.methodLink RX2 53 yX2_isInheritable, Cond.instanceMethod yX2_isInheritable]
def wsL_law_r18 : List Cond := [Cond.selects RX2 yX2_isInheritable yX2_isInheritable, Cond.code yX2_isInheritable cX2_isInheritable 2 (some .boolean), Cond.methodLink RX0 148 yX1_mostSpecificOf, Cond.instanceMethod yX1_mostSpecificOf, Cond.selects RX1 yX1_mostSpecificOf yX1_mostSpecificOf, Cond.code yX1_mostSpecificOf cX1_mostSpecificOf 4 (some .int), Cond.methodLink RX0 151 yX0_findOnlyWithBody, Cond.instanceMethod yX0_findOnlyWithBody, Cond.selects RX0 yX0_findOnlyWithBody yX0_findOnlyWithBody, Cond.code yX0_findOnlyWithBody cX0_findOnlyWithBody 6 (some .int), Cond.methodLink RX0 162 yX2_isAbstract, Cond.instanceMethod yX2_isAbstract, Cond.selects RX2 yX2_isAbstract yX2_isAbstract, Cond.code yX2_isAbstract cX2_isAbstract 2 (some .boolean), Cond.methodLink RX0 154 yX0_findLeast, Cond.instanceMethod yX0_findLeast, Cond.selects RX0 yX0_findLeast yX0_findLeast, Cond.code yX0_findLeast cX0_findLeast 6 (some .int), Cond.methodLink RX0 157 Lib.Math.min.name, Cond.static Lib.Math.min.name, Cond.initialized "java/lang/Math", Cond.code Lib.Math.min.name Lib.Math.min.code 2 (some .int), Cond.methodLink RX0 85 yX0_checkMember, Cond.instanceMethod yX0_checkMember]
def wsL_law_r19 : List Cond := [Cond.selects RX0 yX0_checkMember yX0_checkMember, Cond.code yX0_checkMember cX0_checkMember 3 (some .int), Cond.methodLink RX0 165 yX0_isAccessible, Cond.instanceMethod yX0_isAccessible, Cond.selects RX0 yX0_isAccessible yX0_isAccessible, Cond.code yX0_isAccessible cX0_isAccessible 5 (some .boolean), Cond.methodLink RX0 178 yX2_ownerOf, Cond.instanceMethod yX2_ownerOf, Cond.selects RX2 yX2_ownerOf yX2_ownerOf, Cond.code yX2_ownerOf cX2_ownerOf 2 (some .int), Cond.methodLink RX0 184 yX1_isSamePackage, Cond.methodLink RX0 187 yX0_isInherited, Cond.instanceMethod yX0_isInherited, Cond.selects RX0 yX0_isInherited yX0_isInherited, Cond.code yX0_isInherited cX0_isInherited 4 (some .boolean), Cond.methodLink RX0 193 yX1_hasAbove, Cond.instanceMethod yX1_hasAbove, Cond.selects RX1 yX1_hasAbove yX1_hasAbove, Cond.code yX1_hasAbove cX1_hasAbove 3 (some .boolean), Cond.methodLink RX0 181 yX1_liesUnder, Cond.instanceMethod yX1_liesUnder, Cond.selects RX1 yX1_liesUnder yX1_liesUnder, Cond.code yX1_liesUnder cX1_liesUnder 3 (some .boolean), Cond.methodLink RX0 190 yX1_nestOf]
def wsL_law_r20 : List Cond := [Cond.instanceMethod yX1_nestOf, Cond.selects RX1 yX1_nestOf yX1_nestOf, Cond.code yX1_nestOf cX1_nestOf 3 (some .int), Cond.methodLink RX0 169 yX3_needsStatic, Cond.instanceMethod yX3_needsStatic, Cond.selects RX3 yX3_needsStatic yX3_needsStatic, Cond.code yX3_needsStatic cX3_needsStatic 1 (some .boolean), Cond.methodLink RX0 172 yX3_isPut, Cond.instanceMethod yX3_isPut, Cond.selects RX3 yX3_isPut yX3_isPut, Cond.code yX3_isPut cX3_isPut 1 (some .boolean), Cond.methodLink RX0 175 yX2_isFinal, Cond.instanceMethod yX2_isFinal, Cond.selects RX2 yX2_isFinal yX2_isFinal, Cond.code yX2_isFinal cX2_isFinal 2 (some .boolean), Cond.methodLink RL 68 yX5_resolve, Cond.instanceMethod yX5_resolve, Cond.selects RX5 yX5_resolve yX5_resolve, Cond.code yX5_resolve cX5_resolve 3 (some .int), Cond.methodLink RX5 152 yX5_isAsk, Cond.instanceMethod yX5_isAsk, Cond.selects RX5 yX5_isAsk yX5_isAsk, Cond.code yX5_isAsk cX5_isAsk 3 (some .boolean), Cond.methodLink RX5 143 yX5_resolved]
def wsL_law_r21 : List Cond := [Cond.instanceMethod yX5_resolved, Cond.selects RX5 yX5_resolved yX5_resolved, Cond.code yX5_resolved cX5_resolved 12 (some .int), Cond.methodLink RX5 133 yX5_field, Cond.instanceMethod yX5_field, Cond.selects RX5 yX5_field yX5_field, Cond.code yX5_field cX5_field 10 (some .int), Cond.methodLink RX5 120 yX5_lay, Cond.instanceMethod yX5_lay, Cond.selects RX5 yX5_lay yX5_lay, Cond.code yX5_lay cX5_lay 5 (some .int), Cond.methodLink RX5 136 yX5_find, Cond.instanceMethod yX5_find, Cond.selects RX5 yX5_find yX5_find, Cond.code yX5_find cX5_find 9 (some .int), Cond.methodLink RX5 126 yX5_specific, Cond.instanceMethod yX5_specific, Cond.selects RX5 yX5_specific yX5_specific, Cond.code yX5_specific cX5_specific 10 (some .int), Cond.methodLink RX5 110 yX5_facesOf, Cond.instanceMethod yX5_facesOf, Cond.selects RX5 yX5_facesOf yX5_facesOf, Cond.code yX5_facesOf cX5_facesOf 7 (some .int), Cond.methodLink RX5 107 yX5_aboveOf]
def wsL_law_r22 : List Cond := [Cond.instanceMethod yX5_aboveOf, Cond.selects RX5 yX5_aboveOf yX5_aboveOf, Cond.code yX5_aboveOf cX5_aboveOf 5 (some .int), Cond.methodLink RX5 123 yX5_offers, Cond.instanceMethod yX5_offers, Cond.selects RX5 yX5_offers yX5_offers, Cond.code yX5_offers cX5_offers 5 (some .boolean), Cond.methodLink RX5 116 yX5_under, Cond.instanceMethod yX5_under, Cond.selects RX5 yX5_under yX5_under, Cond.code yX5_under cX5_under 4 (some .boolean), Cond.methodLink RX5 130 yX5_bodied, Cond.instanceMethod yX5_bodied, Cond.selects RX5 yX5_bodied yX5_bodied, Cond.code yX5_bodied cX5_bodied 7 (some .int), Cond.methodLink RX5 139 yX5_isOpen, Cond.instanceMethod yX5_isOpen, Cond.selects RX5 yX5_isOpen yX5_isOpen, Cond.code yX5_isOpen cX5_isOpen 9 (some .boolean), Cond.methodLink RX5 113 yX5_nestOf, Cond.instanceMethod yX5_nestOf, Cond.selects RX5 yX5_nestOf yX5_nestOf, Cond.code yX5_nestOf cX5_nestOf 5 (some .int), Cond.methodLink RL 69 yX4_select]
def wsL_law_r23 : List Cond := [Cond.instanceMethod yX4_select, Cond.selects RX4 yX4_select yX4_select, Cond.code yX4_select cX4_select 5 (some .int), Cond.methodLink RX4 91 yX0_selection, Cond.instanceMethod yX0_selection, Cond.selects RX0 yX0_selection yX0_selection, Cond.code yX0_selection cX0_selection 6 (some .int), Cond.methodLink RX0 89 yX3_hasReceiver, Cond.instanceMethod yX3_hasReceiver, Cond.selects RX3 yX3_hasReceiver yX3_hasReceiver, Cond.code yX3_hasReceiver cX3_hasReceiver 1 (some .boolean), Cond.methodLink RX0 92 yX0_isFit, Cond.instanceMethod yX0_isFit, Cond.selects RX0 yX0_isFit yX0_isFit, Cond.code yX0_isFit cX0_isFit 3 (some .boolean), Cond.methodLink RX0 196 yX1_canBeMade, Cond.instanceMethod yX1_canBeMade, Cond.selects RX1 yX1_canBeMade yX1_canBeMade, Cond.code yX1_canBeMade cX1_canBeMade 2 (some .boolean), Cond.methodLink RX0 102 yX0_selectFor, Cond.instanceMethod yX0_selectFor, Cond.selects RX0 yX0_selectFor yX0_selectFor, Cond.code yX0_selectFor cX0_selectFor 7 (some .int), Cond.methodLink RX0 199 yX0_overrides]
def wsL_law_r24 : List Cond := [Cond.instanceMethod yX0_overrides, Cond.selects RX0 yX0_overrides yX0_overrides, Cond.code yX0_overrides cX0_overrides 3 (some .boolean), Cond.methodLink RX0 205 yX2_isInheritable, Cond.methodLink RX0 202 yX0_selectFromFaces, Cond.instanceMethod yX0_selectFromFaces, Cond.selects RX0 yX0_selectFromFaces yX0_selectFromFaces, Cond.code yX0_selectFromFaces cX0_selectFromFaces 5 (some .int), Cond.methodLink RX0 106 yX0_checkSelected, Cond.instanceMethod yX0_checkSelected, Cond.selects RX0 yX0_checkSelected yX0_checkSelected, Cond.code yX0_checkSelected cX0_checkSelected 4 (some .int), Cond.methodLink RL 73 yX5_select, Cond.instanceMethod yX5_select, Cond.selects RX5 yX5_select yX5_select, Cond.code yX5_select cX5_select 4 (some .int), Cond.methodLink RX5 155 yX5_selects, Cond.instanceMethod yX5_selects, Cond.selects RX5 yX5_selects yX5_selects, Cond.code yX5_selects cX5_selects 3 (some .boolean), Cond.methodLink RX5 158 yX5_selected, Cond.instanceMethod yX5_selected, Cond.selects RX5 yX5_selected yX5_selected, Cond.code yX5_selected cX5_selected 10 (some .int)]
def wsL_law_r25 : List Cond := [Cond.methodLink RX5 146 yX5_isLoaded, Cond.instanceMethod yX5_isLoaded, Cond.selects RX5 yX5_isLoaded yX5_isLoaded, Cond.code yX5_isLoaded cX5_isLoaded 3 (some .boolean), Cond.methodLink RX5 149 yX5_overrides, Cond.instanceMethod yX5_overrides, Cond.selects RX5 yX5_overrides yX5_overrides, Cond.code yX5_overrides cX5_overrides 6 (some .boolean), Cond.methodLink RL 74 yX4_compare, Cond.instanceMethod yX4_compare, Cond.selects RX4 yX4_compare yX4_compare, Cond.code yX4_compare cX4_compare 4 (some .int), Cond.methodLink RX4 95 yX4_areAlike, Cond.instanceMethod yX4_areAlike, Cond.selects RX4 yX4_areAlike yX4_areAlike, Cond.code yX4_areAlike cX4_areAlike 5 (some .boolean), Cond.methodLink RX4 126 yX2_isSameThing, Cond.instanceMethod yX2_isSameThing, Cond.selects RX2 yX2_isSameThing yX2_isSameThing, Cond.code yX2_isSameThing cX2_isSameThing 4 (some .boolean), Cond.methodLink RX4 98 yX4_isGood, Cond.methodLink RL 78 yX5_compare, Cond.instanceMethod yX5_compare, Cond.selects RX5 yX5_compare yX5_compare]
def wsL_law_r26 : List Cond := [Cond.code yX5_compare cX5_compare 4 (some .int), Cond.methodLink RX5 161 yX5_areAlike, Cond.instanceMethod yX5_areAlike, Cond.selects RX5 yX5_areAlike yX5_areAlike, Cond.code yX5_areAlike cX5_areAlike 7 (some .boolean), Cond.methodLink RL 79 yX4_receivers, Cond.instanceMethod yX4_receivers, Cond.selects RX4 yX4_receivers yX4_receivers, Cond.code yX4_receivers cX4_receivers 10 (some .int), Cond.methodLink RX4 101 yX4_isSuchReceiver, Cond.instanceMethod yX4_isSuchReceiver, Cond.selects RX4 yX4_isSuchReceiver yX4_isSuchReceiver, Cond.code yX4_isSuchReceiver cX4_isSuchReceiver 4 (some .boolean), Cond.methodLink RL 82 yX5_receivers, Cond.instanceMethod yX5_receivers, Cond.selects RX5 yX5_receivers yX5_receivers, Cond.code yX5_receivers cX5_receivers 9 (some .int), Cond.methodLink RL 83 yX4_isUnder, Cond.instanceMethod yX4_isUnder, Cond.selects RX4 yX4_isUnder yX4_isUnder, Cond.code yX4_isUnder cX4_isUnder 5 (some .boolean), Cond.methodLink RX4 104 yX1_liesUnder, Cond.methodLink RL 86 yX5_isUnder, Cond.instanceMethod yX5_isUnder]
def wsL_law_r27 : List Cond := [Cond.selects RX5 yX5_isUnder yX5_isUnder, Cond.code yX5_isUnder cX5_isUnder 4 (some .boolean), Cond.methodLink RL 87 yX4_count, Cond.instanceMethod yX4_count, Cond.selects RX4 yX4_count yX4_count, Cond.code yX4_count cX4_count 4 (some .int), Cond.methodLink RX4 107 yX2_countPresent, Cond.instanceMethod yX2_countPresent, Cond.selects RX2 yX2_countPresent yX2_countPresent, Cond.code yX2_countPresent cX2_countPresent 1 (some .int), Cond.methodLink RX2 56 yJ6_bitCount_0f7a4, Cond.methodLink RX4 110 yX2_countAll, Cond.instanceMethod yX2_countAll, Cond.selects RX2 yX2_countAll yX2_countAll, Cond.code yX2_countAll cX2_countAll 1 (some .int), Cond.methodLink RX4 113 yX4_countGoodReferences, Cond.instanceMethod yX4_countGoodReferences, Cond.selects RX4 yX4_countGoodReferences yX4_countGoodReferences, Cond.code yX4_countGoodReferences cX4_countGoodReferences 4 (some .int), Cond.methodLink RX4 117 yX1_countLoaded, Cond.instanceMethod yX1_countLoaded, Cond.selects RX1 yX1_countLoaded yX1_countLoaded, Cond.code yX1_countLoaded cX1_countLoaded 1 (some .int), Cond.methodLink RX4 120 yX2_countAbstractMethods]
def wsL_law_r28 : List Cond := [Cond.instanceMethod yX2_countAbstractMethods, Cond.selects RX2 yX2_countAbstractMethods yX2_countAbstractMethods, Cond.code yX2_countAbstractMethods cX2_countAbstractMethods 3 (some .int), Cond.methodLink RX2 61 yX2_isAbstract, Cond.methodLink RX4 123 yX1_nestSharers, Cond.instanceMethod yX1_nestSharers, Cond.selects RX1 yX1_nestSharers yX1_nestSharers, Cond.code yX1_nestSharers cX1_nestSharers 4 (some .int), Cond.methodLink RX1 75 yX1_nestOf, Cond.methodLink RL 90 yX5_count, Cond.instanceMethod yX5_count, Cond.selects RX5 yX5_count yX5_count, Cond.code yX5_count cX5_count 5 (some .int), Cond.methodLink RX5 164 yX5_neighbours, Cond.instanceMethod yX5_neighbours, Cond.selects RX5 yX5_neighbours yX5_neighbours, Cond.code yX5_neighbours cX5_neighbours 5 (some .int)]
def wsL_law : List Cond := (wsL_law_r1 ++ (wsL_law_r2 ++ (wsL_law_r3 ++ (wsL_law_r4 ++ (wsL_law_r5 ++ (wsL_law_r6 ++ (wsL_law_r7 ++ (wsL_law_r8 ++ (wsL_law_r9 ++ (wsL_law_r10 ++ (wsL_law_r11 ++ (wsL_law_r12 ++ (wsL_law_r13 ++ (wsL_law_r14 ++ (wsL_law_r15 ++ (wsL_law_r16 ++ (wsL_law_r17 ++ (wsL_law_r18 ++ (wsL_law_r19 ++ (wsL_law_r20 ++ (wsL_law_r21 ++ (wsL_law_r22 ++ (wsL_law_r23 ++ (wsL_law_r24 ++ (wsL_law_r25 ++ (wsL_law_r26 ++ (wsL_law_r27 ++ wsL_law_r28))))))))))))))))))))))))))) ++ wsX40 ++ wsX50 ++ wsX00 ++ wsX30 ++ wsX10 ++ wsX20 ++ ([] : List Cond)
set_option maxRecDepth 20000 in
theorem wsL_law_in : ∀ w ∈ wsL_law, w ∈ lw_tbl := fun w h => (goodIn_p wsL_law [64, 67, 73, 79, 83, 87, 91, 95, 98, 105, 108, 112, 116, 120, 102, 157, 195, 594, 230, 233, 237, 664, 667, 671, 241, 245, 675, 679, 249, 253, 257, 261, 683, 266, 270, 275, 278, 283, 687, 691, 287, 291, 295, 695, 699, 300, 304, 703, 308, 312, 316, 323, 328, 331, 707, 338, 711, 342, 346, 715, 350, 719, 354, 358, 723, 727, 730, 733, 737, 362, 366, 372, 376, 380, 384, 388, 394, 398, 402, 407, 411, 415, 419, 423, 427, 431, 435, 439, 443, 447, 451, 454, 458, 462, 466, 471, 475, 479, 483, 487, 491, 495, 741, 745, 749, 753, 757, 761, 765, 769, 773, 777, 781, 785, 789, 793, 499, 503, 507, 511, 515, 519, 523, 528, 532, 797, 801, 805, 809, 813, 536, 540, 544, 817, 821, 549, 553, 825, 557, 829, 562, 566, 571, 575, 579, 583, 588, 833, 837] (by decide +kernel) (by decide +kernel) w h).1
theorem inlX0 : ∀ w ∈ wsX00, w ∈ wsL_law := fun _ h => List.mem_append_left _ (List.mem_append_left _ (List.mem_append_left _ (List.mem_append_left _ (List.mem_append_right _ h))))
theorem inX0 : ∀ w ∈ wsX00, w ∈ lw_tbl := fun w h => wsL_law_in w (inlX0 w h)
theorem inlX1 : ∀ w ∈ wsX10, w ∈ wsL_law := fun _ h => List.mem_append_left _ (List.mem_append_left _ (List.mem_append_right _ h))
theorem inX1 : ∀ w ∈ wsX10, w ∈ lw_tbl := fun w h => wsL_law_in w (inlX1 w h)
theorem inlX2 : ∀ w ∈ wsX20, w ∈ wsL_law := fun _ h => List.mem_append_left _ (List.mem_append_right _ h)
theorem inX2 : ∀ w ∈ wsX20, w ∈ lw_tbl := fun w h => wsL_law_in w (inlX2 w h)
theorem inlX3 : ∀ w ∈ wsX30, w ∈ wsL_law := fun _ h => List.mem_append_left _ (List.mem_append_left _ (List.mem_append_left _ (List.mem_append_right _ h)))
theorem inX3 : ∀ w ∈ wsX30, w ∈ lw_tbl := fun w h => wsL_law_in w (inlX3 w h)
theorem inlX4 : ∀ w ∈ wsX40, w ∈ wsL_law := fun _ h => List.mem_append_left _ (List.mem_append_left _ (List.mem_append_left _ (List.mem_append_left _ (List.mem_append_left _ (List.mem_append_left _ (List.mem_append_right _ h))))))
theorem inX4 : ∀ w ∈ wsX40, w ∈ lw_tbl := fun w h => wsL_law_in w (inlX4 w h)
theorem inlX5 : ∀ w ∈ wsX50, w ∈ wsL_law := fun _ h => List.mem_append_left _ (List.mem_append_left _ (List.mem_append_left _ (List.mem_append_left _ (List.mem_append_left _ (List.mem_append_right _ h)))))
theorem inX5 : ∀ w ∈ wsX50, w ∈ lw_tbl := fun w h => wsL_law_in w (inlX5 w h)
theorem inJ6 : ∀ w ∈ wsJ60, w ∈ lw_tbl := by decide +kernel
theorem inJ9 : ∀ w ∈ wsJ90, w ∈ lw_tbl := by decide +kernel
theorem inJ10 : ∀ w ∈ wsJ100, w ∈ lw_tbl := by decide +kernel
set_option maxRecDepth 20000 in
theorem ggX0_init_X1_init : GoodIn wsX0_init wsX1_init := goodIn_r _ [14, 15, 2, 3, 16, 17, 18, 19, 20, 21, 22, 23, 24, 25, 26, 27, 28, 29, 30, 31, 6, 32, 33, 34, 35, 36, 37, 38, 39, 40, 41, 42, 43, 44, 45, 46, 47, 48, 49, 50, 51, 52, 53, 54, 55, 56, 57, 58, 59, 60, 61, 62, 63, 64, 72, 73, 74, 75, 76, 77, 78, 79, 80, 81] (by decide +kernel) (by decide +kernel)
set_option maxRecDepth 20000 in
theorem gX0_init_X1_init : GoodIn wsX0_init (wsX1_init) := ggX0_init_X1_init
set_option maxRecDepth 20000 in
theorem ggX0_init_X2_init : GoodIn wsX0_init wsX2_init := goodIn_r _ [66, 67, 2, 3, 16, 68, 69, 70, 71, 85, 86, 87, 88, 89, 90] (by decide +kernel) (by decide +kernel)
set_option maxRecDepth 20000 in
theorem gX0_init_X2_init_n20 : GoodIn wsX0_init (wsX2_init) := ggX0_init_X2_init
theorem dX0_init_0 : decode cX0_init 0 = .ok (.aload_n 0, 1) := by decide +kernel
theorem dX0_init_1 : decode cX0_init 1 = .ok (.invokespecial 3, 3) := by decide +kernel
theorem dX0_init_4 : decode cX0_init 4 = .ok (.aload_n 0, 1) := by decide +kernel
theorem dX0_init_5 : decode cX0_init 5 = .ok (.new 9, 3) := by decide +kernel
theorem dX0_init_8 : decode cX0_init 8 = .ok (.dup, 1) := by decide +kernel
theorem dX0_init_9 : decode cX0_init 9 = .ok (.invokespecial 11, 3) := by decide +kernel
theorem dX0_init_12 : decode cX0_init 12 = .ok (.putfield 12, 3) := by decide +kernel
theorem dX0_init_15 : decode cX0_init 15 = .ok (.aload_n 0, 1) := by decide +kernel
theorem dX0_init_16 : decode cX0_init 16 = .ok (.new 18, 3) := by decide +kernel
theorem dX0_init_19 : decode cX0_init 19 = .ok (.dup, 1) := by decide +kernel
theorem dX0_init_20 : decode cX0_init 20 = .ok (.invokespecial 20, 3) := by decide +kernel
theorem dX0_init_23 : decode cX0_init 23 = .ok (.putfield 21, 3) := by decide +kernel
theorem dX0_init_26 : decode cX0_init 26 = .ok (.return_, 1) := by decide +kernel
set_option maxRecDepth 20000 in
theorem ggX0_discardType_X1_takeAway : GoodIn wsX0_discardType wsX1_takeAway := goodIn_r _ [7, 8, 9, 10, 11, 6, 12, 13, 14, 15, 16, 17, 18, 19, 20, 21, 22, 23, 24, 25, 26, 27, 28, 29, 30, 31, 32, 33, 34, 35, 36, 37, 38, 39, 40, 41, 42, 43, 44, 45, 46, 47, 48, 49, 50, 51, 52, 53, 65, 66, 67, 68, 69, 70, 71, 72, 73, 74] (by decide +kernel) (by decide +kernel)
set_option maxRecDepth 20000 in
theorem gX0_discardType_X1_takeAway : GoodIn wsX0_discardType (wsV RX0 25 RX1 yX1_takeAway wsX1_takeAway) := goodIn_app (goodIn_of _ (by decide +kernel)) ggX0_discardType_X1_takeAway
set_option maxRecDepth 20000 in
theorem ggX0_discardType_X2_discardAllOf : GoodIn wsX0_discardType wsX2_discardAllOf := goodIn_r _ [58, 59, 60, 61, 16, 14, 17, 75, 76, 77, 78, 79, 80] (by decide +kernel) (by decide +kernel)
set_option maxRecDepth 20000 in
theorem gX0_discardType_X2_discardAllOf : GoodIn wsX0_discardType (wsV RX0 29 RX2 yX2_discardAllOf wsX2_discardAllOf) := goodIn_app (goodIn_of _ (by decide +kernel)) ggX0_discardType_X2_discardAllOf
theorem dX0_discardType_0 : decode cX0_discardType 0 = .ok (.aload_n 0, 1) := by decide +kernel
theorem dX0_discardType_1 : decode cX0_discardType 1 = .ok (.getfield 12, 3) := by decide +kernel
theorem dX0_discardType_4 : decode cX0_discardType 4 = .ok (.iload_n 1, 1) := by decide +kernel
theorem dX0_discardType_5 : decode cX0_discardType 5 = .ok (.invokevirtual 25, 3) := by decide +kernel
theorem dX0_discardType_8 : decode cX0_discardType 8 = .ok (.ifCond .ne 5, 3) := by decide +kernel
theorem dX0_discardType_11 : decode cX0_discardType 11 = .ok (.iconst 0, 1) := by decide +kernel
theorem dX0_discardType_12 : decode cX0_discardType 12 = .ok (.ireturn, 1) := by decide +kernel
theorem dX0_discardType_13 : decode cX0_discardType 13 = .ok (.aload_n 0, 1) := by decide +kernel
theorem dX0_discardType_14 : decode cX0_discardType 14 = .ok (.getfield 21, 3) := by decide +kernel
theorem dX0_discardType_17 : decode cX0_discardType 17 = .ok (.iload_n 1, 1) := by decide +kernel
theorem dX0_discardType_18 : decode cX0_discardType 18 = .ok (.invokevirtual 29, 3) := by decide +kernel
theorem dX0_discardType_21 : decode cX0_discardType 21 = .ok (.iconst 1, 1) := by decide +kernel
theorem dX0_discardType_22 : decode cX0_discardType 22 = .ok (.ireturn, 1) := by decide +kernel
set_option maxRecDepth 20000 in
theorem ggX0_addMember_X1_isThere : GoodIn wsX0_addMember wsX1_isThere := goodIn_r _ [7, 8, 9, 10, 11, 33, 34, 35, 36, 37, 38, 39, 40, 41, 42] (by decide +kernel) (by decide +kernel)
set_option maxRecDepth 20000 in
theorem gX0_addMember_X1_isThere : GoodIn wsX0_addMember (wsV RX0 33 RX1 yX1_isThere wsX1_isThere) := goodIn_app (goodIn_of _ (by decide +kernel)) ggX0_addMember_X1_isThere
set_option maxRecDepth 20000 in
theorem ggX0_addMember_X2_find : GoodIn wsX0_addMember wsX2_find := goodIn_r _ [16, 17, 18, 19, 20, 21, 22, 15, 23, 9, 10, 11, 43, 44, 45, 46, 47, 48] (by decide +kernel) (by decide +kernel)
set_option maxRecDepth 20000 in
theorem gX0_addMember_X2_find : GoodIn wsX0_addMember (wsV RX0 36 RX2 yX2_find wsX2_find) := goodIn_app (goodIn_of _ (by decide +kernel)) ggX0_addMember_X2_find
set_option maxRecDepth 20000 in
theorem ggX0_addMember_X2_append : GoodIn wsX0_addMember wsX2_append := goodIn_r _ [27, 17, 19, 18, 28, 29, 21, 22, 15, 23, 43, 44, 45, 46, 47, 48] (by decide +kernel) (by decide +kernel)
set_option maxRecDepth 20000 in
theorem gX0_addMember_X2_append : GoodIn wsX0_addMember (wsV RX0 40 RX2 yX2_append wsX2_append) := goodIn_app (goodIn_of _ (by decide +kernel)) ggX0_addMember_X2_append
theorem dX0_addMember_0 : decode cX0_addMember 0 = .ok (.aload_n 0, 1) := by decide +kernel
theorem dX0_addMember_1 : decode cX0_addMember 1 = .ok (.getfield 12, 3) := by decide +kernel
theorem dX0_addMember_4 : decode cX0_addMember 4 = .ok (.iload_n 1, 1) := by decide +kernel
theorem dX0_addMember_5 : decode cX0_addMember 5 = .ok (.invokevirtual 33, 3) := by decide +kernel
theorem dX0_addMember_8 : decode cX0_addMember 8 = .ok (.ifCond .eq 18, 3) := by decide +kernel
theorem dX0_addMember_11 : decode cX0_addMember 11 = .ok (.aload_n 0, 1) := by decide +kernel
theorem dX0_addMember_12 : decode cX0_addMember 12 = .ok (.getfield 21, 3) := by decide +kernel
theorem dX0_addMember_15 : decode cX0_addMember 15 = .ok (.iload_n 1, 1) := by decide +kernel
theorem dX0_addMember_16 : decode cX0_addMember 16 = .ok (.iload_n 2, 1) := by decide +kernel
theorem dX0_addMember_17 : decode cX0_addMember 17 = .ok (.iload_n 3, 1) := by decide +kernel
theorem dX0_addMember_18 : decode cX0_addMember 18 = .ok (.invokevirtual 36, 3) := by decide +kernel
theorem dX0_addMember_21 : decode cX0_addMember 21 = .ok (.bipush (-2), 2) := by decide +kernel
theorem dX0_addMember_23 : decode cX0_addMember 23 = .ok (.if_icmp .eq 5, 3) := by decide +kernel
theorem dX0_addMember_26 : decode cX0_addMember 26 = .ok (.iconst (-1), 1) := by decide +kernel
theorem dX0_addMember_27 : decode cX0_addMember 27 = .ok (.ireturn, 1) := by decide +kernel
theorem dX0_addMember_28 : decode cX0_addMember 28 = .ok (.aload_n 0, 1) := by decide +kernel
theorem dX0_addMember_29 : decode cX0_addMember 29 = .ok (.getfield 21, 3) := by decide +kernel
theorem dX0_addMember_32 : decode cX0_addMember 32 = .ok (.iload_n 1, 1) := by decide +kernel
theorem dX0_addMember_33 : decode cX0_addMember 33 = .ok (.iload_n 2, 1) := by decide +kernel
theorem dX0_addMember_34 : decode cX0_addMember 34 = .ok (.iload_n 3, 1) := by decide +kernel
theorem dX0_addMember_35 : decode cX0_addMember 35 = .ok (.iload 4, 2) := by decide +kernel
theorem dX0_addMember_37 : decode cX0_addMember 37 = .ok (.iload 5, 2) := by decide +kernel
theorem dX0_addMember_39 : decode cX0_addMember 39 = .ok (.invokevirtual 40, 3) := by decide +kernel
theorem dX0_addMember_42 : decode cX0_addMember 42 = .ok (.ireturn, 1) := by decide +kernel
set_option maxRecDepth 20000 in
theorem ggX0_becomeAs_X1_becomeAs : GoodIn wsX0_becomeAs wsX1_becomeAs := goodIn_r _ [7, 8, 9, 10, 11, 12, 13, 14, 15, 16, 17, 18, 19, 20, 6, 21, 22, 23, 24, 25, 26, 27, 28, 29, 30, 31, 32, 33, 34, 35, 36, 37, 38, 39, 40, 41, 42, 43, 44, 45, 46, 47, 48, 49, 50, 51, 52, 53, 54, 55, 56, 57, 58, 59, 75, 76, 77, 78, 79, 80, 81, 82, 83, 84] (by decide +kernel) (by decide +kernel)
set_option maxRecDepth 20000 in
theorem gX0_becomeAs_X1_becomeAs : GoodIn wsX0_becomeAs (wsV RX0 44 RX1 yX1_becomeAs wsX1_becomeAs) := goodIn_app (goodIn_of _ (by decide +kernel)) ggX0_becomeAs_X1_becomeAs
set_option maxRecDepth 20000 in
theorem ggX0_becomeAs_X2_becomeAs : GoodIn wsX0_becomeAs wsX2_becomeAs := goodIn_r _ [64, 65, 66, 67, 68, 11, 12, 13, 69, 70, 71, 85, 86, 87, 88, 89, 90] (by decide +kernel) (by decide +kernel)
set_option maxRecDepth 20000 in
theorem gX0_becomeAs_X2_becomeAs : GoodIn wsX0_becomeAs (wsV RX0 48 RX2 yX2_becomeAs wsX2_becomeAs) := goodIn_app (goodIn_of _ (by decide +kernel)) ggX0_becomeAs_X2_becomeAs
theorem dX0_becomeAs_0 : decode cX0_becomeAs 0 = .ok (.aload_n 0, 1) := by decide +kernel
theorem dX0_becomeAs_1 : decode cX0_becomeAs 1 = .ok (.getfield 12, 3) := by decide +kernel
theorem dX0_becomeAs_4 : decode cX0_becomeAs 4 = .ok (.aload_n 1, 1) := by decide +kernel
theorem dX0_becomeAs_5 : decode cX0_becomeAs 5 = .ok (.getfield 12, 3) := by decide +kernel
theorem dX0_becomeAs_8 : decode cX0_becomeAs 8 = .ok (.invokevirtual 44, 3) := by decide +kernel
theorem dX0_becomeAs_11 : decode cX0_becomeAs 11 = .ok (.aload_n 0, 1) := by decide +kernel
theorem dX0_becomeAs_12 : decode cX0_becomeAs 12 = .ok (.getfield 21, 3) := by decide +kernel
theorem dX0_becomeAs_15 : decode cX0_becomeAs 15 = .ok (.aload_n 1, 1) := by decide +kernel
theorem dX0_becomeAs_16 : decode cX0_becomeAs 16 = .ok (.getfield 21, 3) := by decide +kernel
theorem dX0_becomeAs_19 : decode cX0_becomeAs 19 = .ok (.invokevirtual 48, 3) := by decide +kernel
theorem dX0_becomeAs_22 : decode cX0_becomeAs 22 = .ok (.return_, 1) := by decide +kernel
set_option maxRecDepth 20000 in
theorem ggX0_resolution_X1_loading : GoodIn wsX0_resolution wsX1_loading := goodIn_r _ [6, 7, 185, 186, 187, 188, 189, 190, 191, 192, 193, 194] (by decide +kernel) (by decide +kernel)
set_option maxRecDepth 20000 in
theorem gX0_resolution_X1_loading : GoodIn wsX0_resolution (wsV RX0 57 RX1 yX1_loading wsX1_loading) := goodIn_app (goodIn_of _ (by decide +kernel)) ggX0_resolution_X1_loading
set_option maxRecDepth 20000 in
theorem ggX0_resolution_X4_isGood : GoodIn wsX0_resolution wsX4_isGood := goodIn_r _ [10, 11, 12, 9, 13] (by decide +kernel) (by decide +kernel)
set_option maxRecDepth 20000 in
theorem gX0_resolution_X4_isGood_n61 : GoodIn wsX0_resolution (wsX4_isGood) := ggX0_resolution_X4_isGood
set_option maxRecDepth 20000 in
theorem ggX0_resolution_X1_reaching : GoodIn wsX0_resolution wsX1_reaching := goodIn_r _ [17, 7, 18, 8, 9, 10, 11, 12, 13, 19, 20, 21, 5, 22, 23, 185, 186, 187, 188, 189, 190, 191, 192, 193, 194] (by decide +kernel) (by decide +kernel)
set_option maxRecDepth 20000 in
theorem gX0_resolution_X1_reaching : GoodIn wsX0_resolution (wsV RX0 67 RX1 yX1_reaching wsX1_reaching) := goodIn_app (goodIn_of _ (by decide +kernel)) ggX0_resolution_X1_reaching
set_option maxRecDepth 20000 in
theorem ggX0_resolution_X3_isOfField : GoodIn wsX0_resolution wsX3_isOfField := goodIn_r _ [28, 29, 181, 182, 183, 184] (by decide +kernel) (by decide +kernel)
set_option maxRecDepth 20000 in
theorem gX0_resolution_X3_isOfField : GoodIn wsX0_resolution (wsV RX0 74 RX3 yX3_isOfField wsX3_isOfField) := goodIn_app (goodIn_of _ (by decide +kernel)) ggX0_resolution_X3_isOfField
set_option maxRecDepth 20000 in
theorem ggX0_resolution_X0_lookUpField : GoodIn wsX0_resolution wsX0_lookUpField := goodIn_r _ [34, 35, 36, 37, 38, 33, 39, 40, 1, 41, 9, 42, 43, 44, 45, 46, 47, 48, 49, 50, 51, 52, 53, 54, 55, 56, 57, 58, 59, 5, 60, 61, 62, 63, 64, 65, 66, 178, 179, 180, 181, 182, 183, 184, 195, 196, 197, 198, 199, 200, 185, 186, 187, 188, 189, 190, 191, 192, 193, 194] (by decide +kernel) (by decide +kernel)
set_option maxRecDepth 20000 in
theorem gX0_resolution_X0_lookUpField : GoodIn wsX0_resolution (wsV RX0 78 RX0 yX0_lookUpField wsX0_lookUpField) := goodIn_app (goodIn_of _ (by decide +kernel)) ggX0_resolution_X0_lookUpField
set_option maxRecDepth 20000 in
theorem ggX0_resolution_X0_lookUpMethod : GoodIn wsX0_resolution wsX0_lookUpMethod := goodIn_r _ [70, 1, 71, 72, 73, 5, 74, 18, 75, 76, 77, 33, 78, 40, 45, 46, 47, 48, 49, 50, 51, 52, 53, 54, 55, 56, 41, 9, 42, 79, 80, 81, 82, 83, 84, 85, 86, 87, 88, 89, 90, 91, 92, 62, 63, 64, 65, 66, 93, 94, 95, 96, 97, 98, 99, 100, 101, 102, 103, 104, 105, 106, 107, 108, 109, 43, 44, 110, 111, 112, 113, 114, 115, 116, 117, 118, 119, 120, 121, 122, 123, 124, 125, 126, 127, 128, 129, 178, 179, 180, 181, 182, 183, 184, 185, 186, 187, 188, 189, 190, 191, 192, 193, 194, 195, 196, 197, 198, 199, 200] (by decide +kernel) (by decide +kernel)
set_option maxRecDepth 20000 in
theorem gX0_resolution_X0_lookUpMethod : GoodIn wsX0_resolution (wsV RX0 82 RX0 yX0_lookUpMethod wsX0_lookUpMethod) := goodIn_app (goodIn_of _ (by decide +kernel)) ggX0_resolution_X0_lookUpMethod
set_option maxRecDepth 20000 in
theorem ggX0_resolution_X0_checkMember : GoodIn wsX0_resolution wsX0_checkMember := goodIn_r _ [133, 40, 1, 134, 135, 136, 33, 137, 138, 139, 140, 48, 141, 52, 79, 80, 81, 82, 83, 142, 20, 21, 5, 22, 23, 143, 144, 145, 146, 147, 148, 149, 150, 151, 41, 9, 42, 84, 85, 86, 87, 88, 152, 153, 154, 155, 101, 156, 157, 158, 159, 160, 161, 162, 163, 164, 165, 19, 166, 167, 168, 27, 169, 29, 170, 171, 172, 173, 174, 175, 176, 177, 118, 119, 120, 121, 181, 182, 183, 184, 178, 179, 180, 195, 196, 197, 198, 199, 200, 185, 186, 187, 188, 189, 190, 191, 192, 193, 194] (by decide +kernel) (by decide +kernel)
set_option maxRecDepth 20000 in
theorem gX0_resolution_X0_checkMember : GoodIn wsX0_resolution (wsV RX0 85 RX0 yX0_checkMember wsX0_checkMember) := goodIn_app (goodIn_of _ (by decide +kernel)) ggX0_resolution_X0_checkMember
theorem dX0_resolution_0 : decode cX0_resolution 0 = .ok (.aload_n 0, 1) := by decide +kernel
theorem dX0_resolution_1 : decode cX0_resolution 1 = .ok (.getfield 12, 3) := by decide +kernel
theorem dX0_resolution_4 : decode cX0_resolution 4 = .ok (.aload_n 1, 1) := by decide +kernel
theorem dX0_resolution_5 : decode cX0_resolution 5 = .ok (.getfield 51, 3) := by decide +kernel
theorem dX0_resolution_8 : decode cX0_resolution 8 = .ok (.invokevirtual 57, 3) := by decide +kernel
theorem dX0_resolution_11 : decode cX0_resolution 11 = .ok (.istore_n 2, 1) := by decide +kernel
theorem dX0_resolution_12 : decode cX0_resolution 12 = .ok (.iload_n 2, 1) := by decide +kernel
theorem dX0_resolution_13 : decode cX0_resolution 13 = .ok (.invokestatic 61, 3) := by decide +kernel
theorem dX0_resolution_16 : decode cX0_resolution 16 = .ok (.ifCond .ne 5, 3) := by decide +kernel
theorem dX0_resolution_19 : decode cX0_resolution 19 = .ok (.iload_n 2, 1) := by decide +kernel
theorem dX0_resolution_20 : decode cX0_resolution 20 = .ok (.ireturn, 1) := by decide +kernel
theorem dX0_resolution_21 : decode cX0_resolution 21 = .ok (.aload_n 0, 1) := by decide +kernel
theorem dX0_resolution_22 : decode cX0_resolution 22 = .ok (.getfield 12, 3) := by decide +kernel
theorem dX0_resolution_25 : decode cX0_resolution 25 = .ok (.aload_n 1, 1) := by decide +kernel
theorem dX0_resolution_26 : decode cX0_resolution 26 = .ok (.getfield 64, 3) := by decide +kernel
theorem dX0_resolution_29 : decode cX0_resolution 29 = .ok (.aload_n 1, 1) := by decide +kernel
theorem dX0_resolution_30 : decode cX0_resolution 30 = .ok (.getfield 51, 3) := by decide +kernel
theorem dX0_resolution_33 : decode cX0_resolution 33 = .ok (.invokevirtual 67, 3) := by decide +kernel
theorem dX0_resolution_36 : decode cX0_resolution 36 = .ok (.istore_n 2, 1) := by decide +kernel
theorem dX0_resolution_37 : decode cX0_resolution 37 = .ok (.iload_n 2, 1) := by decide +kernel
theorem dX0_resolution_38 : decode cX0_resolution 38 = .ok (.invokestatic 61, 3) := by decide +kernel
theorem dX0_resolution_41 : decode cX0_resolution 41 = .ok (.ifCond .eq 12, 3) := by decide +kernel
theorem dX0_resolution_44 : decode cX0_resolution 44 = .ok (.aload_n 1, 1) := by decide +kernel
theorem dX0_resolution_45 : decode cX0_resolution 45 = .ok (.getfield 71, 3) := by decide +kernel
theorem dX0_resolution_48 : decode cX0_resolution 48 = .ok (.bipush 8, 2) := by decide +kernel
theorem dX0_resolution_50 : decode cX0_resolution 50 = .ok (.if_icmp .ne 5, 3) := by decide +kernel
theorem dX0_resolution_53 : decode cX0_resolution 53 = .ok (.iload_n 2, 1) := by decide +kernel
theorem dX0_resolution_54 : decode cX0_resolution 54 = .ok (.ireturn, 1) := by decide +kernel
theorem dX0_resolution_55 : decode cX0_resolution 55 = .ok (.aload_n 1, 1) := by decide +kernel
theorem dX0_resolution_56 : decode cX0_resolution 56 = .ok (.invokevirtual 74, 3) := by decide +kernel
theorem dX0_resolution_59 : decode cX0_resolution 59 = .ok (.ifCond .eq 11, 3) := by decide +kernel
theorem dX0_resolution_62 : decode cX0_resolution 62 = .ok (.aload_n 0, 1) := by decide +kernel
theorem dX0_resolution_63 : decode cX0_resolution 63 = .ok (.aload_n 1, 1) := by decide +kernel
theorem dX0_resolution_64 : decode cX0_resolution 64 = .ok (.invokevirtual 78, 3) := by decide +kernel
theorem dX0_resolution_67 : decode cX0_resolution 67 = .ok (.goto 8, 3) := by decide +kernel
theorem dX0_resolution_70 : decode cX0_resolution 70 = .ok (.aload_n 0, 1) := by decide +kernel
theorem dX0_resolution_71 : decode cX0_resolution 71 = .ok (.aload_n 1, 1) := by decide +kernel
theorem dX0_resolution_72 : decode cX0_resolution 72 = .ok (.invokevirtual 82, 3) := by decide +kernel
theorem dX0_resolution_75 : decode cX0_resolution 75 = .ok (.istore_n 2, 1) := by decide +kernel
theorem dX0_resolution_76 : decode cX0_resolution 76 = .ok (.iload_n 2, 1) := by decide +kernel
theorem dX0_resolution_77 : decode cX0_resolution 77 = .ok (.invokestatic 61, 3) := by decide +kernel
theorem dX0_resolution_80 : decode cX0_resolution 80 = .ok (.ifCond .eq 15, 3) := by decide +kernel
theorem dX0_resolution_83 : decode cX0_resolution 83 = .ok (.aload_n 0, 1) := by decide +kernel
theorem dX0_resolution_84 : decode cX0_resolution 84 = .ok (.aload_n 1, 1) := by decide +kernel
theorem dX0_resolution_85 : decode cX0_resolution 85 = .ok (.iload_n 2, 1) := by decide +kernel
theorem dX0_resolution_86 : decode cX0_resolution 86 = .ok (.bipush 16, 2) := by decide +kernel
theorem dX0_resolution_88 : decode cX0_resolution 88 = .ok (.isub, 1) := by decide +kernel
theorem dX0_resolution_89 : decode cX0_resolution 89 = .ok (.invokevirtual 85, 3) := by decide +kernel
theorem dX0_resolution_92 : decode cX0_resolution 92 = .ok (.goto 4, 3) := by decide +kernel
theorem dX0_resolution_95 : decode cX0_resolution 95 = .ok (.iload_n 2, 1) := by decide +kernel
theorem dX0_resolution_96 : decode cX0_resolution 96 = .ok (.ireturn, 1) := by decide +kernel
set_option maxRecDepth 20000 in
theorem ggX0_selection_X3_hasReceiver : GoodIn wsX0_selection wsX3_hasReceiver := goodIn_r _ [6, 7, 114, 115, 116, 117] (by decide +kernel) (by decide +kernel)
set_option maxRecDepth 20000 in
theorem gX0_selection_X3_hasReceiver : GoodIn wsX0_selection (wsV RX0 89 RX3 yX3_hasReceiver wsX3_hasReceiver) := goodIn_app (goodIn_of _ (by decide +kernel)) ggX0_selection_X3_hasReceiver
set_option maxRecDepth 20000 in
theorem ggX0_selection_X4_isGood : GoodIn wsX0_selection wsX4_isGood := goodIn_r _ [10, 11, 12, 9, 13] (by decide +kernel) (by decide +kernel)
set_option maxRecDepth 20000 in
theorem gX0_selection_X4_isGood_n61 : GoodIn wsX0_selection (wsX4_isGood) := ggX0_selection_X4_isGood
set_option maxRecDepth 20000 in
theorem ggX0_selection_X0_isFit : GoodIn wsX0_selection wsX0_isFit := goodIn_r _ [18, 19, 20, 21, 22, 23, 24, 25, 8, 9, 10, 11, 12, 13, 26, 27, 28, 29, 30, 31, 32, 33, 34, 35, 36, 37, 38, 118, 119, 120, 121, 122, 123, 124, 125, 126, 127, 128, 129, 130] (by decide +kernel) (by decide +kernel)
set_option maxRecDepth 20000 in
theorem gX0_selection_X0_isFit : GoodIn wsX0_selection (wsV RX0 92 RX0 yX0_isFit wsX0_isFit) := goodIn_app (goodIn_of _ (by decide +kernel)) ggX0_selection_X0_isFit
set_option maxRecDepth 20000 in
theorem ggX0_selection_X2_accessOf : GoodIn wsX0_selection wsX2_accessOf := goodIn_r _ [43, 44, 131, 132, 133, 134, 135, 136] (by decide +kernel) (by decide +kernel)
set_option maxRecDepth 20000 in
theorem gX0_selection_X2_accessOf : GoodIn wsX0_selection (wsV RX0 96 RX2 yX2_accessOf wsX2_accessOf) := goodIn_app (goodIn_of _ (by decide +kernel)) ggX0_selection_X2_accessOf
set_option maxRecDepth 20000 in
theorem ggX0_selection_X0_selectFor : GoodIn wsX0_selection wsX0_selectFor := goodIn_r _ [48, 1, 19, 49, 50, 51, 42, 52, 53, 54, 55, 56, 57, 58, 59, 37, 9, 38, 60, 61, 62, 17, 63, 64, 65, 66, 67, 44, 68, 39, 40, 41, 43, 69, 70, 71, 72, 73, 74, 75, 23, 76, 77, 78, 79, 80, 81, 82, 83, 84, 85, 86, 87, 88, 89, 90, 36, 91, 92, 93, 94, 95, 96, 97, 98, 99, 100, 101, 102, 103, 104, 105, 106, 107, 108, 109, 118, 119, 120, 131, 132, 133, 134, 135, 136, 121, 122, 123, 124, 125, 126, 127, 128, 129, 130] (by decide +kernel) (by decide +kernel)
set_option maxRecDepth 20000 in
theorem gX0_selection_X0_selectFor : GoodIn wsX0_selection (wsV RX0 102 RX0 yX0_selectFor wsX0_selectFor) := goodIn_app (goodIn_of _ (by decide +kernel)) ggX0_selection_X0_selectFor
set_option maxRecDepth 20000 in
theorem ggX0_selection_X0_checkSelected : GoodIn wsX0_selection wsX0_checkSelected := goodIn_r _ [113, 1, 106, 107, 108, 42, 109, 68, 39, 40, 41, 43, 44, 118, 119, 120, 114, 115, 116, 117, 131, 132, 133, 134, 135, 136] (by decide +kernel) (by decide +kernel)
set_option maxRecDepth 20000 in
theorem gX0_selection_X0_checkSelected : GoodIn wsX0_selection (wsV RX0 106 RX0 yX0_checkSelected wsX0_checkSelected) := goodIn_app (goodIn_of _ (by decide +kernel)) ggX0_selection_X0_checkSelected
theorem dX0_selection_0 : decode cX0_selection 0 = .ok (.aload_n 1, 1) := by decide +kernel
theorem dX0_selection_1 : decode cX0_selection 1 = .ok (.invokevirtual 89, 3) := by decide +kernel
theorem dX0_selection_4 : decode cX0_selection 4 = .ok (.ifCond .eq 10, 3) := by decide +kernel
theorem dX0_selection_7 : decode cX0_selection 7 = .ok (.iload_n 2, 1) := by decide +kernel
theorem dX0_selection_8 : decode cX0_selection 8 = .ok (.invokestatic 61, 3) := by decide +kernel
theorem dX0_selection_11 : decode cX0_selection 11 = .ok (.ifCond .ne 6, 3) := by decide +kernel
theorem dX0_selection_14 : decode cX0_selection 14 = .ok (.bipush (-2), 2) := by decide +kernel
theorem dX0_selection_16 : decode cX0_selection 16 = .ok (.ireturn, 1) := by decide +kernel
theorem dX0_selection_17 : decode cX0_selection 17 = .ok (.aload_n 0, 1) := by decide +kernel
theorem dX0_selection_18 : decode cX0_selection 18 = .ok (.iload_n 3, 1) := by decide +kernel
theorem dX0_selection_19 : decode cX0_selection 19 = .ok (.aload_n 1, 1) := by decide +kernel
theorem dX0_selection_20 : decode cX0_selection 20 = .ok (.getfield 64, 3) := by decide +kernel
theorem dX0_selection_23 : decode cX0_selection 23 = .ok (.invokevirtual 92, 3) := by decide +kernel
theorem dX0_selection_26 : decode cX0_selection 26 = .ok (.ifCond .ne 9, 3) := by decide +kernel
theorem dX0_selection_29 : decode cX0_selection 29 = .ok (.sipush 512, 3) := by decide +kernel
theorem dX0_selection_32 : decode cX0_selection 32 = .ok (.iload_n 3, 1) := by decide +kernel
theorem dX0_selection_33 : decode cX0_selection 33 = .ok (.iadd, 1) := by decide +kernel
theorem dX0_selection_34 : decode cX0_selection 34 = .ok (.ireturn, 1) := by decide +kernel
theorem dX0_selection_35 : decode cX0_selection 35 = .ok (.iload_n 2, 1) := by decide +kernel
theorem dX0_selection_36 : decode cX0_selection 36 = .ok (.bipush 16, 2) := by decide +kernel
theorem dX0_selection_38 : decode cX0_selection 38 = .ok (.isub, 1) := by decide +kernel
theorem dX0_selection_39 : decode cX0_selection 39 = .ok (.istore 4, 2) := by decide +kernel
theorem dX0_selection_41 : decode cX0_selection 41 = .ok (.aload_n 0, 1) := by decide +kernel
theorem dX0_selection_42 : decode cX0_selection 42 = .ok (.getfield 21, 3) := by decide +kernel
theorem dX0_selection_45 : decode cX0_selection 45 = .ok (.iload 4, 2) := by decide +kernel
theorem dX0_selection_47 : decode cX0_selection 47 = .ok (.invokevirtual 96, 3) := by decide +kernel
theorem dX0_selection_50 : decode cX0_selection 50 = .ok (.ifCond .ne 7, 3) := by decide +kernel
theorem dX0_selection_53 : decode cX0_selection 53 = .ok (.iload_n 2, 1) := by decide +kernel
theorem dX0_selection_54 : decode cX0_selection 54 = .ok (.goto 14, 3) := by decide +kernel
theorem dX0_selection_57 : decode cX0_selection 57 = .ok (.aload_n 0, 1) := by decide +kernel
theorem dX0_selection_58 : decode cX0_selection 58 = .ok (.iload_n 3, 1) := by decide +kernel
theorem dX0_selection_59 : decode cX0_selection 59 = .ok (.iload 4, 2) := by decide +kernel
theorem dX0_selection_61 : decode cX0_selection 61 = .ok (.aload_n 1, 1) := by decide +kernel
theorem dX0_selection_62 : decode cX0_selection 62 = .ok (.getfield 99, 3) := by decide +kernel
theorem dX0_selection_65 : decode cX0_selection 65 = .ok (.invokevirtual 102, 3) := by decide +kernel
theorem dX0_selection_68 : decode cX0_selection 68 = .ok (.istore 5, 2) := by decide +kernel
theorem dX0_selection_70 : decode cX0_selection 70 = .ok (.iload 5, 2) := by decide +kernel
theorem dX0_selection_72 : decode cX0_selection 72 = .ok (.invokestatic 61, 3) := by decide +kernel
theorem dX0_selection_75 : decode cX0_selection 75 = .ok (.ifCond .eq 16, 3) := by decide +kernel
theorem dX0_selection_78 : decode cX0_selection 78 = .ok (.aload_n 0, 1) := by decide +kernel
theorem dX0_selection_79 : decode cX0_selection 79 = .ok (.aload_n 1, 1) := by decide +kernel
theorem dX0_selection_80 : decode cX0_selection 80 = .ok (.iload 5, 2) := by decide +kernel
theorem dX0_selection_82 : decode cX0_selection 82 = .ok (.bipush 16, 2) := by decide +kernel
theorem dX0_selection_84 : decode cX0_selection 84 = .ok (.isub, 1) := by decide +kernel
theorem dX0_selection_85 : decode cX0_selection 85 = .ok (.invokevirtual 106, 3) := by decide +kernel
theorem dX0_selection_88 : decode cX0_selection 88 = .ok (.goto 5, 3) := by decide +kernel
theorem dX0_selection_91 : decode cX0_selection 91 = .ok (.iload 5, 2) := by decide +kernel
theorem dX0_selection_93 : decode cX0_selection 93 = .ok (.ireturn, 1) := by decide +kernel
set_option maxRecDepth 20000 in
theorem ggX0_lookUpField_X0_findField : GoodIn wsX0_lookUpField wsX0_findField := goodIn_r _ [6, 1, 7, 8, 9, 10, 11, 12, 13, 14, 15, 16, 17, 18, 19, 20, 21, 22, 23, 24, 25, 26, 27, 28, 29, 30, 31, 2, 3, 4, 5, 32, 33, 34, 35, 36, 37, 38, 39, 44, 45, 46, 47, 48, 49, 50, 51, 52, 53, 54, 55, 56, 57, 58, 59] (by decide +kernel) (by decide +kernel)
set_option maxRecDepth 20000 in
theorem gX0_lookUpField_X0_findField : GoodIn wsX0_lookUpField (wsV RX0 112 RX0 yX0_findField wsX0_findField) := goodIn_app (goodIn_of _ (by decide +kernel)) ggX0_lookUpField_X0_findField
theorem dX0_lookUpField_0 : decode cX0_lookUpField 0 = .ok (.aload_n 0, 1) := by decide +kernel
theorem dX0_lookUpField_1 : decode cX0_lookUpField 1 = .ok (.iconst 0, 1) := by decide +kernel
theorem dX0_lookUpField_2 : decode cX0_lookUpField 2 = .ok (.putfield 109, 3) := by decide +kernel
theorem dX0_lookUpField_5 : decode cX0_lookUpField 5 = .ok (.aload_n 0, 1) := by decide +kernel
theorem dX0_lookUpField_6 : decode cX0_lookUpField 6 = .ok (.aload_n 1, 1) := by decide +kernel
theorem dX0_lookUpField_7 : decode cX0_lookUpField 7 = .ok (.getfield 64, 3) := by decide +kernel
theorem dX0_lookUpField_10 : decode cX0_lookUpField 10 = .ok (.aload_n 1, 1) := by decide +kernel
theorem dX0_lookUpField_11 : decode cX0_lookUpField 11 = .ok (.getfield 99, 3) := by decide +kernel
theorem dX0_lookUpField_14 : decode cX0_lookUpField 14 = .ok (.invokevirtual 112, 3) := by decide +kernel
theorem dX0_lookUpField_17 : decode cX0_lookUpField 17 = .ok (.istore_n 2, 1) := by decide +kernel
theorem dX0_lookUpField_18 : decode cX0_lookUpField 18 = .ok (.iload_n 2, 1) := by decide +kernel
theorem dX0_lookUpField_19 : decode cX0_lookUpField 19 = .ok (.bipush (-2), 2) := by decide +kernel
theorem dX0_lookUpField_21 : decode cX0_lookUpField 21 = .ok (.if_icmp .ne 14, 3) := by decide +kernel
theorem dX0_lookUpField_24 : decode cX0_lookUpField 24 = .ok (.sipush 320, 3) := by decide +kernel
theorem dX0_lookUpField_27 : decode cX0_lookUpField 27 = .ok (.aload_n 1, 1) := by decide +kernel
theorem dX0_lookUpField_28 : decode cX0_lookUpField 28 = .ok (.getfield 64, 3) := by decide +kernel
theorem dX0_lookUpField_31 : decode cX0_lookUpField 31 = .ok (.iadd, 1) := by decide +kernel
theorem dX0_lookUpField_32 : decode cX0_lookUpField 32 = .ok (.goto 7, 3) := by decide +kernel
theorem dX0_lookUpField_35 : decode cX0_lookUpField 35 = .ok (.bipush 16, 2) := by decide +kernel
theorem dX0_lookUpField_37 : decode cX0_lookUpField 37 = .ok (.iload_n 2, 1) := by decide +kernel
theorem dX0_lookUpField_38 : decode cX0_lookUpField 38 = .ok (.iadd, 1) := by decide +kernel
theorem dX0_lookUpField_39 : decode cX0_lookUpField 39 = .ok (.ireturn, 1) := by decide +kernel
set_option maxRecDepth 20000 in
theorem ggX0_findField_X4_contains : GoodIn wsX0_findField wsX4_contains := goodIn_r _ [6] (by decide +kernel) (by decide +kernel)
set_option maxRecDepth 20000 in
theorem gX0_findField_X4_contains_n115 : GoodIn wsX0_findField (wsX4_contains) := ggX0_findField_X4_contains
set_option maxRecDepth 20000 in
theorem ggX0_findField_X4_bit : GoodIn wsX0_findField wsX4_bit := goodIn_r _ [8] (by decide +kernel) (by decide +kernel)
set_option maxRecDepth 20000 in
theorem gX0_findField_X4_bit_n118 : GoodIn wsX0_findField (wsX4_bit) := ggX0_findField_X4_bit
set_option maxRecDepth 20000 in
theorem ggX0_findField_X2_find : GoodIn wsX0_findField wsX2_find := goodIn_r _ [13, 14, 15, 16, 17, 18, 19, 12, 20, 4, 5, 6, 39, 40, 41, 42, 43, 44] (by decide +kernel) (by decide +kernel)
set_option maxRecDepth 20000 in
theorem gX0_findField_X2_find : GoodIn wsX0_findField (wsV RX0 36 RX2 yX2_find wsX2_find) := goodIn_app (goodIn_of _ (by decide +kernel)) ggX0_findField_X2_find
set_option maxRecDepth 20000 in
theorem ggX0_findField_X1_directFacesOf : GoodIn wsX0_findField wsX1_directFacesOf := goodIn_r _ [25, 26, 45, 46, 47, 48, 49, 50, 51, 52, 53, 54] (by decide +kernel) (by decide +kernel)
set_option maxRecDepth 20000 in
theorem gX0_findField_X1_directFacesOf : GoodIn wsX0_findField (wsV RX0 121 RX1 yX1_directFacesOf wsX1_directFacesOf) := goodIn_app (goodIn_of _ (by decide +kernel)) ggX0_findField_X1_directFacesOf
set_option maxRecDepth 20000 in
theorem ggX0_findField_X0_findField : GoodIn wsX0_findField wsX0_findField := goodIn_r _ [0, 1, 2, 3, 4, 5, 6, 7, 8, 9, 10, 11, 12, 13, 14, 15, 16, 17, 18, 19, 20, 21, 22, 23, 24, 25, 26, 27, 28, 29, 30, 31, 32, 33, 34, 35, 36, 37, 38, 39, 40, 41, 42, 43, 44, 45, 46, 47, 48, 49, 50, 51, 52, 53, 54] (by decide +kernel) (by decide +kernel)
set_option maxRecDepth 20000 in
theorem gX0_findField_X0_findField : GoodIn wsX0_findField (wsV RX0 112 RX0 yX0_findField wsX0_findField) := goodIn_app (goodIn_of _ (by decide +kernel)) ggX0_findField_X0_findField
set_option maxRecDepth 20000 in
theorem ggX0_findField_X1_superOf : GoodIn wsX0_findField wsX1_superOf := goodIn_r _ [34, 35, 45, 46, 47, 48, 49, 50, 51, 52, 53, 54] (by decide +kernel) (by decide +kernel)
set_option maxRecDepth 20000 in
theorem gX0_findField_X1_superOf : GoodIn wsX0_findField (wsV RX0 124 RX1 yX1_superOf wsX1_superOf) := goodIn_app (goodIn_of _ (by decide +kernel)) ggX0_findField_X1_superOf
theorem dX0_findField_0 : decode cX0_findField 0 = .ok (.aload_n 0, 1) := by decide +kernel
theorem dX0_findField_1 : decode cX0_findField 1 = .ok (.getfield 109, 3) := by decide +kernel
theorem dX0_findField_4 : decode cX0_findField 4 = .ok (.iload_n 1, 1) := by decide +kernel
theorem dX0_findField_5 : decode cX0_findField 5 = .ok (.invokestatic 115, 3) := by decide +kernel
theorem dX0_findField_8 : decode cX0_findField 8 = .ok (.ifCond .eq 6, 3) := by decide +kernel
theorem dX0_findField_11 : decode cX0_findField 11 = .ok (.bipush (-2), 2) := by decide +kernel
theorem dX0_findField_13 : decode cX0_findField 13 = .ok (.ireturn, 1) := by decide +kernel
theorem dX0_findField_14 : decode cX0_findField 14 = .ok (.aload_n 0, 1) := by decide +kernel
theorem dX0_findField_15 : decode cX0_findField 15 = .ok (.dup, 1) := by decide +kernel
theorem dX0_findField_16 : decode cX0_findField 16 = .ok (.getfield 109, 3) := by decide +kernel
theorem dX0_findField_19 : decode cX0_findField 19 = .ok (.iload_n 1, 1) := by decide +kernel
theorem dX0_findField_20 : decode cX0_findField 20 = .ok (.invokestatic 118, 3) := by decide +kernel
theorem dX0_findField_23 : decode cX0_findField 23 = .ok (.ior, 1) := by decide +kernel
theorem dX0_findField_24 : decode cX0_findField 24 = .ok (.putfield 109, 3) := by decide +kernel
theorem dX0_findField_27 : decode cX0_findField 27 = .ok (.aload_n 0, 1) := by decide +kernel
theorem dX0_findField_28 : decode cX0_findField 28 = .ok (.getfield 21, 3) := by decide +kernel
theorem dX0_findField_31 : decode cX0_findField 31 = .ok (.iload_n 1, 1) := by decide +kernel
theorem dX0_findField_32 : decode cX0_findField 32 = .ok (.iconst 0, 1) := by decide +kernel
theorem dX0_findField_33 : decode cX0_findField 33 = .ok (.iload_n 2, 1) := by decide +kernel
theorem dX0_findField_34 : decode cX0_findField 34 = .ok (.invokevirtual 36, 3) := by decide +kernel
theorem dX0_findField_37 : decode cX0_findField 37 = .ok (.istore_n 3, 1) := by decide +kernel
theorem dX0_findField_38 : decode cX0_findField 38 = .ok (.iconst 0, 1) := by decide +kernel
theorem dX0_findField_39 : decode cX0_findField 39 = .ok (.istore 4, 2) := by decide +kernel
theorem dX0_findField_41 : decode cX0_findField 41 = .ok (.iload 4, 2) := by decide +kernel
theorem dX0_findField_43 : decode cX0_findField 43 = .ok (.bipush 12, 2) := by decide +kernel
theorem dX0_findField_45 : decode cX0_findField 45 = .ok (.if_icmp .ge 39, 3) := by decide +kernel
theorem dX0_findField_48 : decode cX0_findField 48 = .ok (.iload_n 3, 1) := by decide +kernel
theorem dX0_findField_49 : decode cX0_findField 49 = .ok (.bipush (-2), 2) := by decide +kernel
theorem dX0_findField_51 : decode cX0_findField 51 = .ok (.if_icmp .ne 33, 3) := by decide +kernel
theorem dX0_findField_54 : decode cX0_findField 54 = .ok (.aload_n 0, 1) := by decide +kernel
theorem dX0_findField_55 : decode cX0_findField 55 = .ok (.getfield 12, 3) := by decide +kernel
theorem dX0_findField_58 : decode cX0_findField 58 = .ok (.iload_n 1, 1) := by decide +kernel
theorem dX0_findField_59 : decode cX0_findField 59 = .ok (.invokevirtual 121, 3) := by decide +kernel
theorem dX0_findField_62 : decode cX0_findField 62 = .ok (.iload 4, 2) := by decide +kernel
theorem dX0_findField_64 : decode cX0_findField 64 = .ok (.invokestatic 115, 3) := by decide +kernel
theorem dX0_findField_67 : decode cX0_findField 67 = .ok (.ifCond .eq 11, 3) := by decide +kernel
theorem dX0_findField_70 : decode cX0_findField 70 = .ok (.aload_n 0, 1) := by decide +kernel
theorem dX0_findField_71 : decode cX0_findField 71 = .ok (.iload 4, 2) := by decide +kernel
theorem dX0_findField_73 : decode cX0_findField 73 = .ok (.iload_n 2, 1) := by decide +kernel
theorem dX0_findField_74 : decode cX0_findField 74 = .ok (.invokevirtual 112, 3) := by decide +kernel
theorem dX0_findField_77 : decode cX0_findField 77 = .ok (.istore_n 3, 1) := by decide +kernel
theorem dX0_findField_78 : decode cX0_findField 78 = .ok (.iinc 4 1, 3) := by decide +kernel
theorem dX0_findField_81 : decode cX0_findField 81 = .ok (.goto (-40), 3) := by decide +kernel
theorem dX0_findField_84 : decode cX0_findField 84 = .ok (.iload_n 3, 1) := by decide +kernel
theorem dX0_findField_85 : decode cX0_findField 85 = .ok (.bipush (-2), 2) := by decide +kernel
theorem dX0_findField_87 : decode cX0_findField 87 = .ok (.if_icmp .ne 21, 3) := by decide +kernel
theorem dX0_findField_90 : decode cX0_findField 90 = .ok (.iload_n 1, 1) := by decide +kernel
theorem dX0_findField_91 : decode cX0_findField 91 = .ok (.ifCond .eq 17, 3) := by decide +kernel
theorem dX0_findField_94 : decode cX0_findField 94 = .ok (.aload_n 0, 1) := by decide +kernel
theorem dX0_findField_95 : decode cX0_findField 95 = .ok (.aload_n 0, 1) := by decide +kernel
theorem dX0_findField_96 : decode cX0_findField 96 = .ok (.getfield 12, 3) := by decide +kernel
theorem dX0_findField_99 : decode cX0_findField 99 = .ok (.iload_n 1, 1) := by decide +kernel
theorem dX0_findField_100 : decode cX0_findField 100 = .ok (.invokevirtual 124, 3) := by decide +kernel
theorem dX0_findField_103 : decode cX0_findField 103 = .ok (.iload_n 2, 1) := by decide +kernel
theorem dX0_findField_104 : decode cX0_findField 104 = .ok (.invokevirtual 112, 3) := by decide +kernel
theorem dX0_findField_107 : decode cX0_findField 107 = .ok (.istore_n 3, 1) := by decide +kernel
theorem dX0_findField_108 : decode cX0_findField 108 = .ok (.iload_n 3, 1) := by decide +kernel
theorem dX0_findField_109 : decode cX0_findField 109 = .ok (.ireturn, 1) := by decide +kernel
set_option maxRecDepth 20000 in
theorem ggX0_lookUpMethod_X1_isInterface : GoodIn wsX0_lookUpMethod wsX1_isInterface := goodIn_r _ [6, 7, 94, 95, 96, 97, 98, 99, 100, 101, 102, 103] (by decide +kernel) (by decide +kernel)
set_option maxRecDepth 20000 in
theorem gX0_lookUpMethod_X1_isInterface : GoodIn wsX0_lookUpMethod (wsV RX0 127 RX1 yX1_isInterface wsX1_isInterface) := goodIn_app (goodIn_of _ (by decide +kernel)) ggX0_lookUpMethod_X1_isInterface
set_option maxRecDepth 20000 in
theorem ggX0_lookUpMethod_X0_findInInterface : GoodIn wsX0_lookUpMethod wsX0_findInInterface := goodIn_r _ [12, 13, 14, 15, 16, 17, 18, 19, 20, 21, 22, 23, 24, 25, 26, 27, 28, 29, 30, 31, 32, 33, 34, 35, 36, 37, 38, 87, 88, 89, 104, 105, 106, 107, 108, 109] (by decide +kernel) (by decide +kernel)
set_option maxRecDepth 20000 in
theorem gX0_lookUpMethod_X0_findInInterface : GoodIn wsX0_lookUpMethod (wsV RX0 130 RX0 yX0_findInInterface wsX0_findInInterface) := goodIn_app (goodIn_of _ (by decide +kernel)) ggX0_lookUpMethod_X0_findInInterface
set_option maxRecDepth 20000 in
theorem ggX0_lookUpMethod_X0_findInAbove : GoodIn wsX0_lookUpMethod wsX0_findInAbove := goodIn_r _ [42, 13, 1, 14, 15, 16, 17, 18, 19, 20, 21, 22, 23, 24, 25, 26, 27, 28, 43, 44, 45, 5, 46, 47, 87, 88, 89, 104, 105, 106, 107, 108, 109, 94, 95, 96, 97, 98, 99, 100, 101, 102, 103] (by decide +kernel) (by decide +kernel)
set_option maxRecDepth 20000 in
theorem gX0_lookUpMethod_X0_findInAbove : GoodIn wsX0_lookUpMethod (wsV RX0 133 RX0 yX0_findInAbove wsX0_findInAbove) := goodIn_app (goodIn_of _ (by decide +kernel)) ggX0_lookUpMethod_X0_findInAbove
set_option maxRecDepth 20000 in
theorem ggX0_lookUpMethod_X0_findBest : GoodIn wsX0_lookUpMethod wsX0_findBest := goodIn_r _ [51, 1, 13, 52, 53, 54, 5, 55, 56, 57, 58, 59, 17, 60, 19, 20, 22, 21, 23, 24, 25, 26, 27, 28, 61, 62, 63, 64, 33, 38, 65, 66, 67, 68, 69, 70, 71, 72, 73, 11, 74, 14, 15, 16, 18, 75, 76, 77, 78, 79, 80, 81, 82, 83, 84, 85, 86, 87, 88, 89, 94, 95, 96, 97, 98, 99, 100, 101, 102, 103, 104, 105, 106, 107, 108, 109] (by decide +kernel) (by decide +kernel)
set_option maxRecDepth 20000 in
theorem gX0_lookUpMethod_X0_findBest : GoodIn wsX0_lookUpMethod (wsV RX0 136 RX0 yX0_findBest wsX0_findBest) := goodIn_app (goodIn_of _ (by decide +kernel)) ggX0_lookUpMethod_X0_findBest
theorem dX0_lookUpMethod_0 : decode cX0_lookUpMethod 0 = .ok (.aload_n 0, 1) := by decide +kernel
theorem dX0_lookUpMethod_1 : decode cX0_lookUpMethod 1 = .ok (.getfield 12, 3) := by decide +kernel
theorem dX0_lookUpMethod_4 : decode cX0_lookUpMethod 4 = .ok (.aload_n 1, 1) := by decide +kernel
theorem dX0_lookUpMethod_5 : decode cX0_lookUpMethod 5 = .ok (.getfield 64, 3) := by decide +kernel
theorem dX0_lookUpMethod_8 : decode cX0_lookUpMethod 8 = .ok (.invokevirtual 127, 3) := by decide +kernel
theorem dX0_lookUpMethod_11 : decode cX0_lookUpMethod 11 = .ok (.istore_n 2, 1) := by decide +kernel
theorem dX0_lookUpMethod_12 : decode cX0_lookUpMethod 12 = .ok (.aload_n 1, 1) := by decide +kernel
theorem dX0_lookUpMethod_13 : decode cX0_lookUpMethod 13 = .ok (.getfield 71, 3) := by decide +kernel
theorem dX0_lookUpMethod_16 : decode cX0_lookUpMethod 16 = .ok (.iconst 4, 1) := by decide +kernel
theorem dX0_lookUpMethod_17 : decode cX0_lookUpMethod 17 = .ok (.if_icmp .ne 7, 3) := by decide +kernel
theorem dX0_lookUpMethod_20 : decode cX0_lookUpMethod 20 = .ok (.iload_n 2, 1) := by decide +kernel
theorem dX0_lookUpMethod_21 : decode cX0_lookUpMethod 21 = .ok (.ifCond .ne 16, 3) := by decide +kernel
theorem dX0_lookUpMethod_24 : decode cX0_lookUpMethod 24 = .ok (.aload_n 1, 1) := by decide +kernel
theorem dX0_lookUpMethod_25 : decode cX0_lookUpMethod 25 = .ok (.getfield 71, 3) := by decide +kernel
theorem dX0_lookUpMethod_28 : decode cX0_lookUpMethod 28 = .ok (.bipush 7, 2) := by decide +kernel
theorem dX0_lookUpMethod_30 : decode cX0_lookUpMethod 30 = .ok (.if_icmp .ne 16, 3) := by decide +kernel
theorem dX0_lookUpMethod_33 : decode cX0_lookUpMethod 33 = .ok (.iload_n 2, 1) := by decide +kernel
theorem dX0_lookUpMethod_34 : decode cX0_lookUpMethod 34 = .ok (.ifCond .ne 12, 3) := by decide +kernel
theorem dX0_lookUpMethod_37 : decode cX0_lookUpMethod 37 = .ok (.sipush 192, 3) := by decide +kernel
theorem dX0_lookUpMethod_40 : decode cX0_lookUpMethod 40 = .ok (.aload_n 1, 1) := by decide +kernel
theorem dX0_lookUpMethod_41 : decode cX0_lookUpMethod 41 = .ok (.getfield 64, 3) := by decide +kernel
theorem dX0_lookUpMethod_44 : decode cX0_lookUpMethod 44 = .ok (.iadd, 1) := by decide +kernel
theorem dX0_lookUpMethod_45 : decode cX0_lookUpMethod 45 = .ok (.ireturn, 1) := by decide +kernel
theorem dX0_lookUpMethod_46 : decode cX0_lookUpMethod 46 = .ok (.iload_n 2, 1) := by decide +kernel
theorem dX0_lookUpMethod_47 : decode cX0_lookUpMethod 47 = .ok (.ifCond .eq 18, 3) := by decide +kernel
theorem dX0_lookUpMethod_50 : decode cX0_lookUpMethod 50 = .ok (.aload_n 0, 1) := by decide +kernel
theorem dX0_lookUpMethod_51 : decode cX0_lookUpMethod 51 = .ok (.aload_n 1, 1) := by decide +kernel
theorem dX0_lookUpMethod_52 : decode cX0_lookUpMethod 52 = .ok (.getfield 64, 3) := by decide +kernel
theorem dX0_lookUpMethod_55 : decode cX0_lookUpMethod 55 = .ok (.aload_n 1, 1) := by decide +kernel
theorem dX0_lookUpMethod_56 : decode cX0_lookUpMethod 56 = .ok (.getfield 99, 3) := by decide +kernel
theorem dX0_lookUpMethod_59 : decode cX0_lookUpMethod 59 = .ok (.invokevirtual 130, 3) := by decide +kernel
theorem dX0_lookUpMethod_62 : decode cX0_lookUpMethod 62 = .ok (.goto 15, 3) := by decide +kernel
theorem dX0_lookUpMethod_65 : decode cX0_lookUpMethod 65 = .ok (.aload_n 0, 1) := by decide +kernel
theorem dX0_lookUpMethod_66 : decode cX0_lookUpMethod 66 = .ok (.aload_n 1, 1) := by decide +kernel
theorem dX0_lookUpMethod_67 : decode cX0_lookUpMethod 67 = .ok (.getfield 64, 3) := by decide +kernel
theorem dX0_lookUpMethod_70 : decode cX0_lookUpMethod 70 = .ok (.aload_n 1, 1) := by decide +kernel
theorem dX0_lookUpMethod_71 : decode cX0_lookUpMethod 71 = .ok (.getfield 99, 3) := by decide +kernel
theorem dX0_lookUpMethod_74 : decode cX0_lookUpMethod 74 = .ok (.invokevirtual 133, 3) := by decide +kernel
theorem dX0_lookUpMethod_77 : decode cX0_lookUpMethod 77 = .ok (.istore_n 3, 1) := by decide +kernel
theorem dX0_lookUpMethod_78 : decode cX0_lookUpMethod 78 = .ok (.iload_n 3, 1) := by decide +kernel
theorem dX0_lookUpMethod_79 : decode cX0_lookUpMethod 79 = .ok (.bipush (-2), 2) := by decide +kernel
theorem dX0_lookUpMethod_81 : decode cX0_lookUpMethod 81 = .ok (.if_icmp .ne 16, 3) := by decide +kernel
theorem dX0_lookUpMethod_84 : decode cX0_lookUpMethod 84 = .ok (.aload_n 0, 1) := by decide +kernel
theorem dX0_lookUpMethod_85 : decode cX0_lookUpMethod 85 = .ok (.aload_n 1, 1) := by decide +kernel
theorem dX0_lookUpMethod_86 : decode cX0_lookUpMethod 86 = .ok (.getfield 64, 3) := by decide +kernel
theorem dX0_lookUpMethod_89 : decode cX0_lookUpMethod 89 = .ok (.aload_n 1, 1) := by decide +kernel
theorem dX0_lookUpMethod_90 : decode cX0_lookUpMethod 90 = .ok (.getfield 99, 3) := by decide +kernel
theorem dX0_lookUpMethod_93 : decode cX0_lookUpMethod 93 = .ok (.invokevirtual 136, 3) := by decide +kernel
theorem dX0_lookUpMethod_96 : decode cX0_lookUpMethod 96 = .ok (.istore_n 3, 1) := by decide +kernel
theorem dX0_lookUpMethod_97 : decode cX0_lookUpMethod 97 = .ok (.iload_n 3, 1) := by decide +kernel
theorem dX0_lookUpMethod_98 : decode cX0_lookUpMethod 98 = .ok (.bipush (-2), 2) := by decide +kernel
theorem dX0_lookUpMethod_100 : decode cX0_lookUpMethod 100 = .ok (.if_icmp .ne 14, 3) := by decide +kernel
theorem dX0_lookUpMethod_103 : decode cX0_lookUpMethod 103 = .ok (.sipush 384, 3) := by decide +kernel
theorem dX0_lookUpMethod_106 : decode cX0_lookUpMethod 106 = .ok (.aload_n 1, 1) := by decide +kernel
theorem dX0_lookUpMethod_107 : decode cX0_lookUpMethod 107 = .ok (.getfield 64, 3) := by decide +kernel
theorem dX0_lookUpMethod_110 : decode cX0_lookUpMethod 110 = .ok (.iadd, 1) := by decide +kernel
theorem dX0_lookUpMethod_111 : decode cX0_lookUpMethod 111 = .ok (.goto 7, 3) := by decide +kernel
theorem dX0_lookUpMethod_114 : decode cX0_lookUpMethod 114 = .ok (.bipush 16, 2) := by decide +kernel
theorem dX0_lookUpMethod_116 : decode cX0_lookUpMethod 116 = .ok (.iload_n 3, 1) := by decide +kernel
theorem dX0_lookUpMethod_117 : decode cX0_lookUpMethod 117 = .ok (.iadd, 1) := by decide +kernel
theorem dX0_lookUpMethod_118 : decode cX0_lookUpMethod 118 = .ok (.ireturn, 1) := by decide +kernel
set_option maxRecDepth 20000 in
theorem ggX0_findInInterface_X2_find : GoodIn wsX0_findInInterface wsX2_find := goodIn_r _ [6, 7, 8, 9, 10, 11, 12, 5, 13, 14, 15, 16, 30, 31, 32, 33, 34, 35] (by decide +kernel) (by decide +kernel)
set_option maxRecDepth 20000 in
theorem gX0_findInInterface_X2_find : GoodIn wsX0_findInInterface (wsV RX0 36 RX2 yX2_find wsX2_find) := goodIn_app (goodIn_of _ (by decide +kernel)) ggX0_findInInterface_X2_find
set_option maxRecDepth 20000 in
theorem ggX0_findInInterface_X2_accessOf : GoodIn wsX0_findInInterface wsX2_accessOf := goodIn_r _ [20, 21, 30, 31, 32, 33, 34, 35] (by decide +kernel) (by decide +kernel)
set_option maxRecDepth 20000 in
theorem gX0_findInInterface_X2_accessOf : GoodIn wsX0_findInInterface (wsV RX0 96 RX2 yX2_accessOf wsX2_accessOf) := goodIn_app (goodIn_of _ (by decide +kernel)) ggX0_findInInterface_X2_accessOf
set_option maxRecDepth 20000 in
theorem ggX0_findInInterface_X2_isStatic : GoodIn wsX0_findInInterface wsX2_isStatic := goodIn_r _ [25, 26, 30, 31, 32, 33, 34, 35] (by decide +kernel) (by decide +kernel)
set_option maxRecDepth 20000 in
theorem gX0_findInInterface_X2_isStatic : GoodIn wsX0_findInInterface (wsV RX0 139 RX2 yX2_isStatic wsX2_isStatic) := goodIn_app (goodIn_of _ (by decide +kernel)) ggX0_findInInterface_X2_isStatic
theorem dX0_findInInterface_0 : decode cX0_findInInterface 0 = .ok (.aload_n 0, 1) := by decide +kernel
theorem dX0_findInInterface_1 : decode cX0_findInInterface 1 = .ok (.getfield 21, 3) := by decide +kernel
theorem dX0_findInInterface_4 : decode cX0_findInInterface 4 = .ok (.iload_n 1, 1) := by decide +kernel
theorem dX0_findInInterface_5 : decode cX0_findInInterface 5 = .ok (.iconst 1, 1) := by decide +kernel
theorem dX0_findInInterface_6 : decode cX0_findInInterface 6 = .ok (.iload_n 2, 1) := by decide +kernel
theorem dX0_findInInterface_7 : decode cX0_findInInterface 7 = .ok (.invokevirtual 36, 3) := by decide +kernel
theorem dX0_findInInterface_10 : decode cX0_findInInterface 10 = .ok (.istore_n 3, 1) := by decide +kernel
theorem dX0_findInInterface_11 : decode cX0_findInInterface 11 = .ok (.iload_n 3, 1) := by decide +kernel
theorem dX0_findInInterface_12 : decode cX0_findInInterface 12 = .ok (.bipush (-2), 2) := by decide +kernel
theorem dX0_findInInterface_14 : decode cX0_findInInterface 14 = .ok (.if_icmp .eq 5, 3) := by decide +kernel
theorem dX0_findInInterface_17 : decode cX0_findInInterface 17 = .ok (.iload_n 3, 1) := by decide +kernel
theorem dX0_findInInterface_18 : decode cX0_findInInterface 18 = .ok (.ireturn, 1) := by decide +kernel
theorem dX0_findInInterface_19 : decode cX0_findInInterface 19 = .ok (.aload_n 0, 1) := by decide +kernel
theorem dX0_findInInterface_20 : decode cX0_findInInterface 20 = .ok (.getfield 21, 3) := by decide +kernel
theorem dX0_findInInterface_23 : decode cX0_findInInterface 23 = .ok (.iconst 0, 1) := by decide +kernel
theorem dX0_findInInterface_24 : decode cX0_findInInterface 24 = .ok (.iconst 1, 1) := by decide +kernel
theorem dX0_findInInterface_25 : decode cX0_findInInterface 25 = .ok (.iload_n 2, 1) := by decide +kernel
theorem dX0_findInInterface_26 : decode cX0_findInInterface 26 = .ok (.invokevirtual 36, 3) := by decide +kernel
theorem dX0_findInInterface_29 : decode cX0_findInInterface 29 = .ok (.istore 4, 2) := by decide +kernel
theorem dX0_findInInterface_31 : decode cX0_findInInterface 31 = .ok (.iload 4, 2) := by decide +kernel
theorem dX0_findInInterface_33 : decode cX0_findInInterface 33 = .ok (.bipush (-2), 2) := by decide +kernel
theorem dX0_findInInterface_35 : decode cX0_findInInterface 35 = .ok (.if_icmp .eq 33, 3) := by decide +kernel
theorem dX0_findInInterface_38 : decode cX0_findInInterface 38 = .ok (.aload_n 0, 1) := by decide +kernel
theorem dX0_findInInterface_39 : decode cX0_findInInterface 39 = .ok (.getfield 21, 3) := by decide +kernel
theorem dX0_findInInterface_42 : decode cX0_findInInterface 42 = .ok (.iload 4, 2) := by decide +kernel
theorem dX0_findInInterface_44 : decode cX0_findInInterface 44 = .ok (.invokevirtual 96, 3) := by decide +kernel
theorem dX0_findInInterface_47 : decode cX0_findInInterface 47 = .ok (.iconst 3, 1) := by decide +kernel
theorem dX0_findInInterface_48 : decode cX0_findInInterface 48 = .ok (.if_icmp .ne 20, 3) := by decide +kernel
theorem dX0_findInInterface_51 : decode cX0_findInInterface 51 = .ok (.aload_n 0, 1) := by decide +kernel
theorem dX0_findInInterface_52 : decode cX0_findInInterface 52 = .ok (.getfield 21, 3) := by decide +kernel
theorem dX0_findInInterface_55 : decode cX0_findInInterface 55 = .ok (.iload 4, 2) := by decide +kernel
theorem dX0_findInInterface_57 : decode cX0_findInInterface 57 = .ok (.invokevirtual 139, 3) := by decide +kernel
theorem dX0_findInInterface_60 : decode cX0_findInInterface 60 = .ok (.ifCond .ne 8, 3) := by decide +kernel
theorem dX0_findInInterface_63 : decode cX0_findInInterface 63 = .ok (.iload 4, 2) := by decide +kernel
theorem dX0_findInInterface_65 : decode cX0_findInInterface 65 = .ok (.goto 5, 3) := by decide +kernel
theorem dX0_findInInterface_68 : decode cX0_findInInterface 68 = .ok (.bipush (-2), 2) := by decide +kernel
theorem dX0_findInInterface_70 : decode cX0_findInInterface 70 = .ok (.ireturn, 1) := by decide +kernel
set_option maxRecDepth 20000 in
theorem ggX0_findInAbove_X2_find : GoodIn wsX0_findInAbove wsX2_find := goodIn_r _ [7, 8, 9, 10, 11, 12, 13, 6, 14, 15, 16, 17, 27, 28, 29, 30, 31, 32] (by decide +kernel) (by decide +kernel)
set_option maxRecDepth 20000 in
theorem gX0_findInAbove_X2_find : GoodIn wsX0_findInAbove (wsV RX0 36 RX2 yX2_find wsX2_find) := goodIn_app (goodIn_of _ (by decide +kernel)) ggX0_findInAbove_X2_find
set_option maxRecDepth 20000 in
theorem ggX0_findInAbove_X1_superOf : GoodIn wsX0_findInAbove wsX1_superOf := goodIn_r _ [22, 23, 33, 34, 35, 36, 37, 38, 39, 40, 41, 42] (by decide +kernel) (by decide +kernel)
set_option maxRecDepth 20000 in
theorem gX0_findInAbove_X1_superOf : GoodIn wsX0_findInAbove (wsV RX0 124 RX1 yX1_superOf wsX1_superOf) := goodIn_app (goodIn_of _ (by decide +kernel)) ggX0_findInAbove_X1_superOf
theorem dX0_findInAbove_0 : decode cX0_findInAbove 0 = .ok (.iload_n 1, 1) := by decide +kernel
theorem dX0_findInAbove_1 : decode cX0_findInAbove 1 = .ok (.istore_n 3, 1) := by decide +kernel
theorem dX0_findInAbove_2 : decode cX0_findInAbove 2 = .ok (.iconst 0, 1) := by decide +kernel
theorem dX0_findInAbove_3 : decode cX0_findInAbove 3 = .ok (.istore 4, 2) := by decide +kernel
theorem dX0_findInAbove_5 : decode cX0_findInAbove 5 = .ok (.iload 4, 2) := by decide +kernel
theorem dX0_findInAbove_7 : decode cX0_findInAbove 7 = .ok (.bipush 12, 2) := by decide +kernel
theorem dX0_findInAbove_9 : decode cX0_findInAbove 9 = .ok (.if_icmp .ge 45, 3) := by decide +kernel
theorem dX0_findInAbove_12 : decode cX0_findInAbove 12 = .ok (.iload_n 3, 1) := by decide +kernel
theorem dX0_findInAbove_13 : decode cX0_findInAbove 13 = .ok (.iconst (-1), 1) := by decide +kernel
theorem dX0_findInAbove_14 : decode cX0_findInAbove 14 = .ok (.if_icmp .eq 40, 3) := by decide +kernel
theorem dX0_findInAbove_17 : decode cX0_findInAbove 17 = .ok (.aload_n 0, 1) := by decide +kernel
theorem dX0_findInAbove_18 : decode cX0_findInAbove 18 = .ok (.getfield 21, 3) := by decide +kernel
theorem dX0_findInAbove_21 : decode cX0_findInAbove 21 = .ok (.iload_n 3, 1) := by decide +kernel
theorem dX0_findInAbove_22 : decode cX0_findInAbove 22 = .ok (.iconst 1, 1) := by decide +kernel
theorem dX0_findInAbove_23 : decode cX0_findInAbove 23 = .ok (.iload_n 2, 1) := by decide +kernel
theorem dX0_findInAbove_24 : decode cX0_findInAbove 24 = .ok (.invokevirtual 36, 3) := by decide +kernel
theorem dX0_findInAbove_27 : decode cX0_findInAbove 27 = .ok (.istore 5, 2) := by decide +kernel
theorem dX0_findInAbove_29 : decode cX0_findInAbove 29 = .ok (.iload 5, 2) := by decide +kernel
theorem dX0_findInAbove_31 : decode cX0_findInAbove 31 = .ok (.bipush (-2), 2) := by decide +kernel
theorem dX0_findInAbove_33 : decode cX0_findInAbove 33 = .ok (.if_icmp .eq 6, 3) := by decide +kernel
theorem dX0_findInAbove_36 : decode cX0_findInAbove 36 = .ok (.iload 5, 2) := by decide +kernel
theorem dX0_findInAbove_38 : decode cX0_findInAbove 38 = .ok (.ireturn, 1) := by decide +kernel
theorem dX0_findInAbove_39 : decode cX0_findInAbove 39 = .ok (.aload_n 0, 1) := by decide +kernel
theorem dX0_findInAbove_40 : decode cX0_findInAbove 40 = .ok (.getfield 12, 3) := by decide +kernel
theorem dX0_findInAbove_43 : decode cX0_findInAbove 43 = .ok (.iload_n 3, 1) := by decide +kernel
theorem dX0_findInAbove_44 : decode cX0_findInAbove 44 = .ok (.invokevirtual 124, 3) := by decide +kernel
theorem dX0_findInAbove_47 : decode cX0_findInAbove 47 = .ok (.istore_n 3, 1) := by decide +kernel
theorem dX0_findInAbove_48 : decode cX0_findInAbove 48 = .ok (.iinc 4 1, 3) := by decide +kernel
theorem dX0_findInAbove_51 : decode cX0_findInAbove 51 = .ok (.goto (-46), 3) := by decide +kernel
theorem dX0_findInAbove_54 : decode cX0_findInAbove 54 = .ok (.bipush (-2), 2) := by decide +kernel
theorem dX0_findInAbove_56 : decode cX0_findInAbove 56 = .ok (.ireturn, 1) := by decide +kernel
set_option maxRecDepth 20000 in
theorem ggX0_findBest_X1_facesOf : GoodIn wsX0_findBest wsX1_facesOf := goodIn_r _ [7, 8, 60, 61, 62, 63, 64, 65, 66, 67, 68, 69] (by decide +kernel) (by decide +kernel)
set_option maxRecDepth 20000 in
theorem gX0_findBest_X1_facesOf : GoodIn wsX0_findBest (wsV RX0 142 RX1 yX1_facesOf wsX1_facesOf) := goodIn_app (goodIn_of _ (by decide +kernel)) ggX0_findBest_X1_facesOf
set_option maxRecDepth 20000 in
theorem ggX0_findBest_X2_ownersOfInheritable : GoodIn wsX0_findBest wsX2_ownersOfInheritable := goodIn_r _ [13, 14, 15, 16, 17, 18, 19, 12, 20, 21, 22, 23, 24, 25, 26, 27, 28, 29, 30, 31, 70, 71, 72, 73, 74, 75] (by decide +kernel) (by decide +kernel)
set_option maxRecDepth 20000 in
theorem gX0_findBest_X2_ownersOfInheritable : GoodIn wsX0_findBest (wsV RX0 145 RX2 yX2_ownersOfInheritable wsX2_ownersOfInheritable) := goodIn_app (goodIn_of _ (by decide +kernel)) ggX0_findBest_X2_ownersOfInheritable
set_option maxRecDepth 20000 in
theorem ggX0_findBest_X1_mostSpecificOf : GoodIn wsX0_findBest wsX1_mostSpecificOf := goodIn_r _ [35, 8, 21, 22, 23, 60, 61, 62, 63, 64, 65, 66, 67, 68, 69] (by decide +kernel) (by decide +kernel)
set_option maxRecDepth 20000 in
theorem gX0_findBest_X1_mostSpecificOf : GoodIn wsX0_findBest (wsV RX0 148 RX1 yX1_mostSpecificOf wsX1_mostSpecificOf) := goodIn_app (goodIn_of _ (by decide +kernel)) ggX0_findBest_X1_mostSpecificOf
set_option maxRecDepth 20000 in
theorem ggX0_findBest_X0_findOnlyWithBody : GoodIn wsX0_findBest wsX0_findOnlyWithBody := goodIn_r _ [40, 2, 21, 22, 23, 41, 42, 43, 12, 44, 14, 15, 17, 16, 18, 19, 20, 45, 46, 47, 48, 29, 57, 58, 59, 70, 71, 72, 73, 74, 75] (by decide +kernel) (by decide +kernel)
set_option maxRecDepth 20000 in
theorem gX0_findBest_X0_findOnlyWithBody : GoodIn wsX0_findBest (wsV RX0 151 RX0 yX0_findOnlyWithBody wsX0_findOnlyWithBody) := goodIn_app (goodIn_of _ (by decide +kernel)) ggX0_findBest_X0_findOnlyWithBody
set_option maxRecDepth 20000 in
theorem ggX0_findBest_X0_findLeast : GoodIn wsX0_findBest wsX0_findLeast := goodIn_r _ [52, 2, 53, 54, 55, 56, 21, 22, 23, 41, 42, 43, 12, 44, 14, 15, 17, 16, 18, 19, 20, 57, 58, 59, 70, 71, 72, 73, 74, 75] (by decide +kernel) (by decide +kernel)
set_option maxRecDepth 20000 in
theorem gX0_findBest_X0_findLeast : GoodIn wsX0_findBest (wsV RX0 154 RX0 yX0_findLeast wsX0_findLeast) := goodIn_app (goodIn_of _ (by decide +kernel)) ggX0_findBest_X0_findLeast
theorem dX0_findBest_0 : decode cX0_findBest 0 = .ok (.aload_n 0, 1) := by decide +kernel
theorem dX0_findBest_1 : decode cX0_findBest 1 = .ok (.getfield 12, 3) := by decide +kernel
theorem dX0_findBest_4 : decode cX0_findBest 4 = .ok (.iload_n 1, 1) := by decide +kernel
theorem dX0_findBest_5 : decode cX0_findBest 5 = .ok (.invokevirtual 142, 3) := by decide +kernel
theorem dX0_findBest_8 : decode cX0_findBest 8 = .ok (.aload_n 0, 1) := by decide +kernel
theorem dX0_findBest_9 : decode cX0_findBest 9 = .ok (.getfield 21, 3) := by decide +kernel
theorem dX0_findBest_12 : decode cX0_findBest 12 = .ok (.iload_n 2, 1) := by decide +kernel
theorem dX0_findBest_13 : decode cX0_findBest 13 = .ok (.invokevirtual 145, 3) := by decide +kernel
theorem dX0_findBest_16 : decode cX0_findBest 16 = .ok (.iand, 1) := by decide +kernel
theorem dX0_findBest_17 : decode cX0_findBest 17 = .ok (.istore_n 3, 1) := by decide +kernel
theorem dX0_findBest_18 : decode cX0_findBest 18 = .ok (.aload_n 0, 1) := by decide +kernel
theorem dX0_findBest_19 : decode cX0_findBest 19 = .ok (.aload_n 0, 1) := by decide +kernel
theorem dX0_findBest_20 : decode cX0_findBest 20 = .ok (.getfield 12, 3) := by decide +kernel
theorem dX0_findBest_23 : decode cX0_findBest 23 = .ok (.iload_n 3, 1) := by decide +kernel
theorem dX0_findBest_24 : decode cX0_findBest 24 = .ok (.invokevirtual 148, 3) := by decide +kernel
theorem dX0_findBest_27 : decode cX0_findBest 27 = .ok (.iload_n 2, 1) := by decide +kernel
theorem dX0_findBest_28 : decode cX0_findBest 28 = .ok (.invokevirtual 151, 3) := by decide +kernel
theorem dX0_findBest_31 : decode cX0_findBest 31 = .ok (.istore 4, 2) := by decide +kernel
theorem dX0_findBest_33 : decode cX0_findBest 33 = .ok (.iload 4, 2) := by decide +kernel
theorem dX0_findBest_35 : decode cX0_findBest 35 = .ok (.ifCond .lt 8, 3) := by decide +kernel
theorem dX0_findBest_38 : decode cX0_findBest 38 = .ok (.iload 4, 2) := by decide +kernel
theorem dX0_findBest_40 : decode cX0_findBest 40 = .ok (.goto 9, 3) := by decide +kernel
theorem dX0_findBest_43 : decode cX0_findBest 43 = .ok (.aload_n 0, 1) := by decide +kernel
theorem dX0_findBest_44 : decode cX0_findBest 44 = .ok (.iload_n 3, 1) := by decide +kernel
theorem dX0_findBest_45 : decode cX0_findBest 45 = .ok (.iload_n 2, 1) := by decide +kernel
theorem dX0_findBest_46 : decode cX0_findBest 46 = .ok (.invokevirtual 154, 3) := by decide +kernel
theorem dX0_findBest_49 : decode cX0_findBest 49 = .ok (.ireturn, 1) := by decide +kernel
set_option maxRecDepth 20000 in
theorem ggX0_findLeast_X4_contains : GoodIn wsX0_findLeast wsX4_contains := goodIn_r _ [8] (by decide +kernel) (by decide +kernel)
set_option maxRecDepth 20000 in
theorem gX0_findLeast_X4_contains_n115 : GoodIn wsX0_findLeast (wsX4_contains) := ggX0_findLeast_X4_contains
set_option maxRecDepth 20000 in
theorem ggX0_findLeast_X2_find : GoodIn wsX0_findLeast wsX2_find := goodIn_r _ [13, 14, 15, 16, 17, 18, 19, 12, 20, 6, 7, 8, 24, 25, 26, 27, 28, 29] (by decide +kernel) (by decide +kernel)
set_option maxRecDepth 20000 in
theorem gX0_findLeast_X2_find : GoodIn wsX0_findLeast (wsV RX0 36 RX2 yX2_find wsX2_find) := goodIn_app (goodIn_of _ (by decide +kernel)) ggX0_findLeast_X2_find
theorem dX0_findLeast_0 : decode cX0_findLeast 0 = .ok (.bipush (-2), 2) := by decide +kernel
theorem dX0_findLeast_2 : decode cX0_findLeast 2 = .ok (.istore_n 3, 1) := by decide +kernel
theorem dX0_findLeast_3 : decode cX0_findLeast 3 = .ok (.iconst 0, 1) := by decide +kernel
theorem dX0_findLeast_4 : decode cX0_findLeast 4 = .ok (.istore 4, 2) := by decide +kernel
theorem dX0_findLeast_6 : decode cX0_findLeast 6 = .ok (.iload 4, 2) := by decide +kernel
theorem dX0_findLeast_8 : decode cX0_findLeast 8 = .ok (.bipush 12, 2) := by decide +kernel
theorem dX0_findLeast_10 : decode cX0_findLeast 10 = .ok (.if_icmp .ge 49, 3) := by decide +kernel
theorem dX0_findLeast_13 : decode cX0_findLeast 13 = .ok (.iload_n 1, 1) := by decide +kernel
theorem dX0_findLeast_14 : decode cX0_findLeast 14 = .ok (.iload 4, 2) := by decide +kernel
theorem dX0_findLeast_16 : decode cX0_findLeast 16 = .ok (.invokestatic 115, 3) := by decide +kernel
theorem dX0_findLeast_19 : decode cX0_findLeast 19 = .ok (.ifCond .eq 34, 3) := by decide +kernel
theorem dX0_findLeast_22 : decode cX0_findLeast 22 = .ok (.aload_n 0, 1) := by decide +kernel
theorem dX0_findLeast_23 : decode cX0_findLeast 23 = .ok (.getfield 21, 3) := by decide +kernel
theorem dX0_findLeast_26 : decode cX0_findLeast 26 = .ok (.iload 4, 2) := by decide +kernel
theorem dX0_findLeast_28 : decode cX0_findLeast 28 = .ok (.iconst 1, 1) := by decide +kernel
theorem dX0_findLeast_29 : decode cX0_findLeast 29 = .ok (.iload_n 2, 1) := by decide +kernel
theorem dX0_findLeast_30 : decode cX0_findLeast 30 = .ok (.invokevirtual 36, 3) := by decide +kernel
theorem dX0_findLeast_33 : decode cX0_findLeast 33 = .ok (.istore 5, 2) := by decide +kernel
theorem dX0_findLeast_35 : decode cX0_findLeast 35 = .ok (.iload_n 3, 1) := by decide +kernel
theorem dX0_findLeast_36 : decode cX0_findLeast 36 = .ok (.bipush (-2), 2) := by decide +kernel
theorem dX0_findLeast_38 : decode cX0_findLeast 38 = .ok (.if_icmp .ne 8, 3) := by decide +kernel
theorem dX0_findLeast_41 : decode cX0_findLeast 41 = .ok (.iload 5, 2) := by decide +kernel
theorem dX0_findLeast_43 : decode cX0_findLeast 43 = .ok (.goto 9, 3) := by decide +kernel
theorem dX0_findLeast_46 : decode cX0_findLeast 46 = .ok (.iload_n 3, 1) := by decide +kernel
theorem dX0_findLeast_47 : decode cX0_findLeast 47 = .ok (.iload 5, 2) := by decide +kernel
theorem dX0_findLeast_49 : decode cX0_findLeast 49 = .ok (.invokestatic 157, 3) := by decide +kernel
theorem dX0_findLeast_52 : decode cX0_findLeast 52 = .ok (.istore_n 3, 1) := by decide +kernel
theorem dX0_findLeast_53 : decode cX0_findLeast 53 = .ok (.iinc 4 1, 3) := by decide +kernel
theorem dX0_findLeast_56 : decode cX0_findLeast 56 = .ok (.goto (-50), 3) := by decide +kernel
theorem dX0_findLeast_59 : decode cX0_findLeast 59 = .ok (.iload_n 3, 1) := by decide +kernel
theorem dX0_findLeast_60 : decode cX0_findLeast 60 = .ok (.ireturn, 1) := by decide +kernel
set_option maxRecDepth 20000 in
theorem ggX0_findOnlyWithBody_X4_contains : GoodIn wsX0_findOnlyWithBody wsX4_contains := goodIn_r _ [4] (by decide +kernel) (by decide +kernel)
set_option maxRecDepth 20000 in
theorem gX0_findOnlyWithBody_X4_contains_n115 : GoodIn wsX0_findOnlyWithBody (wsX4_contains) := ggX0_findOnlyWithBody_X4_contains
set_option maxRecDepth 20000 in
theorem ggX0_findOnlyWithBody_X2_find : GoodIn wsX0_findOnlyWithBody wsX2_find := goodIn_r _ [9, 10, 11, 12, 13, 14, 15, 8, 16, 2, 3, 4, 25, 26, 27, 28, 29, 30] (by decide +kernel) (by decide +kernel)
set_option maxRecDepth 20000 in
theorem gX0_findOnlyWithBody_X2_find : GoodIn wsX0_findOnlyWithBody (wsV RX0 36 RX2 yX2_find wsX2_find) := goodIn_app (goodIn_of _ (by decide +kernel)) ggX0_findOnlyWithBody_X2_find
set_option maxRecDepth 20000 in
theorem ggX0_findOnlyWithBody_X2_isAbstract : GoodIn wsX0_findOnlyWithBody wsX2_isAbstract := goodIn_r _ [20, 21, 25, 26, 27, 28, 29, 30] (by decide +kernel) (by decide +kernel)
set_option maxRecDepth 20000 in
theorem gX0_findOnlyWithBody_X2_isAbstract : GoodIn wsX0_findOnlyWithBody (wsV RX0 162 RX2 yX2_isAbstract wsX2_isAbstract) := goodIn_app (goodIn_of _ (by decide +kernel)) ggX0_findOnlyWithBody_X2_isAbstract
theorem dX0_findOnlyWithBody_0 : decode cX0_findOnlyWithBody 0 = .ok (.bipush (-2), 2) := by decide +kernel
theorem dX0_findOnlyWithBody_2 : decode cX0_findOnlyWithBody 2 = .ok (.istore_n 3, 1) := by decide +kernel
theorem dX0_findOnlyWithBody_3 : decode cX0_findOnlyWithBody 3 = .ok (.iconst 0, 1) := by decide +kernel
theorem dX0_findOnlyWithBody_4 : decode cX0_findOnlyWithBody 4 = .ok (.istore 4, 2) := by decide +kernel
theorem dX0_findOnlyWithBody_6 : decode cX0_findOnlyWithBody 6 = .ok (.iload 4, 2) := by decide +kernel
theorem dX0_findOnlyWithBody_8 : decode cX0_findOnlyWithBody 8 = .ok (.bipush 12, 2) := by decide +kernel
theorem dX0_findOnlyWithBody_10 : decode cX0_findOnlyWithBody 10 = .ok (.if_icmp .ge 64, 3) := by decide +kernel
theorem dX0_findOnlyWithBody_13 : decode cX0_findOnlyWithBody 13 = .ok (.iload_n 1, 1) := by decide +kernel
theorem dX0_findOnlyWithBody_14 : decode cX0_findOnlyWithBody 14 = .ok (.iload 4, 2) := by decide +kernel
theorem dX0_findOnlyWithBody_16 : decode cX0_findOnlyWithBody 16 = .ok (.invokestatic 115, 3) := by decide +kernel
theorem dX0_findOnlyWithBody_19 : decode cX0_findOnlyWithBody 19 = .ok (.ifCond .eq 49, 3) := by decide +kernel
theorem dX0_findOnlyWithBody_22 : decode cX0_findOnlyWithBody 22 = .ok (.aload_n 0, 1) := by decide +kernel
theorem dX0_findOnlyWithBody_23 : decode cX0_findOnlyWithBody 23 = .ok (.getfield 21, 3) := by decide +kernel
theorem dX0_findOnlyWithBody_26 : decode cX0_findOnlyWithBody 26 = .ok (.iload 4, 2) := by decide +kernel
theorem dX0_findOnlyWithBody_28 : decode cX0_findOnlyWithBody 28 = .ok (.iconst 1, 1) := by decide +kernel
theorem dX0_findOnlyWithBody_29 : decode cX0_findOnlyWithBody 29 = .ok (.iload_n 2, 1) := by decide +kernel
theorem dX0_findOnlyWithBody_30 : decode cX0_findOnlyWithBody 30 = .ok (.invokevirtual 36, 3) := by decide +kernel
theorem dX0_findOnlyWithBody_33 : decode cX0_findOnlyWithBody 33 = .ok (.istore 5, 2) := by decide +kernel
theorem dX0_findOnlyWithBody_35 : decode cX0_findOnlyWithBody 35 = .ok (.iload 5, 2) := by decide +kernel
theorem dX0_findOnlyWithBody_37 : decode cX0_findOnlyWithBody 37 = .ok (.bipush (-2), 2) := by decide +kernel
theorem dX0_findOnlyWithBody_39 : decode cX0_findOnlyWithBody 39 = .ok (.if_icmp .eq 29, 3) := by decide +kernel
theorem dX0_findOnlyWithBody_42 : decode cX0_findOnlyWithBody 42 = .ok (.aload_n 0, 1) := by decide +kernel
theorem dX0_findOnlyWithBody_43 : decode cX0_findOnlyWithBody 43 = .ok (.getfield 21, 3) := by decide +kernel
theorem dX0_findOnlyWithBody_46 : decode cX0_findOnlyWithBody 46 = .ok (.iload 5, 2) := by decide +kernel
theorem dX0_findOnlyWithBody_48 : decode cX0_findOnlyWithBody 48 = .ok (.invokevirtual 162, 3) := by decide +kernel
theorem dX0_findOnlyWithBody_51 : decode cX0_findOnlyWithBody 51 = .ok (.ifCond .ne 17, 3) := by decide +kernel
theorem dX0_findOnlyWithBody_54 : decode cX0_findOnlyWithBody 54 = .ok (.iload_n 3, 1) := by decide +kernel
theorem dX0_findOnlyWithBody_55 : decode cX0_findOnlyWithBody 55 = .ok (.bipush (-2), 2) := by decide +kernel
theorem dX0_findOnlyWithBody_57 : decode cX0_findOnlyWithBody 57 = .ok (.if_icmp .ne 8, 3) := by decide +kernel
theorem dX0_findOnlyWithBody_60 : decode cX0_findOnlyWithBody 60 = .ok (.iload 5, 2) := by decide +kernel
theorem dX0_findOnlyWithBody_62 : decode cX0_findOnlyWithBody 62 = .ok (.goto 5, 3) := by decide +kernel
theorem dX0_findOnlyWithBody_65 : decode cX0_findOnlyWithBody 65 = .ok (.bipush (-4), 2) := by decide +kernel
theorem dX0_findOnlyWithBody_67 : decode cX0_findOnlyWithBody 67 = .ok (.istore_n 3, 1) := by decide +kernel
theorem dX0_findOnlyWithBody_68 : decode cX0_findOnlyWithBody 68 = .ok (.iinc 4 1, 3) := by decide +kernel
theorem dX0_findOnlyWithBody_71 : decode cX0_findOnlyWithBody 71 = .ok (.goto (-65), 3) := by decide +kernel
theorem dX0_findOnlyWithBody_74 : decode cX0_findOnlyWithBody 74 = .ok (.iload_n 3, 1) := by decide +kernel
theorem dX0_findOnlyWithBody_75 : decode cX0_findOnlyWithBody 75 = .ok (.ireturn, 1) := by decide +kernel
set_option maxRecDepth 20000 in
theorem ggX0_checkMember_X0_isAccessible : GoodIn wsX0_checkMember wsX0_isAccessible := goodIn_r _ [7, 1, 2, 8, 9, 10, 11, 12, 13, 14, 15, 16, 17, 18, 19, 20, 21, 22, 23, 24, 25, 26, 27, 6, 28, 29, 30, 31, 32, 33, 34, 35, 36, 37, 38, 39, 40, 41, 42, 43, 44, 45, 46, 47, 48, 49, 50, 51, 52, 53, 54, 55, 56, 57, 80, 81, 82, 83, 84, 85, 86, 87, 88, 89, 90, 91, 92, 93, 94, 95, 96, 97, 98] (by decide +kernel) (by decide +kernel)
set_option maxRecDepth 20000 in
theorem gX0_checkMember_X0_isAccessible : GoodIn wsX0_checkMember (wsV RX0 165 RX0 yX0_isAccessible wsX0_isAccessible) := goodIn_app (goodIn_of _ (by decide +kernel)) ggX0_checkMember_X0_isAccessible
set_option maxRecDepth 20000 in
theorem ggX0_checkMember_X2_isStatic : GoodIn wsX0_checkMember wsX2_isStatic := goodIn_r _ [40, 41, 83, 84, 85, 86, 87, 88] (by decide +kernel) (by decide +kernel)
set_option maxRecDepth 20000 in
theorem gX0_checkMember_X2_isStatic : GoodIn wsX0_checkMember (wsV RX0 139 RX2 yX2_isStatic wsX2_isStatic) := goodIn_app (goodIn_of _ (by decide +kernel)) ggX0_checkMember_X2_isStatic
set_option maxRecDepth 20000 in
theorem ggX0_checkMember_X3_needsStatic : GoodIn wsX0_checkMember wsX3_needsStatic := goodIn_r _ [62, 63, 76, 77, 78, 79] (by decide +kernel) (by decide +kernel)
set_option maxRecDepth 20000 in
theorem gX0_checkMember_X3_needsStatic : GoodIn wsX0_checkMember (wsV RX0 169 RX3 yX3_needsStatic wsX3_needsStatic) := goodIn_app (goodIn_of _ (by decide +kernel)) ggX0_checkMember_X3_needsStatic
set_option maxRecDepth 20000 in
theorem ggX0_checkMember_X3_isPut : GoodIn wsX0_checkMember wsX3_isPut := goodIn_r _ [67, 63, 76, 77, 78, 79] (by decide +kernel) (by decide +kernel)
set_option maxRecDepth 20000 in
theorem gX0_checkMember_X3_isPut : GoodIn wsX0_checkMember (wsV RX0 172 RX3 yX3_isPut wsX3_isPut) := goodIn_app (goodIn_of _ (by decide +kernel)) ggX0_checkMember_X3_isPut
set_option maxRecDepth 20000 in
theorem ggX0_checkMember_X2_isFinal : GoodIn wsX0_checkMember wsX2_isFinal := goodIn_r _ [71, 41, 83, 84, 85, 86, 87, 88] (by decide +kernel) (by decide +kernel)
set_option maxRecDepth 20000 in
theorem gX0_checkMember_X2_isFinal : GoodIn wsX0_checkMember (wsV RX0 175 RX2 yX2_isFinal wsX2_isFinal) := goodIn_app (goodIn_of _ (by decide +kernel)) ggX0_checkMember_X2_isFinal
set_option maxRecDepth 20000 in
theorem ggX0_checkMember_X2_ownerOf : GoodIn wsX0_checkMember wsX2_ownerOf := goodIn_r _ [12, 13, 83, 84, 85, 86, 87, 88] (by decide +kernel) (by decide +kernel)
set_option maxRecDepth 20000 in
theorem gX0_checkMember_X2_ownerOf : GoodIn wsX0_checkMember (wsV RX0 178 RX2 yX2_ownerOf wsX2_ownerOf) := goodIn_app (goodIn_of _ (by decide +kernel)) ggX0_checkMember_X2_ownerOf
set_option maxRecDepth 20000 in
theorem ggX0_checkMember_X1_liesUnder : GoodIn wsX0_checkMember wsX1_liesUnder := goodIn_r _ [45, 33, 46, 34, 35, 36, 89, 90, 91, 92, 93, 94, 95, 96, 97, 98] (by decide +kernel) (by decide +kernel)
set_option maxRecDepth 20000 in
theorem gX0_checkMember_X1_liesUnder : GoodIn wsX0_checkMember (wsV RX0 181 RX1 yX1_liesUnder wsX1_liesUnder) := goodIn_app (goodIn_of _ (by decide +kernel)) ggX0_checkMember_X1_liesUnder
set_option maxRecDepth 20000 in
theorem ggX0_checkMember_X2_isAbstract : GoodIn wsX0_checkMember wsX2_isAbstract := goodIn_r _ [75, 41, 83, 84, 85, 86, 87, 88] (by decide +kernel) (by decide +kernel)
set_option maxRecDepth 20000 in
theorem gX0_checkMember_X2_isAbstract : GoodIn wsX0_checkMember (wsV RX0 162 RX2 yX2_isAbstract wsX2_isAbstract) := goodIn_app (goodIn_of _ (by decide +kernel)) ggX0_checkMember_X2_isAbstract
theorem dX0_checkMember_0 : decode cX0_checkMember 0 = .ok (.aload_n 0, 1) := by decide +kernel
theorem dX0_checkMember_1 : decode cX0_checkMember 1 = .ok (.iload_n 2, 1) := by decide +kernel
theorem dX0_checkMember_2 : decode cX0_checkMember 2 = .ok (.aload_n 1, 1) := by decide +kernel
theorem dX0_checkMember_3 : decode cX0_checkMember 3 = .ok (.getfield 64, 3) := by decide +kernel
theorem dX0_checkMember_6 : decode cX0_checkMember 6 = .ok (.aload_n 1, 1) := by decide +kernel
theorem dX0_checkMember_7 : decode cX0_checkMember 7 = .ok (.getfield 51, 3) := by decide +kernel
theorem dX0_checkMember_10 : decode cX0_checkMember 10 = .ok (.invokevirtual 165, 3) := by decide +kernel
theorem dX0_checkMember_13 : decode cX0_checkMember 13 = .ok (.ifCond .ne 9, 3) := by decide +kernel
theorem dX0_checkMember_16 : decode cX0_checkMember 16 = .ok (.sipush 272, 3) := by decide +kernel
theorem dX0_checkMember_19 : decode cX0_checkMember 19 = .ok (.iload_n 2, 1) := by decide +kernel
theorem dX0_checkMember_20 : decode cX0_checkMember 20 = .ok (.iadd, 1) := by decide +kernel
theorem dX0_checkMember_21 : decode cX0_checkMember 21 = .ok (.ireturn, 1) := by decide +kernel
theorem dX0_checkMember_22 : decode cX0_checkMember 22 = .ok (.aload_n 0, 1) := by decide +kernel
theorem dX0_checkMember_23 : decode cX0_checkMember 23 = .ok (.getfield 21, 3) := by decide +kernel
theorem dX0_checkMember_26 : decode cX0_checkMember 26 = .ok (.iload_n 2, 1) := by decide +kernel
theorem dX0_checkMember_27 : decode cX0_checkMember 27 = .ok (.invokevirtual 139, 3) := by decide +kernel
theorem dX0_checkMember_30 : decode cX0_checkMember 30 = .ok (.aload_n 1, 1) := by decide +kernel
theorem dX0_checkMember_31 : decode cX0_checkMember 31 = .ok (.invokevirtual 169, 3) := by decide +kernel
theorem dX0_checkMember_34 : decode cX0_checkMember 34 = .ok (.if_icmp .eq 9, 3) := by decide +kernel
theorem dX0_checkMember_37 : decode cX0_checkMember 37 = .ok (.sipush 208, 3) := by decide +kernel
theorem dX0_checkMember_40 : decode cX0_checkMember 40 = .ok (.iload_n 2, 1) := by decide +kernel
theorem dX0_checkMember_41 : decode cX0_checkMember 41 = .ok (.iadd, 1) := by decide +kernel
theorem dX0_checkMember_42 : decode cX0_checkMember 42 = .ok (.ireturn, 1) := by decide +kernel
theorem dX0_checkMember_43 : decode cX0_checkMember 43 = .ok (.aload_n 1, 1) := by decide +kernel
theorem dX0_checkMember_44 : decode cX0_checkMember 44 = .ok (.invokevirtual 172, 3) := by decide +kernel
theorem dX0_checkMember_47 : decode cX0_checkMember 47 = .ok (.ifCond .eq 35, 3) := by decide +kernel
theorem dX0_checkMember_50 : decode cX0_checkMember 50 = .ok (.aload_n 0, 1) := by decide +kernel
theorem dX0_checkMember_51 : decode cX0_checkMember 51 = .ok (.getfield 21, 3) := by decide +kernel
theorem dX0_checkMember_54 : decode cX0_checkMember 54 = .ok (.iload_n 2, 1) := by decide +kernel
theorem dX0_checkMember_55 : decode cX0_checkMember 55 = .ok (.invokevirtual 175, 3) := by decide +kernel
theorem dX0_checkMember_58 : decode cX0_checkMember 58 = .ok (.ifCond .eq 24, 3) := by decide +kernel
theorem dX0_checkMember_61 : decode cX0_checkMember 61 = .ok (.aload_n 0, 1) := by decide +kernel
theorem dX0_checkMember_62 : decode cX0_checkMember 62 = .ok (.getfield 21, 3) := by decide +kernel
theorem dX0_checkMember_65 : decode cX0_checkMember 65 = .ok (.iload_n 2, 1) := by decide +kernel
theorem dX0_checkMember_66 : decode cX0_checkMember 66 = .ok (.invokevirtual 178, 3) := by decide +kernel
theorem dX0_checkMember_69 : decode cX0_checkMember 69 = .ok (.aload_n 1, 1) := by decide +kernel
theorem dX0_checkMember_70 : decode cX0_checkMember 70 = .ok (.getfield 51, 3) := by decide +kernel
theorem dX0_checkMember_73 : decode cX0_checkMember 73 = .ok (.if_icmp .eq 9, 3) := by decide +kernel
theorem dX0_checkMember_76 : decode cX0_checkMember 76 = .ok (.sipush 272, 3) := by decide +kernel
theorem dX0_checkMember_79 : decode cX0_checkMember 79 = .ok (.iload_n 2, 1) := by decide +kernel
theorem dX0_checkMember_80 : decode cX0_checkMember 80 = .ok (.iadd, 1) := by decide +kernel
theorem dX0_checkMember_81 : decode cX0_checkMember 81 = .ok (.ireturn, 1) := by decide +kernel
theorem dX0_checkMember_82 : decode cX0_checkMember 82 = .ok (.aload_n 1, 1) := by decide +kernel
theorem dX0_checkMember_83 : decode cX0_checkMember 83 = .ok (.getfield 71, 3) := by decide +kernel
theorem dX0_checkMember_86 : decode cX0_checkMember 86 = .ok (.iconst 5, 1) := by decide +kernel
theorem dX0_checkMember_87 : decode cX0_checkMember 87 = .ok (.if_icmp .ne 30, 3) := by decide +kernel
theorem dX0_checkMember_90 : decode cX0_checkMember 90 = .ok (.aload_n 0, 1) := by decide +kernel
theorem dX0_checkMember_91 : decode cX0_checkMember 91 = .ok (.getfield 12, 3) := by decide +kernel
theorem dX0_checkMember_94 : decode cX0_checkMember 94 = .ok (.aload_n 1, 1) := by decide +kernel
theorem dX0_checkMember_95 : decode cX0_checkMember 95 = .ok (.getfield 51, 3) := by decide +kernel
theorem dX0_checkMember_98 : decode cX0_checkMember 98 = .ok (.aload_n 1, 1) := by decide +kernel
theorem dX0_checkMember_99 : decode cX0_checkMember 99 = .ok (.getfield 64, 3) := by decide +kernel
theorem dX0_checkMember_102 : decode cX0_checkMember 102 = .ok (.invokevirtual 181, 3) := by decide +kernel
theorem dX0_checkMember_105 : decode cX0_checkMember 105 = .ok (.ifCond .ne 12, 3) := by decide +kernel
theorem dX0_checkMember_108 : decode cX0_checkMember 108 = .ok (.sipush 192, 3) := by decide +kernel
theorem dX0_checkMember_111 : decode cX0_checkMember 111 = .ok (.aload_n 1, 1) := by decide +kernel
theorem dX0_checkMember_112 : decode cX0_checkMember 112 = .ok (.getfield 64, 3) := by decide +kernel
theorem dX0_checkMember_115 : decode cX0_checkMember 115 = .ok (.iadd, 1) := by decide +kernel
theorem dX0_checkMember_116 : decode cX0_checkMember 116 = .ok (.ireturn, 1) := by decide +kernel
theorem dX0_checkMember_117 : decode cX0_checkMember 117 = .ok (.aload_n 1, 1) := by decide +kernel
theorem dX0_checkMember_118 : decode cX0_checkMember 118 = .ok (.getfield 71, 3) := by decide +kernel
theorem dX0_checkMember_121 : decode cX0_checkMember 121 = .ok (.iconst 5, 1) := by decide +kernel
theorem dX0_checkMember_122 : decode cX0_checkMember 122 = .ok (.if_icmp .ne 20, 3) := by decide +kernel
theorem dX0_checkMember_125 : decode cX0_checkMember 125 = .ok (.aload_n 0, 1) := by decide +kernel
theorem dX0_checkMember_126 : decode cX0_checkMember 126 = .ok (.getfield 21, 3) := by decide +kernel
theorem dX0_checkMember_129 : decode cX0_checkMember 129 = .ok (.iload_n 2, 1) := by decide +kernel
theorem dX0_checkMember_130 : decode cX0_checkMember 130 = .ok (.invokevirtual 162, 3) := by decide +kernel
theorem dX0_checkMember_133 : decode cX0_checkMember 133 = .ok (.ifCond .eq 9, 3) := by decide +kernel
theorem dX0_checkMember_136 : decode cX0_checkMember 136 = .ok (.sipush 464, 3) := by decide +kernel
theorem dX0_checkMember_139 : decode cX0_checkMember 139 = .ok (.iload_n 2, 1) := by decide +kernel
theorem dX0_checkMember_140 : decode cX0_checkMember 140 = .ok (.iadd, 1) := by decide +kernel
theorem dX0_checkMember_141 : decode cX0_checkMember 141 = .ok (.ireturn, 1) := by decide +kernel
theorem dX0_checkMember_142 : decode cX0_checkMember 142 = .ok (.bipush 16, 2) := by decide +kernel
theorem dX0_checkMember_144 : decode cX0_checkMember 144 = .ok (.iload_n 2, 1) := by decide +kernel
theorem dX0_checkMember_145 : decode cX0_checkMember 145 = .ok (.iadd, 1) := by decide +kernel
theorem dX0_checkMember_146 : decode cX0_checkMember 146 = .ok (.ireturn, 1) := by decide +kernel
set_option maxRecDepth 20000 in
theorem ggX0_isAccessible_X2_ownerOf : GoodIn wsX0_isAccessible wsX2_ownerOf := goodIn_r _ [7, 8, 57, 58, 59, 60, 61, 62] (by decide +kernel) (by decide +kernel)
set_option maxRecDepth 20000 in
theorem gX0_isAccessible_X2_ownerOf : GoodIn wsX0_isAccessible (wsV RX0 178 RX2 yX2_ownerOf wsX2_ownerOf) := goodIn_app (goodIn_of _ (by decide +kernel)) ggX0_isAccessible_X2_ownerOf
set_option maxRecDepth 20000 in
theorem ggX0_isAccessible_X2_accessOf : GoodIn wsX0_isAccessible wsX2_accessOf := goodIn_r _ [12, 13, 57, 58, 59, 60, 61, 62] (by decide +kernel) (by decide +kernel)
set_option maxRecDepth 20000 in
theorem gX0_isAccessible_X2_accessOf : GoodIn wsX0_isAccessible (wsV RX0 96 RX2 yX2_accessOf wsX2_accessOf) := goodIn_app (goodIn_of _ (by decide +kernel)) ggX0_isAccessible_X2_accessOf
set_option maxRecDepth 20000 in
theorem ggX0_isAccessible_X1_isSamePackage : GoodIn wsX0_isAccessible wsX1_isSamePackage := goodIn_r _ [18, 19, 63, 64, 65, 66, 67, 68, 69, 70, 71, 72] (by decide +kernel) (by decide +kernel)
set_option maxRecDepth 20000 in
theorem gX0_isAccessible_X1_isSamePackage : GoodIn wsX0_isAccessible (wsV RX0 184 RX1 yX1_isSamePackage wsX1_isSamePackage) := goodIn_app (goodIn_of _ (by decide +kernel)) ggX0_isAccessible_X1_isSamePackage
set_option maxRecDepth 20000 in
theorem ggX0_isAccessible_X0_isInherited : GoodIn wsX0_isAccessible wsX0_isInherited := goodIn_r _ [24, 2, 1, 3, 4, 5, 6, 7, 8, 25, 26, 27, 17, 28, 29, 30, 31, 32, 33, 34, 35, 36, 37, 38, 39, 40, 41, 42, 54, 55, 56, 57, 58, 59, 60, 61, 62, 63, 64, 65, 66, 67, 68, 69, 70, 71, 72] (by decide +kernel) (by decide +kernel)
set_option maxRecDepth 20000 in
theorem gX0_isAccessible_X0_isInherited : GoodIn wsX0_isAccessible (wsV RX0 187 RX0 yX0_isInherited wsX0_isInherited) := goodIn_app (goodIn_of _ (by decide +kernel)) ggX0_isAccessible_X0_isInherited
set_option maxRecDepth 20000 in
theorem ggX0_isAccessible_X1_nestOf : GoodIn wsX0_isAccessible wsX1_nestOf := goodIn_r _ [46, 47, 48, 49, 50, 17, 51, 52, 30, 31, 32, 53, 15, 16, 18, 19, 63, 64, 65, 66, 67, 68, 69, 70, 71, 72] (by decide +kernel) (by decide +kernel)
set_option maxRecDepth 20000 in
theorem gX0_isAccessible_X1_nestOf : GoodIn wsX0_isAccessible (wsV RX0 190 RX1 yX1_nestOf wsX1_nestOf) := goodIn_app (goodIn_of _ (by decide +kernel)) ggX0_isAccessible_X1_nestOf
theorem dX0_isAccessible_0 : decode cX0_isAccessible 0 = .ok (.aload_n 0, 1) := by decide +kernel
theorem dX0_isAccessible_1 : decode cX0_isAccessible 1 = .ok (.getfield 21, 3) := by decide +kernel
theorem dX0_isAccessible_4 : decode cX0_isAccessible 4 = .ok (.iload_n 1, 1) := by decide +kernel
theorem dX0_isAccessible_5 : decode cX0_isAccessible 5 = .ok (.invokevirtual 178, 3) := by decide +kernel
theorem dX0_isAccessible_8 : decode cX0_isAccessible 8 = .ok (.istore 4, 2) := by decide +kernel
theorem dX0_isAccessible_10 : decode cX0_isAccessible 10 = .ok (.aload_n 0, 1) := by decide +kernel
theorem dX0_isAccessible_11 : decode cX0_isAccessible 11 = .ok (.getfield 21, 3) := by decide +kernel
theorem dX0_isAccessible_14 : decode cX0_isAccessible 14 = .ok (.iload_n 1, 1) := by decide +kernel
theorem dX0_isAccessible_15 : decode cX0_isAccessible 15 = .ok (.invokevirtual 96, 3) := by decide +kernel
theorem dX0_isAccessible_18 : decode cX0_isAccessible 18 = .ok (.tableswitch 68 1 3 #[57, 28, 26], 26) := by decide +kernel
theorem dX0_isAccessible_44 : decode cX0_isAccessible 44 = .ok (.iconst 1, 1) := by decide +kernel
theorem dX0_isAccessible_45 : decode cX0_isAccessible 45 = .ok (.ireturn, 1) := by decide +kernel
theorem dX0_isAccessible_46 : decode cX0_isAccessible 46 = .ok (.aload_n 0, 1) := by decide +kernel
theorem dX0_isAccessible_47 : decode cX0_isAccessible 47 = .ok (.getfield 12, 3) := by decide +kernel
theorem dX0_isAccessible_50 : decode cX0_isAccessible 50 = .ok (.iload 4, 2) := by decide +kernel
theorem dX0_isAccessible_52 : decode cX0_isAccessible 52 = .ok (.iload_n 3, 1) := by decide +kernel
theorem dX0_isAccessible_53 : decode cX0_isAccessible 53 = .ok (.invokevirtual 184, 3) := by decide +kernel
theorem dX0_isAccessible_56 : decode cX0_isAccessible 56 = .ok (.ifCond .ne 13, 3) := by decide +kernel
theorem dX0_isAccessible_59 : decode cX0_isAccessible 59 = .ok (.aload_n 0, 1) := by decide +kernel
theorem dX0_isAccessible_60 : decode cX0_isAccessible 60 = .ok (.iload_n 1, 1) := by decide +kernel
theorem dX0_isAccessible_61 : decode cX0_isAccessible 61 = .ok (.iload_n 2, 1) := by decide +kernel
theorem dX0_isAccessible_62 : decode cX0_isAccessible 62 = .ok (.iload_n 3, 1) := by decide +kernel
theorem dX0_isAccessible_63 : decode cX0_isAccessible 63 = .ok (.invokevirtual 187, 3) := by decide +kernel
theorem dX0_isAccessible_66 : decode cX0_isAccessible 66 = .ok (.ifCond .eq 7, 3) := by decide +kernel
theorem dX0_isAccessible_69 : decode cX0_isAccessible 69 = .ok (.iconst 1, 1) := by decide +kernel
theorem dX0_isAccessible_70 : decode cX0_isAccessible 70 = .ok (.goto 4, 3) := by decide +kernel
theorem dX0_isAccessible_73 : decode cX0_isAccessible 73 = .ok (.iconst 0, 1) := by decide +kernel
theorem dX0_isAccessible_74 : decode cX0_isAccessible 74 = .ok (.ireturn, 1) := by decide +kernel
theorem dX0_isAccessible_75 : decode cX0_isAccessible 75 = .ok (.aload_n 0, 1) := by decide +kernel
theorem dX0_isAccessible_76 : decode cX0_isAccessible 76 = .ok (.getfield 12, 3) := by decide +kernel
theorem dX0_isAccessible_79 : decode cX0_isAccessible 79 = .ok (.iload 4, 2) := by decide +kernel
theorem dX0_isAccessible_81 : decode cX0_isAccessible 81 = .ok (.iload_n 3, 1) := by decide +kernel
theorem dX0_isAccessible_82 : decode cX0_isAccessible 82 = .ok (.invokevirtual 184, 3) := by decide +kernel
theorem dX0_isAccessible_85 : decode cX0_isAccessible 85 = .ok (.ireturn, 1) := by decide +kernel
theorem dX0_isAccessible_86 : decode cX0_isAccessible 86 = .ok (.aload_n 0, 1) := by decide +kernel
theorem dX0_isAccessible_87 : decode cX0_isAccessible 87 = .ok (.getfield 12, 3) := by decide +kernel
theorem dX0_isAccessible_90 : decode cX0_isAccessible 90 = .ok (.iload 4, 2) := by decide +kernel
theorem dX0_isAccessible_92 : decode cX0_isAccessible 92 = .ok (.invokevirtual 190, 3) := by decide +kernel
theorem dX0_isAccessible_95 : decode cX0_isAccessible 95 = .ok (.aload_n 0, 1) := by decide +kernel
theorem dX0_isAccessible_96 : decode cX0_isAccessible 96 = .ok (.getfield 12, 3) := by decide +kernel
theorem dX0_isAccessible_99 : decode cX0_isAccessible 99 = .ok (.iload_n 3, 1) := by decide +kernel
theorem dX0_isAccessible_100 : decode cX0_isAccessible 100 = .ok (.invokevirtual 190, 3) := by decide +kernel
theorem dX0_isAccessible_103 : decode cX0_isAccessible 103 = .ok (.if_icmp .ne 7, 3) := by decide +kernel
theorem dX0_isAccessible_106 : decode cX0_isAccessible 106 = .ok (.iconst 1, 1) := by decide +kernel
theorem dX0_isAccessible_107 : decode cX0_isAccessible 107 = .ok (.goto 4, 3) := by decide +kernel
theorem dX0_isAccessible_110 : decode cX0_isAccessible 110 = .ok (.iconst 0, 1) := by decide +kernel
theorem dX0_isAccessible_111 : decode cX0_isAccessible 111 = .ok (.ireturn, 1) := by decide +kernel
set_option maxRecDepth 20000 in
theorem ggX0_isInherited_X2_ownerOf : GoodIn wsX0_isInherited wsX2_ownerOf := goodIn_r _ [7, 8, 31, 32, 33, 34, 35, 36] (by decide +kernel) (by decide +kernel)
set_option maxRecDepth 20000 in
theorem gX0_isInherited_X2_ownerOf : GoodIn wsX0_isInherited (wsV RX0 178 RX2 yX2_ownerOf wsX2_ownerOf) := goodIn_app (goodIn_of _ (by decide +kernel)) ggX0_isInherited_X2_ownerOf
set_option maxRecDepth 20000 in
theorem ggX0_isInherited_X1_hasAbove : GoodIn wsX0_isInherited wsX1_hasAbove := goodIn_r _ [13, 14, 15, 16, 17, 37, 38, 39, 40, 41, 42, 43, 44, 45, 46] (by decide +kernel) (by decide +kernel)
set_option maxRecDepth 20000 in
theorem gX0_isInherited_X1_hasAbove : GoodIn wsX0_isInherited (wsV RX0 193 RX1 yX1_hasAbove wsX1_hasAbove) := goodIn_app (goodIn_of _ (by decide +kernel)) ggX0_isInherited_X1_hasAbove
set_option maxRecDepth 20000 in
theorem ggX0_isInherited_X2_isStatic : GoodIn wsX0_isInherited wsX2_isStatic := goodIn_r _ [21, 22, 31, 32, 33, 34, 35, 36] (by decide +kernel) (by decide +kernel)
set_option maxRecDepth 20000 in
theorem gX0_isInherited_X2_isStatic : GoodIn wsX0_isInherited (wsV RX0 139 RX2 yX2_isStatic wsX2_isStatic) := goodIn_app (goodIn_of _ (by decide +kernel)) ggX0_isInherited_X2_isStatic
set_option maxRecDepth 20000 in
theorem ggX0_isInherited_X1_liesUnder : GoodIn wsX0_isInherited wsX1_liesUnder := goodIn_r _ [26, 14, 27, 15, 16, 17, 37, 38, 39, 40, 41, 42, 43, 44, 45, 46] (by decide +kernel) (by decide +kernel)
set_option maxRecDepth 20000 in
theorem gX0_isInherited_X1_liesUnder : GoodIn wsX0_isInherited (wsV RX0 181 RX1 yX1_liesUnder wsX1_liesUnder) := goodIn_app (goodIn_of _ (by decide +kernel)) ggX0_isInherited_X1_liesUnder
theorem dX0_isInherited_0 : decode cX0_isInherited 0 = .ok (.aload_n 0, 1) := by decide +kernel
theorem dX0_isInherited_1 : decode cX0_isInherited 1 = .ok (.getfield 12, 3) := by decide +kernel
theorem dX0_isInherited_4 : decode cX0_isInherited 4 = .ok (.iload_n 3, 1) := by decide +kernel
theorem dX0_isInherited_5 : decode cX0_isInherited 5 = .ok (.aload_n 0, 1) := by decide +kernel
theorem dX0_isInherited_6 : decode cX0_isInherited 6 = .ok (.getfield 21, 3) := by decide +kernel
theorem dX0_isInherited_9 : decode cX0_isInherited 9 = .ok (.iload_n 1, 1) := by decide +kernel
theorem dX0_isInherited_10 : decode cX0_isInherited 10 = .ok (.invokevirtual 178, 3) := by decide +kernel
theorem dX0_isInherited_13 : decode cX0_isInherited 13 = .ok (.invokevirtual 193, 3) := by decide +kernel
theorem dX0_isInherited_16 : decode cX0_isInherited 16 = .ok (.ifCond .eq 42, 3) := by decide +kernel
theorem dX0_isInherited_19 : decode cX0_isInherited 19 = .ok (.aload_n 0, 1) := by decide +kernel
theorem dX0_isInherited_20 : decode cX0_isInherited 20 = .ok (.getfield 21, 3) := by decide +kernel
theorem dX0_isInherited_23 : decode cX0_isInherited 23 = .ok (.iload_n 1, 1) := by decide +kernel
theorem dX0_isInherited_24 : decode cX0_isInherited 24 = .ok (.invokevirtual 139, 3) := by decide +kernel
theorem dX0_isInherited_27 : decode cX0_isInherited 27 = .ok (.ifCond .ne 27, 3) := by decide +kernel
theorem dX0_isInherited_30 : decode cX0_isInherited 30 = .ok (.aload_n 0, 1) := by decide +kernel
theorem dX0_isInherited_31 : decode cX0_isInherited 31 = .ok (.getfield 12, 3) := by decide +kernel
theorem dX0_isInherited_34 : decode cX0_isInherited 34 = .ok (.iload_n 2, 1) := by decide +kernel
theorem dX0_isInherited_35 : decode cX0_isInherited 35 = .ok (.iload_n 3, 1) := by decide +kernel
theorem dX0_isInherited_36 : decode cX0_isInherited 36 = .ok (.invokevirtual 181, 3) := by decide +kernel
theorem dX0_isInherited_39 : decode cX0_isInherited 39 = .ok (.ifCond .ne 15, 3) := by decide +kernel
theorem dX0_isInherited_42 : decode cX0_isInherited 42 = .ok (.aload_n 0, 1) := by decide +kernel
theorem dX0_isInherited_43 : decode cX0_isInherited 43 = .ok (.getfield 12, 3) := by decide +kernel
theorem dX0_isInherited_46 : decode cX0_isInherited 46 = .ok (.iload_n 3, 1) := by decide +kernel
theorem dX0_isInherited_47 : decode cX0_isInherited 47 = .ok (.iload_n 2, 1) := by decide +kernel
theorem dX0_isInherited_48 : decode cX0_isInherited 48 = .ok (.invokevirtual 181, 3) := by decide +kernel
theorem dX0_isInherited_51 : decode cX0_isInherited 51 = .ok (.ifCond .eq 7, 3) := by decide +kernel
theorem dX0_isInherited_54 : decode cX0_isInherited 54 = .ok (.iconst 1, 1) := by decide +kernel
theorem dX0_isInherited_55 : decode cX0_isInherited 55 = .ok (.goto 4, 3) := by decide +kernel
theorem dX0_isInherited_58 : decode cX0_isInherited 58 = .ok (.iconst 0, 1) := by decide +kernel
theorem dX0_isInherited_59 : decode cX0_isInherited 59 = .ok (.ireturn, 1) := by decide +kernel
set_option maxRecDepth 20000 in
theorem ggX0_isFit_X1_loading : GoodIn wsX0_isFit wsX1_loading := goodIn_r _ [6, 7, 30, 31, 32, 33, 34, 35, 36, 37, 38, 39] (by decide +kernel) (by decide +kernel)
set_option maxRecDepth 20000 in
theorem gX0_isFit_X1_loading : GoodIn wsX0_isFit (wsV RX0 57 RX1 yX1_loading wsX1_loading) := goodIn_app (goodIn_of _ (by decide +kernel)) ggX0_isFit_X1_loading
set_option maxRecDepth 20000 in
theorem ggX0_isFit_X4_isGood : GoodIn wsX0_isFit wsX4_isGood := goodIn_r _ [10, 11, 12, 9, 13] (by decide +kernel) (by decide +kernel)
set_option maxRecDepth 20000 in
theorem gX0_isFit_X4_isGood_n61 : GoodIn wsX0_isFit (wsX4_isGood) := ggX0_isFit_X4_isGood
set_option maxRecDepth 20000 in
theorem ggX0_isFit_X1_canBeMade : GoodIn wsX0_isFit wsX1_canBeMade := goodIn_r _ [17, 18, 30, 31, 32, 33, 34, 35, 36, 37, 38, 39] (by decide +kernel) (by decide +kernel)
set_option maxRecDepth 20000 in
theorem gX0_isFit_X1_canBeMade : GoodIn wsX0_isFit (wsV RX0 196 RX1 yX1_canBeMade wsX1_canBeMade) := goodIn_app (goodIn_of _ (by decide +kernel)) ggX0_isFit_X1_canBeMade
set_option maxRecDepth 20000 in
theorem ggX0_isFit_X1_liesUnder : GoodIn wsX0_isFit wsX1_liesUnder := goodIn_r _ [22, 23, 24, 25, 9, 26, 30, 31, 32, 33, 34, 35, 36, 37, 38, 39] (by decide +kernel) (by decide +kernel)
set_option maxRecDepth 20000 in
theorem gX0_isFit_X1_liesUnder : GoodIn wsX0_isFit (wsV RX0 181 RX1 yX1_liesUnder wsX1_liesUnder) := goodIn_app (goodIn_of _ (by decide +kernel)) ggX0_isFit_X1_liesUnder
theorem dX0_isFit_0 : decode cX0_isFit 0 = .ok (.aload_n 0, 1) := by decide +kernel
theorem dX0_isFit_1 : decode cX0_isFit 1 = .ok (.getfield 12, 3) := by decide +kernel
theorem dX0_isFit_4 : decode cX0_isFit 4 = .ok (.iload_n 1, 1) := by decide +kernel
theorem dX0_isFit_5 : decode cX0_isFit 5 = .ok (.invokevirtual 57, 3) := by decide +kernel
theorem dX0_isFit_8 : decode cX0_isFit 8 = .ok (.invokestatic 61, 3) := by decide +kernel
theorem dX0_isFit_11 : decode cX0_isFit 11 = .ok (.ifCond .eq 30, 3) := by decide +kernel
theorem dX0_isFit_14 : decode cX0_isFit 14 = .ok (.aload_n 0, 1) := by decide +kernel
theorem dX0_isFit_15 : decode cX0_isFit 15 = .ok (.getfield 12, 3) := by decide +kernel
theorem dX0_isFit_18 : decode cX0_isFit 18 = .ok (.iload_n 1, 1) := by decide +kernel
theorem dX0_isFit_19 : decode cX0_isFit 19 = .ok (.invokevirtual 196, 3) := by decide +kernel
theorem dX0_isFit_22 : decode cX0_isFit 22 = .ok (.ifCond .eq 19, 3) := by decide +kernel
theorem dX0_isFit_25 : decode cX0_isFit 25 = .ok (.aload_n 0, 1) := by decide +kernel
theorem dX0_isFit_26 : decode cX0_isFit 26 = .ok (.getfield 12, 3) := by decide +kernel
theorem dX0_isFit_29 : decode cX0_isFit 29 = .ok (.iload_n 1, 1) := by decide +kernel
theorem dX0_isFit_30 : decode cX0_isFit 30 = .ok (.iload_n 2, 1) := by decide +kernel
theorem dX0_isFit_31 : decode cX0_isFit 31 = .ok (.invokevirtual 181, 3) := by decide +kernel
theorem dX0_isFit_34 : decode cX0_isFit 34 = .ok (.ifCond .eq 7, 3) := by decide +kernel
theorem dX0_isFit_37 : decode cX0_isFit 37 = .ok (.iconst 1, 1) := by decide +kernel
theorem dX0_isFit_38 : decode cX0_isFit 38 = .ok (.goto 4, 3) := by decide +kernel
theorem dX0_isFit_41 : decode cX0_isFit 41 = .ok (.iconst 0, 1) := by decide +kernel
theorem dX0_isFit_42 : decode cX0_isFit 42 = .ok (.ireturn, 1) := by decide +kernel
set_option maxRecDepth 20000 in
theorem ggX0_selectFor_X2_find : GoodIn wsX0_selectFor wsX2_find := goodIn_r _ [7, 8, 9, 10, 11, 12, 13, 6, 14, 15, 16, 17, 79, 80, 81, 82, 83, 84] (by decide +kernel) (by decide +kernel)
set_option maxRecDepth 20000 in
theorem gX0_selectFor_X2_find : GoodIn wsX0_selectFor (wsV RX0 36 RX2 yX2_find wsX2_find) := goodIn_app (goodIn_of _ (by decide +kernel)) ggX0_selectFor_X2_find
set_option maxRecDepth 20000 in
theorem ggX0_selectFor_X0_overrides : GoodIn wsX0_selectFor wsX0_overrides := goodIn_r _ [22, 1, 2, 23, 24, 25, 6, 26, 27, 28, 29, 30, 31, 32, 33, 34, 35, 36, 10, 37, 38, 39, 40, 41, 42, 76, 77, 78, 79, 80, 81, 82, 83, 84, 85, 86, 87, 88, 89, 90, 91, 92, 93, 94] (by decide +kernel) (by decide +kernel)
set_option maxRecDepth 20000 in
theorem gX0_selectFor_X0_overrides : GoodIn wsX0_selectFor (wsV RX0 199 RX0 yX0_overrides wsX0_overrides) := goodIn_app (goodIn_of _ (by decide +kernel)) ggX0_selectFor_X0_overrides
set_option maxRecDepth 20000 in
theorem ggX0_selectFor_X1_superOf : GoodIn wsX0_selectFor wsX1_superOf := goodIn_r _ [46, 47, 85, 86, 87, 88, 89, 90, 91, 92, 93, 94] (by decide +kernel) (by decide +kernel)
set_option maxRecDepth 20000 in
theorem gX0_selectFor_X1_superOf : GoodIn wsX0_selectFor (wsV RX0 124 RX1 yX1_superOf wsX1_superOf) := goodIn_app (goodIn_of _ (by decide +kernel)) ggX0_selectFor_X1_superOf
set_option maxRecDepth 20000 in
theorem ggX0_selectFor_X0_selectFromFaces : GoodIn wsX0_selectFor wsX0_selectFromFaces := goodIn_r _ [51, 2, 1, 52, 53, 54, 40, 55, 56, 57, 58, 59, 6, 60, 8, 9, 11, 10, 12, 13, 14, 15, 16, 17, 61, 24, 25, 26, 27, 28, 62, 63, 64, 65, 66, 67, 68, 69, 70, 21, 71, 3, 4, 5, 7, 72, 73, 74, 75, 76, 77, 78, 85, 86, 87, 88, 89, 90, 91, 92, 93, 94, 79, 80, 81, 82, 83, 84] (by decide +kernel) (by decide +kernel)
set_option maxRecDepth 20000 in
theorem gX0_selectFor_X0_selectFromFaces : GoodIn wsX0_selectFor (wsV RX0 202 RX0 yX0_selectFromFaces wsX0_selectFromFaces) := goodIn_app (goodIn_of _ (by decide +kernel)) ggX0_selectFor_X0_selectFromFaces
theorem dX0_selectFor_0 : decode cX0_selectFor 0 = .ok (.iload_n 1, 1) := by decide +kernel
theorem dX0_selectFor_1 : decode cX0_selectFor 1 = .ok (.istore 4, 2) := by decide +kernel
theorem dX0_selectFor_3 : decode cX0_selectFor 3 = .ok (.iconst 0, 1) := by decide +kernel
theorem dX0_selectFor_4 : decode cX0_selectFor 4 = .ok (.istore 5, 2) := by decide +kernel
theorem dX0_selectFor_6 : decode cX0_selectFor 6 = .ok (.iload 5, 2) := by decide +kernel
theorem dX0_selectFor_8 : decode cX0_selectFor 8 = .ok (.bipush 12, 2) := by decide +kernel
theorem dX0_selectFor_10 : decode cX0_selectFor 10 = .ok (.if_icmp .ge 62, 3) := by decide +kernel
theorem dX0_selectFor_13 : decode cX0_selectFor 13 = .ok (.iload 4, 2) := by decide +kernel
theorem dX0_selectFor_15 : decode cX0_selectFor 15 = .ok (.iconst (-1), 1) := by decide +kernel
theorem dX0_selectFor_16 : decode cX0_selectFor 16 = .ok (.if_icmp .eq 56, 3) := by decide +kernel
theorem dX0_selectFor_19 : decode cX0_selectFor 19 = .ok (.aload_n 0, 1) := by decide +kernel
theorem dX0_selectFor_20 : decode cX0_selectFor 20 = .ok (.getfield 21, 3) := by decide +kernel
theorem dX0_selectFor_23 : decode cX0_selectFor 23 = .ok (.iload 4, 2) := by decide +kernel
theorem dX0_selectFor_25 : decode cX0_selectFor 25 = .ok (.iconst 1, 1) := by decide +kernel
theorem dX0_selectFor_26 : decode cX0_selectFor 26 = .ok (.iload_n 3, 1) := by decide +kernel
theorem dX0_selectFor_27 : decode cX0_selectFor 27 = .ok (.invokevirtual 36, 3) := by decide +kernel
theorem dX0_selectFor_30 : decode cX0_selectFor 30 = .ok (.istore 6, 2) := by decide +kernel
theorem dX0_selectFor_32 : decode cX0_selectFor 32 = .ok (.iload 6, 2) := by decide +kernel
theorem dX0_selectFor_34 : decode cX0_selectFor 34 = .ok (.bipush (-2), 2) := by decide +kernel
theorem dX0_selectFor_36 : decode cX0_selectFor 36 = .ok (.if_icmp .eq 19, 3) := by decide +kernel
theorem dX0_selectFor_39 : decode cX0_selectFor 39 = .ok (.aload_n 0, 1) := by decide +kernel
theorem dX0_selectFor_40 : decode cX0_selectFor 40 = .ok (.iload 6, 2) := by decide +kernel
theorem dX0_selectFor_42 : decode cX0_selectFor 42 = .ok (.iload_n 2, 1) := by decide +kernel
theorem dX0_selectFor_43 : decode cX0_selectFor 43 = .ok (.invokevirtual 199, 3) := by decide +kernel
theorem dX0_selectFor_46 : decode cX0_selectFor 46 = .ok (.ifCond .eq 9, 3) := by decide +kernel
theorem dX0_selectFor_49 : decode cX0_selectFor 49 = .ok (.bipush 16, 2) := by decide +kernel
theorem dX0_selectFor_51 : decode cX0_selectFor 51 = .ok (.iload 6, 2) := by decide +kernel
theorem dX0_selectFor_53 : decode cX0_selectFor 53 = .ok (.iadd, 1) := by decide +kernel
theorem dX0_selectFor_54 : decode cX0_selectFor 54 = .ok (.ireturn, 1) := by decide +kernel
theorem dX0_selectFor_55 : decode cX0_selectFor 55 = .ok (.aload_n 0, 1) := by decide +kernel
theorem dX0_selectFor_56 : decode cX0_selectFor 56 = .ok (.getfield 12, 3) := by decide +kernel
theorem dX0_selectFor_59 : decode cX0_selectFor 59 = .ok (.iload 4, 2) := by decide +kernel
theorem dX0_selectFor_61 : decode cX0_selectFor 61 = .ok (.invokevirtual 124, 3) := by decide +kernel
theorem dX0_selectFor_64 : decode cX0_selectFor 64 = .ok (.istore 4, 2) := by decide +kernel
theorem dX0_selectFor_66 : decode cX0_selectFor 66 = .ok (.iinc 5 1, 3) := by decide +kernel
theorem dX0_selectFor_69 : decode cX0_selectFor 69 = .ok (.goto (-63), 3) := by decide +kernel
theorem dX0_selectFor_72 : decode cX0_selectFor 72 = .ok (.aload_n 0, 1) := by decide +kernel
theorem dX0_selectFor_73 : decode cX0_selectFor 73 = .ok (.iload_n 1, 1) := by decide +kernel
theorem dX0_selectFor_74 : decode cX0_selectFor 74 = .ok (.iload_n 3, 1) := by decide +kernel
theorem dX0_selectFor_75 : decode cX0_selectFor 75 = .ok (.invokevirtual 202, 3) := by decide +kernel
theorem dX0_selectFor_78 : decode cX0_selectFor 78 = .ok (.ireturn, 1) := by decide +kernel
set_option maxRecDepth 20000 in
theorem ggX0_selectFromFaces_X1_facesOf : GoodIn wsX0_selectFromFaces wsX1_facesOf := goodIn_r _ [7, 8, 52, 53, 54, 55, 56, 57, 58, 59, 60, 61] (by decide +kernel) (by decide +kernel)
set_option maxRecDepth 20000 in
theorem gX0_selectFromFaces_X1_facesOf : GoodIn wsX0_selectFromFaces (wsV RX0 142 RX1 yX1_facesOf wsX1_facesOf) := goodIn_app (goodIn_of _ (by decide +kernel)) ggX0_selectFromFaces_X1_facesOf
set_option maxRecDepth 20000 in
theorem ggX0_selectFromFaces_X2_ownersOfInheritable : GoodIn wsX0_selectFromFaces wsX2_ownersOfInheritable := goodIn_r _ [13, 14, 15, 16, 17, 18, 19, 12, 20, 21, 22, 23, 24, 25, 26, 27, 28, 29, 30, 31, 62, 63, 64, 65, 66, 67] (by decide +kernel) (by decide +kernel)
set_option maxRecDepth 20000 in
theorem gX0_selectFromFaces_X2_ownersOfInheritable : GoodIn wsX0_selectFromFaces (wsV RX0 145 RX2 yX2_ownersOfInheritable wsX2_ownersOfInheritable) := goodIn_app (goodIn_of _ (by decide +kernel)) ggX0_selectFromFaces_X2_ownersOfInheritable
set_option maxRecDepth 20000 in
theorem ggX0_selectFromFaces_X1_mostSpecificOf : GoodIn wsX0_selectFromFaces wsX1_mostSpecificOf := goodIn_r _ [35, 8, 21, 22, 23, 52, 53, 54, 55, 56, 57, 58, 59, 60, 61] (by decide +kernel) (by decide +kernel)
set_option maxRecDepth 20000 in
theorem gX0_selectFromFaces_X1_mostSpecificOf : GoodIn wsX0_selectFromFaces (wsV RX0 148 RX1 yX1_mostSpecificOf wsX1_mostSpecificOf) := goodIn_app (goodIn_of _ (by decide +kernel)) ggX0_selectFromFaces_X1_mostSpecificOf
set_option maxRecDepth 20000 in
theorem ggX0_selectFromFaces_X0_findOnlyWithBody : GoodIn wsX0_selectFromFaces wsX0_findOnlyWithBody := goodIn_r _ [40, 2, 21, 22, 23, 41, 42, 43, 12, 44, 14, 15, 17, 16, 18, 19, 20, 45, 46, 47, 48, 29, 49, 50, 51, 62, 63, 64, 65, 66, 67] (by decide +kernel) (by decide +kernel)
set_option maxRecDepth 20000 in
theorem gX0_selectFromFaces_X0_findOnlyWithBody : GoodIn wsX0_selectFromFaces (wsV RX0 151 RX0 yX0_findOnlyWithBody wsX0_findOnlyWithBody) := goodIn_app (goodIn_of _ (by decide +kernel)) ggX0_selectFromFaces_X0_findOnlyWithBody
theorem dX0_selectFromFaces_0 : decode cX0_selectFromFaces 0 = .ok (.aload_n 0, 1) := by decide +kernel
theorem dX0_selectFromFaces_1 : decode cX0_selectFromFaces 1 = .ok (.getfield 12, 3) := by decide +kernel
theorem dX0_selectFromFaces_4 : decode cX0_selectFromFaces 4 = .ok (.iload_n 1, 1) := by decide +kernel
theorem dX0_selectFromFaces_5 : decode cX0_selectFromFaces 5 = .ok (.invokevirtual 142, 3) := by decide +kernel
theorem dX0_selectFromFaces_8 : decode cX0_selectFromFaces 8 = .ok (.aload_n 0, 1) := by decide +kernel
theorem dX0_selectFromFaces_9 : decode cX0_selectFromFaces 9 = .ok (.getfield 21, 3) := by decide +kernel
theorem dX0_selectFromFaces_12 : decode cX0_selectFromFaces 12 = .ok (.iload_n 2, 1) := by decide +kernel
theorem dX0_selectFromFaces_13 : decode cX0_selectFromFaces 13 = .ok (.invokevirtual 145, 3) := by decide +kernel
theorem dX0_selectFromFaces_16 : decode cX0_selectFromFaces 16 = .ok (.iand, 1) := by decide +kernel
theorem dX0_selectFromFaces_17 : decode cX0_selectFromFaces 17 = .ok (.istore_n 3, 1) := by decide +kernel
theorem dX0_selectFromFaces_18 : decode cX0_selectFromFaces 18 = .ok (.aload_n 0, 1) := by decide +kernel
theorem dX0_selectFromFaces_19 : decode cX0_selectFromFaces 19 = .ok (.aload_n 0, 1) := by decide +kernel
theorem dX0_selectFromFaces_20 : decode cX0_selectFromFaces 20 = .ok (.getfield 12, 3) := by decide +kernel
theorem dX0_selectFromFaces_23 : decode cX0_selectFromFaces 23 = .ok (.iload_n 3, 1) := by decide +kernel
theorem dX0_selectFromFaces_24 : decode cX0_selectFromFaces 24 = .ok (.invokevirtual 148, 3) := by decide +kernel
theorem dX0_selectFromFaces_27 : decode cX0_selectFromFaces 27 = .ok (.iload_n 2, 1) := by decide +kernel
theorem dX0_selectFromFaces_28 : decode cX0_selectFromFaces 28 = .ok (.invokevirtual 151, 3) := by decide +kernel
theorem dX0_selectFromFaces_31 : decode cX0_selectFromFaces 31 = .ok (.istore 4, 2) := by decide +kernel
theorem dX0_selectFromFaces_33 : decode cX0_selectFromFaces 33 = .ok (.iload 4, 2) := by decide +kernel
theorem dX0_selectFromFaces_35 : decode cX0_selectFromFaces 35 = .ok (.bipush (-4), 2) := by decide +kernel
theorem dX0_selectFromFaces_37 : decode cX0_selectFromFaces 37 = .ok (.if_icmp .ne 9, 3) := by decide +kernel
theorem dX0_selectFromFaces_40 : decode cX0_selectFromFaces 40 = .ok (.sipush 192, 3) := by decide +kernel
theorem dX0_selectFromFaces_43 : decode cX0_selectFromFaces 43 = .ok (.iload_n 1, 1) := by decide +kernel
theorem dX0_selectFromFaces_44 : decode cX0_selectFromFaces 44 = .ok (.iadd, 1) := by decide +kernel
theorem dX0_selectFromFaces_45 : decode cX0_selectFromFaces 45 = .ok (.ireturn, 1) := by decide +kernel
theorem dX0_selectFromFaces_46 : decode cX0_selectFromFaces 46 = .ok (.iload 4, 2) := by decide +kernel
theorem dX0_selectFromFaces_48 : decode cX0_selectFromFaces 48 = .ok (.bipush (-2), 2) := by decide +kernel
theorem dX0_selectFromFaces_50 : decode cX0_selectFromFaces 50 = .ok (.if_icmp .ne 11, 3) := by decide +kernel
theorem dX0_selectFromFaces_53 : decode cX0_selectFromFaces 53 = .ok (.sipush 448, 3) := by decide +kernel
theorem dX0_selectFromFaces_56 : decode cX0_selectFromFaces 56 = .ok (.iload_n 1, 1) := by decide +kernel
theorem dX0_selectFromFaces_57 : decode cX0_selectFromFaces 57 = .ok (.iadd, 1) := by decide +kernel
theorem dX0_selectFromFaces_58 : decode cX0_selectFromFaces 58 = .ok (.goto 8, 3) := by decide +kernel
theorem dX0_selectFromFaces_61 : decode cX0_selectFromFaces 61 = .ok (.bipush 16, 2) := by decide +kernel
theorem dX0_selectFromFaces_63 : decode cX0_selectFromFaces 63 = .ok (.iload 4, 2) := by decide +kernel
theorem dX0_selectFromFaces_65 : decode cX0_selectFromFaces 65 = .ok (.iadd, 1) := by decide +kernel
theorem dX0_selectFromFaces_66 : decode cX0_selectFromFaces 66 = .ok (.ireturn, 1) := by decide +kernel
set_option maxRecDepth 20000 in
theorem ggX0_overrides_X2_isInheritable : GoodIn wsX0_overrides wsX2_isInheritable := goodIn_r _ [7, 8, 9, 28, 29, 30, 31, 32, 33] (by decide +kernel) (by decide +kernel)
set_option maxRecDepth 20000 in
theorem gX0_overrides_X2_isInheritable : GoodIn wsX0_overrides (wsV RX0 205 RX2 yX2_isInheritable wsX2_isInheritable) := goodIn_app (goodIn_of _ (by decide +kernel)) ggX0_overrides_X2_isInheritable
set_option maxRecDepth 20000 in
theorem ggX0_overrides_X2_accessOf : GoodIn wsX0_overrides wsX2_accessOf := goodIn_r _ [13, 8, 28, 29, 30, 31, 32, 33] (by decide +kernel) (by decide +kernel)
set_option maxRecDepth 20000 in
theorem gX0_overrides_X2_accessOf : GoodIn wsX0_overrides (wsV RX0 96 RX2 yX2_accessOf wsX2_accessOf) := goodIn_app (goodIn_of _ (by decide +kernel)) ggX0_overrides_X2_accessOf
set_option maxRecDepth 20000 in
theorem ggX0_overrides_X2_ownerOf : GoodIn wsX0_overrides wsX2_ownerOf := goodIn_r _ [17, 18, 28, 29, 30, 31, 32, 33] (by decide +kernel) (by decide +kernel)
set_option maxRecDepth 20000 in
theorem gX0_overrides_X2_ownerOf : GoodIn wsX0_overrides (wsV RX0 178 RX2 yX2_ownerOf wsX2_ownerOf) := goodIn_app (goodIn_of _ (by decide +kernel)) ggX0_overrides_X2_ownerOf
set_option maxRecDepth 20000 in
theorem ggX0_overrides_X1_isSamePackage : GoodIn wsX0_overrides wsX1_isSamePackage := goodIn_r _ [23, 24, 34, 35, 36, 37, 38, 39, 40, 41, 42, 43] (by decide +kernel) (by decide +kernel)
set_option maxRecDepth 20000 in
theorem gX0_overrides_X1_isSamePackage : GoodIn wsX0_overrides (wsV RX0 184 RX1 yX1_isSamePackage wsX1_isSamePackage) := goodIn_app (goodIn_of _ (by decide +kernel)) ggX0_overrides_X1_isSamePackage
theorem dX0_overrides_0 : decode cX0_overrides 0 = .ok (.aload_n 0, 1) := by decide +kernel
theorem dX0_overrides_1 : decode cX0_overrides 1 = .ok (.getfield 21, 3) := by decide +kernel
theorem dX0_overrides_4 : decode cX0_overrides 4 = .ok (.iload_n 1, 1) := by decide +kernel
theorem dX0_overrides_5 : decode cX0_overrides 5 = .ok (.invokevirtual 205, 3) := by decide +kernel
theorem dX0_overrides_8 : decode cX0_overrides 8 = .ok (.ifCond .ne 5, 3) := by decide +kernel
theorem dX0_overrides_11 : decode cX0_overrides 11 = .ok (.iconst 0, 1) := by decide +kernel
theorem dX0_overrides_12 : decode cX0_overrides 12 = .ok (.ireturn, 1) := by decide +kernel
theorem dX0_overrides_13 : decode cX0_overrides 13 = .ok (.iload_n 1, 1) := by decide +kernel
theorem dX0_overrides_14 : decode cX0_overrides 14 = .ok (.iload_n 2, 1) := by decide +kernel
theorem dX0_overrides_15 : decode cX0_overrides 15 = .ok (.if_icmp .eq 41, 3) := by decide +kernel
theorem dX0_overrides_18 : decode cX0_overrides 18 = .ok (.aload_n 0, 1) := by decide +kernel
theorem dX0_overrides_19 : decode cX0_overrides 19 = .ok (.getfield 21, 3) := by decide +kernel
theorem dX0_overrides_22 : decode cX0_overrides 22 = .ok (.iload_n 2, 1) := by decide +kernel
theorem dX0_overrides_23 : decode cX0_overrides 23 = .ok (.invokevirtual 96, 3) := by decide +kernel
theorem dX0_overrides_26 : decode cX0_overrides 26 = .ok (.iconst 1, 1) := by decide +kernel
theorem dX0_overrides_27 : decode cX0_overrides 27 = .ok (.if_icmp .ne 29, 3) := by decide +kernel
theorem dX0_overrides_30 : decode cX0_overrides 30 = .ok (.aload_n 0, 1) := by decide +kernel
theorem dX0_overrides_31 : decode cX0_overrides 31 = .ok (.getfield 12, 3) := by decide +kernel
theorem dX0_overrides_34 : decode cX0_overrides 34 = .ok (.aload_n 0, 1) := by decide +kernel
theorem dX0_overrides_35 : decode cX0_overrides 35 = .ok (.getfield 21, 3) := by decide +kernel
theorem dX0_overrides_38 : decode cX0_overrides 38 = .ok (.iload_n 1, 1) := by decide +kernel
theorem dX0_overrides_39 : decode cX0_overrides 39 = .ok (.invokevirtual 178, 3) := by decide +kernel
theorem dX0_overrides_42 : decode cX0_overrides 42 = .ok (.aload_n 0, 1) := by decide +kernel
theorem dX0_overrides_43 : decode cX0_overrides 43 = .ok (.getfield 21, 3) := by decide +kernel
theorem dX0_overrides_46 : decode cX0_overrides 46 = .ok (.iload_n 2, 1) := by decide +kernel
theorem dX0_overrides_47 : decode cX0_overrides 47 = .ok (.invokevirtual 178, 3) := by decide +kernel
theorem dX0_overrides_50 : decode cX0_overrides 50 = .ok (.invokevirtual 184, 3) := by decide +kernel
theorem dX0_overrides_53 : decode cX0_overrides 53 = .ok (.ifCond .eq 7, 3) := by decide +kernel
theorem dX0_overrides_56 : decode cX0_overrides 56 = .ok (.iconst 1, 1) := by decide +kernel
theorem dX0_overrides_57 : decode cX0_overrides 57 = .ok (.goto 4, 3) := by decide +kernel
theorem dX0_overrides_60 : decode cX0_overrides 60 = .ok (.iconst 0, 1) := by decide +kernel
theorem dX0_overrides_61 : decode cX0_overrides 61 = .ok (.ireturn, 1) := by decide +kernel
set_option maxRecDepth 20000 in
theorem ggX0_checkSelected_X2_isAbstract : GoodIn wsX0_checkSelected wsX2_isAbstract := goodIn_r _ [6, 7, 20, 21, 22, 23, 24, 25] (by decide +kernel) (by decide +kernel)
set_option maxRecDepth 20000 in
theorem gX0_checkSelected_X2_isAbstract : GoodIn wsX0_checkSelected (wsV RX0 162 RX2 yX2_isAbstract wsX2_isAbstract) := goodIn_app (goodIn_of _ (by decide +kernel)) ggX0_checkSelected_X2_isAbstract
set_option maxRecDepth 20000 in
theorem ggX0_checkSelected_X2_accessOf : GoodIn wsX0_checkSelected wsX2_accessOf := goodIn_r _ [11, 12, 20, 21, 22, 23, 24, 25] (by decide +kernel) (by decide +kernel)
set_option maxRecDepth 20000 in
theorem gX0_checkSelected_X2_accessOf : GoodIn wsX0_checkSelected (wsV RX0 96 RX2 yX2_accessOf wsX2_accessOf) := goodIn_app (goodIn_of _ (by decide +kernel)) ggX0_checkSelected_X2_accessOf
theorem dX0_checkSelected_0 : decode cX0_checkSelected 0 = .ok (.aload_n 0, 1) := by decide +kernel
theorem dX0_checkSelected_1 : decode cX0_checkSelected 1 = .ok (.getfield 21, 3) := by decide +kernel
theorem dX0_checkSelected_4 : decode cX0_checkSelected 4 = .ok (.iload_n 2, 1) := by decide +kernel
theorem dX0_checkSelected_5 : decode cX0_checkSelected 5 = .ok (.invokevirtual 162, 3) := by decide +kernel
theorem dX0_checkSelected_8 : decode cX0_checkSelected 8 = .ok (.ifCond .eq 9, 3) := by decide +kernel
theorem dX0_checkSelected_11 : decode cX0_checkSelected 11 = .ok (.sipush 464, 3) := by decide +kernel
theorem dX0_checkSelected_14 : decode cX0_checkSelected 14 = .ok (.iload_n 2, 1) := by decide +kernel
theorem dX0_checkSelected_15 : decode cX0_checkSelected 15 = .ok (.iadd, 1) := by decide +kernel
theorem dX0_checkSelected_16 : decode cX0_checkSelected 16 = .ok (.ireturn, 1) := by decide +kernel
theorem dX0_checkSelected_17 : decode cX0_checkSelected 17 = .ok (.aload_n 0, 1) := by decide +kernel
theorem dX0_checkSelected_18 : decode cX0_checkSelected 18 = .ok (.getfield 21, 3) := by decide +kernel
theorem dX0_checkSelected_21 : decode cX0_checkSelected 21 = .ok (.iload_n 2, 1) := by decide +kernel
theorem dX0_checkSelected_22 : decode cX0_checkSelected 22 = .ok (.invokevirtual 96, 3) := by decide +kernel
theorem dX0_checkSelected_25 : decode cX0_checkSelected 25 = .ok (.istore_n 3, 1) := by decide +kernel
theorem dX0_checkSelected_26 : decode cX0_checkSelected 26 = .ok (.aload_n 1, 1) := by decide +kernel
theorem dX0_checkSelected_27 : decode cX0_checkSelected 27 = .ok (.getfield 71, 3) := by decide +kernel
theorem dX0_checkSelected_30 : decode cX0_checkSelected 30 = .ok (.bipush 7, 2) := by decide +kernel
theorem dX0_checkSelected_32 : decode cX0_checkSelected 32 = .ok (.if_icmp .ne 18, 3) := by decide +kernel
theorem dX0_checkSelected_35 : decode cX0_checkSelected 35 = .ok (.iload_n 3, 1) := by decide +kernel
theorem dX0_checkSelected_36 : decode cX0_checkSelected 36 = .ok (.iconst 3, 1) := by decide +kernel
theorem dX0_checkSelected_37 : decode cX0_checkSelected 37 = .ok (.if_icmp .eq 13, 3) := by decide +kernel
theorem dX0_checkSelected_40 : decode cX0_checkSelected 40 = .ok (.iload_n 3, 1) := by decide +kernel
theorem dX0_checkSelected_41 : decode cX0_checkSelected 41 = .ok (.ifCond .eq 9, 3) := by decide +kernel
theorem dX0_checkSelected_44 : decode cX0_checkSelected 44 = .ok (.sipush 272, 3) := by decide +kernel
theorem dX0_checkSelected_47 : decode cX0_checkSelected 47 = .ok (.iload_n 2, 1) := by decide +kernel
theorem dX0_checkSelected_48 : decode cX0_checkSelected 48 = .ok (.iadd, 1) := by decide +kernel
theorem dX0_checkSelected_49 : decode cX0_checkSelected 49 = .ok (.ireturn, 1) := by decide +kernel
theorem dX0_checkSelected_50 : decode cX0_checkSelected 50 = .ok (.bipush 16, 2) := by decide +kernel
theorem dX0_checkSelected_52 : decode cX0_checkSelected 52 = .ok (.iload_n 2, 1) := by decide +kernel
theorem dX0_checkSelected_53 : decode cX0_checkSelected 53 = .ok (.iadd, 1) := by decide +kernel
theorem dX0_checkSelected_54 : decode cX0_checkSelected 54 = .ok (.ireturn, 1) := by decide +kernel
set_option maxRecDepth 20000 in
theorem ggX1_init_X4_bit : GoodIn wsX1_init wsX4_bit := goodIn_r _ [16] (by decide +kernel) (by decide +kernel)
set_option maxRecDepth 20000 in
theorem gX1_init_X4_bit_n36 : GoodIn wsX1_init (wsX4_bit) := ggX1_init_X4_bit
set_option maxRecDepth 20000 in
theorem ggX1_init_X1_settle : GoodIn wsX1_init wsX1_settle := goodIn_r _ [21, 22, 10, 23, 24, 25, 20, 26, 27, 28, 29, 30, 13, 31, 15, 32, 14, 16, 33, 34, 35, 36, 37, 38, 39, 40, 41, 42, 43, 44, 7, 5, 8, 45, 46, 47, 48, 49, 50, 51, 52, 11, 12, 53, 54, 55, 56, 57, 58, 59, 60, 61, 62, 63] (by decide +kernel) (by decide +kernel)
set_option maxRecDepth 20000 in
theorem gX1_init_X1_settle : GoodIn wsX1_init (wsV RX1 44 RX1 yX1_settle wsX1_settle) := goodIn_app (goodIn_of _ (by decide +kernel)) ggX1_init_X1_settle
theorem dX1_init_0 : decode cX1_init 0 = .ok (.aload_n 0, 1) := by decide +kernel
theorem dX1_init_1 : decode cX1_init 1 = .ok (.invokespecial 3, 3) := by decide +kernel
theorem dX1_init_4 : decode cX1_init 4 = .ok (.aload_n 0, 1) := by decide +kernel
theorem dX1_init_5 : decode cX1_init 5 = .ok (.bipush 12, 2) := by decide +kernel
theorem dX1_init_7 : decode cX1_init 7 = .ok (.newarray .int, 2) := by decide +kernel
theorem dX1_init_9 : decode cX1_init 9 = .ok (.putfield 9, 3) := by decide +kernel
theorem dX1_init_12 : decode cX1_init 12 = .ok (.aload_n 0, 1) := by decide +kernel
theorem dX1_init_13 : decode cX1_init 13 = .ok (.bipush 12, 2) := by decide +kernel
theorem dX1_init_15 : decode cX1_init 15 = .ok (.newarray .int, 2) := by decide +kernel
theorem dX1_init_17 : decode cX1_init 17 = .ok (.putfield 15, 3) := by decide +kernel
theorem dX1_init_20 : decode cX1_init 20 = .ok (.aload_n 0, 1) := by decide +kernel
theorem dX1_init_21 : decode cX1_init 21 = .ok (.bipush 12, 2) := by decide +kernel
theorem dX1_init_23 : decode cX1_init 23 = .ok (.newarray .int, 2) := by decide +kernel
theorem dX1_init_25 : decode cX1_init 25 = .ok (.putfield 18, 3) := by decide +kernel
theorem dX1_init_28 : decode cX1_init 28 = .ok (.aload_n 0, 1) := by decide +kernel
theorem dX1_init_29 : decode cX1_init 29 = .ok (.bipush 12, 2) := by decide +kernel
theorem dX1_init_31 : decode cX1_init 31 = .ok (.newarray .int, 2) := by decide +kernel
theorem dX1_init_33 : decode cX1_init 33 = .ok (.putfield 21, 3) := by decide +kernel
theorem dX1_init_36 : decode cX1_init 36 = .ok (.aload_n 0, 1) := by decide +kernel
theorem dX1_init_37 : decode cX1_init 37 = .ok (.bipush 12, 2) := by decide +kernel
theorem dX1_init_39 : decode cX1_init 39 = .ok (.newarray .int, 2) := by decide +kernel
theorem dX1_init_41 : decode cX1_init 41 = .ok (.putfield 24, 3) := by decide +kernel
theorem dX1_init_44 : decode cX1_init 44 = .ok (.aload_n 0, 1) := by decide +kernel
theorem dX1_init_45 : decode cX1_init 45 = .ok (.bipush 12, 2) := by decide +kernel
theorem dX1_init_47 : decode cX1_init 47 = .ok (.newarray .int, 2) := by decide +kernel
theorem dX1_init_49 : decode cX1_init 49 = .ok (.putfield 27, 3) := by decide +kernel
theorem dX1_init_52 : decode cX1_init 52 = .ok (.aload_n 0, 1) := by decide +kernel
theorem dX1_init_53 : decode cX1_init 53 = .ok (.bipush 12, 2) := by decide +kernel
theorem dX1_init_55 : decode cX1_init 55 = .ok (.newarray .int, 2) := by decide +kernel
theorem dX1_init_57 : decode cX1_init 57 = .ok (.putfield 30, 3) := by decide +kernel
theorem dX1_init_60 : decode cX1_init 60 = .ok (.aload_n 0, 1) := by decide +kernel
theorem dX1_init_61 : decode cX1_init 61 = .ok (.bipush 12, 2) := by decide +kernel
theorem dX1_init_63 : decode cX1_init 63 = .ok (.newarray .int, 2) := by decide +kernel
theorem dX1_init_65 : decode cX1_init 65 = .ok (.putfield 33, 3) := by decide +kernel
theorem dX1_init_68 : decode cX1_init 68 = .ok (.aload_n 0, 1) := by decide +kernel
theorem dX1_init_69 : decode cX1_init 69 = .ok (.iconst 0, 1) := by decide +kernel
theorem dX1_init_70 : decode cX1_init 70 = .ok (.invokestatic 36, 3) := by decide +kernel
theorem dX1_init_73 : decode cX1_init 73 = .ok (.putfield 40, 3) := by decide +kernel
theorem dX1_init_76 : decode cX1_init 76 = .ok (.aload_n 0, 1) := by decide +kernel
theorem dX1_init_77 : decode cX1_init 77 = .ok (.getfield 9, 3) := by decide +kernel
theorem dX1_init_80 : decode cX1_init 80 = .ok (.iconst 0, 1) := by decide +kernel
theorem dX1_init_81 : decode cX1_init 81 = .ok (.iconst 1, 1) := by decide +kernel
theorem dX1_init_82 : decode cX1_init 82 = .ok (.iastore, 1) := by decide +kernel
theorem dX1_init_83 : decode cX1_init 83 = .ok (.aload_n 0, 1) := by decide +kernel
theorem dX1_init_84 : decode cX1_init 84 = .ok (.getfield 18, 3) := by decide +kernel
theorem dX1_init_87 : decode cX1_init 87 = .ok (.iconst 0, 1) := by decide +kernel
theorem dX1_init_88 : decode cX1_init 88 = .ok (.iconst (-1), 1) := by decide +kernel
theorem dX1_init_89 : decode cX1_init 89 = .ok (.iastore, 1) := by decide +kernel
theorem dX1_init_90 : decode cX1_init 90 = .ok (.aload_n 0, 1) := by decide +kernel
theorem dX1_init_91 : decode cX1_init 91 = .ok (.invokevirtual 44, 3) := by decide +kernel
theorem dX1_init_94 : decode cX1_init 94 = .ok (.return_, 1) := by decide +kernel
set_option maxRecDepth 20000 in
theorem ggX1_define_X4_bit : GoodIn wsX1_define wsX4_bit := goodIn_r _ [9] (by decide +kernel) (by decide +kernel)
set_option maxRecDepth 20000 in
theorem gX1_define_X4_bit_n36 : GoodIn wsX1_define (wsX4_bit) := ggX1_define_X4_bit
set_option maxRecDepth 20000 in
theorem ggX1_define_X1_settle : GoodIn wsX1_define wsX1_settle := goodIn_r _ [14, 15, 16, 17, 18, 19, 13, 20, 21, 22, 23, 24, 1, 25, 8, 26, 7, 9, 27, 28, 29, 30, 31, 32, 33, 34, 35, 36, 37, 38, 4, 2, 5, 39, 40, 41, 42, 43, 44, 45, 46, 47, 48, 49, 50, 51, 52, 53, 54, 55, 56, 57, 58, 59] (by decide +kernel) (by decide +kernel)
set_option maxRecDepth 20000 in
theorem gX1_define_X1_settle : GoodIn wsX1_define (wsV RX1 44 RX1 yX1_settle wsX1_settle) := goodIn_app (goodIn_of _ (by decide +kernel)) ggX1_define_X1_settle
theorem dX1_define_0 : decode cX1_define 0 = .ok (.aload_n 0, 1) := by decide +kernel
theorem dX1_define_1 : decode cX1_define 1 = .ok (.dup, 1) := by decide +kernel
theorem dX1_define_2 : decode cX1_define 2 = .ok (.getfield 40, 3) := by decide +kernel
theorem dX1_define_5 : decode cX1_define 5 = .ok (.iload_n 1, 1) := by decide +kernel
theorem dX1_define_6 : decode cX1_define 6 = .ok (.invokestatic 36, 3) := by decide +kernel
theorem dX1_define_9 : decode cX1_define 9 = .ok (.ior, 1) := by decide +kernel
theorem dX1_define_10 : decode cX1_define 10 = .ok (.putfield 40, 3) := by decide +kernel
theorem dX1_define_13 : decode cX1_define 13 = .ok (.aload_n 0, 1) := by decide +kernel
theorem dX1_define_14 : decode cX1_define 14 = .ok (.getfield 9, 3) := by decide +kernel
theorem dX1_define_17 : decode cX1_define 17 = .ok (.iload_n 1, 1) := by decide +kernel
theorem dX1_define_18 : decode cX1_define 18 = .ok (.iload_n 2, 1) := by decide +kernel
theorem dX1_define_19 : decode cX1_define 19 = .ok (.iastore, 1) := by decide +kernel
theorem dX1_define_20 : decode cX1_define 20 = .ok (.aload_n 0, 1) := by decide +kernel
theorem dX1_define_21 : decode cX1_define 21 = .ok (.getfield 15, 3) := by decide +kernel
theorem dX1_define_24 : decode cX1_define 24 = .ok (.iload_n 1, 1) := by decide +kernel
theorem dX1_define_25 : decode cX1_define 25 = .ok (.iload_n 3, 1) := by decide +kernel
theorem dX1_define_26 : decode cX1_define 26 = .ok (.iastore, 1) := by decide +kernel
theorem dX1_define_27 : decode cX1_define 27 = .ok (.aload_n 0, 1) := by decide +kernel
theorem dX1_define_28 : decode cX1_define 28 = .ok (.getfield 18, 3) := by decide +kernel
theorem dX1_define_31 : decode cX1_define 31 = .ok (.iload_n 1, 1) := by decide +kernel
theorem dX1_define_32 : decode cX1_define 32 = .ok (.iload 4, 2) := by decide +kernel
theorem dX1_define_34 : decode cX1_define 34 = .ok (.iastore, 1) := by decide +kernel
theorem dX1_define_35 : decode cX1_define 35 = .ok (.aload_n 0, 1) := by decide +kernel
theorem dX1_define_36 : decode cX1_define 36 = .ok (.getfield 21, 3) := by decide +kernel
theorem dX1_define_39 : decode cX1_define 39 = .ok (.iload_n 1, 1) := by decide +kernel
theorem dX1_define_40 : decode cX1_define 40 = .ok (.iload 5, 2) := by decide +kernel
theorem dX1_define_42 : decode cX1_define 42 = .ok (.iastore, 1) := by decide +kernel
theorem dX1_define_43 : decode cX1_define 43 = .ok (.aload_n 0, 1) := by decide +kernel
theorem dX1_define_44 : decode cX1_define 44 = .ok (.getfield 24, 3) := by decide +kernel
theorem dX1_define_47 : decode cX1_define 47 = .ok (.iload_n 1, 1) := by decide +kernel
theorem dX1_define_48 : decode cX1_define 48 = .ok (.iload_n 1, 1) := by decide +kernel
theorem dX1_define_49 : decode cX1_define 49 = .ok (.iastore, 1) := by decide +kernel
theorem dX1_define_50 : decode cX1_define 50 = .ok (.aload_n 0, 1) := by decide +kernel
theorem dX1_define_51 : decode cX1_define 51 = .ok (.invokevirtual 44, 3) := by decide +kernel
theorem dX1_define_54 : decode cX1_define 54 = .ok (.return_, 1) := by decide +kernel
set_option maxRecDepth 20000 in
theorem ggX1_putHost_X1_isThere : GoodIn wsX1_putHost wsX1_isThere := goodIn_r _ [6, 7, 8, 9, 10, 11, 12, 13, 14, 15, 16, 17, 18, 19, 20] (by decide +kernel) (by decide +kernel)
set_option maxRecDepth 20000 in
theorem gX1_putHost_X1_isThere : GoodIn wsX1_putHost (wsV RX1 47 RX1 yX1_isThere wsX1_isThere) := goodIn_app (goodIn_of _ (by decide +kernel)) ggX1_putHost_X1_isThere
theorem dX1_putHost_0 : decode cX1_putHost 0 = .ok (.aload_n 0, 1) := by decide +kernel
theorem dX1_putHost_1 : decode cX1_putHost 1 = .ok (.iload_n 1, 1) := by decide +kernel
theorem dX1_putHost_2 : decode cX1_putHost 2 = .ok (.invokevirtual 47, 3) := by decide +kernel
theorem dX1_putHost_5 : decode cX1_putHost 5 = .ok (.ifCond .ne 5, 3) := by decide +kernel
theorem dX1_putHost_8 : decode cX1_putHost 8 = .ok (.iconst 0, 1) := by decide +kernel
theorem dX1_putHost_9 : decode cX1_putHost 9 = .ok (.ireturn, 1) := by decide +kernel
theorem dX1_putHost_10 : decode cX1_putHost 10 = .ok (.aload_n 0, 1) := by decide +kernel
theorem dX1_putHost_11 : decode cX1_putHost 11 = .ok (.getfield 24, 3) := by decide +kernel
theorem dX1_putHost_14 : decode cX1_putHost 14 = .ok (.iload_n 1, 1) := by decide +kernel
theorem dX1_putHost_15 : decode cX1_putHost 15 = .ok (.iload_n 2, 1) := by decide +kernel
theorem dX1_putHost_16 : decode cX1_putHost 16 = .ok (.iastore, 1) := by decide +kernel
theorem dX1_putHost_17 : decode cX1_putHost 17 = .ok (.iconst 1, 1) := by decide +kernel
theorem dX1_putHost_18 : decode cX1_putHost 18 = .ok (.ireturn, 1) := by decide +kernel
set_option maxRecDepth 20000 in
theorem ggX1_takeAway_X1_isThere : GoodIn wsX1_takeAway wsX1_isThere := goodIn_r _ [6, 1, 7, 8, 9, 48, 49, 50, 51, 52, 53, 54, 55, 56, 57] (by decide +kernel) (by decide +kernel)
set_option maxRecDepth 20000 in
theorem gX1_takeAway_X1_isThere : GoodIn wsX1_takeAway (wsV RX1 47 RX1 yX1_isThere wsX1_isThere) := goodIn_app (goodIn_of _ (by decide +kernel)) ggX1_takeAway_X1_isThere
set_option maxRecDepth 20000 in
theorem ggX1_takeAway_X4_bit : GoodIn wsX1_takeAway wsX4_bit := goodIn_r _ [11] (by decide +kernel) (by decide +kernel)
set_option maxRecDepth 20000 in
theorem gX1_takeAway_X4_bit_n36 : GoodIn wsX1_takeAway (wsX4_bit) := ggX1_takeAway_X4_bit
set_option maxRecDepth 20000 in
theorem ggX1_takeAway_X1_settle : GoodIn wsX1_takeAway wsX1_settle := goodIn_r _ [15, 16, 17, 18, 19, 20, 5, 21, 2, 3, 4, 6, 1, 7, 8, 9, 10, 11, 22, 23, 24, 25, 26, 27, 28, 29, 30, 31, 32, 33, 34, 35, 36, 37, 38, 39, 40, 41, 42, 43, 44, 45, 46, 47, 48, 49, 50, 51, 52, 53, 54, 55, 56, 57] (by decide +kernel) (by decide +kernel)
set_option maxRecDepth 20000 in
theorem gX1_takeAway_X1_settle : GoodIn wsX1_takeAway (wsV RX1 44 RX1 yX1_settle wsX1_settle) := goodIn_app (goodIn_of _ (by decide +kernel)) ggX1_takeAway_X1_settle
theorem dX1_takeAway_0 : decode cX1_takeAway 0 = .ok (.aload_n 0, 1) := by decide +kernel
theorem dX1_takeAway_1 : decode cX1_takeAway 1 = .ok (.iload_n 1, 1) := by decide +kernel
theorem dX1_takeAway_2 : decode cX1_takeAway 2 = .ok (.invokevirtual 47, 3) := by decide +kernel
theorem dX1_takeAway_5 : decode cX1_takeAway 5 = .ok (.ifCond .ne 5, 3) := by decide +kernel
theorem dX1_takeAway_8 : decode cX1_takeAway 8 = .ok (.iconst 0, 1) := by decide +kernel
theorem dX1_takeAway_9 : decode cX1_takeAway 9 = .ok (.ireturn, 1) := by decide +kernel
theorem dX1_takeAway_10 : decode cX1_takeAway 10 = .ok (.aload_n 0, 1) := by decide +kernel
theorem dX1_takeAway_11 : decode cX1_takeAway 11 = .ok (.dup, 1) := by decide +kernel
theorem dX1_takeAway_12 : decode cX1_takeAway 12 = .ok (.getfield 40, 3) := by decide +kernel
theorem dX1_takeAway_15 : decode cX1_takeAway 15 = .ok (.iload_n 1, 1) := by decide +kernel
theorem dX1_takeAway_16 : decode cX1_takeAway 16 = .ok (.invokestatic 36, 3) := by decide +kernel
theorem dX1_takeAway_19 : decode cX1_takeAway 19 = .ok (.iconst (-1), 1) := by decide +kernel
theorem dX1_takeAway_20 : decode cX1_takeAway 20 = .ok (.ixor, 1) := by decide +kernel
theorem dX1_takeAway_21 : decode cX1_takeAway 21 = .ok (.iand, 1) := by decide +kernel
theorem dX1_takeAway_22 : decode cX1_takeAway 22 = .ok (.putfield 40, 3) := by decide +kernel
theorem dX1_takeAway_25 : decode cX1_takeAway 25 = .ok (.aload_n 0, 1) := by decide +kernel
theorem dX1_takeAway_26 : decode cX1_takeAway 26 = .ok (.invokevirtual 44, 3) := by decide +kernel
theorem dX1_takeAway_29 : decode cX1_takeAway 29 = .ok (.iconst 1, 1) := by decide +kernel
theorem dX1_takeAway_30 : decode cX1_takeAway 30 = .ok (.ireturn, 1) := by decide +kernel
set_option maxRecDepth 20000 in
theorem ggX1_becomeAs_X1_settle : GoodIn wsX1_becomeAs wsX1_settle := goodIn_r _ [15, 16, 17, 18, 19, 20, 14, 21, 22, 23, 24, 25, 1, 26, 27, 28, 29, 30, 31, 32, 33, 34, 35, 36, 37, 38, 39, 40, 41, 42, 8, 2, 9, 43, 44, 45, 46, 47, 48, 49, 50, 51, 52, 53, 54, 55, 56, 57, 58, 59, 60, 61, 62, 63] (by decide +kernel) (by decide +kernel)
set_option maxRecDepth 20000 in
theorem gX1_becomeAs_X1_settle : GoodIn wsX1_becomeAs (wsV RX1 44 RX1 yX1_settle wsX1_settle) := goodIn_app (goodIn_of _ (by decide +kernel)) ggX1_becomeAs_X1_settle
theorem dX1_becomeAs_0 : decode cX1_becomeAs 0 = .ok (.aload_n 0, 1) := by decide +kernel
theorem dX1_becomeAs_1 : decode cX1_becomeAs 1 = .ok (.aload_n 1, 1) := by decide +kernel
theorem dX1_becomeAs_2 : decode cX1_becomeAs 2 = .ok (.getfield 40, 3) := by decide +kernel
theorem dX1_becomeAs_5 : decode cX1_becomeAs 5 = .ok (.putfield 40, 3) := by decide +kernel
theorem dX1_becomeAs_8 : decode cX1_becomeAs 8 = .ok (.aload_n 1, 1) := by decide +kernel
theorem dX1_becomeAs_9 : decode cX1_becomeAs 9 = .ok (.getfield 9, 3) := by decide +kernel
theorem dX1_becomeAs_12 : decode cX1_becomeAs 12 = .ok (.iconst 0, 1) := by decide +kernel
theorem dX1_becomeAs_13 : decode cX1_becomeAs 13 = .ok (.aload_n 0, 1) := by decide +kernel
theorem dX1_becomeAs_14 : decode cX1_becomeAs 14 = .ok (.getfield 9, 3) := by decide +kernel
theorem dX1_becomeAs_17 : decode cX1_becomeAs 17 = .ok (.iconst 0, 1) := by decide +kernel
theorem dX1_becomeAs_18 : decode cX1_becomeAs 18 = .ok (.bipush 12, 2) := by decide +kernel
theorem dX1_becomeAs_20 : decode cX1_becomeAs 20 = .ok (.invokestatic 51, 3) := by decide +kernel
theorem dX1_becomeAs_23 : decode cX1_becomeAs 23 = .ok (.aload_n 1, 1) := by decide +kernel
theorem dX1_becomeAs_24 : decode cX1_becomeAs 24 = .ok (.getfield 15, 3) := by decide +kernel
theorem dX1_becomeAs_27 : decode cX1_becomeAs 27 = .ok (.iconst 0, 1) := by decide +kernel
theorem dX1_becomeAs_28 : decode cX1_becomeAs 28 = .ok (.aload_n 0, 1) := by decide +kernel
theorem dX1_becomeAs_29 : decode cX1_becomeAs 29 = .ok (.getfield 15, 3) := by decide +kernel
theorem dX1_becomeAs_32 : decode cX1_becomeAs 32 = .ok (.iconst 0, 1) := by decide +kernel
theorem dX1_becomeAs_33 : decode cX1_becomeAs 33 = .ok (.bipush 12, 2) := by decide +kernel
theorem dX1_becomeAs_35 : decode cX1_becomeAs 35 = .ok (.invokestatic 51, 3) := by decide +kernel
theorem dX1_becomeAs_38 : decode cX1_becomeAs 38 = .ok (.aload_n 1, 1) := by decide +kernel
theorem dX1_becomeAs_39 : decode cX1_becomeAs 39 = .ok (.getfield 18, 3) := by decide +kernel
theorem dX1_becomeAs_42 : decode cX1_becomeAs 42 = .ok (.iconst 0, 1) := by decide +kernel
theorem dX1_becomeAs_43 : decode cX1_becomeAs 43 = .ok (.aload_n 0, 1) := by decide +kernel
theorem dX1_becomeAs_44 : decode cX1_becomeAs 44 = .ok (.getfield 18, 3) := by decide +kernel
theorem dX1_becomeAs_47 : decode cX1_becomeAs 47 = .ok (.iconst 0, 1) := by decide +kernel
theorem dX1_becomeAs_48 : decode cX1_becomeAs 48 = .ok (.bipush 12, 2) := by decide +kernel
theorem dX1_becomeAs_50 : decode cX1_becomeAs 50 = .ok (.invokestatic 51, 3) := by decide +kernel
theorem dX1_becomeAs_53 : decode cX1_becomeAs 53 = .ok (.aload_n 1, 1) := by decide +kernel
theorem dX1_becomeAs_54 : decode cX1_becomeAs 54 = .ok (.getfield 21, 3) := by decide +kernel
theorem dX1_becomeAs_57 : decode cX1_becomeAs 57 = .ok (.iconst 0, 1) := by decide +kernel
theorem dX1_becomeAs_58 : decode cX1_becomeAs 58 = .ok (.aload_n 0, 1) := by decide +kernel
theorem dX1_becomeAs_59 : decode cX1_becomeAs 59 = .ok (.getfield 21, 3) := by decide +kernel
theorem dX1_becomeAs_62 : decode cX1_becomeAs 62 = .ok (.iconst 0, 1) := by decide +kernel
theorem dX1_becomeAs_63 : decode cX1_becomeAs 63 = .ok (.bipush 12, 2) := by decide +kernel
theorem dX1_becomeAs_65 : decode cX1_becomeAs 65 = .ok (.invokestatic 51, 3) := by decide +kernel
theorem dX1_becomeAs_68 : decode cX1_becomeAs 68 = .ok (.aload_n 1, 1) := by decide +kernel
theorem dX1_becomeAs_69 : decode cX1_becomeAs 69 = .ok (.getfield 24, 3) := by decide +kernel
theorem dX1_becomeAs_72 : decode cX1_becomeAs 72 = .ok (.iconst 0, 1) := by decide +kernel
theorem dX1_becomeAs_73 : decode cX1_becomeAs 73 = .ok (.aload_n 0, 1) := by decide +kernel
theorem dX1_becomeAs_74 : decode cX1_becomeAs 74 = .ok (.getfield 24, 3) := by decide +kernel
theorem dX1_becomeAs_77 : decode cX1_becomeAs 77 = .ok (.iconst 0, 1) := by decide +kernel
theorem dX1_becomeAs_78 : decode cX1_becomeAs 78 = .ok (.bipush 12, 2) := by decide +kernel
theorem dX1_becomeAs_80 : decode cX1_becomeAs 80 = .ok (.invokestatic 51, 3) := by decide +kernel
theorem dX1_becomeAs_83 : decode cX1_becomeAs 83 = .ok (.aload_n 0, 1) := by decide +kernel
theorem dX1_becomeAs_84 : decode cX1_becomeAs 84 = .ok (.invokevirtual 44, 3) := by decide +kernel
theorem dX1_becomeAs_87 : decode cX1_becomeAs 87 = .ok (.return_, 1) := by decide +kernel
set_option maxRecDepth 20000 in
theorem ggX1_isThere_X4_contains : GoodIn wsX1_isThere wsX4_contains := goodIn_r _ [4] (by decide +kernel) (by decide +kernel)
set_option maxRecDepth 20000 in
theorem gX1_isThere_X4_contains_n57 : GoodIn wsX1_isThere (wsX4_contains) := ggX1_isThere_X4_contains
theorem dX1_isThere_0 : decode cX1_isThere 0 = .ok (.aload_n 0, 1) := by decide +kernel
theorem dX1_isThere_1 : decode cX1_isThere 1 = .ok (.getfield 40, 3) := by decide +kernel
theorem dX1_isThere_4 : decode cX1_isThere 4 = .ok (.iload_n 1, 1) := by decide +kernel
theorem dX1_isThere_5 : decode cX1_isThere 5 = .ok (.invokestatic 57, 3) := by decide +kernel
theorem dX1_isThere_8 : decode cX1_isThere 8 = .ok (.ireturn, 1) := by decide +kernel
theorem dX1_isInterface_0 : decode cX1_isInterface 0 = .ok (.aload_n 0, 1) := by decide +kernel
theorem dX1_isInterface_1 : decode cX1_isInterface 1 = .ok (.getfield 9, 3) := by decide +kernel
theorem dX1_isInterface_4 : decode cX1_isInterface 4 = .ok (.iload_n 1, 1) := by decide +kernel
theorem dX1_isInterface_5 : decode cX1_isInterface 5 = .ok (.iaload, 1) := by decide +kernel
theorem dX1_isInterface_6 : decode cX1_isInterface 6 = .ok (.iconst 2, 1) := by decide +kernel
theorem dX1_isInterface_7 : decode cX1_isInterface 7 = .ok (.iand, 1) := by decide +kernel
theorem dX1_isInterface_8 : decode cX1_isInterface 8 = .ok (.ifCond .eq 7, 3) := by decide +kernel
theorem dX1_isInterface_11 : decode cX1_isInterface 11 = .ok (.iconst 1, 1) := by decide +kernel
theorem dX1_isInterface_12 : decode cX1_isInterface 12 = .ok (.goto 4, 3) := by decide +kernel
theorem dX1_isInterface_15 : decode cX1_isInterface 15 = .ok (.iconst 0, 1) := by decide +kernel
theorem dX1_isInterface_16 : decode cX1_isInterface 16 = .ok (.ireturn, 1) := by decide +kernel
theorem dX1_canBeMade_0 : decode cX1_canBeMade 0 = .ok (.aload_n 0, 1) := by decide +kernel
theorem dX1_canBeMade_1 : decode cX1_canBeMade 1 = .ok (.getfield 9, 3) := by decide +kernel
theorem dX1_canBeMade_4 : decode cX1_canBeMade 4 = .ok (.iload_n 1, 1) := by decide +kernel
theorem dX1_canBeMade_5 : decode cX1_canBeMade 5 = .ok (.iaload, 1) := by decide +kernel
theorem dX1_canBeMade_6 : decode cX1_canBeMade 6 = .ok (.bipush 6, 2) := by decide +kernel
theorem dX1_canBeMade_8 : decode cX1_canBeMade 8 = .ok (.iand, 1) := by decide +kernel
theorem dX1_canBeMade_9 : decode cX1_canBeMade 9 = .ok (.ifCond .ne 7, 3) := by decide +kernel
theorem dX1_canBeMade_12 : decode cX1_canBeMade 12 = .ok (.iconst 1, 1) := by decide +kernel
theorem dX1_canBeMade_13 : decode cX1_canBeMade 13 = .ok (.goto 4, 3) := by decide +kernel
theorem dX1_canBeMade_16 : decode cX1_canBeMade 16 = .ok (.iconst 0, 1) := by decide +kernel
theorem dX1_canBeMade_17 : decode cX1_canBeMade 17 = .ok (.ireturn, 1) := by decide +kernel
theorem dX1_superOf_0 : decode cX1_superOf 0 = .ok (.aload_n 0, 1) := by decide +kernel
theorem dX1_superOf_1 : decode cX1_superOf 1 = .ok (.getfield 18, 3) := by decide +kernel
theorem dX1_superOf_4 : decode cX1_superOf 4 = .ok (.iload_n 1, 1) := by decide +kernel
theorem dX1_superOf_5 : decode cX1_superOf 5 = .ok (.iaload, 1) := by decide +kernel
theorem dX1_superOf_6 : decode cX1_superOf 6 = .ok (.ireturn, 1) := by decide +kernel
theorem dX1_directFacesOf_0 : decode cX1_directFacesOf 0 = .ok (.aload_n 0, 1) := by decide +kernel
theorem dX1_directFacesOf_1 : decode cX1_directFacesOf 1 = .ok (.getfield 21, 3) := by decide +kernel
theorem dX1_directFacesOf_4 : decode cX1_directFacesOf 4 = .ok (.iload_n 1, 1) := by decide +kernel
theorem dX1_directFacesOf_5 : decode cX1_directFacesOf 5 = .ok (.iaload, 1) := by decide +kernel
theorem dX1_directFacesOf_6 : decode cX1_directFacesOf 6 = .ok (.ireturn, 1) := by decide +kernel
theorem dX1_facesOf_0 : decode cX1_facesOf 0 = .ok (.aload_n 0, 1) := by decide +kernel
theorem dX1_facesOf_1 : decode cX1_facesOf 1 = .ok (.getfield 33, 3) := by decide +kernel
theorem dX1_facesOf_4 : decode cX1_facesOf 4 = .ok (.iload_n 1, 1) := by decide +kernel
theorem dX1_facesOf_5 : decode cX1_facesOf 5 = .ok (.iaload, 1) := by decide +kernel
theorem dX1_facesOf_6 : decode cX1_facesOf 6 = .ok (.ireturn, 1) := by decide +kernel
theorem dX1_loading_0 : decode cX1_loading 0 = .ok (.aload_n 0, 1) := by decide +kernel
theorem dX1_loading_1 : decode cX1_loading 1 = .ok (.getfield 27, 3) := by decide +kernel
theorem dX1_loading_4 : decode cX1_loading 4 = .ok (.iload_n 1, 1) := by decide +kernel
theorem dX1_loading_5 : decode cX1_loading 5 = .ok (.iaload, 1) := by decide +kernel
theorem dX1_loading_6 : decode cX1_loading 6 = .ok (.ireturn, 1) := by decide +kernel
set_option maxRecDepth 20000 in
theorem ggX1_reaching_X4_isGood : GoodIn wsX1_reaching wsX4_isGood := goodIn_r _ [5, 6, 7, 4, 8] (by decide +kernel) (by decide +kernel)
set_option maxRecDepth 20000 in
theorem gX1_reaching_X4_isGood_n61 : GoodIn wsX1_reaching (wsX4_isGood) := ggX1_reaching_X4_isGood
set_option maxRecDepth 20000 in
theorem ggX1_reaching_X1_isSamePackage : GoodIn wsX1_reaching wsX1_isSamePackage := goodIn_r _ [13, 14, 15, 16, 17, 18, 19, 20, 21, 22, 23, 24] (by decide +kernel) (by decide +kernel)
set_option maxRecDepth 20000 in
theorem gX1_reaching_X1_isSamePackage : GoodIn wsX1_reaching (wsV RX1 64 RX1 yX1_isSamePackage wsX1_isSamePackage) := goodIn_app (goodIn_of _ (by decide +kernel)) ggX1_reaching_X1_isSamePackage
theorem dX1_reaching_0 : decode cX1_reaching 0 = .ok (.aload_n 0, 1) := by decide +kernel
theorem dX1_reaching_1 : decode cX1_reaching 1 = .ok (.getfield 27, 3) := by decide +kernel
theorem dX1_reaching_4 : decode cX1_reaching 4 = .ok (.iload_n 1, 1) := by decide +kernel
theorem dX1_reaching_5 : decode cX1_reaching 5 = .ok (.iaload, 1) := by decide +kernel
theorem dX1_reaching_6 : decode cX1_reaching 6 = .ok (.invokestatic 61, 3) := by decide +kernel
theorem dX1_reaching_9 : decode cX1_reaching 9 = .ok (.ifCond .ne 10, 3) := by decide +kernel
theorem dX1_reaching_12 : decode cX1_reaching 12 = .ok (.aload_n 0, 1) := by decide +kernel
theorem dX1_reaching_13 : decode cX1_reaching 13 = .ok (.getfield 27, 3) := by decide +kernel
theorem dX1_reaching_16 : decode cX1_reaching 16 = .ok (.iload_n 1, 1) := by decide +kernel
theorem dX1_reaching_17 : decode cX1_reaching 17 = .ok (.iaload, 1) := by decide +kernel
theorem dX1_reaching_18 : decode cX1_reaching 18 = .ok (.ireturn, 1) := by decide +kernel
theorem dX1_reaching_19 : decode cX1_reaching 19 = .ok (.aload_n 0, 1) := by decide +kernel
theorem dX1_reaching_20 : decode cX1_reaching 20 = .ok (.getfield 9, 3) := by decide +kernel
theorem dX1_reaching_23 : decode cX1_reaching 23 = .ok (.iload_n 1, 1) := by decide +kernel
theorem dX1_reaching_24 : decode cX1_reaching 24 = .ok (.iaload, 1) := by decide +kernel
theorem dX1_reaching_25 : decode cX1_reaching 25 = .ok (.iconst 1, 1) := by decide +kernel
theorem dX1_reaching_26 : decode cX1_reaching 26 = .ok (.iand, 1) := by decide +kernel
theorem dX1_reaching_27 : decode cX1_reaching 27 = .ok (.ifCond .ne 12, 3) := by decide +kernel
theorem dX1_reaching_30 : decode cX1_reaching 30 = .ok (.aload_n 0, 1) := by decide +kernel
theorem dX1_reaching_31 : decode cX1_reaching 31 = .ok (.iload_n 1, 1) := by decide +kernel
theorem dX1_reaching_32 : decode cX1_reaching 32 = .ok (.iload_n 2, 1) := by decide +kernel
theorem dX1_reaching_33 : decode cX1_reaching 33 = .ok (.invokevirtual 64, 3) := by decide +kernel
theorem dX1_reaching_36 : decode cX1_reaching 36 = .ok (.ifCond .eq 7, 3) := by decide +kernel
theorem dX1_reaching_39 : decode cX1_reaching 39 = .ok (.iconst 1, 1) := by decide +kernel
theorem dX1_reaching_40 : decode cX1_reaching 40 = .ok (.goto 4, 3) := by decide +kernel
theorem dX1_reaching_43 : decode cX1_reaching 43 = .ok (.iconst 0, 1) := by decide +kernel
theorem dX1_reaching_44 : decode cX1_reaching 44 = .ok (.istore_n 3, 1) := by decide +kernel
theorem dX1_reaching_45 : decode cX1_reaching 45 = .ok (.iload_n 3, 1) := by decide +kernel
theorem dX1_reaching_46 : decode cX1_reaching 46 = .ok (.ifCond .eq 7, 3) := by decide +kernel
theorem dX1_reaching_49 : decode cX1_reaching 49 = .ok (.iload_n 1, 1) := by decide +kernel
theorem dX1_reaching_50 : decode cX1_reaching 50 = .ok (.goto 8, 3) := by decide +kernel
theorem dX1_reaching_53 : decode cX1_reaching 53 = .ok (.sipush 256, 3) := by decide +kernel
theorem dX1_reaching_56 : decode cX1_reaching 56 = .ok (.iload_n 1, 1) := by decide +kernel
theorem dX1_reaching_57 : decode cX1_reaching 57 = .ok (.iadd, 1) := by decide +kernel
theorem dX1_reaching_58 : decode cX1_reaching 58 = .ok (.ireturn, 1) := by decide +kernel
theorem dX1_isSamePackage_0 : decode cX1_isSamePackage 0 = .ok (.aload_n 0, 1) := by decide +kernel
theorem dX1_isSamePackage_1 : decode cX1_isSamePackage 1 = .ok (.getfield 15, 3) := by decide +kernel
theorem dX1_isSamePackage_4 : decode cX1_isSamePackage 4 = .ok (.iload_n 1, 1) := by decide +kernel
theorem dX1_isSamePackage_5 : decode cX1_isSamePackage 5 = .ok (.iaload, 1) := by decide +kernel
theorem dX1_isSamePackage_6 : decode cX1_isSamePackage 6 = .ok (.aload_n 0, 1) := by decide +kernel
theorem dX1_isSamePackage_7 : decode cX1_isSamePackage 7 = .ok (.getfield 15, 3) := by decide +kernel
theorem dX1_isSamePackage_10 : decode cX1_isSamePackage 10 = .ok (.iload_n 2, 1) := by decide +kernel
theorem dX1_isSamePackage_11 : decode cX1_isSamePackage 11 = .ok (.iaload, 1) := by decide +kernel
theorem dX1_isSamePackage_12 : decode cX1_isSamePackage 12 = .ok (.if_icmp .ne 7, 3) := by decide +kernel
theorem dX1_isSamePackage_15 : decode cX1_isSamePackage 15 = .ok (.iconst 1, 1) := by decide +kernel
theorem dX1_isSamePackage_16 : decode cX1_isSamePackage 16 = .ok (.goto 4, 3) := by decide +kernel
theorem dX1_isSamePackage_19 : decode cX1_isSamePackage 19 = .ok (.iconst 0, 1) := by decide +kernel
theorem dX1_isSamePackage_20 : decode cX1_isSamePackage 20 = .ok (.ireturn, 1) := by decide +kernel
set_option maxRecDepth 20000 in
theorem ggX1_hasAbove_X4_contains : GoodIn wsX1_hasAbove wsX4_contains := goodIn_r _ [4] (by decide +kernel) (by decide +kernel)
set_option maxRecDepth 20000 in
theorem gX1_hasAbove_X4_contains_n57 : GoodIn wsX1_hasAbove (wsX4_contains) := ggX1_hasAbove_X4_contains
theorem dX1_hasAbove_0 : decode cX1_hasAbove 0 = .ok (.aload_n 0, 1) := by decide +kernel
theorem dX1_hasAbove_1 : decode cX1_hasAbove 1 = .ok (.getfield 30, 3) := by decide +kernel
theorem dX1_hasAbove_4 : decode cX1_hasAbove 4 = .ok (.iload_n 1, 1) := by decide +kernel
theorem dX1_hasAbove_5 : decode cX1_hasAbove 5 = .ok (.iaload, 1) := by decide +kernel
theorem dX1_hasAbove_6 : decode cX1_hasAbove 6 = .ok (.iload_n 2, 1) := by decide +kernel
theorem dX1_hasAbove_7 : decode cX1_hasAbove 7 = .ok (.invokestatic 57, 3) := by decide +kernel
theorem dX1_hasAbove_10 : decode cX1_hasAbove 10 = .ok (.ireturn, 1) := by decide +kernel
set_option maxRecDepth 20000 in
theorem ggX1_liesUnder_X4_contains : GoodIn wsX1_liesUnder wsX4_contains := goodIn_r _ [5] (by decide +kernel) (by decide +kernel)
set_option maxRecDepth 20000 in
theorem gX1_liesUnder_X4_contains_n57 : GoodIn wsX1_liesUnder (wsX4_contains) := ggX1_liesUnder_X4_contains
theorem dX1_liesUnder_0 : decode cX1_liesUnder 0 = .ok (.aload_n 0, 1) := by decide +kernel
theorem dX1_liesUnder_1 : decode cX1_liesUnder 1 = .ok (.getfield 30, 3) := by decide +kernel
theorem dX1_liesUnder_4 : decode cX1_liesUnder 4 = .ok (.iload_n 1, 1) := by decide +kernel
theorem dX1_liesUnder_5 : decode cX1_liesUnder 5 = .ok (.iaload, 1) := by decide +kernel
theorem dX1_liesUnder_6 : decode cX1_liesUnder 6 = .ok (.aload_n 0, 1) := by decide +kernel
theorem dX1_liesUnder_7 : decode cX1_liesUnder 7 = .ok (.getfield 33, 3) := by decide +kernel
theorem dX1_liesUnder_10 : decode cX1_liesUnder 10 = .ok (.iload_n 1, 1) := by decide +kernel
theorem dX1_liesUnder_11 : decode cX1_liesUnder 11 = .ok (.iaload, 1) := by decide +kernel
theorem dX1_liesUnder_12 : decode cX1_liesUnder 12 = .ok (.ior, 1) := by decide +kernel
theorem dX1_liesUnder_13 : decode cX1_liesUnder 13 = .ok (.iload_n 2, 1) := by decide +kernel
theorem dX1_liesUnder_14 : decode cX1_liesUnder 14 = .ok (.invokestatic 57, 3) := by decide +kernel
theorem dX1_liesUnder_17 : decode cX1_liesUnder 17 = .ok (.ireturn, 1) := by decide +kernel
set_option maxRecDepth 20000 in
theorem ggX1_mostSpecificOf_X4_contains : GoodIn wsX1_mostSpecificOf wsX4_contains := goodIn_r _ [4] (by decide +kernel) (by decide +kernel)
set_option maxRecDepth 20000 in
theorem gX1_mostSpecificOf_X4_contains_n57 : GoodIn wsX1_mostSpecificOf (wsX4_contains) := ggX1_mostSpecificOf_X4_contains
theorem dX1_mostSpecificOf_0 : decode cX1_mostSpecificOf 0 = .ok (.iconst 0, 1) := by decide +kernel
theorem dX1_mostSpecificOf_1 : decode cX1_mostSpecificOf 1 = .ok (.istore_n 2, 1) := by decide +kernel
theorem dX1_mostSpecificOf_2 : decode cX1_mostSpecificOf 2 = .ok (.iconst 0, 1) := by decide +kernel
theorem dX1_mostSpecificOf_3 : decode cX1_mostSpecificOf 3 = .ok (.istore_n 3, 1) := by decide +kernel
theorem dX1_mostSpecificOf_4 : decode cX1_mostSpecificOf 4 = .ok (.iload_n 3, 1) := by decide +kernel
theorem dX1_mostSpecificOf_5 : decode cX1_mostSpecificOf 5 = .ok (.bipush 12, 2) := by decide +kernel
theorem dX1_mostSpecificOf_7 : decode cX1_mostSpecificOf 7 = .ok (.if_icmp .ge 30, 3) := by decide +kernel
theorem dX1_mostSpecificOf_10 : decode cX1_mostSpecificOf 10 = .ok (.iload_n 2, 1) := by decide +kernel
theorem dX1_mostSpecificOf_11 : decode cX1_mostSpecificOf 11 = .ok (.iload_n 1, 1) := by decide +kernel
theorem dX1_mostSpecificOf_12 : decode cX1_mostSpecificOf 12 = .ok (.iload_n 3, 1) := by decide +kernel
theorem dX1_mostSpecificOf_13 : decode cX1_mostSpecificOf 13 = .ok (.invokestatic 57, 3) := by decide +kernel
theorem dX1_mostSpecificOf_16 : decode cX1_mostSpecificOf 16 = .ok (.ifCond .eq 12, 3) := by decide +kernel
theorem dX1_mostSpecificOf_19 : decode cX1_mostSpecificOf 19 = .ok (.aload_n 0, 1) := by decide +kernel
theorem dX1_mostSpecificOf_20 : decode cX1_mostSpecificOf 20 = .ok (.getfield 33, 3) := by decide +kernel
theorem dX1_mostSpecificOf_23 : decode cX1_mostSpecificOf 23 = .ok (.iload_n 3, 1) := by decide +kernel
theorem dX1_mostSpecificOf_24 : decode cX1_mostSpecificOf 24 = .ok (.iaload, 1) := by decide +kernel
theorem dX1_mostSpecificOf_25 : decode cX1_mostSpecificOf 25 = .ok (.goto 4, 3) := by decide +kernel
theorem dX1_mostSpecificOf_28 : decode cX1_mostSpecificOf 28 = .ok (.iconst 0, 1) := by decide +kernel
theorem dX1_mostSpecificOf_29 : decode cX1_mostSpecificOf 29 = .ok (.ior, 1) := by decide +kernel
theorem dX1_mostSpecificOf_30 : decode cX1_mostSpecificOf 30 = .ok (.istore_n 2, 1) := by decide +kernel
theorem dX1_mostSpecificOf_31 : decode cX1_mostSpecificOf 31 = .ok (.iinc 3 1, 3) := by decide +kernel
theorem dX1_mostSpecificOf_34 : decode cX1_mostSpecificOf 34 = .ok (.goto (-30), 3) := by decide +kernel
theorem dX1_mostSpecificOf_37 : decode cX1_mostSpecificOf 37 = .ok (.iload_n 1, 1) := by decide +kernel
theorem dX1_mostSpecificOf_38 : decode cX1_mostSpecificOf 38 = .ok (.iload_n 2, 1) := by decide +kernel
theorem dX1_mostSpecificOf_39 : decode cX1_mostSpecificOf 39 = .ok (.iconst (-1), 1) := by decide +kernel
theorem dX1_mostSpecificOf_40 : decode cX1_mostSpecificOf 40 = .ok (.ixor, 1) := by decide +kernel
theorem dX1_mostSpecificOf_41 : decode cX1_mostSpecificOf 41 = .ok (.iand, 1) := by decide +kernel
theorem dX1_mostSpecificOf_42 : decode cX1_mostSpecificOf 42 = .ok (.ireturn, 1) := by decide +kernel
set_option maxRecDepth 20000 in
theorem ggX1_nestOf_X1_isThere : GoodIn wsX1_nestOf wsX1_isThere := goodIn_r _ [6, 7, 8, 9, 10, 16, 17, 18, 19, 20, 21, 22, 23, 24, 25] (by decide +kernel) (by decide +kernel)
set_option maxRecDepth 20000 in
theorem gX1_nestOf_X1_isThere : GoodIn wsX1_nestOf (wsV RX1 47 RX1 yX1_isThere wsX1_isThere) := goodIn_app (goodIn_of _ (by decide +kernel)) ggX1_nestOf_X1_isThere
set_option maxRecDepth 20000 in
theorem ggX1_nestOf_X1_isSamePackage : GoodIn wsX1_nestOf wsX1_isSamePackage := goodIn_r _ [14, 15, 16, 17, 18, 19, 20, 21, 22, 23, 24, 25] (by decide +kernel) (by decide +kernel)
set_option maxRecDepth 20000 in
theorem gX1_nestOf_X1_isSamePackage : GoodIn wsX1_nestOf (wsV RX1 64 RX1 yX1_isSamePackage wsX1_isSamePackage) := goodIn_app (goodIn_of _ (by decide +kernel)) ggX1_nestOf_X1_isSamePackage
theorem dX1_nestOf_0 : decode cX1_nestOf 0 = .ok (.aload_n 0, 1) := by decide +kernel
theorem dX1_nestOf_1 : decode cX1_nestOf 1 = .ok (.getfield 24, 3) := by decide +kernel
theorem dX1_nestOf_4 : decode cX1_nestOf 4 = .ok (.iload_n 1, 1) := by decide +kernel
theorem dX1_nestOf_5 : decode cX1_nestOf 5 = .ok (.iaload, 1) := by decide +kernel
theorem dX1_nestOf_6 : decode cX1_nestOf 6 = .ok (.istore_n 2, 1) := by decide +kernel
theorem dX1_nestOf_7 : decode cX1_nestOf 7 = .ok (.aload_n 0, 1) := by decide +kernel
theorem dX1_nestOf_8 : decode cX1_nestOf 8 = .ok (.iload_n 2, 1) := by decide +kernel
theorem dX1_nestOf_9 : decode cX1_nestOf 9 = .ok (.invokevirtual 47, 3) := by decide +kernel
theorem dX1_nestOf_12 : decode cX1_nestOf 12 = .ok (.ifCond .eq 26, 3) := by decide +kernel
theorem dX1_nestOf_15 : decode cX1_nestOf 15 = .ok (.aload_n 0, 1) := by decide +kernel
theorem dX1_nestOf_16 : decode cX1_nestOf 16 = .ok (.iload_n 2, 1) := by decide +kernel
theorem dX1_nestOf_17 : decode cX1_nestOf 17 = .ok (.iload_n 1, 1) := by decide +kernel
theorem dX1_nestOf_18 : decode cX1_nestOf 18 = .ok (.invokevirtual 64, 3) := by decide +kernel
theorem dX1_nestOf_21 : decode cX1_nestOf 21 = .ok (.ifCond .eq 17, 3) := by decide +kernel
theorem dX1_nestOf_24 : decode cX1_nestOf 24 = .ok (.aload_n 0, 1) := by decide +kernel
theorem dX1_nestOf_25 : decode cX1_nestOf 25 = .ok (.getfield 24, 3) := by decide +kernel
theorem dX1_nestOf_28 : decode cX1_nestOf 28 = .ok (.iload_n 2, 1) := by decide +kernel
theorem dX1_nestOf_29 : decode cX1_nestOf 29 = .ok (.iaload, 1) := by decide +kernel
theorem dX1_nestOf_30 : decode cX1_nestOf 30 = .ok (.iload_n 2, 1) := by decide +kernel
theorem dX1_nestOf_31 : decode cX1_nestOf 31 = .ok (.if_icmp .ne 7, 3) := by decide +kernel
theorem dX1_nestOf_34 : decode cX1_nestOf 34 = .ok (.iload_n 2, 1) := by decide +kernel
theorem dX1_nestOf_35 : decode cX1_nestOf 35 = .ok (.goto 4, 3) := by decide +kernel
theorem dX1_nestOf_38 : decode cX1_nestOf 38 = .ok (.iload_n 1, 1) := by decide +kernel
theorem dX1_nestOf_39 : decode cX1_nestOf 39 = .ok (.ireturn, 1) := by decide +kernel
set_option maxRecDepth 20000 in
theorem ggX1_countThere_J6_bitCount_0f7a4 : GoodIn wsX1_countThere wsJ6_bitCount_0f7a4 := goodIn_r _ [5, 6, 7, 8] (by decide +kernel) (by decide +kernel)
set_option maxRecDepth 20000 in
theorem gX1_countThere_J6_bitCount_0f7a4 : GoodIn wsX1_countThere (va_wsS RX1 67 yJ6_bitCount_0f7a4 wsJ6_bitCount_0f7a4) := goodIn_app (goodIn_of _ (by decide +kernel)) ggX1_countThere_J6_bitCount_0f7a4
theorem dX1_countThere_0 : decode cX1_countThere 0 = .ok (.aload_n 0, 1) := by decide +kernel
theorem dX1_countThere_1 : decode cX1_countThere 1 = .ok (.getfield 40, 3) := by decide +kernel
theorem dX1_countThere_4 : decode cX1_countThere 4 = .ok (.invokestatic 67, 3) := by decide +kernel
theorem dX1_countThere_7 : decode cX1_countThere 7 = .ok (.ireturn, 1) := by decide +kernel
set_option maxRecDepth 20000 in
theorem ggX1_countLoaded_J6_bitCount_0f7a4 : GoodIn wsX1_countLoaded wsJ6_bitCount_0f7a4 := goodIn_r _ [5, 6, 7, 8] (by decide +kernel) (by decide +kernel)
set_option maxRecDepth 20000 in
theorem gX1_countLoaded_J6_bitCount_0f7a4 : GoodIn wsX1_countLoaded (va_wsS RX1 67 yJ6_bitCount_0f7a4 wsJ6_bitCount_0f7a4) := goodIn_app (goodIn_of _ (by decide +kernel)) ggX1_countLoaded_J6_bitCount_0f7a4
theorem dX1_countLoaded_0 : decode cX1_countLoaded 0 = .ok (.aload_n 0, 1) := by decide +kernel
theorem dX1_countLoaded_1 : decode cX1_countLoaded 1 = .ok (.getfield 72, 3) := by decide +kernel
theorem dX1_countLoaded_4 : decode cX1_countLoaded 4 = .ok (.invokestatic 67, 3) := by decide +kernel
theorem dX1_countLoaded_7 : decode cX1_countLoaded 7 = .ok (.ireturn, 1) := by decide +kernel
set_option maxRecDepth 20000 in
theorem ggX1_nestSharers_X1_isThere : GoodIn wsX1_nestSharers wsX1_isThere := goodIn_r _ [5, 6, 7, 8, 9, 22, 23, 24, 25, 26, 27, 28, 29, 30, 31] (by decide +kernel) (by decide +kernel)
set_option maxRecDepth 20000 in
theorem gX1_nestSharers_X1_isThere : GoodIn wsX1_nestSharers (wsV RX1 47 RX1 yX1_isThere wsX1_isThere) := goodIn_app (goodIn_of _ (by decide +kernel)) ggX1_nestSharers_X1_isThere
set_option maxRecDepth 20000 in
theorem ggX1_nestSharers_X1_nestOf : GoodIn wsX1_nestSharers wsX1_nestOf := goodIn_r _ [13, 14, 1, 2, 3, 4, 5, 6, 7, 8, 9, 15, 16, 17, 18, 19, 22, 23, 24, 25, 26, 27, 28, 29, 30, 31] (by decide +kernel) (by decide +kernel)
set_option maxRecDepth 20000 in
theorem gX1_nestSharers_X1_nestOf : GoodIn wsX1_nestSharers (wsV RX1 75 RX1 yX1_nestOf wsX1_nestOf) := goodIn_app (goodIn_of _ (by decide +kernel)) ggX1_nestSharers_X1_nestOf
set_option maxRecDepth 20000 in
theorem ggX1_nestSharers_X4_bit : GoodIn wsX1_nestSharers wsX4_bit := goodIn_r _ [21] (by decide +kernel) (by decide +kernel)
set_option maxRecDepth 20000 in
theorem gX1_nestSharers_X4_bit_n36 : GoodIn wsX1_nestSharers (wsX4_bit) := ggX1_nestSharers_X4_bit
theorem dX1_nestSharers_0 : decode cX1_nestSharers 0 = .ok (.iconst 0, 1) := by decide +kernel
theorem dX1_nestSharers_1 : decode cX1_nestSharers 1 = .ok (.istore_n 1, 1) := by decide +kernel
theorem dX1_nestSharers_2 : decode cX1_nestSharers 2 = .ok (.iconst 0, 1) := by decide +kernel
theorem dX1_nestSharers_3 : decode cX1_nestSharers 3 = .ok (.istore_n 2, 1) := by decide +kernel
theorem dX1_nestSharers_4 : decode cX1_nestSharers 4 = .ok (.iload_n 2, 1) := by decide +kernel
theorem dX1_nestSharers_5 : decode cX1_nestSharers 5 = .ok (.bipush 12, 2) := by decide +kernel
theorem dX1_nestSharers_7 : decode cX1_nestSharers 7 = .ok (.if_icmp .ge 63, 3) := by decide +kernel
theorem dX1_nestSharers_10 : decode cX1_nestSharers 10 = .ok (.iconst 0, 1) := by decide +kernel
theorem dX1_nestSharers_11 : decode cX1_nestSharers 11 = .ok (.istore_n 3, 1) := by decide +kernel
theorem dX1_nestSharers_12 : decode cX1_nestSharers 12 = .ok (.iload_n 3, 1) := by decide +kernel
theorem dX1_nestSharers_13 : decode cX1_nestSharers 13 = .ok (.iload_n 2, 1) := by decide +kernel
theorem dX1_nestSharers_14 : decode cX1_nestSharers 14 = .ok (.if_icmp .ge 50, 3) := by decide +kernel
theorem dX1_nestSharers_17 : decode cX1_nestSharers 17 = .ok (.aload_n 0, 1) := by decide +kernel
theorem dX1_nestSharers_18 : decode cX1_nestSharers 18 = .ok (.iload_n 2, 1) := by decide +kernel
theorem dX1_nestSharers_19 : decode cX1_nestSharers 19 = .ok (.invokevirtual 47, 3) := by decide +kernel
theorem dX1_nestSharers_22 : decode cX1_nestSharers 22 = .ok (.ifCond .eq 36, 3) := by decide +kernel
theorem dX1_nestSharers_25 : decode cX1_nestSharers 25 = .ok (.aload_n 0, 1) := by decide +kernel
theorem dX1_nestSharers_26 : decode cX1_nestSharers 26 = .ok (.iload_n 3, 1) := by decide +kernel
theorem dX1_nestSharers_27 : decode cX1_nestSharers 27 = .ok (.invokevirtual 47, 3) := by decide +kernel
theorem dX1_nestSharers_30 : decode cX1_nestSharers 30 = .ok (.ifCond .eq 28, 3) := by decide +kernel
theorem dX1_nestSharers_33 : decode cX1_nestSharers 33 = .ok (.aload_n 0, 1) := by decide +kernel
theorem dX1_nestSharers_34 : decode cX1_nestSharers 34 = .ok (.iload_n 2, 1) := by decide +kernel
theorem dX1_nestSharers_35 : decode cX1_nestSharers 35 = .ok (.invokevirtual 75, 3) := by decide +kernel
theorem dX1_nestSharers_38 : decode cX1_nestSharers 38 = .ok (.aload_n 0, 1) := by decide +kernel
theorem dX1_nestSharers_39 : decode cX1_nestSharers 39 = .ok (.iload_n 3, 1) := by decide +kernel
theorem dX1_nestSharers_40 : decode cX1_nestSharers 40 = .ok (.invokevirtual 75, 3) := by decide +kernel
theorem dX1_nestSharers_43 : decode cX1_nestSharers 43 = .ok (.if_icmp .ne 15, 3) := by decide +kernel
theorem dX1_nestSharers_46 : decode cX1_nestSharers 46 = .ok (.iload_n 1, 1) := by decide +kernel
theorem dX1_nestSharers_47 : decode cX1_nestSharers 47 = .ok (.iload_n 2, 1) := by decide +kernel
theorem dX1_nestSharers_48 : decode cX1_nestSharers 48 = .ok (.invokestatic 36, 3) := by decide +kernel
theorem dX1_nestSharers_51 : decode cX1_nestSharers 51 = .ok (.iload_n 3, 1) := by decide +kernel
theorem dX1_nestSharers_52 : decode cX1_nestSharers 52 = .ok (.invokestatic 36, 3) := by decide +kernel
theorem dX1_nestSharers_55 : decode cX1_nestSharers 55 = .ok (.ior, 1) := by decide +kernel
theorem dX1_nestSharers_56 : decode cX1_nestSharers 56 = .ok (.ior, 1) := by decide +kernel
theorem dX1_nestSharers_57 : decode cX1_nestSharers 57 = .ok (.istore_n 1, 1) := by decide +kernel
theorem dX1_nestSharers_58 : decode cX1_nestSharers 58 = .ok (.iinc 3 1, 3) := by decide +kernel
theorem dX1_nestSharers_61 : decode cX1_nestSharers 61 = .ok (.goto (-49), 3) := by decide +kernel
theorem dX1_nestSharers_64 : decode cX1_nestSharers 64 = .ok (.iinc 2 1, 3) := by decide +kernel
theorem dX1_nestSharers_67 : decode cX1_nestSharers 67 = .ok (.goto (-63), 3) := by decide +kernel
theorem dX1_nestSharers_70 : decode cX1_nestSharers 70 = .ok (.iload_n 1, 1) := by decide +kernel
theorem dX1_nestSharers_71 : decode cX1_nestSharers 71 = .ok (.ireturn, 1) := by decide +kernel
set_option maxRecDepth 20000 in
theorem ggX1_settle_X1_loadInside : GoodIn wsX1_settle wsX1_loadInside := goodIn_r _ [7, 1, 8, 9, 10, 6, 11, 12, 13, 14, 15, 16, 17, 18, 19, 20, 21, 22, 23, 24, 25, 26, 27, 28, 29, 30, 31, 32, 33, 34, 35, 36, 37, 38, 39, 40, 41, 42, 43, 3, 4, 5, 44, 45, 46, 47, 48, 49, 50, 51, 52, 53] (by decide +kernel) (by decide +kernel)
set_option maxRecDepth 20000 in
theorem gX1_settle_X1_loadInside : GoodIn wsX1_settle (wsV RX1 78 RX1 yX1_loadInside wsX1_loadInside) := goodIn_app (goodIn_of _ (by decide +kernel)) ggX1_settle_X1_loadInside
theorem dX1_settle_0 : decode cX1_settle 0 = .ok (.aload_n 0, 1) := by decide +kernel
theorem dX1_settle_1 : decode cX1_settle 1 = .ok (.iconst 0, 1) := by decide +kernel
theorem dX1_settle_2 : decode cX1_settle 2 = .ok (.putfield 72, 3) := by decide +kernel
theorem dX1_settle_5 : decode cX1_settle 5 = .ok (.iconst 0, 1) := by decide +kernel
theorem dX1_settle_6 : decode cX1_settle 6 = .ok (.istore_n 1, 1) := by decide +kernel
theorem dX1_settle_7 : decode cX1_settle 7 = .ok (.iload_n 1, 1) := by decide +kernel
theorem dX1_settle_8 : decode cX1_settle 8 = .ok (.bipush 12, 2) := by decide +kernel
theorem dX1_settle_10 : decode cX1_settle 10 = .ok (.if_icmp .ge 21, 3) := by decide +kernel
theorem dX1_settle_13 : decode cX1_settle 13 = .ok (.aload_n 0, 1) := by decide +kernel
theorem dX1_settle_14 : decode cX1_settle 14 = .ok (.getfield 27, 3) := by decide +kernel
theorem dX1_settle_17 : decode cX1_settle 17 = .ok (.iload_n 1, 1) := by decide +kernel
theorem dX1_settle_18 : decode cX1_settle 18 = .ok (.aload_n 0, 1) := by decide +kernel
theorem dX1_settle_19 : decode cX1_settle 19 = .ok (.iload_n 1, 1) := by decide +kernel
theorem dX1_settle_20 : decode cX1_settle 20 = .ok (.iconst 0, 1) := by decide +kernel
theorem dX1_settle_21 : decode cX1_settle 21 = .ok (.invokevirtual 78, 3) := by decide +kernel
theorem dX1_settle_24 : decode cX1_settle 24 = .ok (.iastore, 1) := by decide +kernel
theorem dX1_settle_25 : decode cX1_settle 25 = .ok (.iinc 1 1, 3) := by decide +kernel
theorem dX1_settle_28 : decode cX1_settle 28 = .ok (.goto (-21), 3) := by decide +kernel
theorem dX1_settle_31 : decode cX1_settle 31 = .ok (.return_, 1) := by decide +kernel
set_option maxRecDepth 20000 in
theorem ggX1_loadInside_X1_isThere : GoodIn wsX1_loadInside wsX1_isThere := goodIn_r _ [6, 7, 8, 9, 10, 42, 43, 44, 45, 46, 47, 48, 49, 50, 51] (by decide +kernel) (by decide +kernel)
set_option maxRecDepth 20000 in
theorem gX1_loadInside_X1_isThere : GoodIn wsX1_loadInside (wsV RX1 47 RX1 yX1_isThere wsX1_isThere) := goodIn_app (goodIn_of _ (by decide +kernel)) ggX1_loadInside_X1_isThere
set_option maxRecDepth 20000 in
theorem ggX1_loadInside_X4_contains : GoodIn wsX1_loadInside wsX4_contains := goodIn_r _ [10] (by decide +kernel) (by decide +kernel)
set_option maxRecDepth 20000 in
theorem gX1_loadInside_X4_contains_n57 : GoodIn wsX1_loadInside (wsX4_contains) := ggX1_loadInside_X4_contains
set_option maxRecDepth 20000 in
theorem ggX1_loadInside_X4_bit : GoodIn wsX1_loadInside wsX4_bit := goodIn_r _ [12] (by decide +kernel) (by decide +kernel)
set_option maxRecDepth 20000 in
theorem gX1_loadInside_X4_bit_n36 : GoodIn wsX1_loadInside (wsX4_bit) := ggX1_loadInside_X4_bit
set_option maxRecDepth 20000 in
theorem ggX1_loadInside_X1_loadParents : GoodIn wsX1_loadInside wsX1_loadParents := goodIn_r _ [38, 25, 27, 39, 40, 41, 5, 16, 9, 17, 18, 19, 20, 8, 10, 0, 1, 2, 3, 4, 6, 7, 11, 12, 13, 14, 15, 21, 22, 23, 24, 26, 28, 29, 30, 31, 32, 33, 34, 35, 36, 37, 42, 43, 44, 45, 46, 47, 48, 49, 50, 51] (by decide +kernel) (by decide +kernel)
set_option maxRecDepth 20000 in
theorem gX1_loadInside_X1_loadParents : GoodIn wsX1_loadInside (wsV RX1 82 RX1 yX1_loadParents wsX1_loadParents) := goodIn_app (goodIn_of _ (by decide +kernel)) ggX1_loadInside_X1_loadParents
set_option maxRecDepth 20000 in
theorem ggX1_loadInside_X4_isGood : GoodIn wsX1_loadInside wsX4_isGood := goodIn_r _ [17, 18, 19, 9, 20] (by decide +kernel) (by decide +kernel)
set_option maxRecDepth 20000 in
theorem gX1_loadInside_X4_isGood_n61 : GoodIn wsX1_loadInside (wsX4_isGood) := ggX1_loadInside_X4_isGood
set_option maxRecDepth 20000 in
theorem ggX1_loadInside_X1_hasWrongParents : GoodIn wsX1_loadInside wsX1_hasWrongParents := goodIn_r _ [24, 25, 26, 27, 28, 29, 30, 5, 31, 8, 9, 10, 42, 43, 44, 45, 46, 47, 48, 49, 50, 51] (by decide +kernel) (by decide +kernel)
set_option maxRecDepth 20000 in
theorem gX1_loadInside_X1_hasWrongParents : GoodIn wsX1_loadInside (wsV RX1 85 RX1 yX1_hasWrongParents wsX1_hasWrongParents) := goodIn_app (goodIn_of _ (by decide +kernel)) ggX1_loadInside_X1_hasWrongParents
set_option maxRecDepth 20000 in
theorem ggX1_loadInside_X1_gatherSets : GoodIn wsX1_loadInside wsX1_gatherSets := goodIn_r _ [35, 25, 36, 27, 37, 11, 9, 12, 8, 10, 42, 43, 44, 45, 46, 47, 48, 49, 50, 51] (by decide +kernel) (by decide +kernel)
set_option maxRecDepth 20000 in
theorem gX1_loadInside_X1_gatherSets : GoodIn wsX1_loadInside (wsV RX1 88 RX1 yX1_gatherSets wsX1_gatherSets) := goodIn_app (goodIn_of _ (by decide +kernel)) ggX1_loadInside_X1_gatherSets
theorem dX1_loadInside_0 : decode cX1_loadInside 0 = .ok (.aload_n 0, 1) := by decide +kernel
theorem dX1_loadInside_1 : decode cX1_loadInside 1 = .ok (.iload_n 1, 1) := by decide +kernel
theorem dX1_loadInside_2 : decode cX1_loadInside 2 = .ok (.invokevirtual 47, 3) := by decide +kernel
theorem dX1_loadInside_5 : decode cX1_loadInside 5 = .ok (.ifCond .ne 8, 3) := by decide +kernel
theorem dX1_loadInside_8 : decode cX1_loadInside 8 = .ok (.bipush 64, 2) := by decide +kernel
theorem dX1_loadInside_10 : decode cX1_loadInside 10 = .ok (.iload_n 1, 1) := by decide +kernel
theorem dX1_loadInside_11 : decode cX1_loadInside 11 = .ok (.iadd, 1) := by decide +kernel
theorem dX1_loadInside_12 : decode cX1_loadInside 12 = .ok (.ireturn, 1) := by decide +kernel
theorem dX1_loadInside_13 : decode cX1_loadInside 13 = .ok (.iload_n 2, 1) := by decide +kernel
theorem dX1_loadInside_14 : decode cX1_loadInside 14 = .ok (.iload_n 1, 1) := by decide +kernel
theorem dX1_loadInside_15 : decode cX1_loadInside 15 = .ok (.invokestatic 57, 3) := by decide +kernel
theorem dX1_loadInside_18 : decode cX1_loadInside 18 = .ok (.ifCond .eq 9, 3) := by decide +kernel
theorem dX1_loadInside_21 : decode cX1_loadInside 21 = .ok (.sipush 128, 3) := by decide +kernel
theorem dX1_loadInside_24 : decode cX1_loadInside 24 = .ok (.iload_n 1, 1) := by decide +kernel
theorem dX1_loadInside_25 : decode cX1_loadInside 25 = .ok (.iadd, 1) := by decide +kernel
theorem dX1_loadInside_26 : decode cX1_loadInside 26 = .ok (.ireturn, 1) := by decide +kernel
theorem dX1_loadInside_27 : decode cX1_loadInside 27 = .ok (.aload_n 0, 1) := by decide +kernel
theorem dX1_loadInside_28 : decode cX1_loadInside 28 = .ok (.getfield 72, 3) := by decide +kernel
theorem dX1_loadInside_31 : decode cX1_loadInside 31 = .ok (.iload_n 1, 1) := by decide +kernel
theorem dX1_loadInside_32 : decode cX1_loadInside 32 = .ok (.invokestatic 57, 3) := by decide +kernel
theorem dX1_loadInside_35 : decode cX1_loadInside 35 = .ok (.ifCond .eq 5, 3) := by decide +kernel
theorem dX1_loadInside_38 : decode cX1_loadInside 38 = .ok (.iload_n 1, 1) := by decide +kernel
theorem dX1_loadInside_39 : decode cX1_loadInside 39 = .ok (.ireturn, 1) := by decide +kernel
theorem dX1_loadInside_40 : decode cX1_loadInside 40 = .ok (.aload_n 0, 1) := by decide +kernel
theorem dX1_loadInside_41 : decode cX1_loadInside 41 = .ok (.iload_n 1, 1) := by decide +kernel
theorem dX1_loadInside_42 : decode cX1_loadInside 42 = .ok (.iload_n 2, 1) := by decide +kernel
theorem dX1_loadInside_43 : decode cX1_loadInside 43 = .ok (.iload_n 1, 1) := by decide +kernel
theorem dX1_loadInside_44 : decode cX1_loadInside 44 = .ok (.invokestatic 36, 3) := by decide +kernel
theorem dX1_loadInside_47 : decode cX1_loadInside 47 = .ok (.ior, 1) := by decide +kernel
theorem dX1_loadInside_48 : decode cX1_loadInside 48 = .ok (.invokevirtual 82, 3) := by decide +kernel
theorem dX1_loadInside_51 : decode cX1_loadInside 51 = .ok (.istore_n 3, 1) := by decide +kernel
theorem dX1_loadInside_52 : decode cX1_loadInside 52 = .ok (.iload_n 3, 1) := by decide +kernel
theorem dX1_loadInside_53 : decode cX1_loadInside 53 = .ok (.invokestatic 61, 3) := by decide +kernel
theorem dX1_loadInside_56 : decode cX1_loadInside 56 = .ok (.ifCond .ne 5, 3) := by decide +kernel
theorem dX1_loadInside_59 : decode cX1_loadInside 59 = .ok (.iload_n 3, 1) := by decide +kernel
theorem dX1_loadInside_60 : decode cX1_loadInside 60 = .ok (.ireturn, 1) := by decide +kernel
theorem dX1_loadInside_61 : decode cX1_loadInside 61 = .ok (.aload_n 0, 1) := by decide +kernel
theorem dX1_loadInside_62 : decode cX1_loadInside 62 = .ok (.iload_n 1, 1) := by decide +kernel
theorem dX1_loadInside_63 : decode cX1_loadInside 63 = .ok (.invokevirtual 85, 3) := by decide +kernel
theorem dX1_loadInside_66 : decode cX1_loadInside 66 = .ok (.ifCond .eq 9, 3) := by decide +kernel
theorem dX1_loadInside_69 : decode cX1_loadInside 69 = .ok (.sipush 192, 3) := by decide +kernel
theorem dX1_loadInside_72 : decode cX1_loadInside 72 = .ok (.iload_n 1, 1) := by decide +kernel
theorem dX1_loadInside_73 : decode cX1_loadInside 73 = .ok (.iadd, 1) := by decide +kernel
theorem dX1_loadInside_74 : decode cX1_loadInside 74 = .ok (.ireturn, 1) := by decide +kernel
theorem dX1_loadInside_75 : decode cX1_loadInside 75 = .ok (.aload_n 0, 1) := by decide +kernel
theorem dX1_loadInside_76 : decode cX1_loadInside 76 = .ok (.iload_n 1, 1) := by decide +kernel
theorem dX1_loadInside_77 : decode cX1_loadInside 77 = .ok (.invokevirtual 88, 3) := by decide +kernel
theorem dX1_loadInside_80 : decode cX1_loadInside 80 = .ok (.aload_n 0, 1) := by decide +kernel
theorem dX1_loadInside_81 : decode cX1_loadInside 81 = .ok (.dup, 1) := by decide +kernel
theorem dX1_loadInside_82 : decode cX1_loadInside 82 = .ok (.getfield 72, 3) := by decide +kernel
theorem dX1_loadInside_85 : decode cX1_loadInside 85 = .ok (.iload_n 1, 1) := by decide +kernel
theorem dX1_loadInside_86 : decode cX1_loadInside 86 = .ok (.invokestatic 36, 3) := by decide +kernel
theorem dX1_loadInside_89 : decode cX1_loadInside 89 = .ok (.ior, 1) := by decide +kernel
theorem dX1_loadInside_90 : decode cX1_loadInside 90 = .ok (.putfield 72, 3) := by decide +kernel
theorem dX1_loadInside_93 : decode cX1_loadInside 93 = .ok (.iload_n 1, 1) := by decide +kernel
theorem dX1_loadInside_94 : decode cX1_loadInside 94 = .ok (.ireturn, 1) := by decide +kernel
set_option maxRecDepth 20000 in
theorem ggX1_loadParents_X1_loadInside : GoodIn wsX1_loadParents wsX1_loadInside := goodIn_r _ [15, 16, 17, 18, 19, 6, 20, 21, 13, 8, 14, 22, 23, 24, 25, 26, 7, 9, 10, 11, 12, 27, 28, 29, 30, 1, 31, 2, 32, 33, 34, 35, 36, 37, 38, 39, 40, 41, 0, 3, 4, 5, 42, 43, 44, 45, 46, 47, 48, 49, 50, 51] (by decide +kernel) (by decide +kernel)
set_option maxRecDepth 20000 in
theorem gX1_loadParents_X1_loadInside : GoodIn wsX1_loadParents (wsV RX1 78 RX1 yX1_loadInside wsX1_loadInside) := goodIn_app (goodIn_of _ (by decide +kernel)) ggX1_loadParents_X1_loadInside
set_option maxRecDepth 20000 in
theorem ggX1_loadParents_X4_isGood : GoodIn wsX1_loadParents wsX4_isGood := goodIn_r _ [9, 10, 11, 8, 12] (by decide +kernel) (by decide +kernel)
set_option maxRecDepth 20000 in
theorem gX1_loadParents_X4_isGood_n61 : GoodIn wsX1_loadParents (wsX4_isGood) := ggX1_loadParents_X4_isGood
set_option maxRecDepth 20000 in
theorem ggX1_loadParents_X4_contains : GoodIn wsX1_loadParents wsX4_contains := goodIn_r _ [14] (by decide +kernel) (by decide +kernel)
set_option maxRecDepth 20000 in
theorem gX1_loadParents_X4_contains_n57 : GoodIn wsX1_loadParents (wsX4_contains) := ggX1_loadParents_X4_contains
theorem dX1_loadParents_0 : decode cX1_loadParents 0 = .ok (.aload_n 0, 1) := by decide +kernel
theorem dX1_loadParents_1 : decode cX1_loadParents 1 = .ok (.getfield 18, 3) := by decide +kernel
theorem dX1_loadParents_4 : decode cX1_loadParents 4 = .ok (.iload_n 1, 1) := by decide +kernel
theorem dX1_loadParents_5 : decode cX1_loadParents 5 = .ok (.iaload, 1) := by decide +kernel
theorem dX1_loadParents_6 : decode cX1_loadParents 6 = .ok (.iconst (-1), 1) := by decide +kernel
theorem dX1_loadParents_7 : decode cX1_loadParents 7 = .ok (.if_icmp .eq 24, 3) := by decide +kernel
theorem dX1_loadParents_10 : decode cX1_loadParents 10 = .ok (.aload_n 0, 1) := by decide +kernel
theorem dX1_loadParents_11 : decode cX1_loadParents 11 = .ok (.aload_n 0, 1) := by decide +kernel
theorem dX1_loadParents_12 : decode cX1_loadParents 12 = .ok (.getfield 18, 3) := by decide +kernel
theorem dX1_loadParents_15 : decode cX1_loadParents 15 = .ok (.iload_n 1, 1) := by decide +kernel
theorem dX1_loadParents_16 : decode cX1_loadParents 16 = .ok (.iaload, 1) := by decide +kernel
theorem dX1_loadParents_17 : decode cX1_loadParents 17 = .ok (.iload_n 2, 1) := by decide +kernel
theorem dX1_loadParents_18 : decode cX1_loadParents 18 = .ok (.invokevirtual 78, 3) := by decide +kernel
theorem dX1_loadParents_21 : decode cX1_loadParents 21 = .ok (.istore_n 3, 1) := by decide +kernel
theorem dX1_loadParents_22 : decode cX1_loadParents 22 = .ok (.iload_n 3, 1) := by decide +kernel
theorem dX1_loadParents_23 : decode cX1_loadParents 23 = .ok (.invokestatic 61, 3) := by decide +kernel
theorem dX1_loadParents_26 : decode cX1_loadParents 26 = .ok (.ifCond .ne 5, 3) := by decide +kernel
theorem dX1_loadParents_29 : decode cX1_loadParents 29 = .ok (.iload_n 3, 1) := by decide +kernel
theorem dX1_loadParents_30 : decode cX1_loadParents 30 = .ok (.ireturn, 1) := by decide +kernel
theorem dX1_loadParents_31 : decode cX1_loadParents 31 = .ok (.iconst 0, 1) := by decide +kernel
theorem dX1_loadParents_32 : decode cX1_loadParents 32 = .ok (.istore_n 3, 1) := by decide +kernel
theorem dX1_loadParents_33 : decode cX1_loadParents 33 = .ok (.iload_n 3, 1) := by decide +kernel
theorem dX1_loadParents_34 : decode cX1_loadParents 34 = .ok (.bipush 12, 2) := by decide +kernel
theorem dX1_loadParents_36 : decode cX1_loadParents 36 = .ok (.if_icmp .ge 41, 3) := by decide +kernel
theorem dX1_loadParents_39 : decode cX1_loadParents 39 = .ok (.aload_n 0, 1) := by decide +kernel
theorem dX1_loadParents_40 : decode cX1_loadParents 40 = .ok (.getfield 21, 3) := by decide +kernel
theorem dX1_loadParents_43 : decode cX1_loadParents 43 = .ok (.iload_n 1, 1) := by decide +kernel
theorem dX1_loadParents_44 : decode cX1_loadParents 44 = .ok (.iaload, 1) := by decide +kernel
theorem dX1_loadParents_45 : decode cX1_loadParents 45 = .ok (.iload_n 3, 1) := by decide +kernel
theorem dX1_loadParents_46 : decode cX1_loadParents 46 = .ok (.invokestatic 57, 3) := by decide +kernel
theorem dX1_loadParents_49 : decode cX1_loadParents 49 = .ok (.ifCond .eq 22, 3) := by decide +kernel
theorem dX1_loadParents_52 : decode cX1_loadParents 52 = .ok (.aload_n 0, 1) := by decide +kernel
theorem dX1_loadParents_53 : decode cX1_loadParents 53 = .ok (.iload_n 3, 1) := by decide +kernel
theorem dX1_loadParents_54 : decode cX1_loadParents 54 = .ok (.iload_n 2, 1) := by decide +kernel
theorem dX1_loadParents_55 : decode cX1_loadParents 55 = .ok (.invokevirtual 78, 3) := by decide +kernel
theorem dX1_loadParents_58 : decode cX1_loadParents 58 = .ok (.istore 4, 2) := by decide +kernel
theorem dX1_loadParents_60 : decode cX1_loadParents 60 = .ok (.iload 4, 2) := by decide +kernel
theorem dX1_loadParents_62 : decode cX1_loadParents 62 = .ok (.invokestatic 61, 3) := by decide +kernel
theorem dX1_loadParents_65 : decode cX1_loadParents 65 = .ok (.ifCond .ne 6, 3) := by decide +kernel
theorem dX1_loadParents_68 : decode cX1_loadParents 68 = .ok (.iload 4, 2) := by decide +kernel
theorem dX1_loadParents_70 : decode cX1_loadParents 70 = .ok (.ireturn, 1) := by decide +kernel
theorem dX1_loadParents_71 : decode cX1_loadParents 71 = .ok (.iinc 3 1, 3) := by decide +kernel
theorem dX1_loadParents_74 : decode cX1_loadParents 74 = .ok (.goto (-41), 3) := by decide +kernel
theorem dX1_loadParents_77 : decode cX1_loadParents 77 = .ok (.iload_n 1, 1) := by decide +kernel
theorem dX1_loadParents_78 : decode cX1_loadParents 78 = .ok (.ireturn, 1) := by decide +kernel
set_option maxRecDepth 20000 in
theorem ggX1_hasWrongParents_X1_isInterface : GoodIn wsX1_hasWrongParents wsX1_isInterface := goodIn_r _ [8, 2, 12, 13, 14, 15, 16, 17, 18, 19, 20, 21] (by decide +kernel) (by decide +kernel)
set_option maxRecDepth 20000 in
theorem gX1_hasWrongParents_X1_isInterface : GoodIn wsX1_hasWrongParents (wsV RX1 92 RX1 yX1_isInterface wsX1_isInterface) := goodIn_app (goodIn_of _ (by decide +kernel)) ggX1_hasWrongParents_X1_isInterface
set_option maxRecDepth 20000 in
theorem ggX1_hasWrongParents_X4_contains : GoodIn wsX1_hasWrongParents wsX4_contains := goodIn_r _ [11] (by decide +kernel) (by decide +kernel)
set_option maxRecDepth 20000 in
theorem gX1_hasWrongParents_X4_contains_n57 : GoodIn wsX1_hasWrongParents (wsX4_contains) := ggX1_hasWrongParents_X4_contains
theorem dX1_hasWrongParents_0 : decode cX1_hasWrongParents 0 = .ok (.aload_n 0, 1) := by decide +kernel
theorem dX1_hasWrongParents_1 : decode cX1_hasWrongParents 1 = .ok (.getfield 18, 3) := by decide +kernel
theorem dX1_hasWrongParents_4 : decode cX1_hasWrongParents 4 = .ok (.iload_n 1, 1) := by decide +kernel
theorem dX1_hasWrongParents_5 : decode cX1_hasWrongParents 5 = .ok (.iaload, 1) := by decide +kernel
theorem dX1_hasWrongParents_6 : decode cX1_hasWrongParents 6 = .ok (.istore_n 2, 1) := by decide +kernel
theorem dX1_hasWrongParents_7 : decode cX1_hasWrongParents 7 = .ok (.iload_n 2, 1) := by decide +kernel
theorem dX1_hasWrongParents_8 : decode cX1_hasWrongParents 8 = .ok (.iconst (-1), 1) := by decide +kernel
theorem dX1_hasWrongParents_9 : decode cX1_hasWrongParents 9 = .ok (.if_icmp .eq 17, 3) := by decide +kernel
theorem dX1_hasWrongParents_12 : decode cX1_hasWrongParents 12 = .ok (.aload_n 0, 1) := by decide +kernel
theorem dX1_hasWrongParents_13 : decode cX1_hasWrongParents 13 = .ok (.getfield 9, 3) := by decide +kernel
theorem dX1_hasWrongParents_16 : decode cX1_hasWrongParents 16 = .ok (.iload_n 2, 1) := by decide +kernel
theorem dX1_hasWrongParents_17 : decode cX1_hasWrongParents 17 = .ok (.iaload, 1) := by decide +kernel
theorem dX1_hasWrongParents_18 : decode cX1_hasWrongParents 18 = .ok (.bipush 10, 2) := by decide +kernel
theorem dX1_hasWrongParents_20 : decode cX1_hasWrongParents 20 = .ok (.iand, 1) := by decide +kernel
theorem dX1_hasWrongParents_21 : decode cX1_hasWrongParents 21 = .ok (.ifCond .eq 5, 3) := by decide +kernel
theorem dX1_hasWrongParents_24 : decode cX1_hasWrongParents 24 = .ok (.iconst 1, 1) := by decide +kernel
theorem dX1_hasWrongParents_25 : decode cX1_hasWrongParents 25 = .ok (.ireturn, 1) := by decide +kernel
theorem dX1_hasWrongParents_26 : decode cX1_hasWrongParents 26 = .ok (.aload_n 0, 1) := by decide +kernel
theorem dX1_hasWrongParents_27 : decode cX1_hasWrongParents 27 = .ok (.iload_n 1, 1) := by decide +kernel
theorem dX1_hasWrongParents_28 : decode cX1_hasWrongParents 28 = .ok (.invokevirtual 92, 3) := by decide +kernel
theorem dX1_hasWrongParents_31 : decode cX1_hasWrongParents 31 = .ok (.ifCond .eq 9, 3) := by decide +kernel
theorem dX1_hasWrongParents_34 : decode cX1_hasWrongParents 34 = .ok (.iload_n 2, 1) := by decide +kernel
theorem dX1_hasWrongParents_35 : decode cX1_hasWrongParents 35 = .ok (.ifCond .eq 5, 3) := by decide +kernel
theorem dX1_hasWrongParents_38 : decode cX1_hasWrongParents 38 = .ok (.iconst 1, 1) := by decide +kernel
theorem dX1_hasWrongParents_39 : decode cX1_hasWrongParents 39 = .ok (.ireturn, 1) := by decide +kernel
theorem dX1_hasWrongParents_40 : decode cX1_hasWrongParents 40 = .ok (.iconst 0, 1) := by decide +kernel
theorem dX1_hasWrongParents_41 : decode cX1_hasWrongParents 41 = .ok (.istore_n 3, 1) := by decide +kernel
theorem dX1_hasWrongParents_42 : decode cX1_hasWrongParents 42 = .ok (.iload_n 3, 1) := by decide +kernel
theorem dX1_hasWrongParents_43 : decode cX1_hasWrongParents 43 = .ok (.bipush 12, 2) := by decide +kernel
theorem dX1_hasWrongParents_45 : decode cX1_hasWrongParents 45 = .ok (.if_icmp .ge 32, 3) := by decide +kernel
theorem dX1_hasWrongParents_48 : decode cX1_hasWrongParents 48 = .ok (.aload_n 0, 1) := by decide +kernel
theorem dX1_hasWrongParents_49 : decode cX1_hasWrongParents 49 = .ok (.getfield 21, 3) := by decide +kernel
theorem dX1_hasWrongParents_52 : decode cX1_hasWrongParents 52 = .ok (.iload_n 1, 1) := by decide +kernel
theorem dX1_hasWrongParents_53 : decode cX1_hasWrongParents 53 = .ok (.iaload, 1) := by decide +kernel
theorem dX1_hasWrongParents_54 : decode cX1_hasWrongParents 54 = .ok (.iload_n 3, 1) := by decide +kernel
theorem dX1_hasWrongParents_55 : decode cX1_hasWrongParents 55 = .ok (.invokestatic 57, 3) := by decide +kernel
theorem dX1_hasWrongParents_58 : decode cX1_hasWrongParents 58 = .ok (.ifCond .eq 13, 3) := by decide +kernel
theorem dX1_hasWrongParents_61 : decode cX1_hasWrongParents 61 = .ok (.aload_n 0, 1) := by decide +kernel
theorem dX1_hasWrongParents_62 : decode cX1_hasWrongParents 62 = .ok (.iload_n 3, 1) := by decide +kernel
theorem dX1_hasWrongParents_63 : decode cX1_hasWrongParents 63 = .ok (.invokevirtual 92, 3) := by decide +kernel
theorem dX1_hasWrongParents_66 : decode cX1_hasWrongParents 66 = .ok (.ifCond .ne 5, 3) := by decide +kernel
theorem dX1_hasWrongParents_69 : decode cX1_hasWrongParents 69 = .ok (.iconst 1, 1) := by decide +kernel
theorem dX1_hasWrongParents_70 : decode cX1_hasWrongParents 70 = .ok (.ireturn, 1) := by decide +kernel
theorem dX1_hasWrongParents_71 : decode cX1_hasWrongParents 71 = .ok (.iinc 3 1, 3) := by decide +kernel
theorem dX1_hasWrongParents_74 : decode cX1_hasWrongParents 74 = .ok (.goto (-32), 3) := by decide +kernel
theorem dX1_hasWrongParents_77 : decode cX1_hasWrongParents 77 = .ok (.iconst 0, 1) := by decide +kernel
theorem dX1_hasWrongParents_78 : decode cX1_hasWrongParents 78 = .ok (.ireturn, 1) := by decide +kernel
set_option maxRecDepth 20000 in
theorem ggX1_gatherSets_X4_bit : GoodIn wsX1_gatherSets wsX4_bit := goodIn_r _ [7] (by decide +kernel) (by decide +kernel)
set_option maxRecDepth 20000 in
theorem gX1_gatherSets_X4_bit_n36 : GoodIn wsX1_gatherSets (wsX4_bit) := ggX1_gatherSets_X4_bit
set_option maxRecDepth 20000 in
theorem ggX1_gatherSets_X4_contains : GoodIn wsX1_gatherSets wsX4_contains := goodIn_r _ [9] (by decide +kernel) (by decide +kernel)
set_option maxRecDepth 20000 in
theorem gX1_gatherSets_X4_contains_n57 : GoodIn wsX1_gatherSets (wsX4_contains) := ggX1_gatherSets_X4_contains
theorem dX1_gatherSets_0 : decode cX1_gatherSets 0 = .ok (.aload_n 0, 1) := by decide +kernel
theorem dX1_gatherSets_1 : decode cX1_gatherSets 1 = .ok (.getfield 18, 3) := by decide +kernel
theorem dX1_gatherSets_4 : decode cX1_gatherSets 4 = .ok (.iload_n 1, 1) := by decide +kernel
theorem dX1_gatherSets_5 : decode cX1_gatherSets 5 = .ok (.iaload, 1) := by decide +kernel
theorem dX1_gatherSets_6 : decode cX1_gatherSets 6 = .ok (.istore_n 2, 1) := by decide +kernel
theorem dX1_gatherSets_7 : decode cX1_gatherSets 7 = .ok (.aload_n 0, 1) := by decide +kernel
theorem dX1_gatherSets_8 : decode cX1_gatherSets 8 = .ok (.getfield 30, 3) := by decide +kernel
theorem dX1_gatherSets_11 : decode cX1_gatherSets 11 = .ok (.iload_n 1, 1) := by decide +kernel
theorem dX1_gatherSets_12 : decode cX1_gatherSets 12 = .ok (.iload_n 2, 1) := by decide +kernel
theorem dX1_gatherSets_13 : decode cX1_gatherSets 13 = .ok (.iconst (-1), 1) := by decide +kernel
theorem dX1_gatherSets_14 : decode cX1_gatherSets 14 = .ok (.if_icmp .ne 10, 3) := by decide +kernel
theorem dX1_gatherSets_17 : decode cX1_gatherSets 17 = .ok (.iload_n 1, 1) := by decide +kernel
theorem dX1_gatherSets_18 : decode cX1_gatherSets 18 = .ok (.invokestatic 36, 3) := by decide +kernel
theorem dX1_gatherSets_21 : decode cX1_gatherSets 21 = .ok (.goto 14, 3) := by decide +kernel
theorem dX1_gatherSets_24 : decode cX1_gatherSets 24 = .ok (.iload_n 1, 1) := by decide +kernel
theorem dX1_gatherSets_25 : decode cX1_gatherSets 25 = .ok (.invokestatic 36, 3) := by decide +kernel
theorem dX1_gatherSets_28 : decode cX1_gatherSets 28 = .ok (.aload_n 0, 1) := by decide +kernel
theorem dX1_gatherSets_29 : decode cX1_gatherSets 29 = .ok (.getfield 30, 3) := by decide +kernel
theorem dX1_gatherSets_32 : decode cX1_gatherSets 32 = .ok (.iload_n 2, 1) := by decide +kernel
theorem dX1_gatherSets_33 : decode cX1_gatherSets 33 = .ok (.iaload, 1) := by decide +kernel
theorem dX1_gatherSets_34 : decode cX1_gatherSets 34 = .ok (.ior, 1) := by decide +kernel
theorem dX1_gatherSets_35 : decode cX1_gatherSets 35 = .ok (.iastore, 1) := by decide +kernel
theorem dX1_gatherSets_36 : decode cX1_gatherSets 36 = .ok (.iload_n 2, 1) := by decide +kernel
theorem dX1_gatherSets_37 : decode cX1_gatherSets 37 = .ok (.iconst (-1), 1) := by decide +kernel
theorem dX1_gatherSets_38 : decode cX1_gatherSets 38 = .ok (.if_icmp .ne 12, 3) := by decide +kernel
theorem dX1_gatherSets_41 : decode cX1_gatherSets 41 = .ok (.aload_n 0, 1) := by decide +kernel
theorem dX1_gatherSets_42 : decode cX1_gatherSets 42 = .ok (.getfield 21, 3) := by decide +kernel
theorem dX1_gatherSets_45 : decode cX1_gatherSets 45 = .ok (.iload_n 1, 1) := by decide +kernel
theorem dX1_gatherSets_46 : decode cX1_gatherSets 46 = .ok (.iaload, 1) := by decide +kernel
theorem dX1_gatherSets_47 : decode cX1_gatherSets 47 = .ok (.goto 16, 3) := by decide +kernel
theorem dX1_gatherSets_50 : decode cX1_gatherSets 50 = .ok (.aload_n 0, 1) := by decide +kernel
theorem dX1_gatherSets_51 : decode cX1_gatherSets 51 = .ok (.getfield 21, 3) := by decide +kernel
theorem dX1_gatherSets_54 : decode cX1_gatherSets 54 = .ok (.iload_n 1, 1) := by decide +kernel
theorem dX1_gatherSets_55 : decode cX1_gatherSets 55 = .ok (.iaload, 1) := by decide +kernel
theorem dX1_gatherSets_56 : decode cX1_gatherSets 56 = .ok (.aload_n 0, 1) := by decide +kernel
theorem dX1_gatherSets_57 : decode cX1_gatherSets 57 = .ok (.getfield 33, 3) := by decide +kernel
theorem dX1_gatherSets_60 : decode cX1_gatherSets 60 = .ok (.iload_n 2, 1) := by decide +kernel
theorem dX1_gatherSets_61 : decode cX1_gatherSets 61 = .ok (.iaload, 1) := by decide +kernel
theorem dX1_gatherSets_62 : decode cX1_gatherSets 62 = .ok (.ior, 1) := by decide +kernel
theorem dX1_gatherSets_63 : decode cX1_gatherSets 63 = .ok (.istore_n 3, 1) := by decide +kernel
theorem dX1_gatherSets_64 : decode cX1_gatherSets 64 = .ok (.iconst 0, 1) := by decide +kernel
theorem dX1_gatherSets_65 : decode cX1_gatherSets 65 = .ok (.istore 4, 2) := by decide +kernel
theorem dX1_gatherSets_67 : decode cX1_gatherSets 67 = .ok (.iload 4, 2) := by decide +kernel
theorem dX1_gatherSets_69 : decode cX1_gatherSets 69 = .ok (.bipush 12, 2) := by decide +kernel
theorem dX1_gatherSets_71 : decode cX1_gatherSets 71 = .ok (.if_icmp .ge 33, 3) := by decide +kernel
theorem dX1_gatherSets_74 : decode cX1_gatherSets 74 = .ok (.aload_n 0, 1) := by decide +kernel
theorem dX1_gatherSets_75 : decode cX1_gatherSets 75 = .ok (.getfield 21, 3) := by decide +kernel
theorem dX1_gatherSets_78 : decode cX1_gatherSets 78 = .ok (.iload_n 1, 1) := by decide +kernel
theorem dX1_gatherSets_79 : decode cX1_gatherSets 79 = .ok (.iaload, 1) := by decide +kernel
theorem dX1_gatherSets_80 : decode cX1_gatherSets 80 = .ok (.iload 4, 2) := by decide +kernel
theorem dX1_gatherSets_82 : decode cX1_gatherSets 82 = .ok (.invokestatic 57, 3) := by decide +kernel
theorem dX1_gatherSets_85 : decode cX1_gatherSets 85 = .ok (.ifCond .eq 13, 3) := by decide +kernel
theorem dX1_gatherSets_88 : decode cX1_gatherSets 88 = .ok (.iload_n 3, 1) := by decide +kernel
theorem dX1_gatherSets_89 : decode cX1_gatherSets 89 = .ok (.aload_n 0, 1) := by decide +kernel
theorem dX1_gatherSets_90 : decode cX1_gatherSets 90 = .ok (.getfield 33, 3) := by decide +kernel
theorem dX1_gatherSets_93 : decode cX1_gatherSets 93 = .ok (.iload 4, 2) := by decide +kernel
theorem dX1_gatherSets_95 : decode cX1_gatherSets 95 = .ok (.iaload, 1) := by decide +kernel
theorem dX1_gatherSets_96 : decode cX1_gatherSets 96 = .ok (.ior, 1) := by decide +kernel
theorem dX1_gatherSets_97 : decode cX1_gatherSets 97 = .ok (.istore_n 3, 1) := by decide +kernel
theorem dX1_gatherSets_98 : decode cX1_gatherSets 98 = .ok (.iinc 4 1, 3) := by decide +kernel
theorem dX1_gatherSets_101 : decode cX1_gatherSets 101 = .ok (.goto (-34), 3) := by decide +kernel
theorem dX1_gatherSets_104 : decode cX1_gatherSets 104 = .ok (.aload_n 0, 1) := by decide +kernel
theorem dX1_gatherSets_105 : decode cX1_gatherSets 105 = .ok (.getfield 33, 3) := by decide +kernel
theorem dX1_gatherSets_108 : decode cX1_gatherSets 108 = .ok (.iload_n 1, 1) := by decide +kernel
theorem dX1_gatherSets_109 : decode cX1_gatherSets 109 = .ok (.iload_n 3, 1) := by decide +kernel
theorem dX1_gatherSets_110 : decode cX1_gatherSets 110 = .ok (.iastore, 1) := by decide +kernel
theorem dX1_gatherSets_111 : decode cX1_gatherSets 111 = .ok (.return_, 1) := by decide +kernel
theorem dX2_init_0 : decode cX2_init 0 = .ok (.aload_n 0, 1) := by decide +kernel
theorem dX2_init_1 : decode cX2_init 1 = .ok (.invokespecial 3, 3) := by decide +kernel
theorem dX2_init_4 : decode cX2_init 4 = .ok (.aload_n 0, 1) := by decide +kernel
theorem dX2_init_5 : decode cX2_init 5 = .ok (.bipush 30, 2) := by decide +kernel
theorem dX2_init_7 : decode cX2_init 7 = .ok (.newarray .int, 2) := by decide +kernel
theorem dX2_init_9 : decode cX2_init 9 = .ok (.putfield 9, 3) := by decide +kernel
theorem dX2_init_12 : decode cX2_init 12 = .ok (.aload_n 0, 1) := by decide +kernel
theorem dX2_init_13 : decode cX2_init 13 = .ok (.bipush 30, 2) := by decide +kernel
theorem dX2_init_15 : decode cX2_init 15 = .ok (.newarray .int, 2) := by decide +kernel
theorem dX2_init_17 : decode cX2_init 17 = .ok (.putfield 15, 3) := by decide +kernel
theorem dX2_init_20 : decode cX2_init 20 = .ok (.aload_n 0, 1) := by decide +kernel
theorem dX2_init_21 : decode cX2_init 21 = .ok (.bipush 30, 2) := by decide +kernel
theorem dX2_init_23 : decode cX2_init 23 = .ok (.newarray .int, 2) := by decide +kernel
theorem dX2_init_25 : decode cX2_init 25 = .ok (.putfield 18, 3) := by decide +kernel
theorem dX2_init_28 : decode cX2_init 28 = .ok (.aload_n 0, 1) := by decide +kernel
theorem dX2_init_29 : decode cX2_init 29 = .ok (.bipush 30, 2) := by decide +kernel
theorem dX2_init_31 : decode cX2_init 31 = .ok (.newarray .int, 2) := by decide +kernel
theorem dX2_init_33 : decode cX2_init 33 = .ok (.putfield 21, 3) := by decide +kernel
theorem dX2_init_36 : decode cX2_init 36 = .ok (.return_, 1) := by decide +kernel
set_option maxRecDepth 20000 in
theorem ggX2_append_X2_keyOf : GoodIn wsX2_append wsX2_keyOf := goodIn_r _ [9] (by decide +kernel) (by decide +kernel)
set_option maxRecDepth 20000 in
theorem gX2_append_X2_keyOf : GoodIn wsX2_append (va_wsS RX2 28 yX2_keyOf wsX2_keyOf) := goodIn_app (goodIn_of _ (by decide +kernel)) ggX2_append_X2_keyOf
theorem dX2_append_0 : decode cX2_append 0 = .ok (.aload_n 0, 1) := by decide +kernel
theorem dX2_append_1 : decode cX2_append 1 = .ok (.getfield 24, 3) := by decide +kernel
theorem dX2_append_4 : decode cX2_append 4 = .ok (.bipush 30, 2) := by decide +kernel
theorem dX2_append_6 : decode cX2_append 6 = .ok (.if_icmp .lt 6, 3) := by decide +kernel
theorem dX2_append_9 : decode cX2_append 9 = .ok (.bipush (-3), 2) := by decide +kernel
theorem dX2_append_11 : decode cX2_append 11 = .ok (.ireturn, 1) := by decide +kernel
theorem dX2_append_12 : decode cX2_append 12 = .ok (.aload_n 0, 1) := by decide +kernel
theorem dX2_append_13 : decode cX2_append 13 = .ok (.getfield 24, 3) := by decide +kernel
theorem dX2_append_16 : decode cX2_append 16 = .ok (.istore 6, 2) := by decide +kernel
theorem dX2_append_18 : decode cX2_append 18 = .ok (.aload_n 0, 1) := by decide +kernel
theorem dX2_append_19 : decode cX2_append 19 = .ok (.dup, 1) := by decide +kernel
theorem dX2_append_20 : decode cX2_append 20 = .ok (.getfield 24, 3) := by decide +kernel
theorem dX2_append_23 : decode cX2_append 23 = .ok (.iconst 1, 1) := by decide +kernel
theorem dX2_append_24 : decode cX2_append 24 = .ok (.iadd, 1) := by decide +kernel
theorem dX2_append_25 : decode cX2_append 25 = .ok (.putfield 24, 3) := by decide +kernel
theorem dX2_append_28 : decode cX2_append 28 = .ok (.aload_n 0, 1) := by decide +kernel
theorem dX2_append_29 : decode cX2_append 29 = .ok (.getfield 9, 3) := by decide +kernel
theorem dX2_append_32 : decode cX2_append 32 = .ok (.iload 6, 2) := by decide +kernel
theorem dX2_append_34 : decode cX2_append 34 = .ok (.iload_n 1, 1) := by decide +kernel
theorem dX2_append_35 : decode cX2_append 35 = .ok (.iastore, 1) := by decide +kernel
theorem dX2_append_36 : decode cX2_append 36 = .ok (.aload_n 0, 1) := by decide +kernel
theorem dX2_append_37 : decode cX2_append 37 = .ok (.getfield 15, 3) := by decide +kernel
theorem dX2_append_40 : decode cX2_append 40 = .ok (.iload 6, 2) := by decide +kernel
theorem dX2_append_42 : decode cX2_append 42 = .ok (.iload_n 2, 1) := by decide +kernel
theorem dX2_append_43 : decode cX2_append 43 = .ok (.iload_n 3, 1) := by decide +kernel
theorem dX2_append_44 : decode cX2_append 44 = .ok (.invokestatic 28, 3) := by decide +kernel
theorem dX2_append_47 : decode cX2_append 47 = .ok (.iastore, 1) := by decide +kernel
theorem dX2_append_48 : decode cX2_append 48 = .ok (.aload_n 0, 1) := by decide +kernel
theorem dX2_append_49 : decode cX2_append 49 = .ok (.getfield 18, 3) := by decide +kernel
theorem dX2_append_52 : decode cX2_append 52 = .ok (.iload 6, 2) := by decide +kernel
theorem dX2_append_54 : decode cX2_append 54 = .ok (.iload 4, 2) := by decide +kernel
theorem dX2_append_56 : decode cX2_append 56 = .ok (.iastore, 1) := by decide +kernel
theorem dX2_append_57 : decode cX2_append 57 = .ok (.aload_n 0, 1) := by decide +kernel
theorem dX2_append_58 : decode cX2_append 58 = .ok (.getfield 21, 3) := by decide +kernel
theorem dX2_append_61 : decode cX2_append 61 = .ok (.iload 6, 2) := by decide +kernel
theorem dX2_append_63 : decode cX2_append 63 = .ok (.iload 5, 2) := by decide +kernel
theorem dX2_append_65 : decode cX2_append 65 = .ok (.iastore, 1) := by decide +kernel
theorem dX2_append_66 : decode cX2_append 66 = .ok (.iload 6, 2) := by decide +kernel
theorem dX2_append_68 : decode cX2_append 68 = .ok (.ireturn, 1) := by decide +kernel
set_option maxRecDepth 20000 in
theorem ggX2_change_X2_isPresent : GoodIn wsX2_change wsX2_isPresent := goodIn_r _ [7, 8, 9, 10, 11, 12, 13, 14, 15, 16, 17, 18, 19, 20] (by decide +kernel) (by decide +kernel)
set_option maxRecDepth 20000 in
theorem gX2_change_X2_isPresent : GoodIn wsX2_change (wsV RX2 32 RX2 yX2_isPresent wsX2_isPresent) := goodIn_app (goodIn_of _ (by decide +kernel)) ggX2_change_X2_isPresent
theorem dX2_change_0 : decode cX2_change 0 = .ok (.aload_n 0, 1) := by decide +kernel
theorem dX2_change_1 : decode cX2_change 1 = .ok (.iload_n 1, 1) := by decide +kernel
theorem dX2_change_2 : decode cX2_change 2 = .ok (.invokevirtual 32, 3) := by decide +kernel
theorem dX2_change_5 : decode cX2_change 5 = .ok (.ifCond .ne 5, 3) := by decide +kernel
theorem dX2_change_8 : decode cX2_change 8 = .ok (.iconst 0, 1) := by decide +kernel
theorem dX2_change_9 : decode cX2_change 9 = .ok (.ireturn, 1) := by decide +kernel
theorem dX2_change_10 : decode cX2_change 10 = .ok (.aload_n 0, 1) := by decide +kernel
theorem dX2_change_11 : decode cX2_change 11 = .ok (.getfield 18, 3) := by decide +kernel
theorem dX2_change_14 : decode cX2_change 14 = .ok (.iload_n 1, 1) := by decide +kernel
theorem dX2_change_15 : decode cX2_change 15 = .ok (.iload_n 2, 1) := by decide +kernel
theorem dX2_change_16 : decode cX2_change 16 = .ok (.iastore, 1) := by decide +kernel
theorem dX2_change_17 : decode cX2_change 17 = .ok (.aload_n 0, 1) := by decide +kernel
theorem dX2_change_18 : decode cX2_change 18 = .ok (.getfield 21, 3) := by decide +kernel
theorem dX2_change_21 : decode cX2_change 21 = .ok (.iload_n 1, 1) := by decide +kernel
theorem dX2_change_22 : decode cX2_change 22 = .ok (.iload_n 3, 1) := by decide +kernel
theorem dX2_change_23 : decode cX2_change 23 = .ok (.iastore, 1) := by decide +kernel
theorem dX2_change_24 : decode cX2_change 24 = .ok (.iconst 1, 1) := by decide +kernel
theorem dX2_change_25 : decode cX2_change 25 = .ok (.ireturn, 1) := by decide +kernel
set_option maxRecDepth 20000 in
theorem ggX2_discard_X2_isPresent : GoodIn wsX2_discard wsX2_isPresent := goodIn_r _ [6, 7, 1, 8, 9, 10, 11, 12, 15, 16, 17, 18, 19, 20] (by decide +kernel) (by decide +kernel)
set_option maxRecDepth 20000 in
theorem gX2_discard_X2_isPresent : GoodIn wsX2_discard (wsV RX2 32 RX2 yX2_isPresent wsX2_isPresent) := goodIn_app (goodIn_of _ (by decide +kernel)) ggX2_discard_X2_isPresent
set_option maxRecDepth 20000 in
theorem ggX2_discard_X4_bit : GoodIn wsX2_discard wsX4_bit := goodIn_r _ [14] (by decide +kernel) (by decide +kernel)
set_option maxRecDepth 20000 in
theorem gX2_discard_X4_bit_n39 : GoodIn wsX2_discard (wsX4_bit) := ggX2_discard_X4_bit
theorem dX2_discard_0 : decode cX2_discard 0 = .ok (.aload_n 0, 1) := by decide +kernel
theorem dX2_discard_1 : decode cX2_discard 1 = .ok (.iload_n 1, 1) := by decide +kernel
theorem dX2_discard_2 : decode cX2_discard 2 = .ok (.invokevirtual 32, 3) := by decide +kernel
theorem dX2_discard_5 : decode cX2_discard 5 = .ok (.ifCond .ne 5, 3) := by decide +kernel
theorem dX2_discard_8 : decode cX2_discard 8 = .ok (.iconst 0, 1) := by decide +kernel
theorem dX2_discard_9 : decode cX2_discard 9 = .ok (.ireturn, 1) := by decide +kernel
theorem dX2_discard_10 : decode cX2_discard 10 = .ok (.aload_n 0, 1) := by decide +kernel
theorem dX2_discard_11 : decode cX2_discard 11 = .ok (.dup, 1) := by decide +kernel
theorem dX2_discard_12 : decode cX2_discard 12 = .ok (.getfield 36, 3) := by decide +kernel
theorem dX2_discard_15 : decode cX2_discard 15 = .ok (.iload_n 1, 1) := by decide +kernel
theorem dX2_discard_16 : decode cX2_discard 16 = .ok (.invokestatic 39, 3) := by decide +kernel
theorem dX2_discard_19 : decode cX2_discard 19 = .ok (.ior, 1) := by decide +kernel
theorem dX2_discard_20 : decode cX2_discard 20 = .ok (.putfield 36, 3) := by decide +kernel
theorem dX2_discard_23 : decode cX2_discard 23 = .ok (.iconst 1, 1) := by decide +kernel
theorem dX2_discard_24 : decode cX2_discard 24 = .ok (.ireturn, 1) := by decide +kernel
set_option maxRecDepth 20000 in
theorem ggX2_discardAllOf_X4_bit : GoodIn wsX2_discardAllOf wsX4_bit := goodIn_r _ [6] (by decide +kernel) (by decide +kernel)
set_option maxRecDepth 20000 in
theorem gX2_discardAllOf_X4_bit_n39 : GoodIn wsX2_discardAllOf (wsX4_bit) := ggX2_discardAllOf_X4_bit
theorem dX2_discardAllOf_0 : decode cX2_discardAllOf 0 = .ok (.iconst 0, 1) := by decide +kernel
theorem dX2_discardAllOf_1 : decode cX2_discardAllOf 1 = .ok (.istore_n 2, 1) := by decide +kernel
theorem dX2_discardAllOf_2 : decode cX2_discardAllOf 2 = .ok (.iload_n 2, 1) := by decide +kernel
theorem dX2_discardAllOf_3 : decode cX2_discardAllOf 3 = .ok (.aload_n 0, 1) := by decide +kernel
theorem dX2_discardAllOf_4 : decode cX2_discardAllOf 4 = .ok (.getfield 24, 3) := by decide +kernel
theorem dX2_discardAllOf_7 : decode cX2_discardAllOf 7 = .ok (.if_icmp .ge 32, 3) := by decide +kernel
theorem dX2_discardAllOf_10 : decode cX2_discardAllOf 10 = .ok (.aload_n 0, 1) := by decide +kernel
theorem dX2_discardAllOf_11 : decode cX2_discardAllOf 11 = .ok (.getfield 9, 3) := by decide +kernel
theorem dX2_discardAllOf_14 : decode cX2_discardAllOf 14 = .ok (.iload_n 2, 1) := by decide +kernel
theorem dX2_discardAllOf_15 : decode cX2_discardAllOf 15 = .ok (.iaload, 1) := by decide +kernel
theorem dX2_discardAllOf_16 : decode cX2_discardAllOf 16 = .ok (.iload_n 1, 1) := by decide +kernel
theorem dX2_discardAllOf_17 : decode cX2_discardAllOf 17 = .ok (.if_icmp .ne 16, 3) := by decide +kernel
theorem dX2_discardAllOf_20 : decode cX2_discardAllOf 20 = .ok (.aload_n 0, 1) := by decide +kernel
theorem dX2_discardAllOf_21 : decode cX2_discardAllOf 21 = .ok (.dup, 1) := by decide +kernel
theorem dX2_discardAllOf_22 : decode cX2_discardAllOf 22 = .ok (.getfield 36, 3) := by decide +kernel
theorem dX2_discardAllOf_25 : decode cX2_discardAllOf 25 = .ok (.iload_n 2, 1) := by decide +kernel
theorem dX2_discardAllOf_26 : decode cX2_discardAllOf 26 = .ok (.invokestatic 39, 3) := by decide +kernel
theorem dX2_discardAllOf_29 : decode cX2_discardAllOf 29 = .ok (.ior, 1) := by decide +kernel
theorem dX2_discardAllOf_30 : decode cX2_discardAllOf 30 = .ok (.putfield 36, 3) := by decide +kernel
theorem dX2_discardAllOf_33 : decode cX2_discardAllOf 33 = .ok (.iinc 2 1, 3) := by decide +kernel
theorem dX2_discardAllOf_36 : decode cX2_discardAllOf 36 = .ok (.goto (-34), 3) := by decide +kernel
theorem dX2_discardAllOf_39 : decode cX2_discardAllOf 39 = .ok (.return_, 1) := by decide +kernel
theorem dX2_becomeAs_0 : decode cX2_becomeAs 0 = .ok (.aload_n 0, 1) := by decide +kernel
theorem dX2_becomeAs_1 : decode cX2_becomeAs 1 = .ok (.aload_n 1, 1) := by decide +kernel
theorem dX2_becomeAs_2 : decode cX2_becomeAs 2 = .ok (.getfield 24, 3) := by decide +kernel
theorem dX2_becomeAs_5 : decode cX2_becomeAs 5 = .ok (.putfield 24, 3) := by decide +kernel
theorem dX2_becomeAs_8 : decode cX2_becomeAs 8 = .ok (.aload_n 0, 1) := by decide +kernel
theorem dX2_becomeAs_9 : decode cX2_becomeAs 9 = .ok (.aload_n 1, 1) := by decide +kernel
theorem dX2_becomeAs_10 : decode cX2_becomeAs 10 = .ok (.getfield 36, 3) := by decide +kernel
theorem dX2_becomeAs_13 : decode cX2_becomeAs 13 = .ok (.putfield 36, 3) := by decide +kernel
theorem dX2_becomeAs_16 : decode cX2_becomeAs 16 = .ok (.aload_n 1, 1) := by decide +kernel
theorem dX2_becomeAs_17 : decode cX2_becomeAs 17 = .ok (.getfield 9, 3) := by decide +kernel
theorem dX2_becomeAs_20 : decode cX2_becomeAs 20 = .ok (.iconst 0, 1) := by decide +kernel
theorem dX2_becomeAs_21 : decode cX2_becomeAs 21 = .ok (.aload_n 0, 1) := by decide +kernel
theorem dX2_becomeAs_22 : decode cX2_becomeAs 22 = .ok (.getfield 9, 3) := by decide +kernel
theorem dX2_becomeAs_25 : decode cX2_becomeAs 25 = .ok (.iconst 0, 1) := by decide +kernel
theorem dX2_becomeAs_26 : decode cX2_becomeAs 26 = .ok (.bipush 30, 2) := by decide +kernel
theorem dX2_becomeAs_28 : decode cX2_becomeAs 28 = .ok (.invokestatic 43, 3) := by decide +kernel
theorem dX2_becomeAs_31 : decode cX2_becomeAs 31 = .ok (.aload_n 1, 1) := by decide +kernel
theorem dX2_becomeAs_32 : decode cX2_becomeAs 32 = .ok (.getfield 15, 3) := by decide +kernel
theorem dX2_becomeAs_35 : decode cX2_becomeAs 35 = .ok (.iconst 0, 1) := by decide +kernel
theorem dX2_becomeAs_36 : decode cX2_becomeAs 36 = .ok (.aload_n 0, 1) := by decide +kernel
theorem dX2_becomeAs_37 : decode cX2_becomeAs 37 = .ok (.getfield 15, 3) := by decide +kernel
theorem dX2_becomeAs_40 : decode cX2_becomeAs 40 = .ok (.iconst 0, 1) := by decide +kernel
theorem dX2_becomeAs_41 : decode cX2_becomeAs 41 = .ok (.bipush 30, 2) := by decide +kernel
theorem dX2_becomeAs_43 : decode cX2_becomeAs 43 = .ok (.invokestatic 43, 3) := by decide +kernel
theorem dX2_becomeAs_46 : decode cX2_becomeAs 46 = .ok (.aload_n 1, 1) := by decide +kernel
theorem dX2_becomeAs_47 : decode cX2_becomeAs 47 = .ok (.getfield 18, 3) := by decide +kernel
theorem dX2_becomeAs_50 : decode cX2_becomeAs 50 = .ok (.iconst 0, 1) := by decide +kernel
theorem dX2_becomeAs_51 : decode cX2_becomeAs 51 = .ok (.aload_n 0, 1) := by decide +kernel
theorem dX2_becomeAs_52 : decode cX2_becomeAs 52 = .ok (.getfield 18, 3) := by decide +kernel
theorem dX2_becomeAs_55 : decode cX2_becomeAs 55 = .ok (.iconst 0, 1) := by decide +kernel
theorem dX2_becomeAs_56 : decode cX2_becomeAs 56 = .ok (.bipush 30, 2) := by decide +kernel
theorem dX2_becomeAs_58 : decode cX2_becomeAs 58 = .ok (.invokestatic 43, 3) := by decide +kernel
theorem dX2_becomeAs_61 : decode cX2_becomeAs 61 = .ok (.aload_n 1, 1) := by decide +kernel
theorem dX2_becomeAs_62 : decode cX2_becomeAs 62 = .ok (.getfield 21, 3) := by decide +kernel
theorem dX2_becomeAs_65 : decode cX2_becomeAs 65 = .ok (.iconst 0, 1) := by decide +kernel
theorem dX2_becomeAs_66 : decode cX2_becomeAs 66 = .ok (.aload_n 0, 1) := by decide +kernel
theorem dX2_becomeAs_67 : decode cX2_becomeAs 67 = .ok (.getfield 21, 3) := by decide +kernel
theorem dX2_becomeAs_70 : decode cX2_becomeAs 70 = .ok (.iconst 0, 1) := by decide +kernel
theorem dX2_becomeAs_71 : decode cX2_becomeAs 71 = .ok (.bipush 30, 2) := by decide +kernel
theorem dX2_becomeAs_73 : decode cX2_becomeAs 73 = .ok (.invokestatic 43, 3) := by decide +kernel
theorem dX2_becomeAs_76 : decode cX2_becomeAs 76 = .ok (.return_, 1) := by decide +kernel
set_option maxRecDepth 20000 in
theorem ggX2_find_X2_keyOf : GoodIn wsX2_find wsX2_keyOf := goodIn_r _ [8] (by decide +kernel) (by decide +kernel)
set_option maxRecDepth 20000 in
theorem gX2_find_X2_keyOf : GoodIn wsX2_find (va_wsS RX2 28 yX2_keyOf wsX2_keyOf) := goodIn_app (goodIn_of _ (by decide +kernel)) ggX2_find_X2_keyOf
set_option maxRecDepth 20000 in
theorem ggX2_find_X4_contains : GoodIn wsX2_find wsX4_contains := goodIn_r _ [11] (by decide +kernel) (by decide +kernel)
set_option maxRecDepth 20000 in
theorem gX2_find_X4_contains_n49 : GoodIn wsX2_find (wsX4_contains) := ggX2_find_X4_contains
theorem dX2_find_0 : decode cX2_find 0 = .ok (.iload_n 2, 1) := by decide +kernel
theorem dX2_find_1 : decode cX2_find 1 = .ok (.iload_n 3, 1) := by decide +kernel
theorem dX2_find_2 : decode cX2_find 2 = .ok (.invokestatic 28, 3) := by decide +kernel
theorem dX2_find_5 : decode cX2_find 5 = .ok (.istore 4, 2) := by decide +kernel
theorem dX2_find_7 : decode cX2_find 7 = .ok (.iconst 0, 1) := by decide +kernel
theorem dX2_find_8 : decode cX2_find 8 = .ok (.istore 5, 2) := by decide +kernel
theorem dX2_find_10 : decode cX2_find 10 = .ok (.iload 5, 2) := by decide +kernel
theorem dX2_find_12 : decode cX2_find 12 = .ok (.aload_n 0, 1) := by decide +kernel
theorem dX2_find_13 : decode cX2_find 13 = .ok (.getfield 24, 3) := by decide +kernel
theorem dX2_find_16 : decode cX2_find 16 = .ok (.if_icmp .ge 47, 3) := by decide +kernel
theorem dX2_find_19 : decode cX2_find 19 = .ok (.aload_n 0, 1) := by decide +kernel
theorem dX2_find_20 : decode cX2_find 20 = .ok (.getfield 15, 3) := by decide +kernel
theorem dX2_find_23 : decode cX2_find 23 = .ok (.iload 5, 2) := by decide +kernel
theorem dX2_find_25 : decode cX2_find 25 = .ok (.iaload, 1) := by decide +kernel
theorem dX2_find_26 : decode cX2_find 26 = .ok (.iload 4, 2) := by decide +kernel
theorem dX2_find_28 : decode cX2_find 28 = .ok (.if_icmp .ne 29, 3) := by decide +kernel
theorem dX2_find_31 : decode cX2_find 31 = .ok (.aload_n 0, 1) := by decide +kernel
theorem dX2_find_32 : decode cX2_find 32 = .ok (.getfield 9, 3) := by decide +kernel
theorem dX2_find_35 : decode cX2_find 35 = .ok (.iload 5, 2) := by decide +kernel
theorem dX2_find_37 : decode cX2_find 37 = .ok (.iaload, 1) := by decide +kernel
theorem dX2_find_38 : decode cX2_find 38 = .ok (.iload_n 1, 1) := by decide +kernel
theorem dX2_find_39 : decode cX2_find 39 = .ok (.if_icmp .ne 18, 3) := by decide +kernel
theorem dX2_find_42 : decode cX2_find 42 = .ok (.aload_n 0, 1) := by decide +kernel
theorem dX2_find_43 : decode cX2_find 43 = .ok (.getfield 36, 3) := by decide +kernel
theorem dX2_find_46 : decode cX2_find 46 = .ok (.iload 5, 2) := by decide +kernel
theorem dX2_find_48 : decode cX2_find 48 = .ok (.invokestatic 49, 3) := by decide +kernel
theorem dX2_find_51 : decode cX2_find 51 = .ok (.ifCond .ne 6, 3) := by decide +kernel
theorem dX2_find_54 : decode cX2_find 54 = .ok (.iload 5, 2) := by decide +kernel
theorem dX2_find_56 : decode cX2_find 56 = .ok (.ireturn, 1) := by decide +kernel
theorem dX2_find_57 : decode cX2_find 57 = .ok (.iinc 5 1, 3) := by decide +kernel
theorem dX2_find_60 : decode cX2_find 60 = .ok (.goto (-50), 3) := by decide +kernel
theorem dX2_find_63 : decode cX2_find 63 = .ok (.bipush (-2), 2) := by decide +kernel
theorem dX2_find_65 : decode cX2_find 65 = .ok (.ireturn, 1) := by decide +kernel
set_option maxRecDepth 20000 in
theorem ggX2_ownersOfInheritable_X2_keyOf : GoodIn wsX2_ownersOfInheritable wsX2_keyOf := goodIn_r _ [8] (by decide +kernel) (by decide +kernel)
set_option maxRecDepth 20000 in
theorem gX2_ownersOfInheritable_X2_keyOf : GoodIn wsX2_ownersOfInheritable (va_wsS RX2 28 yX2_keyOf wsX2_keyOf) := goodIn_app (goodIn_of _ (by decide +kernel)) ggX2_ownersOfInheritable_X2_keyOf
set_option maxRecDepth 20000 in
theorem ggX2_ownersOfInheritable_X4_contains : GoodIn wsX2_ownersOfInheritable wsX4_contains := goodIn_r _ [11] (by decide +kernel) (by decide +kernel)
set_option maxRecDepth 20000 in
theorem gX2_ownersOfInheritable_X4_contains_n49 : GoodIn wsX2_ownersOfInheritable (wsX4_contains) := ggX2_ownersOfInheritable_X4_contains
set_option maxRecDepth 20000 in
theorem ggX2_ownersOfInheritable_X2_isInheritable : GoodIn wsX2_ownersOfInheritable wsX2_isInheritable := goodIn_r _ [15, 16, 17, 20, 21, 22, 23, 24, 25] (by decide +kernel) (by decide +kernel)
set_option maxRecDepth 20000 in
theorem gX2_ownersOfInheritable_X2_isInheritable : GoodIn wsX2_ownersOfInheritable (wsV RX2 53 RX2 yX2_isInheritable wsX2_isInheritable) := goodIn_app (goodIn_of _ (by decide +kernel)) ggX2_ownersOfInheritable_X2_isInheritable
set_option maxRecDepth 20000 in
theorem ggX2_ownersOfInheritable_X4_bit : GoodIn wsX2_ownersOfInheritable wsX4_bit := goodIn_r _ [19] (by decide +kernel) (by decide +kernel)
set_option maxRecDepth 20000 in
theorem gX2_ownersOfInheritable_X4_bit_n39 : GoodIn wsX2_ownersOfInheritable (wsX4_bit) := ggX2_ownersOfInheritable_X4_bit
theorem dX2_ownersOfInheritable_0 : decode cX2_ownersOfInheritable 0 = .ok (.iconst 1, 1) := by decide +kernel
theorem dX2_ownersOfInheritable_1 : decode cX2_ownersOfInheritable 1 = .ok (.iload_n 1, 1) := by decide +kernel
theorem dX2_ownersOfInheritable_2 : decode cX2_ownersOfInheritable 2 = .ok (.invokestatic 28, 3) := by decide +kernel
theorem dX2_ownersOfInheritable_5 : decode cX2_ownersOfInheritable 5 = .ok (.istore_n 2, 1) := by decide +kernel
theorem dX2_ownersOfInheritable_6 : decode cX2_ownersOfInheritable 6 = .ok (.iconst 0, 1) := by decide +kernel
theorem dX2_ownersOfInheritable_7 : decode cX2_ownersOfInheritable 7 = .ok (.istore_n 3, 1) := by decide +kernel
theorem dX2_ownersOfInheritable_8 : decode cX2_ownersOfInheritable 8 = .ok (.iconst 0, 1) := by decide +kernel
theorem dX2_ownersOfInheritable_9 : decode cX2_ownersOfInheritable 9 = .ok (.istore 4, 2) := by decide +kernel
theorem dX2_ownersOfInheritable_11 : decode cX2_ownersOfInheritable 11 = .ok (.iload 4, 2) := by decide +kernel
theorem dX2_ownersOfInheritable_13 : decode cX2_ownersOfInheritable 13 = .ok (.aload_n 0, 1) := by decide +kernel
theorem dX2_ownersOfInheritable_14 : decode cX2_ownersOfInheritable 14 = .ok (.getfield 24, 3) := by decide +kernel
theorem dX2_ownersOfInheritable_17 : decode cX2_ownersOfInheritable 17 = .ok (.if_icmp .ge 54, 3) := by decide +kernel
theorem dX2_ownersOfInheritable_20 : decode cX2_ownersOfInheritable 20 = .ok (.aload_n 0, 1) := by decide +kernel
theorem dX2_ownersOfInheritable_21 : decode cX2_ownersOfInheritable 21 = .ok (.getfield 15, 3) := by decide +kernel
theorem dX2_ownersOfInheritable_24 : decode cX2_ownersOfInheritable 24 = .ok (.iload 4, 2) := by decide +kernel
theorem dX2_ownersOfInheritable_26 : decode cX2_ownersOfInheritable 26 = .ok (.iaload, 1) := by decide +kernel
theorem dX2_ownersOfInheritable_27 : decode cX2_ownersOfInheritable 27 = .ok (.iload_n 2, 1) := by decide +kernel
theorem dX2_ownersOfInheritable_28 : decode cX2_ownersOfInheritable 28 = .ok (.if_icmp .ne 37, 3) := by decide +kernel
theorem dX2_ownersOfInheritable_31 : decode cX2_ownersOfInheritable 31 = .ok (.aload_n 0, 1) := by decide +kernel
theorem dX2_ownersOfInheritable_32 : decode cX2_ownersOfInheritable 32 = .ok (.getfield 36, 3) := by decide +kernel
theorem dX2_ownersOfInheritable_35 : decode cX2_ownersOfInheritable 35 = .ok (.iload 4, 2) := by decide +kernel
theorem dX2_ownersOfInheritable_37 : decode cX2_ownersOfInheritable 37 = .ok (.invokestatic 49, 3) := by decide +kernel
theorem dX2_ownersOfInheritable_40 : decode cX2_ownersOfInheritable 40 = .ok (.ifCond .ne 25, 3) := by decide +kernel
theorem dX2_ownersOfInheritable_43 : decode cX2_ownersOfInheritable 43 = .ok (.aload_n 0, 1) := by decide +kernel
theorem dX2_ownersOfInheritable_44 : decode cX2_ownersOfInheritable 44 = .ok (.iload 4, 2) := by decide +kernel
theorem dX2_ownersOfInheritable_46 : decode cX2_ownersOfInheritable 46 = .ok (.invokevirtual 53, 3) := by decide +kernel
theorem dX2_ownersOfInheritable_49 : decode cX2_ownersOfInheritable 49 = .ok (.ifCond .eq 16, 3) := by decide +kernel
theorem dX2_ownersOfInheritable_52 : decode cX2_ownersOfInheritable 52 = .ok (.iload_n 3, 1) := by decide +kernel
theorem dX2_ownersOfInheritable_53 : decode cX2_ownersOfInheritable 53 = .ok (.aload_n 0, 1) := by decide +kernel
theorem dX2_ownersOfInheritable_54 : decode cX2_ownersOfInheritable 54 = .ok (.getfield 9, 3) := by decide +kernel
theorem dX2_ownersOfInheritable_57 : decode cX2_ownersOfInheritable 57 = .ok (.iload 4, 2) := by decide +kernel
theorem dX2_ownersOfInheritable_59 : decode cX2_ownersOfInheritable 59 = .ok (.iaload, 1) := by decide +kernel
theorem dX2_ownersOfInheritable_60 : decode cX2_ownersOfInheritable 60 = .ok (.invokestatic 39, 3) := by decide +kernel
theorem dX2_ownersOfInheritable_63 : decode cX2_ownersOfInheritable 63 = .ok (.ior, 1) := by decide +kernel
theorem dX2_ownersOfInheritable_64 : decode cX2_ownersOfInheritable 64 = .ok (.istore_n 3, 1) := by decide +kernel
theorem dX2_ownersOfInheritable_65 : decode cX2_ownersOfInheritable 65 = .ok (.iinc 4 1, 3) := by decide +kernel
theorem dX2_ownersOfInheritable_68 : decode cX2_ownersOfInheritable 68 = .ok (.goto (-57), 3) := by decide +kernel
theorem dX2_ownersOfInheritable_71 : decode cX2_ownersOfInheritable 71 = .ok (.iload_n 3, 1) := by decide +kernel
theorem dX2_ownersOfInheritable_72 : decode cX2_ownersOfInheritable 72 = .ok (.ireturn, 1) := by decide +kernel
theorem dX2_isInheritable_0 : decode cX2_isInheritable 0 = .ok (.aload_n 0, 1) := by decide +kernel
theorem dX2_isInheritable_1 : decode cX2_isInheritable 1 = .ok (.getfield 18, 3) := by decide +kernel
theorem dX2_isInheritable_4 : decode cX2_isInheritable 4 = .ok (.iload_n 1, 1) := by decide +kernel
theorem dX2_isInheritable_5 : decode cX2_isInheritable 5 = .ok (.iaload, 1) := by decide +kernel
theorem dX2_isInheritable_6 : decode cX2_isInheritable 6 = .ok (.ifCond .eq 18, 3) := by decide +kernel
theorem dX2_isInheritable_9 : decode cX2_isInheritable 9 = .ok (.aload_n 0, 1) := by decide +kernel
theorem dX2_isInheritable_10 : decode cX2_isInheritable 10 = .ok (.getfield 21, 3) := by decide +kernel
theorem dX2_isInheritable_13 : decode cX2_isInheritable 13 = .ok (.iload_n 1, 1) := by decide +kernel
theorem dX2_isInheritable_14 : decode cX2_isInheritable 14 = .ok (.iaload, 1) := by decide +kernel
theorem dX2_isInheritable_15 : decode cX2_isInheritable 15 = .ok (.iconst 1, 1) := by decide +kernel
theorem dX2_isInheritable_16 : decode cX2_isInheritable 16 = .ok (.iand, 1) := by decide +kernel
theorem dX2_isInheritable_17 : decode cX2_isInheritable 17 = .ok (.ifCond .ne 7, 3) := by decide +kernel
theorem dX2_isInheritable_20 : decode cX2_isInheritable 20 = .ok (.iconst 1, 1) := by decide +kernel
theorem dX2_isInheritable_21 : decode cX2_isInheritable 21 = .ok (.goto 4, 3) := by decide +kernel
theorem dX2_isInheritable_24 : decode cX2_isInheritable 24 = .ok (.iconst 0, 1) := by decide +kernel
theorem dX2_isInheritable_25 : decode cX2_isInheritable 25 = .ok (.ireturn, 1) := by decide +kernel
theorem dX2_isSameThing_0 : decode cX2_isSameThing 0 = .ok (.aload_n 0, 1) := by decide +kernel
theorem dX2_isSameThing_1 : decode cX2_isSameThing 1 = .ok (.getfield 9, 3) := by decide +kernel
theorem dX2_isSameThing_4 : decode cX2_isSameThing 4 = .ok (.iload_n 1, 1) := by decide +kernel
theorem dX2_isSameThing_5 : decode cX2_isSameThing 5 = .ok (.iaload, 1) := by decide +kernel
theorem dX2_isSameThing_6 : decode cX2_isSameThing 6 = .ok (.aload_n 2, 1) := by decide +kernel
theorem dX2_isSameThing_7 : decode cX2_isSameThing 7 = .ok (.getfield 9, 3) := by decide +kernel
theorem dX2_isSameThing_10 : decode cX2_isSameThing 10 = .ok (.iload_n 3, 1) := by decide +kernel
theorem dX2_isSameThing_11 : decode cX2_isSameThing 11 = .ok (.iaload, 1) := by decide +kernel
theorem dX2_isSameThing_12 : decode cX2_isSameThing 12 = .ok (.if_icmp .ne 22, 3) := by decide +kernel
theorem dX2_isSameThing_15 : decode cX2_isSameThing 15 = .ok (.aload_n 0, 1) := by decide +kernel
theorem dX2_isSameThing_16 : decode cX2_isSameThing 16 = .ok (.getfield 15, 3) := by decide +kernel
theorem dX2_isSameThing_19 : decode cX2_isSameThing 19 = .ok (.iload_n 1, 1) := by decide +kernel
theorem dX2_isSameThing_20 : decode cX2_isSameThing 20 = .ok (.iaload, 1) := by decide +kernel
theorem dX2_isSameThing_21 : decode cX2_isSameThing 21 = .ok (.aload_n 2, 1) := by decide +kernel
theorem dX2_isSameThing_22 : decode cX2_isSameThing 22 = .ok (.getfield 15, 3) := by decide +kernel
theorem dX2_isSameThing_25 : decode cX2_isSameThing 25 = .ok (.iload_n 3, 1) := by decide +kernel
theorem dX2_isSameThing_26 : decode cX2_isSameThing 26 = .ok (.iaload, 1) := by decide +kernel
theorem dX2_isSameThing_27 : decode cX2_isSameThing 27 = .ok (.if_icmp .ne 7, 3) := by decide +kernel
theorem dX2_isSameThing_30 : decode cX2_isSameThing 30 = .ok (.iconst 1, 1) := by decide +kernel
theorem dX2_isSameThing_31 : decode cX2_isSameThing 31 = .ok (.goto 4, 3) := by decide +kernel
theorem dX2_isSameThing_34 : decode cX2_isSameThing 34 = .ok (.iconst 0, 1) := by decide +kernel
theorem dX2_isSameThing_35 : decode cX2_isSameThing 35 = .ok (.ireturn, 1) := by decide +kernel
theorem dX2_isStatic_0 : decode cX2_isStatic 0 = .ok (.aload_n 0, 1) := by decide +kernel
theorem dX2_isStatic_1 : decode cX2_isStatic 1 = .ok (.getfield 21, 3) := by decide +kernel
theorem dX2_isStatic_4 : decode cX2_isStatic 4 = .ok (.iload_n 1, 1) := by decide +kernel
theorem dX2_isStatic_5 : decode cX2_isStatic 5 = .ok (.iaload, 1) := by decide +kernel
theorem dX2_isStatic_6 : decode cX2_isStatic 6 = .ok (.iconst 1, 1) := by decide +kernel
theorem dX2_isStatic_7 : decode cX2_isStatic 7 = .ok (.iand, 1) := by decide +kernel
theorem dX2_isStatic_8 : decode cX2_isStatic 8 = .ok (.ifCond .eq 7, 3) := by decide +kernel
theorem dX2_isStatic_11 : decode cX2_isStatic 11 = .ok (.iconst 1, 1) := by decide +kernel
theorem dX2_isStatic_12 : decode cX2_isStatic 12 = .ok (.goto 4, 3) := by decide +kernel
theorem dX2_isStatic_15 : decode cX2_isStatic 15 = .ok (.iconst 0, 1) := by decide +kernel
theorem dX2_isStatic_16 : decode cX2_isStatic 16 = .ok (.ireturn, 1) := by decide +kernel
theorem dX2_isAbstract_0 : decode cX2_isAbstract 0 = .ok (.aload_n 0, 1) := by decide +kernel
theorem dX2_isAbstract_1 : decode cX2_isAbstract 1 = .ok (.getfield 21, 3) := by decide +kernel
theorem dX2_isAbstract_4 : decode cX2_isAbstract 4 = .ok (.iload_n 1, 1) := by decide +kernel
theorem dX2_isAbstract_5 : decode cX2_isAbstract 5 = .ok (.iaload, 1) := by decide +kernel
theorem dX2_isAbstract_6 : decode cX2_isAbstract 6 = .ok (.iconst 2, 1) := by decide +kernel
theorem dX2_isAbstract_7 : decode cX2_isAbstract 7 = .ok (.iand, 1) := by decide +kernel
theorem dX2_isAbstract_8 : decode cX2_isAbstract 8 = .ok (.ifCond .eq 7, 3) := by decide +kernel
theorem dX2_isAbstract_11 : decode cX2_isAbstract 11 = .ok (.iconst 1, 1) := by decide +kernel
theorem dX2_isAbstract_12 : decode cX2_isAbstract 12 = .ok (.goto 4, 3) := by decide +kernel
theorem dX2_isAbstract_15 : decode cX2_isAbstract 15 = .ok (.iconst 0, 1) := by decide +kernel
theorem dX2_isAbstract_16 : decode cX2_isAbstract 16 = .ok (.ireturn, 1) := by decide +kernel
theorem dX2_isFinal_0 : decode cX2_isFinal 0 = .ok (.aload_n 0, 1) := by decide +kernel
theorem dX2_isFinal_1 : decode cX2_isFinal 1 = .ok (.getfield 21, 3) := by decide +kernel
theorem dX2_isFinal_4 : decode cX2_isFinal 4 = .ok (.iload_n 1, 1) := by decide +kernel
theorem dX2_isFinal_5 : decode cX2_isFinal 5 = .ok (.iaload, 1) := by decide +kernel
theorem dX2_isFinal_6 : decode cX2_isFinal 6 = .ok (.iconst 4, 1) := by decide +kernel
theorem dX2_isFinal_7 : decode cX2_isFinal 7 = .ok (.iand, 1) := by decide +kernel
theorem dX2_isFinal_8 : decode cX2_isFinal 8 = .ok (.ifCond .eq 7, 3) := by decide +kernel
theorem dX2_isFinal_11 : decode cX2_isFinal 11 = .ok (.iconst 1, 1) := by decide +kernel
theorem dX2_isFinal_12 : decode cX2_isFinal 12 = .ok (.goto 4, 3) := by decide +kernel
theorem dX2_isFinal_15 : decode cX2_isFinal 15 = .ok (.iconst 0, 1) := by decide +kernel
theorem dX2_isFinal_16 : decode cX2_isFinal 16 = .ok (.ireturn, 1) := by decide +kernel
theorem dX2_ownerOf_0 : decode cX2_ownerOf 0 = .ok (.aload_n 0, 1) := by decide +kernel
theorem dX2_ownerOf_1 : decode cX2_ownerOf 1 = .ok (.getfield 9, 3) := by decide +kernel
theorem dX2_ownerOf_4 : decode cX2_ownerOf 4 = .ok (.iload_n 1, 1) := by decide +kernel
theorem dX2_ownerOf_5 : decode cX2_ownerOf 5 = .ok (.iaload, 1) := by decide +kernel
theorem dX2_ownerOf_6 : decode cX2_ownerOf 6 = .ok (.ireturn, 1) := by decide +kernel
theorem dX2_accessOf_0 : decode cX2_accessOf 0 = .ok (.aload_n 0, 1) := by decide +kernel
theorem dX2_accessOf_1 : decode cX2_accessOf 1 = .ok (.getfield 18, 3) := by decide +kernel
theorem dX2_accessOf_4 : decode cX2_accessOf 4 = .ok (.iload_n 1, 1) := by decide +kernel
theorem dX2_accessOf_5 : decode cX2_accessOf 5 = .ok (.iaload, 1) := by decide +kernel
theorem dX2_accessOf_6 : decode cX2_accessOf 6 = .ok (.ireturn, 1) := by decide +kernel
theorem dX2_countAll_0 : decode cX2_countAll 0 = .ok (.aload_n 0, 1) := by decide +kernel
theorem dX2_countAll_1 : decode cX2_countAll 1 = .ok (.getfield 24, 3) := by decide +kernel
theorem dX2_countAll_4 : decode cX2_countAll 4 = .ok (.ireturn, 1) := by decide +kernel
set_option maxRecDepth 20000 in
theorem ggX2_countPresent_J6_bitCount_0f7a4 : GoodIn wsX2_countPresent wsJ6_bitCount_0f7a4 := goodIn_r _ [6, 7, 8, 9] (by decide +kernel) (by decide +kernel)
set_option maxRecDepth 20000 in
theorem gX2_countPresent_J6_bitCount_0f7a4 : GoodIn wsX2_countPresent (va_wsS RX2 56 yJ6_bitCount_0f7a4 wsJ6_bitCount_0f7a4) := goodIn_app (goodIn_of _ (by decide +kernel)) ggX2_countPresent_J6_bitCount_0f7a4
theorem dX2_countPresent_0 : decode cX2_countPresent 0 = .ok (.aload_n 0, 1) := by decide +kernel
theorem dX2_countPresent_1 : decode cX2_countPresent 1 = .ok (.getfield 24, 3) := by decide +kernel
theorem dX2_countPresent_4 : decode cX2_countPresent 4 = .ok (.aload_n 0, 1) := by decide +kernel
theorem dX2_countPresent_5 : decode cX2_countPresent 5 = .ok (.getfield 36, 3) := by decide +kernel
theorem dX2_countPresent_8 : decode cX2_countPresent 8 = .ok (.invokestatic 56, 3) := by decide +kernel
theorem dX2_countPresent_11 : decode cX2_countPresent 11 = .ok (.isub, 1) := by decide +kernel
theorem dX2_countPresent_12 : decode cX2_countPresent 12 = .ok (.ireturn, 1) := by decide +kernel
set_option maxRecDepth 20000 in
theorem ggX2_countAbstractMethods_X2_isAbstract : GoodIn wsX2_countAbstractMethods wsX2_isAbstract := goodIn_r _ [8, 9, 13, 14, 15, 16, 17, 18] (by decide +kernel) (by decide +kernel)
set_option maxRecDepth 20000 in
theorem gX2_countAbstractMethods_X2_isAbstract : GoodIn wsX2_countAbstractMethods (wsV RX2 61 RX2 yX2_isAbstract wsX2_isAbstract) := goodIn_app (goodIn_of _ (by decide +kernel)) ggX2_countAbstractMethods_X2_isAbstract
set_option maxRecDepth 20000 in
theorem ggX2_countAbstractMethods_X4_contains : GoodIn wsX2_countAbstractMethods wsX4_contains := goodIn_r _ [12] (by decide +kernel) (by decide +kernel)
set_option maxRecDepth 20000 in
theorem gX2_countAbstractMethods_X4_contains_n49 : GoodIn wsX2_countAbstractMethods (wsX4_contains) := ggX2_countAbstractMethods_X4_contains
theorem dX2_countAbstractMethods_0 : decode cX2_countAbstractMethods 0 = .ok (.iconst 0, 1) := by decide +kernel
theorem dX2_countAbstractMethods_1 : decode cX2_countAbstractMethods 1 = .ok (.istore_n 1, 1) := by decide +kernel
theorem dX2_countAbstractMethods_2 : decode cX2_countAbstractMethods 2 = .ok (.iconst 0, 1) := by decide +kernel
theorem dX2_countAbstractMethods_3 : decode cX2_countAbstractMethods 3 = .ok (.istore_n 2, 1) := by decide +kernel
theorem dX2_countAbstractMethods_4 : decode cX2_countAbstractMethods 4 = .ok (.iload_n 2, 1) := by decide +kernel
theorem dX2_countAbstractMethods_5 : decode cX2_countAbstractMethods 5 = .ok (.aload_n 0, 1) := by decide +kernel
theorem dX2_countAbstractMethods_6 : decode cX2_countAbstractMethods 6 = .ok (.getfield 24, 3) := by decide +kernel
theorem dX2_countAbstractMethods_9 : decode cX2_countAbstractMethods 9 = .ok (.if_icmp .ge 47, 3) := by decide +kernel
theorem dX2_countAbstractMethods_12 : decode cX2_countAbstractMethods 12 = .ok (.iload_n 1, 1) := by decide +kernel
theorem dX2_countAbstractMethods_13 : decode cX2_countAbstractMethods 13 = .ok (.aload_n 0, 1) := by decide +kernel
theorem dX2_countAbstractMethods_14 : decode cX2_countAbstractMethods 14 = .ok (.getfield 15, 3) := by decide +kernel
theorem dX2_countAbstractMethods_17 : decode cX2_countAbstractMethods 17 = .ok (.iload_n 2, 1) := by decide +kernel
theorem dX2_countAbstractMethods_18 : decode cX2_countAbstractMethods 18 = .ok (.iaload, 1) := by decide +kernel
theorem dX2_countAbstractMethods_19 : decode cX2_countAbstractMethods 19 = .ok (.bipush 15, 2) := by decide +kernel
theorem dX2_countAbstractMethods_21 : decode cX2_countAbstractMethods 21 = .ok (.if_icmp .lt 26, 3) := by decide +kernel
theorem dX2_countAbstractMethods_24 : decode cX2_countAbstractMethods 24 = .ok (.aload_n 0, 1) := by decide +kernel
theorem dX2_countAbstractMethods_25 : decode cX2_countAbstractMethods 25 = .ok (.iload_n 2, 1) := by decide +kernel
theorem dX2_countAbstractMethods_26 : decode cX2_countAbstractMethods 26 = .ok (.invokevirtual 61, 3) := by decide +kernel
theorem dX2_countAbstractMethods_29 : decode cX2_countAbstractMethods 29 = .ok (.ifCond .eq 18, 3) := by decide +kernel
theorem dX2_countAbstractMethods_32 : decode cX2_countAbstractMethods 32 = .ok (.aload_n 0, 1) := by decide +kernel
theorem dX2_countAbstractMethods_33 : decode cX2_countAbstractMethods 33 = .ok (.getfield 36, 3) := by decide +kernel
theorem dX2_countAbstractMethods_36 : decode cX2_countAbstractMethods 36 = .ok (.iload_n 2, 1) := by decide +kernel
theorem dX2_countAbstractMethods_37 : decode cX2_countAbstractMethods 37 = .ok (.invokestatic 49, 3) := by decide +kernel
theorem dX2_countAbstractMethods_40 : decode cX2_countAbstractMethods 40 = .ok (.ifCond .ne 7, 3) := by decide +kernel
theorem dX2_countAbstractMethods_43 : decode cX2_countAbstractMethods 43 = .ok (.iconst 1, 1) := by decide +kernel
theorem dX2_countAbstractMethods_44 : decode cX2_countAbstractMethods 44 = .ok (.goto 4, 3) := by decide +kernel
theorem dX2_countAbstractMethods_47 : decode cX2_countAbstractMethods 47 = .ok (.iconst 0, 1) := by decide +kernel
theorem dX2_countAbstractMethods_48 : decode cX2_countAbstractMethods 48 = .ok (.iadd, 1) := by decide +kernel
theorem dX2_countAbstractMethods_49 : decode cX2_countAbstractMethods 49 = .ok (.istore_n 1, 1) := by decide +kernel
theorem dX2_countAbstractMethods_50 : decode cX2_countAbstractMethods 50 = .ok (.iinc 2 1, 3) := by decide +kernel
theorem dX2_countAbstractMethods_53 : decode cX2_countAbstractMethods 53 = .ok (.goto (-49), 3) := by decide +kernel
theorem dX2_countAbstractMethods_56 : decode cX2_countAbstractMethods 56 = .ok (.iload_n 1, 1) := by decide +kernel
theorem dX2_countAbstractMethods_57 : decode cX2_countAbstractMethods 57 = .ok (.ireturn, 1) := by decide +kernel
set_option maxRecDepth 20000 in
theorem ggX2_isPresent_X4_isWithin : GoodIn wsX2_isPresent wsX4_isWithin := goodIn_r _ [5] (by decide +kernel) (by decide +kernel)
set_option maxRecDepth 20000 in
theorem gX2_isPresent_X4_isWithin_n64 : GoodIn wsX2_isPresent (wsX4_isWithin) := ggX2_isPresent_X4_isWithin
set_option maxRecDepth 20000 in
theorem ggX2_isPresent_X4_contains : GoodIn wsX2_isPresent wsX4_contains := goodIn_r _ [7] (by decide +kernel) (by decide +kernel)
set_option maxRecDepth 20000 in
theorem gX2_isPresent_X4_contains_n49 : GoodIn wsX2_isPresent (wsX4_contains) := ggX2_isPresent_X4_contains
theorem dX2_isPresent_0 : decode cX2_isPresent 0 = .ok (.iload_n 1, 1) := by decide +kernel
theorem dX2_isPresent_1 : decode cX2_isPresent 1 = .ok (.aload_n 0, 1) := by decide +kernel
theorem dX2_isPresent_2 : decode cX2_isPresent 2 = .ok (.getfield 24, 3) := by decide +kernel
theorem dX2_isPresent_5 : decode cX2_isPresent 5 = .ok (.invokestatic 64, 3) := by decide +kernel
theorem dX2_isPresent_8 : decode cX2_isPresent 8 = .ok (.ifCond .eq 18, 3) := by decide +kernel
theorem dX2_isPresent_11 : decode cX2_isPresent 11 = .ok (.aload_n 0, 1) := by decide +kernel
theorem dX2_isPresent_12 : decode cX2_isPresent 12 = .ok (.getfield 36, 3) := by decide +kernel
theorem dX2_isPresent_15 : decode cX2_isPresent 15 = .ok (.iload_n 1, 1) := by decide +kernel
theorem dX2_isPresent_16 : decode cX2_isPresent 16 = .ok (.invokestatic 49, 3) := by decide +kernel
theorem dX2_isPresent_19 : decode cX2_isPresent 19 = .ok (.ifCond .ne 7, 3) := by decide +kernel
theorem dX2_isPresent_22 : decode cX2_isPresent 22 = .ok (.iconst 1, 1) := by decide +kernel
theorem dX2_isPresent_23 : decode cX2_isPresent 23 = .ok (.goto 4, 3) := by decide +kernel
theorem dX2_isPresent_26 : decode cX2_isPresent 26 = .ok (.iconst 0, 1) := by decide +kernel
theorem dX2_isPresent_27 : decode cX2_isPresent 27 = .ok (.ireturn, 1) := by decide +kernel
theorem dX2_keyOf_0 : decode cX2_keyOf 0 = .ok (.iload_n 0, 1) := by decide +kernel
theorem dX2_keyOf_1 : decode cX2_keyOf 1 = .ok (.ifCond .eq 10, 3) := by decide +kernel
theorem dX2_keyOf_4 : decode cX2_keyOf 4 = .ok (.bipush 15, 2) := by decide +kernel
theorem dX2_keyOf_6 : decode cX2_keyOf 6 = .ok (.iload_n 1, 1) := by decide +kernel
theorem dX2_keyOf_7 : decode cX2_keyOf 7 = .ok (.iadd, 1) := by decide +kernel
theorem dX2_keyOf_8 : decode cX2_keyOf 8 = .ok (.goto 4, 3) := by decide +kernel
theorem dX2_keyOf_11 : decode cX2_keyOf 11 = .ok (.iload_n 1, 1) := by decide +kernel
theorem dX2_keyOf_12 : decode cX2_keyOf 12 = .ok (.ireturn, 1) := by decide +kernel
theorem dX3_init_0 : decode cX3_init 0 = .ok (.aload_n 0, 1) := by decide +kernel
theorem dX3_init_1 : decode cX3_init 1 = .ok (.invokespecial 3, 3) := by decide +kernel
theorem dX3_init_4 : decode cX3_init 4 = .ok (.return_, 1) := by decide +kernel
theorem dX3_put_0 : decode cX3_put 0 = .ok (.aload_n 0, 1) := by decide +kernel
theorem dX3_put_1 : decode cX3_put 1 = .ok (.iload_n 1, 1) := by decide +kernel
theorem dX3_put_2 : decode cX3_put 2 = .ok (.putfield 9, 3) := by decide +kernel
theorem dX3_put_5 : decode cX3_put 5 = .ok (.aload_n 0, 1) := by decide +kernel
theorem dX3_put_6 : decode cX3_put 6 = .ok (.iload_n 2, 1) := by decide +kernel
theorem dX3_put_7 : decode cX3_put 7 = .ok (.putfield 15, 3) := by decide +kernel
theorem dX3_put_10 : decode cX3_put 10 = .ok (.aload_n 0, 1) := by decide +kernel
theorem dX3_put_11 : decode cX3_put 11 = .ok (.iload_n 3, 1) := by decide +kernel
theorem dX3_put_12 : decode cX3_put 12 = .ok (.putfield 18, 3) := by decide +kernel
theorem dX3_put_15 : decode cX3_put 15 = .ok (.aload_n 0, 1) := by decide +kernel
theorem dX3_put_16 : decode cX3_put 16 = .ok (.iload 4, 2) := by decide +kernel
theorem dX3_put_18 : decode cX3_put 18 = .ok (.putfield 21, 3) := by decide +kernel
theorem dX3_put_21 : decode cX3_put 21 = .ok (.return_, 1) := by decide +kernel
theorem dX3_isOfField_0 : decode cX3_isOfField 0 = .ok (.aload_n 0, 1) := by decide +kernel
theorem dX3_isOfField_1 : decode cX3_isOfField 1 = .ok (.getfield 9, 3) := by decide +kernel
theorem dX3_isOfField_4 : decode cX3_isOfField 4 = .ok (.iconst 3, 1) := by decide +kernel
theorem dX3_isOfField_5 : decode cX3_isOfField 5 = .ok (.if_icmp .gt 7, 3) := by decide +kernel
theorem dX3_isOfField_8 : decode cX3_isOfField 8 = .ok (.iconst 1, 1) := by decide +kernel
theorem dX3_isOfField_9 : decode cX3_isOfField 9 = .ok (.goto 4, 3) := by decide +kernel
theorem dX3_isOfField_12 : decode cX3_isOfField 12 = .ok (.iconst 0, 1) := by decide +kernel
theorem dX3_isOfField_13 : decode cX3_isOfField 13 = .ok (.ireturn, 1) := by decide +kernel
theorem dX3_isPut_0 : decode cX3_isPut 0 = .ok (.aload_n 0, 1) := by decide +kernel
theorem dX3_isPut_1 : decode cX3_isPut 1 = .ok (.getfield 9, 3) := by decide +kernel
theorem dX3_isPut_4 : decode cX3_isPut 4 = .ok (.iconst 1, 1) := by decide +kernel
theorem dX3_isPut_5 : decode cX3_isPut 5 = .ok (.if_icmp .eq 11, 3) := by decide +kernel
theorem dX3_isPut_8 : decode cX3_isPut 8 = .ok (.aload_n 0, 1) := by decide +kernel
theorem dX3_isPut_9 : decode cX3_isPut 9 = .ok (.getfield 9, 3) := by decide +kernel
theorem dX3_isPut_12 : decode cX3_isPut 12 = .ok (.iconst 3, 1) := by decide +kernel
theorem dX3_isPut_13 : decode cX3_isPut 13 = .ok (.if_icmp .ne 7, 3) := by decide +kernel
theorem dX3_isPut_16 : decode cX3_isPut 16 = .ok (.iconst 1, 1) := by decide +kernel
theorem dX3_isPut_17 : decode cX3_isPut 17 = .ok (.goto 4, 3) := by decide +kernel
theorem dX3_isPut_20 : decode cX3_isPut 20 = .ok (.iconst 0, 1) := by decide +kernel
theorem dX3_isPut_21 : decode cX3_isPut 21 = .ok (.ireturn, 1) := by decide +kernel
theorem dX3_needsStatic_0 : decode cX3_needsStatic 0 = .ok (.aload_n 0, 1) := by decide +kernel
theorem dX3_needsStatic_1 : decode cX3_needsStatic 1 = .ok (.getfield 9, 3) := by decide +kernel
theorem dX3_needsStatic_4 : decode cX3_needsStatic 4 = .ok (.iconst 2, 1) := by decide +kernel
theorem dX3_needsStatic_5 : decode cX3_needsStatic 5 = .ok (.if_icmp .eq 20, 3) := by decide +kernel
theorem dX3_needsStatic_8 : decode cX3_needsStatic 8 = .ok (.aload_n 0, 1) := by decide +kernel
theorem dX3_needsStatic_9 : decode cX3_needsStatic 9 = .ok (.getfield 9, 3) := by decide +kernel
theorem dX3_needsStatic_12 : decode cX3_needsStatic 12 = .ok (.iconst 3, 1) := by decide +kernel
theorem dX3_needsStatic_13 : decode cX3_needsStatic 13 = .ok (.if_icmp .eq 12, 3) := by decide +kernel
theorem dX3_needsStatic_16 : decode cX3_needsStatic 16 = .ok (.aload_n 0, 1) := by decide +kernel
theorem dX3_needsStatic_17 : decode cX3_needsStatic 17 = .ok (.getfield 9, 3) := by decide +kernel
theorem dX3_needsStatic_20 : decode cX3_needsStatic 20 = .ok (.bipush 6, 2) := by decide +kernel
theorem dX3_needsStatic_22 : decode cX3_needsStatic 22 = .ok (.if_icmp .ne 7, 3) := by decide +kernel
theorem dX3_needsStatic_25 : decode cX3_needsStatic 25 = .ok (.iconst 1, 1) := by decide +kernel
theorem dX3_needsStatic_26 : decode cX3_needsStatic 26 = .ok (.goto 4, 3) := by decide +kernel
theorem dX3_needsStatic_29 : decode cX3_needsStatic 29 = .ok (.iconst 0, 1) := by decide +kernel
theorem dX3_needsStatic_30 : decode cX3_needsStatic 30 = .ok (.ireturn, 1) := by decide +kernel
theorem dX3_hasReceiver_0 : decode cX3_hasReceiver 0 = .ok (.aload_n 0, 1) := by decide +kernel
theorem dX3_hasReceiver_1 : decode cX3_hasReceiver 1 = .ok (.getfield 9, 3) := by decide +kernel
theorem dX3_hasReceiver_4 : decode cX3_hasReceiver 4 = .ok (.iconst 4, 1) := by decide +kernel
theorem dX3_hasReceiver_5 : decode cX3_hasReceiver 5 = .ok (.if_icmp .eq 12, 3) := by decide +kernel
theorem dX3_hasReceiver_8 : decode cX3_hasReceiver 8 = .ok (.aload_n 0, 1) := by decide +kernel
theorem dX3_hasReceiver_9 : decode cX3_hasReceiver 9 = .ok (.getfield 9, 3) := by decide +kernel
theorem dX3_hasReceiver_12 : decode cX3_hasReceiver 12 = .ok (.bipush 7, 2) := by decide +kernel
theorem dX3_hasReceiver_14 : decode cX3_hasReceiver 14 = .ok (.if_icmp .ne 7, 3) := by decide +kernel
theorem dX3_hasReceiver_17 : decode cX3_hasReceiver 17 = .ok (.iconst 1, 1) := by decide +kernel
theorem dX3_hasReceiver_18 : decode cX3_hasReceiver 18 = .ok (.goto 4, 3) := by decide +kernel
theorem dX3_hasReceiver_21 : decode cX3_hasReceiver 21 = .ok (.iconst 0, 1) := by decide +kernel
theorem dX3_hasReceiver_22 : decode cX3_hasReceiver 22 = .ok (.ireturn, 1) := by decide +kernel
set_option maxRecDepth 20000 in
theorem ggX4_init_X0_init : GoodIn wsX4_init wsX0_init := goodIn_r _ [15, 16, 2, 3, 17, 18, 19, 20, 21, 22, 23, 24, 25, 26, 27, 28, 29, 30, 31, 32, 33, 34, 35, 36, 37, 38, 39, 40, 41, 42, 43, 44, 45, 46, 47, 48, 49, 50, 51, 52, 53, 54, 55, 56, 57, 58, 59, 60, 61, 62, 63, 64, 65, 66, 67, 68, 69, 70, 71, 72, 73, 74, 75, 76, 77, 78, 79, 80, 81, 82, 83, 84, 99, 100, 101, 102, 103, 104, 105, 106, 107, 108, 88, 89, 90, 109, 110, 111, 112, 113, 114] (by decide +kernel) (by decide +kernel)
set_option maxRecDepth 20000 in
theorem gX4_init_X0_init_n11 : GoodIn wsX4_init (wsX0_init) := ggX4_init_X0_init
set_option maxRecDepth 20000 in
theorem ggX4_init_X3_init : GoodIn wsX4_init wsX3_init := goodIn_r _ [86, 87, 2, 3] (by decide +kernel) (by decide +kernel)
set_option maxRecDepth 20000 in
theorem gX4_init_X3_init_n22 : GoodIn wsX4_init (wsX3_init) := ggX4_init_X3_init
theorem dX4_init_0 : decode cX4_init 0 = .ok (.aload_n 0, 1) := by decide +kernel
theorem dX4_init_1 : decode cX4_init 1 = .ok (.invokespecial 3, 3) := by decide +kernel
theorem dX4_init_4 : decode cX4_init 4 = .ok (.aload_n 0, 1) := by decide +kernel
theorem dX4_init_5 : decode cX4_init 5 = .ok (.iconst 2, 1) := by decide +kernel
theorem dX4_init_6 : decode cX4_init 6 = .ok (.anewarray 9, 3) := by decide +kernel
theorem dX4_init_9 : decode cX4_init 9 = .ok (.dup, 1) := by decide +kernel
theorem dX4_init_10 : decode cX4_init 10 = .ok (.iconst 0, 1) := by decide +kernel
theorem dX4_init_11 : decode cX4_init 11 = .ok (.new 9, 3) := by decide +kernel
theorem dX4_init_14 : decode cX4_init 14 = .ok (.dup, 1) := by decide +kernel
theorem dX4_init_15 : decode cX4_init 15 = .ok (.invokespecial 11, 3) := by decide +kernel
theorem dX4_init_18 : decode cX4_init 18 = .ok (.aastore, 1) := by decide +kernel
theorem dX4_init_19 : decode cX4_init 19 = .ok (.dup, 1) := by decide +kernel
theorem dX4_init_20 : decode cX4_init 20 = .ok (.iconst 1, 1) := by decide +kernel
theorem dX4_init_21 : decode cX4_init 21 = .ok (.new 9, 3) := by decide +kernel
theorem dX4_init_24 : decode cX4_init 24 = .ok (.dup, 1) := by decide +kernel
theorem dX4_init_25 : decode cX4_init 25 = .ok (.invokespecial 11, 3) := by decide +kernel
theorem dX4_init_28 : decode cX4_init 28 = .ok (.aastore, 1) := by decide +kernel
theorem dX4_init_29 : decode cX4_init 29 = .ok (.putfield 12, 3) := by decide +kernel
theorem dX4_init_32 : decode cX4_init 32 = .ok (.aload_n 0, 1) := by decide +kernel
theorem dX4_init_33 : decode cX4_init 33 = .ok (.bipush 16, 2) := by decide +kernel
theorem dX4_init_35 : decode cX4_init 35 = .ok (.anewarray 16, 3) := by decide +kernel
theorem dX4_init_38 : decode cX4_init 38 = .ok (.putfield 18, 3) := by decide +kernel
theorem dX4_init_41 : decode cX4_init 41 = .ok (.iconst 0, 1) := by decide +kernel
theorem dX4_init_42 : decode cX4_init 42 = .ok (.istore_n 1, 1) := by decide +kernel
theorem dX4_init_43 : decode cX4_init 43 = .ok (.iload_n 1, 1) := by decide +kernel
theorem dX4_init_44 : decode cX4_init 44 = .ok (.bipush 16, 2) := by decide +kernel
theorem dX4_init_46 : decode cX4_init 46 = .ok (.if_icmp .ge 22, 3) := by decide +kernel
theorem dX4_init_49 : decode cX4_init 49 = .ok (.aload_n 0, 1) := by decide +kernel
theorem dX4_init_50 : decode cX4_init 50 = .ok (.getfield 18, 3) := by decide +kernel
theorem dX4_init_53 : decode cX4_init 53 = .ok (.iload_n 1, 1) := by decide +kernel
theorem dX4_init_54 : decode cX4_init 54 = .ok (.new 16, 3) := by decide +kernel
theorem dX4_init_57 : decode cX4_init 57 = .ok (.dup, 1) := by decide +kernel
theorem dX4_init_58 : decode cX4_init 58 = .ok (.invokespecial 22, 3) := by decide +kernel
theorem dX4_init_61 : decode cX4_init 61 = .ok (.aastore, 1) := by decide +kernel
theorem dX4_init_62 : decode cX4_init 62 = .ok (.iinc 1 1, 3) := by decide +kernel
theorem dX4_init_65 : decode cX4_init 65 = .ok (.goto (-22), 3) := by decide +kernel
theorem dX4_init_68 : decode cX4_init 68 = .ok (.aload_n 0, 1) := by decide +kernel
theorem dX4_init_69 : decode cX4_init 69 = .ok (.iconst 0, 1) := by decide +kernel
theorem dX4_init_70 : decode cX4_init 70 = .ok (.putfield 23, 3) := by decide +kernel
theorem dX4_init_73 : decode cX4_init 73 = .ok (.aload_n 0, 1) := by decide +kernel
theorem dX4_init_74 : decode cX4_init 74 = .ok (.iconst 0, 1) := by decide +kernel
theorem dX4_init_75 : decode cX4_init 75 = .ok (.putfield 27, 3) := by decide +kernel
theorem dX4_init_78 : decode cX4_init 78 = .ok (.return_, 1) := by decide +kernel
set_option maxRecDepth 20000 in
theorem ggX4_type_X4_isOrdinaryType : GoodIn wsX4_type wsX4_isOrdinaryType := goodIn_r _ [6, 7, 8, 5, 9] (by decide +kernel) (by decide +kernel)
set_option maxRecDepth 20000 in
theorem gX4_type_X4_isOrdinaryType : GoodIn wsX4_type (va_wsS RX4 30 yX4_isOrdinaryType wsX4_isOrdinaryType) := goodIn_app (goodIn_of _ (by decide +kernel)) ggX4_type_X4_isOrdinaryType
set_option maxRecDepth 20000 in
theorem ggX4_type_X4_isWithin : GoodIn wsX4_type wsX4_isWithin := goodIn_r _ [9] (by decide +kernel) (by decide +kernel)
set_option maxRecDepth 20000 in
theorem gX4_type_X4_isWithin : GoodIn wsX4_type (va_wsS RX4 34 yX4_isWithin wsX4_isWithin) := goodIn_app (goodIn_of _ (by decide +kernel)) ggX4_type_X4_isWithin
set_option maxRecDepth 20000 in
theorem ggX4_type_X1_define : GoodIn wsX4_type wsX1_define := goodIn_r _ [14, 15, 16, 17, 18, 19, 20, 21, 5, 22, 23, 24, 25, 13, 26, 27, 28, 29, 30, 31, 32, 33, 34, 35, 36, 37, 38, 39, 40, 41, 42, 43, 7, 8, 9, 44, 45, 46, 47, 48, 49, 50, 51, 52, 53, 54, 55, 56, 57, 58, 66, 67, 68, 69, 70, 71, 72, 73, 74, 75] (by decide +kernel) (by decide +kernel)
set_option maxRecDepth 20000 in
theorem gX4_type_X1_define : GoodIn wsX4_type (wsV RX4 42 RX1 yX1_define wsX1_define) := goodIn_app (goodIn_of _ (by decide +kernel)) ggX4_type_X1_define
theorem dX4_type_0 : decode cX4_type 0 = .ok (.iload_n 1, 1) := by decide +kernel
theorem dX4_type_1 : decode cX4_type 1 = .ok (.invokestatic 30, 3) := by decide +kernel
theorem dX4_type_4 : decode cX4_type 4 = .ok (.ifCond .eq 41, 3) := by decide +kernel
theorem dX4_type_7 : decode cX4_type 7 = .ok (.iload_n 2, 1) := by decide +kernel
theorem dX4_type_8 : decode cX4_type 8 = .ok (.bipush 16, 2) := by decide +kernel
theorem dX4_type_10 : decode cX4_type 10 = .ok (.invokestatic 34, 3) := by decide +kernel
theorem dX4_type_13 : decode cX4_type 13 = .ok (.ifCond .eq 32, 3) := by decide +kernel
theorem dX4_type_16 : decode cX4_type 16 = .ok (.iload_n 3, 1) := by decide +kernel
theorem dX4_type_17 : decode cX4_type 17 = .ok (.iconst 4, 1) := by decide +kernel
theorem dX4_type_18 : decode cX4_type 18 = .ok (.invokestatic 34, 3) := by decide +kernel
theorem dX4_type_21 : decode cX4_type 21 = .ok (.ifCond .eq 24, 3) := by decide +kernel
theorem dX4_type_24 : decode cX4_type 24 = .ok (.iload 4, 2) := by decide +kernel
theorem dX4_type_26 : decode cX4_type 26 = .ok (.bipush 12, 2) := by decide +kernel
theorem dX4_type_28 : decode cX4_type 28 = .ok (.invokestatic 34, 3) := by decide +kernel
theorem dX4_type_31 : decode cX4_type 31 = .ok (.ifCond .eq 14, 3) := by decide +kernel
theorem dX4_type_34 : decode cX4_type 34 = .ok (.iload 5, 2) := by decide +kernel
theorem dX4_type_36 : decode cX4_type 36 = .ok (.sipush 4096, 3) := by decide +kernel
theorem dX4_type_39 : decode cX4_type 39 = .ok (.invokestatic 34, 3) := by decide +kernel
theorem dX4_type_42 : decode cX4_type 42 = .ok (.ifCond .ne 5, 3) := by decide +kernel
theorem dX4_type_45 : decode cX4_type 45 = .ok (.iconst 0, 1) := by decide +kernel
theorem dX4_type_46 : decode cX4_type 46 = .ok (.ireturn, 1) := by decide +kernel
theorem dX4_type_47 : decode cX4_type 47 = .ok (.aload_n 0, 1) := by decide +kernel
theorem dX4_type_48 : decode cX4_type 48 = .ok (.getfield 12, 3) := by decide +kernel
theorem dX4_type_51 : decode cX4_type 51 = .ok (.aload_n 0, 1) := by decide +kernel
theorem dX4_type_52 : decode cX4_type 52 = .ok (.getfield 27, 3) := by decide +kernel
theorem dX4_type_55 : decode cX4_type 55 = .ok (.aaload, 1) := by decide +kernel
theorem dX4_type_56 : decode cX4_type 56 = .ok (.getfield 38, 3) := by decide +kernel
theorem dX4_type_59 : decode cX4_type 59 = .ok (.iload_n 1, 1) := by decide +kernel
theorem dX4_type_60 : decode cX4_type 60 = .ok (.iload_n 2, 1) := by decide +kernel
theorem dX4_type_61 : decode cX4_type 61 = .ok (.iload_n 3, 1) := by decide +kernel
theorem dX4_type_62 : decode cX4_type 62 = .ok (.iload 4, 2) := by decide +kernel
theorem dX4_type_64 : decode cX4_type 64 = .ok (.iload 5, 2) := by decide +kernel
theorem dX4_type_66 : decode cX4_type 66 = .ok (.invokevirtual 42, 3) := by decide +kernel
theorem dX4_type_69 : decode cX4_type 69 = .ok (.iconst 1, 1) := by decide +kernel
theorem dX4_type_70 : decode cX4_type 70 = .ok (.ireturn, 1) := by decide +kernel
set_option maxRecDepth 20000 in
theorem ggX4_nest_X4_isOrdinaryType : GoodIn wsX4_nest wsX4_isOrdinaryType := goodIn_r _ [6, 7, 8, 5, 9] (by decide +kernel) (by decide +kernel)
set_option maxRecDepth 20000 in
theorem gX4_nest_X4_isOrdinaryType : GoodIn wsX4_nest (va_wsS RX4 30 yX4_isOrdinaryType wsX4_isOrdinaryType) := goodIn_app (goodIn_of _ (by decide +kernel)) ggX4_nest_X4_isOrdinaryType
set_option maxRecDepth 20000 in
theorem ggX4_nest_X4_isWithin : GoodIn wsX4_nest wsX4_isWithin := goodIn_r _ [9] (by decide +kernel) (by decide +kernel)
set_option maxRecDepth 20000 in
theorem gX4_nest_X4_isWithin : GoodIn wsX4_nest (va_wsS RX4 34 yX4_isWithin wsX4_isWithin) := goodIn_app (goodIn_of _ (by decide +kernel)) ggX4_nest_X4_isWithin
set_option maxRecDepth 20000 in
theorem ggX4_nest_X1_putHost : GoodIn wsX4_nest wsX1_putHost := goodIn_r _ [14, 15, 16, 17, 18, 13, 19, 20, 21, 5, 22, 30, 31, 32, 33, 34, 35, 36, 37, 38, 39] (by decide +kernel) (by decide +kernel)
set_option maxRecDepth 20000 in
theorem gX4_nest_X1_putHost : GoodIn wsX4_nest (wsV RX4 48 RX1 yX1_putHost wsX1_putHost) := goodIn_app (goodIn_of _ (by decide +kernel)) ggX4_nest_X1_putHost
theorem dX4_nest_0 : decode cX4_nest 0 = .ok (.iload_n 1, 1) := by decide +kernel
theorem dX4_nest_1 : decode cX4_nest 1 = .ok (.invokestatic 30, 3) := by decide +kernel
theorem dX4_nest_4 : decode cX4_nest 4 = .ok (.ifCond .eq 12, 3) := by decide +kernel
theorem dX4_nest_7 : decode cX4_nest 7 = .ok (.iload_n 2, 1) := by decide +kernel
theorem dX4_nest_8 : decode cX4_nest 8 = .ok (.bipush 12, 2) := by decide +kernel
theorem dX4_nest_10 : decode cX4_nest 10 = .ok (.invokestatic 34, 3) := by decide +kernel
theorem dX4_nest_13 : decode cX4_nest 13 = .ok (.ifCond .ne 5, 3) := by decide +kernel
theorem dX4_nest_16 : decode cX4_nest 16 = .ok (.iconst 0, 1) := by decide +kernel
theorem dX4_nest_17 : decode cX4_nest 17 = .ok (.ireturn, 1) := by decide +kernel
theorem dX4_nest_18 : decode cX4_nest 18 = .ok (.aload_n 0, 1) := by decide +kernel
theorem dX4_nest_19 : decode cX4_nest 19 = .ok (.getfield 12, 3) := by decide +kernel
theorem dX4_nest_22 : decode cX4_nest 22 = .ok (.aload_n 0, 1) := by decide +kernel
theorem dX4_nest_23 : decode cX4_nest 23 = .ok (.getfield 27, 3) := by decide +kernel
theorem dX4_nest_26 : decode cX4_nest 26 = .ok (.aaload, 1) := by decide +kernel
theorem dX4_nest_27 : decode cX4_nest 27 = .ok (.getfield 38, 3) := by decide +kernel
theorem dX4_nest_30 : decode cX4_nest 30 = .ok (.iload_n 1, 1) := by decide +kernel
theorem dX4_nest_31 : decode cX4_nest 31 = .ok (.iload_n 2, 1) := by decide +kernel
theorem dX4_nest_32 : decode cX4_nest 32 = .ok (.invokevirtual 48, 3) := by decide +kernel
theorem dX4_nest_35 : decode cX4_nest 35 = .ok (.ireturn, 1) := by decide +kernel
set_option maxRecDepth 20000 in
theorem ggX4_drop_X4_isOrdinaryType : GoodIn wsX4_drop wsX4_isOrdinaryType := goodIn_r _ [6, 7, 8, 5, 9] (by decide +kernel) (by decide +kernel)
set_option maxRecDepth 20000 in
theorem gX4_drop_X4_isOrdinaryType : GoodIn wsX4_drop (va_wsS RX4 30 yX4_isOrdinaryType wsX4_isOrdinaryType) := goodIn_app (goodIn_of _ (by decide +kernel)) ggX4_drop_X4_isOrdinaryType
set_option maxRecDepth 20000 in
theorem ggX4_drop_X0_discardType : GoodIn wsX4_drop wsX0_discardType := goodIn_r _ [14, 15, 16, 17, 18, 19, 20, 21, 22, 23, 24, 25, 26, 27, 5, 28, 29, 30, 31, 32, 33, 34, 35, 36, 37, 38, 39, 40, 41, 42, 43, 44, 45, 7, 8, 9, 46, 47, 48, 49, 50, 51, 52, 53, 54, 55, 56, 57, 58, 59, 60, 61, 62, 63, 64, 65, 66, 67, 68, 69, 70, 71, 76, 77, 78, 79, 80, 81, 82, 83, 84, 85, 86, 87, 88, 89, 90, 91, 92, 93, 94] (by decide +kernel) (by decide +kernel)
set_option maxRecDepth 20000 in
theorem gX4_drop_X0_discardType : GoodIn wsX4_drop (wsV RX4 51 RX0 yX0_discardType wsX0_discardType) := goodIn_app (goodIn_of _ (by decide +kernel)) ggX4_drop_X0_discardType
theorem dX4_drop_0 : decode cX4_drop 0 = .ok (.iload_n 1, 1) := by decide +kernel
theorem dX4_drop_1 : decode cX4_drop 1 = .ok (.invokestatic 30, 3) := by decide +kernel
theorem dX4_drop_4 : decode cX4_drop 4 = .ok (.ifCond .ne 5, 3) := by decide +kernel
theorem dX4_drop_7 : decode cX4_drop 7 = .ok (.iconst 0, 1) := by decide +kernel
theorem dX4_drop_8 : decode cX4_drop 8 = .ok (.ireturn, 1) := by decide +kernel
theorem dX4_drop_9 : decode cX4_drop 9 = .ok (.aload_n 0, 1) := by decide +kernel
theorem dX4_drop_10 : decode cX4_drop 10 = .ok (.getfield 12, 3) := by decide +kernel
theorem dX4_drop_13 : decode cX4_drop 13 = .ok (.aload_n 0, 1) := by decide +kernel
theorem dX4_drop_14 : decode cX4_drop 14 = .ok (.getfield 27, 3) := by decide +kernel
theorem dX4_drop_17 : decode cX4_drop 17 = .ok (.aaload, 1) := by decide +kernel
theorem dX4_drop_18 : decode cX4_drop 18 = .ok (.iload_n 1, 1) := by decide +kernel
theorem dX4_drop_19 : decode cX4_drop 19 = .ok (.invokevirtual 51, 3) := by decide +kernel
theorem dX4_drop_22 : decode cX4_drop 22 = .ok (.ireturn, 1) := by decide +kernel
set_option maxRecDepth 20000 in
theorem ggX4_member_X4_isWithin : GoodIn wsX4_member wsX4_isWithin := goodIn_r _ [6] (by decide +kernel) (by decide +kernel)
set_option maxRecDepth 20000 in
theorem gX4_member_X4_isWithin : GoodIn wsX4_member (va_wsS RX4 34 yX4_isWithin wsX4_isWithin) := goodIn_app (goodIn_of _ (by decide +kernel)) ggX4_member_X4_isWithin
set_option maxRecDepth 20000 in
theorem ggX4_member_X0_addMember : GoodIn wsX4_member wsX0_addMember := goodIn_r _ [11, 12, 13, 14, 15, 16, 17, 18, 19, 20, 5, 21, 22, 23, 24, 25, 26, 27, 28, 29, 30, 31, 32, 33, 34, 35, 36, 37, 38, 39, 44, 45, 46, 47, 48, 49, 50, 51, 52, 53, 54, 55, 56, 57, 58, 59, 60, 61, 62] (by decide +kernel) (by decide +kernel)
set_option maxRecDepth 20000 in
theorem gX4_member_X0_addMember : GoodIn wsX4_member (wsV RX4 54 RX0 yX0_addMember wsX0_addMember) := goodIn_app (goodIn_of _ (by decide +kernel)) ggX4_member_X0_addMember
theorem dX4_member_0 : decode cX4_member 0 = .ok (.iload_n 1, 1) := by decide +kernel
theorem dX4_member_1 : decode cX4_member 1 = .ok (.bipush 12, 2) := by decide +kernel
theorem dX4_member_3 : decode cX4_member 3 = .ok (.invokestatic 34, 3) := by decide +kernel
theorem dX4_member_6 : decode cX4_member 6 = .ok (.ifCond .eq 31, 3) := by decide +kernel
theorem dX4_member_9 : decode cX4_member 9 = .ok (.iload_n 3, 1) := by decide +kernel
theorem dX4_member_10 : decode cX4_member 10 = .ok (.bipush 15, 2) := by decide +kernel
theorem dX4_member_12 : decode cX4_member 12 = .ok (.invokestatic 34, 3) := by decide +kernel
theorem dX4_member_15 : decode cX4_member 15 = .ok (.ifCond .eq 22, 3) := by decide +kernel
theorem dX4_member_18 : decode cX4_member 18 = .ok (.iload 4, 2) := by decide +kernel
theorem dX4_member_20 : decode cX4_member 20 = .ok (.iconst 4, 1) := by decide +kernel
theorem dX4_member_21 : decode cX4_member 21 = .ok (.invokestatic 34, 3) := by decide +kernel
theorem dX4_member_24 : decode cX4_member 24 = .ok (.ifCond .eq 13, 3) := by decide +kernel
theorem dX4_member_27 : decode cX4_member 27 = .ok (.iload 5, 2) := by decide +kernel
theorem dX4_member_29 : decode cX4_member 29 = .ok (.bipush 8, 2) := by decide +kernel
theorem dX4_member_31 : decode cX4_member 31 = .ok (.invokestatic 34, 3) := by decide +kernel
theorem dX4_member_34 : decode cX4_member 34 = .ok (.ifCond .ne 5, 3) := by decide +kernel
theorem dX4_member_37 : decode cX4_member 37 = .ok (.iconst (-1), 1) := by decide +kernel
theorem dX4_member_38 : decode cX4_member 38 = .ok (.ireturn, 1) := by decide +kernel
theorem dX4_member_39 : decode cX4_member 39 = .ok (.aload_n 0, 1) := by decide +kernel
theorem dX4_member_40 : decode cX4_member 40 = .ok (.getfield 12, 3) := by decide +kernel
theorem dX4_member_43 : decode cX4_member 43 = .ok (.aload_n 0, 1) := by decide +kernel
theorem dX4_member_44 : decode cX4_member 44 = .ok (.getfield 27, 3) := by decide +kernel
theorem dX4_member_47 : decode cX4_member 47 = .ok (.aaload, 1) := by decide +kernel
theorem dX4_member_48 : decode cX4_member 48 = .ok (.iload_n 1, 1) := by decide +kernel
theorem dX4_member_49 : decode cX4_member 49 = .ok (.iload_n 2, 1) := by decide +kernel
theorem dX4_member_50 : decode cX4_member 50 = .ok (.iload_n 3, 1) := by decide +kernel
theorem dX4_member_51 : decode cX4_member 51 = .ok (.iload 4, 2) := by decide +kernel
theorem dX4_member_53 : decode cX4_member 53 = .ok (.iload 5, 2) := by decide +kernel
theorem dX4_member_55 : decode cX4_member 55 = .ok (.invokevirtual 54, 3) := by decide +kernel
theorem dX4_member_58 : decode cX4_member 58 = .ok (.ireturn, 1) := by decide +kernel
set_option maxRecDepth 20000 in
theorem ggX4_remake_X4_isWithin : GoodIn wsX4_remake wsX4_isWithin := goodIn_r _ [6] (by decide +kernel) (by decide +kernel)
set_option maxRecDepth 20000 in
theorem gX4_remake_X4_isWithin : GoodIn wsX4_remake (va_wsS RX4 34 yX4_isWithin wsX4_isWithin) := goodIn_app (goodIn_of _ (by decide +kernel)) ggX4_remake_X4_isWithin
set_option maxRecDepth 20000 in
theorem ggX4_remake_X2_change : GoodIn wsX4_remake wsX2_change := goodIn_r _ [11, 12, 13, 14, 15, 16, 10, 17, 18, 19, 4, 5, 6, 20, 21, 29, 30, 31, 32, 33, 34] (by decide +kernel) (by decide +kernel)
set_option maxRecDepth 20000 in
theorem gX4_remake_X2_change : GoodIn wsX4_remake (wsV RX4 62 RX2 yX2_change wsX2_change) := goodIn_app (goodIn_of _ (by decide +kernel)) ggX4_remake_X2_change
theorem dX4_remake_0 : decode cX4_remake 0 = .ok (.iload_n 2, 1) := by decide +kernel
theorem dX4_remake_1 : decode cX4_remake 1 = .ok (.iconst 4, 1) := by decide +kernel
theorem dX4_remake_2 : decode cX4_remake 2 = .ok (.invokestatic 34, 3) := by decide +kernel
theorem dX4_remake_5 : decode cX4_remake 5 = .ok (.ifCond .eq 12, 3) := by decide +kernel
theorem dX4_remake_8 : decode cX4_remake 8 = .ok (.iload_n 3, 1) := by decide +kernel
theorem dX4_remake_9 : decode cX4_remake 9 = .ok (.bipush 8, 2) := by decide +kernel
theorem dX4_remake_11 : decode cX4_remake 11 = .ok (.invokestatic 34, 3) := by decide +kernel
theorem dX4_remake_14 : decode cX4_remake 14 = .ok (.ifCond .ne 5, 3) := by decide +kernel
theorem dX4_remake_17 : decode cX4_remake 17 = .ok (.iconst 0, 1) := by decide +kernel
theorem dX4_remake_18 : decode cX4_remake 18 = .ok (.ireturn, 1) := by decide +kernel
theorem dX4_remake_19 : decode cX4_remake 19 = .ok (.aload_n 0, 1) := by decide +kernel
theorem dX4_remake_20 : decode cX4_remake 20 = .ok (.getfield 12, 3) := by decide +kernel
theorem dX4_remake_23 : decode cX4_remake 23 = .ok (.aload_n 0, 1) := by decide +kernel
theorem dX4_remake_24 : decode cX4_remake 24 = .ok (.getfield 27, 3) := by decide +kernel
theorem dX4_remake_27 : decode cX4_remake 27 = .ok (.aaload, 1) := by decide +kernel
theorem dX4_remake_28 : decode cX4_remake 28 = .ok (.getfield 58, 3) := by decide +kernel
theorem dX4_remake_31 : decode cX4_remake 31 = .ok (.iload_n 1, 1) := by decide +kernel
theorem dX4_remake_32 : decode cX4_remake 32 = .ok (.iload_n 2, 1) := by decide +kernel
theorem dX4_remake_33 : decode cX4_remake 33 = .ok (.iload_n 3, 1) := by decide +kernel
theorem dX4_remake_34 : decode cX4_remake 34 = .ok (.invokevirtual 62, 3) := by decide +kernel
theorem dX4_remake_37 : decode cX4_remake 37 = .ok (.ireturn, 1) := by decide +kernel
set_option maxRecDepth 20000 in
theorem ggX4_remove_X2_discard : GoodIn wsX4_remove wsX2_discard := goodIn_r _ [7, 8, 9, 10, 11, 6, 12, 13, 14, 15, 16, 17, 18, 19, 20, 28, 29, 30, 31, 32, 33] (by decide +kernel) (by decide +kernel)
set_option maxRecDepth 20000 in
theorem gX4_remove_X2_discard : GoodIn wsX4_remove (wsV RX4 68 RX2 yX2_discard wsX2_discard) := goodIn_app (goodIn_of _ (by decide +kernel)) ggX4_remove_X2_discard
theorem dX4_remove_0 : decode cX4_remove 0 = .ok (.aload_n 0, 1) := by decide +kernel
theorem dX4_remove_1 : decode cX4_remove 1 = .ok (.getfield 12, 3) := by decide +kernel
theorem dX4_remove_4 : decode cX4_remove 4 = .ok (.aload_n 0, 1) := by decide +kernel
theorem dX4_remove_5 : decode cX4_remove 5 = .ok (.getfield 27, 3) := by decide +kernel
theorem dX4_remove_8 : decode cX4_remove 8 = .ok (.aaload, 1) := by decide +kernel
theorem dX4_remove_9 : decode cX4_remove 9 = .ok (.getfield 58, 3) := by decide +kernel
theorem dX4_remove_12 : decode cX4_remove 12 = .ok (.iload_n 1, 1) := by decide +kernel
theorem dX4_remove_13 : decode cX4_remove 13 = .ok (.invokevirtual 68, 3) := by decide +kernel
theorem dX4_remove_16 : decode cX4_remove 16 = .ok (.ireturn, 1) := by decide +kernel
set_option maxRecDepth 20000 in
theorem ggX4_branch_X0_becomeAs : GoodIn wsX4_branch wsX0_becomeAs := goodIn_r _ [7, 8, 9, 10, 11, 12, 13, 14, 15, 16, 17, 18, 19, 20, 21, 22, 23, 24, 25, 26, 27, 28, 29, 30, 31, 32, 33, 34, 35, 36, 37, 38, 39, 40, 41, 42, 43, 44, 45, 46, 47, 48, 49, 50, 51, 52, 53, 54, 55, 56, 57, 58, 59, 60, 61, 62, 63, 64, 65, 66, 67, 68, 69, 70, 71, 72, 73, 74, 75, 76, 77, 78, 94, 95, 96, 97, 98, 99, 100, 101, 102, 103, 104, 105, 106, 107, 108, 109, 110, 111, 112] (by decide +kernel) (by decide +kernel)
set_option maxRecDepth 20000 in
theorem gX4_branch_X0_becomeAs : GoodIn wsX4_branch (wsV RX4 71 RX0 yX0_becomeAs wsX0_becomeAs) := goodIn_app (goodIn_of _ (by decide +kernel)) ggX4_branch_X0_becomeAs
set_option maxRecDepth 20000 in
theorem ggX4_branch_X1_countThere : GoodIn wsX4_branch wsX1_countThere := goodIn_r _ [82, 15, 83, 84, 85, 86, 87, 88, 89, 97, 98, 99, 100, 101, 102, 103, 104, 105, 106] (by decide +kernel) (by decide +kernel)
set_option maxRecDepth 20000 in
theorem gX4_branch_X1_countThere : GoodIn wsX4_branch (wsV RX4 75 RX1 yX1_countThere wsX1_countThere) := goodIn_app (goodIn_of _ (by decide +kernel)) ggX4_branch_X1_countThere
theorem dX4_branch_0 : decode cX4_branch 0 = .ok (.aload_n 0, 1) := by decide +kernel
theorem dX4_branch_1 : decode cX4_branch 1 = .ok (.getfield 12, 3) := by decide +kernel
theorem dX4_branch_4 : decode cX4_branch 4 = .ok (.iconst 1, 1) := by decide +kernel
theorem dX4_branch_5 : decode cX4_branch 5 = .ok (.aaload, 1) := by decide +kernel
theorem dX4_branch_6 : decode cX4_branch 6 = .ok (.aload_n 0, 1) := by decide +kernel
theorem dX4_branch_7 : decode cX4_branch 7 = .ok (.getfield 12, 3) := by decide +kernel
theorem dX4_branch_10 : decode cX4_branch 10 = .ok (.iconst 0, 1) := by decide +kernel
theorem dX4_branch_11 : decode cX4_branch 11 = .ok (.aaload, 1) := by decide +kernel
theorem dX4_branch_12 : decode cX4_branch 12 = .ok (.invokevirtual 71, 3) := by decide +kernel
theorem dX4_branch_15 : decode cX4_branch 15 = .ok (.aload_n 0, 1) := by decide +kernel
theorem dX4_branch_16 : decode cX4_branch 16 = .ok (.iconst 1, 1) := by decide +kernel
theorem dX4_branch_17 : decode cX4_branch 17 = .ok (.putfield 27, 3) := by decide +kernel
theorem dX4_branch_20 : decode cX4_branch 20 = .ok (.aload_n 0, 1) := by decide +kernel
theorem dX4_branch_21 : decode cX4_branch 21 = .ok (.getfield 12, 3) := by decide +kernel
theorem dX4_branch_24 : decode cX4_branch 24 = .ok (.iconst 1, 1) := by decide +kernel
theorem dX4_branch_25 : decode cX4_branch 25 = .ok (.aaload, 1) := by decide +kernel
theorem dX4_branch_26 : decode cX4_branch 26 = .ok (.getfield 38, 3) := by decide +kernel
theorem dX4_branch_29 : decode cX4_branch 29 = .ok (.invokevirtual 75, 3) := by decide +kernel
theorem dX4_branch_32 : decode cX4_branch 32 = .ok (.ireturn, 1) := by decide +kernel
set_option maxRecDepth 20000 in
theorem ggX4_write_X4_isWithin : GoodIn wsX4_write wsX4_isWithin := goodIn_r _ [5] (by decide +kernel) (by decide +kernel)
set_option maxRecDepth 20000 in
theorem gX4_write_X4_isWithin : GoodIn wsX4_write (va_wsS RX4 34 yX4_isWithin wsX4_isWithin) := goodIn_app (goodIn_of _ (by decide +kernel)) ggX4_write_X4_isWithin
theorem dX4_write_0 : decode cX4_write 0 = .ok (.iload_n 1, 1) := by decide +kernel
theorem dX4_write_1 : decode cX4_write 1 = .ok (.iconst 2, 1) := by decide +kernel
theorem dX4_write_2 : decode cX4_write 2 = .ok (.invokestatic 34, 3) := by decide +kernel
theorem dX4_write_5 : decode cX4_write 5 = .ok (.ifCond .ne 5, 3) := by decide +kernel
theorem dX4_write_8 : decode cX4_write 8 = .ok (.iconst 0, 1) := by decide +kernel
theorem dX4_write_9 : decode cX4_write 9 = .ok (.ireturn, 1) := by decide +kernel
theorem dX4_write_10 : decode cX4_write 10 = .ok (.aload_n 0, 1) := by decide +kernel
theorem dX4_write_11 : decode cX4_write 11 = .ok (.iload_n 1, 1) := by decide +kernel
theorem dX4_write_12 : decode cX4_write 12 = .ok (.putfield 27, 3) := by decide +kernel
theorem dX4_write_15 : decode cX4_write 15 = .ok (.iconst 1, 1) := by decide +kernel
theorem dX4_write_16 : decode cX4_write 16 = .ok (.ireturn, 1) := by decide +kernel
set_option maxRecDepth 20000 in
theorem ggX4_refer_X4_isWithin : GoodIn wsX4_refer wsX4_isWithin := goodIn_r _ [6] (by decide +kernel) (by decide +kernel)
set_option maxRecDepth 20000 in
theorem gX4_refer_X4_isWithin : GoodIn wsX4_refer (va_wsS RX4 34 yX4_isWithin wsX4_isWithin) := goodIn_app (goodIn_of _ (by decide +kernel)) ggX4_refer_X4_isWithin
set_option maxRecDepth 20000 in
theorem ggX4_refer_X3_put : GoodIn wsX4_refer wsX3_put := goodIn_r _ [11, 12, 13, 14, 15, 20, 21, 22, 23] (by decide +kernel) (by decide +kernel)
set_option maxRecDepth 20000 in
theorem gX4_refer_X3_put : GoodIn wsX4_refer (wsV RX4 79 RX3 yX3_put wsX3_put) := goodIn_app (goodIn_of _ (by decide +kernel)) ggX4_refer_X3_put
theorem dX4_refer_0 : decode cX4_refer 0 = .ok (.iload_n 1, 1) := by decide +kernel
theorem dX4_refer_1 : decode cX4_refer 1 = .ok (.bipush 9, 2) := by decide +kernel
theorem dX4_refer_3 : decode cX4_refer 3 = .ok (.invokestatic 34, 3) := by decide +kernel
theorem dX4_refer_6 : decode cX4_refer 6 = .ok (.ifCond .eq 31, 3) := by decide +kernel
theorem dX4_refer_9 : decode cX4_refer 9 = .ok (.iload_n 2, 1) := by decide +kernel
theorem dX4_refer_10 : decode cX4_refer 10 = .ok (.bipush 12, 2) := by decide +kernel
theorem dX4_refer_12 : decode cX4_refer 12 = .ok (.invokestatic 34, 3) := by decide +kernel
theorem dX4_refer_15 : decode cX4_refer 15 = .ok (.ifCond .eq 22, 3) := by decide +kernel
theorem dX4_refer_18 : decode cX4_refer 18 = .ok (.iload_n 3, 1) := by decide +kernel
theorem dX4_refer_19 : decode cX4_refer 19 = .ok (.bipush 12, 2) := by decide +kernel
theorem dX4_refer_21 : decode cX4_refer 21 = .ok (.invokestatic 34, 3) := by decide +kernel
theorem dX4_refer_24 : decode cX4_refer 24 = .ok (.ifCond .eq 13, 3) := by decide +kernel
theorem dX4_refer_27 : decode cX4_refer 27 = .ok (.iload 4, 2) := by decide +kernel
theorem dX4_refer_29 : decode cX4_refer 29 = .ok (.bipush 15, 2) := by decide +kernel
theorem dX4_refer_31 : decode cX4_refer 31 = .ok (.invokestatic 34, 3) := by decide +kernel
theorem dX4_refer_34 : decode cX4_refer 34 = .ok (.ifCond .ne 5, 3) := by decide +kernel
theorem dX4_refer_37 : decode cX4_refer 37 = .ok (.iconst (-1), 1) := by decide +kernel
theorem dX4_refer_38 : decode cX4_refer 38 = .ok (.ireturn, 1) := by decide +kernel
theorem dX4_refer_39 : decode cX4_refer 39 = .ok (.aload_n 0, 1) := by decide +kernel
theorem dX4_refer_40 : decode cX4_refer 40 = .ok (.getfield 23, 3) := by decide +kernel
theorem dX4_refer_43 : decode cX4_refer 43 = .ok (.bipush 16, 2) := by decide +kernel
theorem dX4_refer_45 : decode cX4_refer 45 = .ok (.if_icmp .lt 6, 3) := by decide +kernel
theorem dX4_refer_48 : decode cX4_refer 48 = .ok (.bipush (-3), 2) := by decide +kernel
theorem dX4_refer_50 : decode cX4_refer 50 = .ok (.ireturn, 1) := by decide +kernel
theorem dX4_refer_51 : decode cX4_refer 51 = .ok (.aload_n 0, 1) := by decide +kernel
theorem dX4_refer_52 : decode cX4_refer 52 = .ok (.getfield 18, 3) := by decide +kernel
theorem dX4_refer_55 : decode cX4_refer 55 = .ok (.aload_n 0, 1) := by decide +kernel
theorem dX4_refer_56 : decode cX4_refer 56 = .ok (.getfield 23, 3) := by decide +kernel
theorem dX4_refer_59 : decode cX4_refer 59 = .ok (.aaload, 1) := by decide +kernel
theorem dX4_refer_60 : decode cX4_refer 60 = .ok (.iload_n 1, 1) := by decide +kernel
theorem dX4_refer_61 : decode cX4_refer 61 = .ok (.iload_n 2, 1) := by decide +kernel
theorem dX4_refer_62 : decode cX4_refer 62 = .ok (.iload_n 3, 1) := by decide +kernel
theorem dX4_refer_63 : decode cX4_refer 63 = .ok (.iload 4, 2) := by decide +kernel
theorem dX4_refer_65 : decode cX4_refer 65 = .ok (.invokevirtual 79, 3) := by decide +kernel
theorem dX4_refer_68 : decode cX4_refer 68 = .ok (.aload_n 0, 1) := by decide +kernel
theorem dX4_refer_69 : decode cX4_refer 69 = .ok (.dup, 1) := by decide +kernel
theorem dX4_refer_70 : decode cX4_refer 70 = .ok (.getfield 23, 3) := by decide +kernel
theorem dX4_refer_73 : decode cX4_refer 73 = .ok (.iconst 1, 1) := by decide +kernel
theorem dX4_refer_74 : decode cX4_refer 74 = .ok (.iadd, 1) := by decide +kernel
theorem dX4_refer_75 : decode cX4_refer 75 = .ok (.putfield 23, 3) := by decide +kernel
theorem dX4_refer_78 : decode cX4_refer 78 = .ok (.aload_n 0, 1) := by decide +kernel
theorem dX4_refer_79 : decode cX4_refer 79 = .ok (.getfield 23, 3) := by decide +kernel
theorem dX4_refer_82 : decode cX4_refer 82 = .ok (.iconst 1, 1) := by decide +kernel
theorem dX4_refer_83 : decode cX4_refer 83 = .ok (.isub, 1) := by decide +kernel
theorem dX4_refer_84 : decode cX4_refer 84 = .ok (.ireturn, 1) := by decide +kernel
theorem dX4_forget_0 : decode cX4_forget 0 = .ok (.aload_n 0, 1) := by decide +kernel
theorem dX4_forget_1 : decode cX4_forget 1 = .ok (.getfield 23, 3) := by decide +kernel
theorem dX4_forget_4 : decode cX4_forget 4 = .ok (.istore_n 1, 1) := by decide +kernel
theorem dX4_forget_5 : decode cX4_forget 5 = .ok (.aload_n 0, 1) := by decide +kernel
theorem dX4_forget_6 : decode cX4_forget 6 = .ok (.iconst 0, 1) := by decide +kernel
theorem dX4_forget_7 : decode cX4_forget 7 = .ok (.putfield 23, 3) := by decide +kernel
theorem dX4_forget_10 : decode cX4_forget 10 = .ok (.iload_n 1, 1) := by decide +kernel
theorem dX4_forget_11 : decode cX4_forget 11 = .ok (.ireturn, 1) := by decide +kernel
set_option maxRecDepth 20000 in
theorem ggX4_load_X4_isWithin : GoodIn wsX4_load wsX4_isWithin := goodIn_r _ [5] (by decide +kernel) (by decide +kernel)
set_option maxRecDepth 20000 in
theorem gX4_load_X4_isWithin : GoodIn wsX4_load (va_wsS RX4 34 yX4_isWithin wsX4_isWithin) := goodIn_app (goodIn_of _ (by decide +kernel)) ggX4_load_X4_isWithin
set_option maxRecDepth 20000 in
theorem ggX4_load_X1_loading : GoodIn wsX4_load wsX1_loading := goodIn_r _ [10, 11, 19, 20, 21, 22, 23, 24, 25, 26, 27, 28] (by decide +kernel) (by decide +kernel)
set_option maxRecDepth 20000 in
theorem gX4_load_X1_loading : GoodIn wsX4_load (wsV RX4 83 RX1 yX1_loading wsX1_loading) := goodIn_app (goodIn_of _ (by decide +kernel)) ggX4_load_X1_loading
theorem dX4_load_0 : decode cX4_load 0 = .ok (.iload_n 1, 1) := by decide +kernel
theorem dX4_load_1 : decode cX4_load 1 = .ok (.iconst 2, 1) := by decide +kernel
theorem dX4_load_2 : decode cX4_load 2 = .ok (.invokestatic 34, 3) := by decide +kernel
theorem dX4_load_5 : decode cX4_load 5 = .ok (.ifCond .eq 12, 3) := by decide +kernel
theorem dX4_load_8 : decode cX4_load 8 = .ok (.iload_n 2, 1) := by decide +kernel
theorem dX4_load_9 : decode cX4_load 9 = .ok (.bipush 12, 2) := by decide +kernel
theorem dX4_load_11 : decode cX4_load 11 = .ok (.invokestatic 34, 3) := by decide +kernel
theorem dX4_load_14 : decode cX4_load 14 = .ok (.ifCond .ne 5, 3) := by decide +kernel
theorem dX4_load_17 : decode cX4_load 17 = .ok (.iconst (-1), 1) := by decide +kernel
theorem dX4_load_18 : decode cX4_load 18 = .ok (.ireturn, 1) := by decide +kernel
theorem dX4_load_19 : decode cX4_load 19 = .ok (.aload_n 0, 1) := by decide +kernel
theorem dX4_load_20 : decode cX4_load 20 = .ok (.getfield 12, 3) := by decide +kernel
theorem dX4_load_23 : decode cX4_load 23 = .ok (.iload_n 1, 1) := by decide +kernel
theorem dX4_load_24 : decode cX4_load 24 = .ok (.aaload, 1) := by decide +kernel
theorem dX4_load_25 : decode cX4_load 25 = .ok (.getfield 38, 3) := by decide +kernel
theorem dX4_load_28 : decode cX4_load 28 = .ok (.iload_n 2, 1) := by decide +kernel
theorem dX4_load_29 : decode cX4_load 29 = .ok (.invokevirtual 83, 3) := by decide +kernel
theorem dX4_load_32 : decode cX4_load 32 = .ok (.ireturn, 1) := by decide +kernel
set_option maxRecDepth 20000 in
theorem ggX4_resolve_X4_isWithin : GoodIn wsX4_resolve wsX4_isWithin := goodIn_r _ [7] (by decide +kernel) (by decide +kernel)
set_option maxRecDepth 20000 in
theorem gX4_resolve_X4_isWithin : GoodIn wsX4_resolve (va_wsS RX4 34 yX4_isWithin wsX4_isWithin) := goodIn_app (goodIn_of _ (by decide +kernel)) ggX4_resolve_X4_isWithin
set_option maxRecDepth 20000 in
theorem ggX4_resolve_X0_resolution : GoodIn wsX4_resolve wsX0_resolution := goodIn_r _ [12, 13, 14, 15, 16, 17, 18, 19, 20, 6, 21, 4, 5, 7, 22, 23, 24, 25, 26, 27, 28, 29, 30, 31, 32, 33, 34, 35, 36, 37, 38, 39, 40, 11, 41, 42, 43, 44, 45, 46, 47, 48, 49, 50, 51, 52, 53, 54, 55, 56, 57, 58, 59, 60, 61, 62, 63, 64, 65, 66, 67, 68, 69, 70, 71, 72, 73, 74, 75, 76, 77, 78, 79, 80, 81, 82, 83, 84, 85, 86, 87, 88, 89, 90, 91, 92, 93, 94, 95, 96, 97, 98, 99, 100, 101, 102, 103, 104, 105, 106, 107, 108, 109, 110, 111, 112, 113, 114, 115, 116, 117, 118, 119, 120, 121, 122, 123, 124, 125, 126, 127, 128, 129, 130, 131, 132, 133, 134, 135, 136, 137, 138, 139, 140, 141, 142, 143, 144, 145, 146, 147, 148, 149, 150, 151, 152, 153, 154, 155, 156, 157, 158, 159, 160, 161, 162, 163, 164, 165, 166, 167, 168, 169, 170, 171, 172, 173, 174, 175, 176, 177, 178, 179, 180, 181, 182, 183, 184, 189, 190, 191, 192, 193, 194, 195, 196, 197, 198, 199, 200, 201, 202, 203, 204, 205, 206, 207, 208, 209, 210, 211] (by decide +kernel) (by decide +kernel)
set_option maxRecDepth 20000 in
theorem gX4_resolve_X0_resolution : GoodIn wsX4_resolve (wsV RX4 87 RX0 yX0_resolution wsX0_resolution) := goodIn_app (goodIn_of _ (by decide +kernel)) ggX4_resolve_X0_resolution
theorem dX4_resolve_0 : decode cX4_resolve 0 = .ok (.iload_n 1, 1) := by decide +kernel
theorem dX4_resolve_1 : decode cX4_resolve 1 = .ok (.iconst 2, 1) := by decide +kernel
theorem dX4_resolve_2 : decode cX4_resolve 2 = .ok (.invokestatic 34, 3) := by decide +kernel
theorem dX4_resolve_5 : decode cX4_resolve 5 = .ok (.ifCond .eq 14, 3) := by decide +kernel
theorem dX4_resolve_8 : decode cX4_resolve 8 = .ok (.iload_n 2, 1) := by decide +kernel
theorem dX4_resolve_9 : decode cX4_resolve 9 = .ok (.aload_n 0, 1) := by decide +kernel
theorem dX4_resolve_10 : decode cX4_resolve 10 = .ok (.getfield 23, 3) := by decide +kernel
theorem dX4_resolve_13 : decode cX4_resolve 13 = .ok (.invokestatic 34, 3) := by decide +kernel
theorem dX4_resolve_16 : decode cX4_resolve 16 = .ok (.ifCond .ne 5, 3) := by decide +kernel
theorem dX4_resolve_19 : decode cX4_resolve 19 = .ok (.iconst (-1), 1) := by decide +kernel
theorem dX4_resolve_20 : decode cX4_resolve 20 = .ok (.ireturn, 1) := by decide +kernel
theorem dX4_resolve_21 : decode cX4_resolve 21 = .ok (.aload_n 0, 1) := by decide +kernel
theorem dX4_resolve_22 : decode cX4_resolve 22 = .ok (.getfield 12, 3) := by decide +kernel
theorem dX4_resolve_25 : decode cX4_resolve 25 = .ok (.iload_n 1, 1) := by decide +kernel
theorem dX4_resolve_26 : decode cX4_resolve 26 = .ok (.aaload, 1) := by decide +kernel
theorem dX4_resolve_27 : decode cX4_resolve 27 = .ok (.aload_n 0, 1) := by decide +kernel
theorem dX4_resolve_28 : decode cX4_resolve 28 = .ok (.getfield 18, 3) := by decide +kernel
theorem dX4_resolve_31 : decode cX4_resolve 31 = .ok (.iload_n 2, 1) := by decide +kernel
theorem dX4_resolve_32 : decode cX4_resolve 32 = .ok (.aaload, 1) := by decide +kernel
theorem dX4_resolve_33 : decode cX4_resolve 33 = .ok (.invokevirtual 87, 3) := by decide +kernel
theorem dX4_resolve_36 : decode cX4_resolve 36 = .ok (.ireturn, 1) := by decide +kernel
set_option maxRecDepth 20000 in
theorem ggX4_select_X4_isWithin : GoodIn wsX4_select wsX4_isWithin := goodIn_r _ [7] (by decide +kernel) (by decide +kernel)
set_option maxRecDepth 20000 in
theorem gX4_select_X4_isWithin : GoodIn wsX4_select (va_wsS RX4 34 yX4_isWithin wsX4_isWithin) := goodIn_app (goodIn_of _ (by decide +kernel)) ggX4_select_X4_isWithin
set_option maxRecDepth 20000 in
theorem ggX4_select_X0_resolution : GoodIn wsX4_select wsX0_resolution := goodIn_r _ [12, 13, 14, 15, 16, 17, 18, 19, 20, 6, 21, 4, 5, 7, 22, 23, 24, 25, 26, 27, 28, 29, 30, 31, 32, 33, 34, 35, 36, 37, 38, 39, 40, 11, 41, 42, 43, 44, 45, 46, 47, 48, 49, 50, 51, 52, 53, 54, 55, 56, 57, 58, 59, 60, 61, 62, 63, 64, 65, 66, 67, 68, 69, 70, 71, 72, 73, 74, 75, 76, 77, 78, 79, 80, 81, 82, 83, 84, 85, 86, 87, 88, 89, 90, 91, 92, 93, 94, 95, 96, 97, 98, 99, 100, 101, 102, 103, 104, 105, 106, 107, 108, 109, 110, 111, 112, 113, 114, 115, 116, 117, 118, 119, 120, 121, 122, 123, 124, 125, 126, 127, 128, 129, 130, 131, 132, 133, 134, 135, 136, 137, 138, 139, 140, 141, 142, 143, 144, 145, 146, 147, 148, 149, 150, 151, 152, 153, 154, 155, 156, 157, 158, 159, 160, 161, 162, 163, 164, 165, 166, 167, 168, 169, 170, 171, 172, 173, 174, 175, 176, 177, 178, 179, 180, 181, 182, 183, 184, 222, 223, 224, 225, 226, 227, 228, 229, 230, 231, 232, 233, 234, 235, 236, 237, 238, 239, 240, 241, 242, 243, 244] (by decide +kernel) (by decide +kernel)
set_option maxRecDepth 20000 in
theorem gX4_select_X0_resolution : GoodIn wsX4_select (wsV RX4 87 RX0 yX0_resolution wsX0_resolution) := goodIn_app (goodIn_of _ (by decide +kernel)) ggX4_select_X0_resolution
set_option maxRecDepth 20000 in
theorem ggX4_select_X0_selection : GoodIn wsX4_select wsX0_selection := goodIn_r _ [188, 47, 189, 190, 191, 35, 192, 37, 20, 6, 21, 4, 5, 7, 193, 194, 195, 11, 196, 13, 14, 15, 16, 17, 18, 19, 197, 198, 199, 200, 26, 159, 160, 161, 162, 158, 108, 48, 49, 86, 87, 88, 55, 89, 90, 201, 202, 203, 204, 52, 53, 54, 56, 57, 58, 59, 60, 61, 62, 63, 205, 206, 207, 208, 209, 114, 115, 116, 95, 145, 146, 147, 148, 149, 28, 29, 30, 31, 69, 70, 71, 72, 73, 210, 211, 212, 213, 104, 105, 106, 107, 109, 110, 111, 112, 113, 50, 51, 117, 118, 119, 120, 121, 122, 123, 124, 125, 126, 127, 128, 214, 215, 216, 217, 225, 226, 227, 228, 222, 223, 224, 229, 230, 231, 232, 233, 234, 235, 236, 237, 238, 239, 240, 241, 242, 243, 244] (by decide +kernel) (by decide +kernel)
set_option maxRecDepth 20000 in
theorem gX4_select_X0_selection : GoodIn wsX4_select (wsV RX4 91 RX0 yX0_selection wsX0_selection) := goodIn_app (goodIn_of _ (by decide +kernel)) ggX4_select_X0_selection
theorem dX4_select_0 : decode cX4_select 0 = .ok (.iload_n 1, 1) := by decide +kernel
theorem dX4_select_1 : decode cX4_select 1 = .ok (.iconst 2, 1) := by decide +kernel
theorem dX4_select_2 : decode cX4_select 2 = .ok (.invokestatic 34, 3) := by decide +kernel
theorem dX4_select_5 : decode cX4_select 5 = .ok (.ifCond .eq 23, 3) := by decide +kernel
theorem dX4_select_8 : decode cX4_select 8 = .ok (.iload_n 2, 1) := by decide +kernel
theorem dX4_select_9 : decode cX4_select 9 = .ok (.aload_n 0, 1) := by decide +kernel
theorem dX4_select_10 : decode cX4_select 10 = .ok (.getfield 23, 3) := by decide +kernel
theorem dX4_select_13 : decode cX4_select 13 = .ok (.invokestatic 34, 3) := by decide +kernel
theorem dX4_select_16 : decode cX4_select 16 = .ok (.ifCond .eq 12, 3) := by decide +kernel
theorem dX4_select_19 : decode cX4_select 19 = .ok (.iload_n 3, 1) := by decide +kernel
theorem dX4_select_20 : decode cX4_select 20 = .ok (.bipush 12, 2) := by decide +kernel
theorem dX4_select_22 : decode cX4_select 22 = .ok (.invokestatic 34, 3) := by decide +kernel
theorem dX4_select_25 : decode cX4_select 25 = .ok (.ifCond .ne 5, 3) := by decide +kernel
theorem dX4_select_28 : decode cX4_select 28 = .ok (.iconst (-1), 1) := by decide +kernel
theorem dX4_select_29 : decode cX4_select 29 = .ok (.ireturn, 1) := by decide +kernel
theorem dX4_select_30 : decode cX4_select 30 = .ok (.aload_n 0, 1) := by decide +kernel
theorem dX4_select_31 : decode cX4_select 31 = .ok (.getfield 18, 3) := by decide +kernel
theorem dX4_select_34 : decode cX4_select 34 = .ok (.iload_n 2, 1) := by decide +kernel
theorem dX4_select_35 : decode cX4_select 35 = .ok (.aaload, 1) := by decide +kernel
theorem dX4_select_36 : decode cX4_select 36 = .ok (.astore 4, 2) := by decide +kernel
theorem dX4_select_38 : decode cX4_select 38 = .ok (.aload_n 0, 1) := by decide +kernel
theorem dX4_select_39 : decode cX4_select 39 = .ok (.getfield 12, 3) := by decide +kernel
theorem dX4_select_42 : decode cX4_select 42 = .ok (.iload_n 1, 1) := by decide +kernel
theorem dX4_select_43 : decode cX4_select 43 = .ok (.aaload, 1) := by decide +kernel
theorem dX4_select_44 : decode cX4_select 44 = .ok (.aload 4, 2) := by decide +kernel
theorem dX4_select_46 : decode cX4_select 46 = .ok (.aload_n 0, 1) := by decide +kernel
theorem dX4_select_47 : decode cX4_select 47 = .ok (.getfield 12, 3) := by decide +kernel
theorem dX4_select_50 : decode cX4_select 50 = .ok (.iload_n 1, 1) := by decide +kernel
theorem dX4_select_51 : decode cX4_select 51 = .ok (.aaload, 1) := by decide +kernel
theorem dX4_select_52 : decode cX4_select 52 = .ok (.aload 4, 2) := by decide +kernel
theorem dX4_select_54 : decode cX4_select 54 = .ok (.invokevirtual 87, 3) := by decide +kernel
theorem dX4_select_57 : decode cX4_select 57 = .ok (.iload_n 3, 1) := by decide +kernel
theorem dX4_select_58 : decode cX4_select 58 = .ok (.invokevirtual 91, 3) := by decide +kernel
theorem dX4_select_61 : decode cX4_select 61 = .ok (.ireturn, 1) := by decide +kernel
set_option maxRecDepth 20000 in
theorem ggX4_compare_X4_isWithin : GoodIn wsX4_compare wsX4_isWithin := goodIn_r _ [7] (by decide +kernel) (by decide +kernel)
set_option maxRecDepth 20000 in
theorem gX4_compare_X4_isWithin : GoodIn wsX4_compare (va_wsS RX4 34 yX4_isWithin wsX4_isWithin) := goodIn_app (goodIn_of _ (by decide +kernel)) ggX4_compare_X4_isWithin
set_option maxRecDepth 20000 in
theorem ggX4_compare_X0_resolution : GoodIn wsX4_compare wsX0_resolution := goodIn_r _ [12, 13, 14, 15, 16, 17, 18, 19, 20, 6, 21, 4, 5, 7, 22, 23, 24, 25, 26, 27, 28, 29, 30, 31, 32, 33, 34, 35, 36, 37, 38, 39, 40, 11, 41, 42, 43, 44, 45, 46, 47, 48, 49, 50, 51, 52, 53, 54, 55, 56, 57, 58, 59, 60, 61, 62, 63, 64, 65, 66, 67, 68, 69, 70, 71, 72, 73, 74, 75, 76, 77, 78, 79, 80, 81, 82, 83, 84, 85, 86, 87, 88, 89, 90, 91, 92, 93, 94, 95, 96, 97, 98, 99, 100, 101, 102, 103, 104, 105, 106, 107, 108, 109, 110, 111, 112, 113, 114, 115, 116, 117, 118, 119, 120, 121, 122, 123, 124, 125, 126, 127, 128, 129, 130, 131, 132, 133, 134, 135, 136, 137, 138, 139, 140, 141, 142, 143, 144, 145, 146, 147, 148, 149, 150, 151, 152, 153, 154, 155, 156, 157, 158, 159, 160, 161, 162, 163, 164, 165, 166, 167, 168, 169, 170, 171, 172, 173, 174, 175, 176, 177, 178, 179, 180, 181, 182, 183, 184, 198, 199, 200, 201, 202, 203, 204, 205, 206, 207, 208, 209, 210, 211, 212, 213, 214, 215, 216, 217, 218, 219, 220] (by decide +kernel) (by decide +kernel)
set_option maxRecDepth 20000 in
theorem gX4_compare_X0_resolution : GoodIn wsX4_compare (wsV RX4 87 RX0 yX0_resolution wsX0_resolution) := goodIn_app (goodIn_of _ (by decide +kernel)) ggX4_compare_X0_resolution
set_option maxRecDepth 20000 in
theorem ggX4_compare_X4_areAlike : GoodIn wsX4_compare wsX4_areAlike := goodIn_r _ [188, 2, 189, 190, 191, 55, 192, 59, 58, 194, 195, 196, 197, 198, 199, 200, 215, 216, 217, 218, 219, 220] (by decide +kernel) (by decide +kernel)
set_option maxRecDepth 20000 in
theorem gX4_compare_X4_areAlike : GoodIn wsX4_compare (wsV RX4 95 RX4 yX4_areAlike wsX4_areAlike) := goodIn_app (goodIn_of _ (by decide +kernel)) ggX4_compare_X4_areAlike
set_option maxRecDepth 20000 in
theorem ggX4_compare_X4_isGood : GoodIn wsX4_compare wsX4_isGood := goodIn_r _ [21, 4, 5, 6, 7] (by decide +kernel) (by decide +kernel)
set_option maxRecDepth 20000 in
theorem gX4_compare_X4_isGood : GoodIn wsX4_compare (va_wsS RX4 98 yX4_isGood wsX4_isGood) := goodIn_app (goodIn_of _ (by decide +kernel)) ggX4_compare_X4_isGood
theorem dX4_compare_0 : decode cX4_compare 0 = .ok (.iload_n 1, 1) := by decide +kernel
theorem dX4_compare_1 : decode cX4_compare 1 = .ok (.aload_n 0, 1) := by decide +kernel
theorem dX4_compare_2 : decode cX4_compare 2 = .ok (.getfield 23, 3) := by decide +kernel
theorem dX4_compare_5 : decode cX4_compare 5 = .ok (.invokestatic 34, 3) := by decide +kernel
theorem dX4_compare_8 : decode cX4_compare 8 = .ok (.ifCond .ne 5, 3) := by decide +kernel
theorem dX4_compare_11 : decode cX4_compare 11 = .ok (.iconst (-1), 1) := by decide +kernel
theorem dX4_compare_12 : decode cX4_compare 12 = .ok (.ireturn, 1) := by decide +kernel
theorem dX4_compare_13 : decode cX4_compare 13 = .ok (.aload_n 0, 1) := by decide +kernel
theorem dX4_compare_14 : decode cX4_compare 14 = .ok (.getfield 12, 3) := by decide +kernel
theorem dX4_compare_17 : decode cX4_compare 17 = .ok (.iconst 0, 1) := by decide +kernel
theorem dX4_compare_18 : decode cX4_compare 18 = .ok (.aaload, 1) := by decide +kernel
theorem dX4_compare_19 : decode cX4_compare 19 = .ok (.aload_n 0, 1) := by decide +kernel
theorem dX4_compare_20 : decode cX4_compare 20 = .ok (.getfield 18, 3) := by decide +kernel
theorem dX4_compare_23 : decode cX4_compare 23 = .ok (.iload_n 1, 1) := by decide +kernel
theorem dX4_compare_24 : decode cX4_compare 24 = .ok (.aaload, 1) := by decide +kernel
theorem dX4_compare_25 : decode cX4_compare 25 = .ok (.invokevirtual 87, 3) := by decide +kernel
theorem dX4_compare_28 : decode cX4_compare 28 = .ok (.istore_n 2, 1) := by decide +kernel
theorem dX4_compare_29 : decode cX4_compare 29 = .ok (.aload_n 0, 1) := by decide +kernel
theorem dX4_compare_30 : decode cX4_compare 30 = .ok (.getfield 12, 3) := by decide +kernel
theorem dX4_compare_33 : decode cX4_compare 33 = .ok (.iconst 1, 1) := by decide +kernel
theorem dX4_compare_34 : decode cX4_compare 34 = .ok (.aaload, 1) := by decide +kernel
theorem dX4_compare_35 : decode cX4_compare 35 = .ok (.aload_n 0, 1) := by decide +kernel
theorem dX4_compare_36 : decode cX4_compare 36 = .ok (.getfield 18, 3) := by decide +kernel
theorem dX4_compare_39 : decode cX4_compare 39 = .ok (.iload_n 1, 1) := by decide +kernel
theorem dX4_compare_40 : decode cX4_compare 40 = .ok (.aaload, 1) := by decide +kernel
theorem dX4_compare_41 : decode cX4_compare 41 = .ok (.invokevirtual 87, 3) := by decide +kernel
theorem dX4_compare_44 : decode cX4_compare 44 = .ok (.istore_n 3, 1) := by decide +kernel
theorem dX4_compare_45 : decode cX4_compare 45 = .ok (.aload_n 0, 1) := by decide +kernel
theorem dX4_compare_46 : decode cX4_compare 46 = .ok (.iload_n 2, 1) := by decide +kernel
theorem dX4_compare_47 : decode cX4_compare 47 = .ok (.iload_n 3, 1) := by decide +kernel
theorem dX4_compare_48 : decode cX4_compare 48 = .ok (.invokevirtual 95, 3) := by decide +kernel
theorem dX4_compare_51 : decode cX4_compare 51 = .ok (.ifCond .eq 5, 3) := by decide +kernel
theorem dX4_compare_54 : decode cX4_compare 54 = .ok (.iconst 0, 1) := by decide +kernel
theorem dX4_compare_55 : decode cX4_compare 55 = .ok (.ireturn, 1) := by decide +kernel
theorem dX4_compare_56 : decode cX4_compare 56 = .ok (.iload_n 2, 1) := by decide +kernel
theorem dX4_compare_57 : decode cX4_compare 57 = .ok (.invokestatic 98, 3) := by decide +kernel
theorem dX4_compare_60 : decode cX4_compare 60 = .ok (.ifCond .eq 16, 3) := by decide +kernel
theorem dX4_compare_63 : decode cX4_compare 63 = .ok (.iload_n 3, 1) := by decide +kernel
theorem dX4_compare_64 : decode cX4_compare 64 = .ok (.invokestatic 98, 3) := by decide +kernel
theorem dX4_compare_67 : decode cX4_compare 67 = .ok (.ifCond .eq 7, 3) := by decide +kernel
theorem dX4_compare_70 : decode cX4_compare 70 = .ok (.iconst 3, 1) := by decide +kernel
theorem dX4_compare_71 : decode cX4_compare 71 = .ok (.goto 4, 3) := by decide +kernel
theorem dX4_compare_74 : decode cX4_compare 74 = .ok (.iconst 1, 1) := by decide +kernel
theorem dX4_compare_75 : decode cX4_compare 75 = .ok (.ireturn, 1) := by decide +kernel
theorem dX4_compare_76 : decode cX4_compare 76 = .ok (.iload_n 3, 1) := by decide +kernel
theorem dX4_compare_77 : decode cX4_compare 77 = .ok (.invokestatic 98, 3) := by decide +kernel
theorem dX4_compare_80 : decode cX4_compare 80 = .ok (.ifCond .eq 7, 3) := by decide +kernel
theorem dX4_compare_83 : decode cX4_compare 83 = .ok (.iconst 2, 1) := by decide +kernel
theorem dX4_compare_84 : decode cX4_compare 84 = .ok (.goto 4, 3) := by decide +kernel
theorem dX4_compare_87 : decode cX4_compare 87 = .ok (.iconst 4, 1) := by decide +kernel
theorem dX4_compare_88 : decode cX4_compare 88 = .ok (.ireturn, 1) := by decide +kernel
set_option maxRecDepth 20000 in
theorem ggX4_receivers_X4_isWithin : GoodIn wsX4_receivers wsX4_isWithin := goodIn_r _ [7] (by decide +kernel) (by decide +kernel)
set_option maxRecDepth 20000 in
theorem gX4_receivers_X4_isWithin : GoodIn wsX4_receivers (va_wsS RX4 34 yX4_isWithin wsX4_isWithin) := goodIn_app (goodIn_of _ (by decide +kernel)) ggX4_receivers_X4_isWithin
set_option maxRecDepth 20000 in
theorem ggX4_receivers_X0_resolution : GoodIn wsX4_receivers wsX0_resolution := goodIn_r _ [12, 13, 14, 15, 16, 17, 18, 19, 20, 6, 21, 4, 5, 7, 22, 23, 24, 25, 26, 27, 28, 29, 30, 31, 32, 33, 34, 35, 36, 37, 38, 39, 40, 11, 41, 42, 43, 44, 45, 46, 47, 48, 49, 50, 51, 52, 53, 54, 55, 56, 57, 58, 59, 60, 61, 62, 63, 64, 65, 66, 67, 68, 69, 70, 71, 72, 73, 74, 75, 76, 77, 78, 79, 80, 81, 82, 83, 84, 85, 86, 87, 88, 89, 90, 91, 92, 93, 94, 95, 96, 97, 98, 99, 100, 101, 102, 103, 104, 105, 106, 107, 108, 109, 110, 111, 112, 113, 114, 115, 116, 117, 118, 119, 120, 121, 122, 123, 124, 125, 126, 127, 128, 129, 130, 131, 132, 133, 134, 135, 136, 137, 138, 139, 140, 141, 142, 143, 144, 145, 146, 147, 148, 149, 150, 151, 152, 153, 154, 155, 156, 157, 158, 159, 160, 161, 162, 163, 164, 165, 166, 167, 168, 169, 170, 171, 172, 173, 174, 175, 176, 177, 178, 179, 180, 181, 182, 183, 184, 235, 236, 237, 238, 239, 240, 241, 242, 243, 244, 245, 246, 247, 248, 249, 250, 251, 252, 253, 254, 255, 256, 257] (by decide +kernel) (by decide +kernel)
set_option maxRecDepth 20000 in
theorem gX4_receivers_X0_resolution : GoodIn wsX4_receivers (wsV RX4 87 RX0 yX0_resolution wsX0_resolution) := goodIn_app (goodIn_of _ (by decide +kernel)) ggX4_receivers_X0_resolution
set_option maxRecDepth 20000 in
theorem ggX4_receivers_X0_selection : GoodIn wsX4_receivers wsX0_selection := goodIn_r _ [188, 47, 189, 190, 191, 35, 192, 37, 20, 6, 21, 4, 5, 7, 193, 194, 195, 11, 196, 13, 14, 15, 16, 17, 18, 19, 197, 198, 199, 200, 26, 159, 160, 161, 162, 158, 108, 48, 49, 86, 87, 88, 55, 89, 90, 201, 202, 203, 204, 52, 53, 54, 56, 57, 58, 59, 60, 61, 62, 63, 205, 206, 207, 208, 209, 114, 115, 116, 95, 145, 146, 147, 148, 149, 28, 29, 30, 31, 69, 70, 71, 72, 73, 210, 211, 212, 213, 104, 105, 106, 107, 109, 110, 111, 112, 113, 50, 51, 117, 118, 119, 120, 121, 122, 123, 124, 125, 126, 127, 128, 214, 215, 216, 217, 238, 239, 240, 241, 235, 236, 237, 242, 243, 244, 245, 246, 247, 248, 249, 250, 251, 252, 253, 254, 255, 256, 257] (by decide +kernel) (by decide +kernel)
set_option maxRecDepth 20000 in
theorem gX4_receivers_X0_selection : GoodIn wsX4_receivers (wsV RX4 91 RX0 yX0_selection wsX0_selection) := goodIn_app (goodIn_of _ (by decide +kernel)) ggX4_receivers_X0_selection
set_option maxRecDepth 20000 in
theorem ggX4_receivers_X4_isSuchReceiver : GoodIn wsX4_receivers wsX4_isSuchReceiver := goodIn_r _ [221, 222, 20, 6, 21, 4, 5, 7, 223, 224, 225, 226, 3, 227, 228, 229, 55, 230, 59, 58, 231, 232, 233, 234, 235, 236, 237, 252, 253, 254, 255, 256, 257] (by decide +kernel) (by decide +kernel)
set_option maxRecDepth 20000 in
theorem gX4_receivers_X4_isSuchReceiver : GoodIn wsX4_receivers (wsV RX4 101 RX4 yX4_isSuchReceiver wsX4_isSuchReceiver) := goodIn_app (goodIn_of _ (by decide +kernel)) ggX4_receivers_X4_isSuchReceiver
theorem dX4_receivers_0 : decode cX4_receivers 0 = .ok (.iload_n 1, 1) := by decide +kernel
theorem dX4_receivers_1 : decode cX4_receivers 1 = .ok (.aload_n 0, 1) := by decide +kernel
theorem dX4_receivers_2 : decode cX4_receivers 2 = .ok (.getfield 23, 3) := by decide +kernel
theorem dX4_receivers_5 : decode cX4_receivers 5 = .ok (.invokestatic 34, 3) := by decide +kernel
theorem dX4_receivers_8 : decode cX4_receivers 8 = .ok (.ifCond .eq 11, 3) := by decide +kernel
theorem dX4_receivers_11 : decode cX4_receivers 11 = .ok (.iload_n 2, 1) := by decide +kernel
theorem dX4_receivers_12 : decode cX4_receivers 12 = .ok (.iconst 4, 1) := by decide +kernel
theorem dX4_receivers_13 : decode cX4_receivers 13 = .ok (.invokestatic 34, 3) := by decide +kernel
theorem dX4_receivers_16 : decode cX4_receivers 16 = .ok (.ifCond .ne 5, 3) := by decide +kernel
theorem dX4_receivers_19 : decode cX4_receivers 19 = .ok (.iconst (-1), 1) := by decide +kernel
theorem dX4_receivers_20 : decode cX4_receivers 20 = .ok (.ireturn, 1) := by decide +kernel
theorem dX4_receivers_21 : decode cX4_receivers 21 = .ok (.aload_n 0, 1) := by decide +kernel
theorem dX4_receivers_22 : decode cX4_receivers 22 = .ok (.getfield 18, 3) := by decide +kernel
theorem dX4_receivers_25 : decode cX4_receivers 25 = .ok (.iload_n 1, 1) := by decide +kernel
theorem dX4_receivers_26 : decode cX4_receivers 26 = .ok (.aaload, 1) := by decide +kernel
theorem dX4_receivers_27 : decode cX4_receivers 27 = .ok (.astore_n 3, 1) := by decide +kernel
theorem dX4_receivers_28 : decode cX4_receivers 28 = .ok (.aload_n 0, 1) := by decide +kernel
theorem dX4_receivers_29 : decode cX4_receivers 29 = .ok (.getfield 12, 3) := by decide +kernel
theorem dX4_receivers_32 : decode cX4_receivers 32 = .ok (.iconst 0, 1) := by decide +kernel
theorem dX4_receivers_33 : decode cX4_receivers 33 = .ok (.aaload, 1) := by decide +kernel
theorem dX4_receivers_34 : decode cX4_receivers 34 = .ok (.aload_n 3, 1) := by decide +kernel
theorem dX4_receivers_35 : decode cX4_receivers 35 = .ok (.invokevirtual 87, 3) := by decide +kernel
theorem dX4_receivers_38 : decode cX4_receivers 38 = .ok (.istore 4, 2) := by decide +kernel
theorem dX4_receivers_40 : decode cX4_receivers 40 = .ok (.aload_n 0, 1) := by decide +kernel
theorem dX4_receivers_41 : decode cX4_receivers 41 = .ok (.getfield 12, 3) := by decide +kernel
theorem dX4_receivers_44 : decode cX4_receivers 44 = .ok (.iconst 1, 1) := by decide +kernel
theorem dX4_receivers_45 : decode cX4_receivers 45 = .ok (.aaload, 1) := by decide +kernel
theorem dX4_receivers_46 : decode cX4_receivers 46 = .ok (.aload_n 3, 1) := by decide +kernel
theorem dX4_receivers_47 : decode cX4_receivers 47 = .ok (.invokevirtual 87, 3) := by decide +kernel
theorem dX4_receivers_50 : decode cX4_receivers 50 = .ok (.istore 5, 2) := by decide +kernel
theorem dX4_receivers_52 : decode cX4_receivers 52 = .ok (.iconst 0, 1) := by decide +kernel
theorem dX4_receivers_53 : decode cX4_receivers 53 = .ok (.istore 6, 2) := by decide +kernel
theorem dX4_receivers_55 : decode cX4_receivers 55 = .ok (.iconst 0, 1) := by decide +kernel
theorem dX4_receivers_56 : decode cX4_receivers 56 = .ok (.istore 7, 2) := by decide +kernel
theorem dX4_receivers_58 : decode cX4_receivers 58 = .ok (.iload 7, 2) := by decide +kernel
theorem dX4_receivers_60 : decode cX4_receivers 60 = .ok (.bipush 12, 2) := by decide +kernel
theorem dX4_receivers_62 : decode cX4_receivers 62 = .ok (.if_icmp .ge 63, 3) := by decide +kernel
theorem dX4_receivers_65 : decode cX4_receivers 65 = .ok (.aload_n 0, 1) := by decide +kernel
theorem dX4_receivers_66 : decode cX4_receivers 66 = .ok (.getfield 12, 3) := by decide +kernel
theorem dX4_receivers_69 : decode cX4_receivers 69 = .ok (.iconst 0, 1) := by decide +kernel
theorem dX4_receivers_70 : decode cX4_receivers 70 = .ok (.aaload, 1) := by decide +kernel
theorem dX4_receivers_71 : decode cX4_receivers 71 = .ok (.aload_n 3, 1) := by decide +kernel
theorem dX4_receivers_72 : decode cX4_receivers 72 = .ok (.iload 4, 2) := by decide +kernel
theorem dX4_receivers_74 : decode cX4_receivers 74 = .ok (.iload 7, 2) := by decide +kernel
theorem dX4_receivers_76 : decode cX4_receivers 76 = .ok (.invokevirtual 91, 3) := by decide +kernel
theorem dX4_receivers_79 : decode cX4_receivers 79 = .ok (.istore 8, 2) := by decide +kernel
theorem dX4_receivers_81 : decode cX4_receivers 81 = .ok (.aload_n 0, 1) := by decide +kernel
theorem dX4_receivers_82 : decode cX4_receivers 82 = .ok (.getfield 12, 3) := by decide +kernel
theorem dX4_receivers_85 : decode cX4_receivers 85 = .ok (.iconst 1, 1) := by decide +kernel
theorem dX4_receivers_86 : decode cX4_receivers 86 = .ok (.aaload, 1) := by decide +kernel
theorem dX4_receivers_87 : decode cX4_receivers 87 = .ok (.aload_n 3, 1) := by decide +kernel
theorem dX4_receivers_88 : decode cX4_receivers 88 = .ok (.iload 5, 2) := by decide +kernel
theorem dX4_receivers_90 : decode cX4_receivers 90 = .ok (.iload 7, 2) := by decide +kernel
theorem dX4_receivers_92 : decode cX4_receivers 92 = .ok (.invokevirtual 91, 3) := by decide +kernel
theorem dX4_receivers_95 : decode cX4_receivers 95 = .ok (.istore 9, 2) := by decide +kernel
theorem dX4_receivers_97 : decode cX4_receivers 97 = .ok (.iload 6, 2) := by decide +kernel
theorem dX4_receivers_99 : decode cX4_receivers 99 = .ok (.aload_n 0, 1) := by decide +kernel
theorem dX4_receivers_100 : decode cX4_receivers 100 = .ok (.iload_n 2, 1) := by decide +kernel
theorem dX4_receivers_101 : decode cX4_receivers 101 = .ok (.iload 8, 2) := by decide +kernel
theorem dX4_receivers_103 : decode cX4_receivers 103 = .ok (.iload 9, 2) := by decide +kernel
theorem dX4_receivers_105 : decode cX4_receivers 105 = .ok (.invokevirtual 101, 3) := by decide +kernel
theorem dX4_receivers_108 : decode cX4_receivers 108 = .ok (.ifCond .eq 7, 3) := by decide +kernel
theorem dX4_receivers_111 : decode cX4_receivers 111 = .ok (.iconst 1, 1) := by decide +kernel
theorem dX4_receivers_112 : decode cX4_receivers 112 = .ok (.goto 4, 3) := by decide +kernel
theorem dX4_receivers_115 : decode cX4_receivers 115 = .ok (.iconst 0, 1) := by decide +kernel
theorem dX4_receivers_116 : decode cX4_receivers 116 = .ok (.iadd, 1) := by decide +kernel
theorem dX4_receivers_117 : decode cX4_receivers 117 = .ok (.istore 6, 2) := by decide +kernel
theorem dX4_receivers_119 : decode cX4_receivers 119 = .ok (.iinc 7 1, 3) := by decide +kernel
theorem dX4_receivers_122 : decode cX4_receivers 122 = .ok (.goto (-64), 3) := by decide +kernel
theorem dX4_receivers_125 : decode cX4_receivers 125 = .ok (.iload 6, 2) := by decide +kernel
theorem dX4_receivers_127 : decode cX4_receivers 127 = .ok (.ireturn, 1) := by decide +kernel
set_option maxRecDepth 20000 in
theorem ggX4_isUnder_X4_isWithin : GoodIn wsX4_isUnder wsX4_isWithin := goodIn_r _ [5] (by decide +kernel) (by decide +kernel)
set_option maxRecDepth 20000 in
theorem gX4_isUnder_X4_isWithin : GoodIn wsX4_isUnder (va_wsS RX4 34 yX4_isWithin wsX4_isWithin) := goodIn_app (goodIn_of _ (by decide +kernel)) ggX4_isUnder_X4_isWithin
set_option maxRecDepth 20000 in
theorem ggX4_isUnder_X1_loading : GoodIn wsX4_isUnder wsX1_loading := goodIn_r _ [10, 11, 30, 31, 32, 33, 34, 35, 36, 37, 38, 39] (by decide +kernel) (by decide +kernel)
set_option maxRecDepth 20000 in
theorem gX4_isUnder_X1_loading : GoodIn wsX4_isUnder (wsV RX4 83 RX1 yX1_loading wsX1_loading) := goodIn_app (goodIn_of _ (by decide +kernel)) ggX4_isUnder_X1_loading
set_option maxRecDepth 20000 in
theorem ggX4_isUnder_X4_isGood : GoodIn wsX4_isUnder wsX4_isGood := goodIn_r _ [14, 2, 3, 4, 5] (by decide +kernel) (by decide +kernel)
set_option maxRecDepth 20000 in
theorem gX4_isUnder_X4_isGood : GoodIn wsX4_isUnder (va_wsS RX4 98 yX4_isGood wsX4_isGood) := goodIn_app (goodIn_of _ (by decide +kernel)) ggX4_isUnder_X4_isGood
set_option maxRecDepth 20000 in
theorem ggX4_isUnder_X1_liesUnder : GoodIn wsX4_isUnder wsX1_liesUnder := goodIn_r _ [18, 19, 20, 21, 4, 22, 30, 31, 32, 33, 34, 35, 36, 37, 38, 39] (by decide +kernel) (by decide +kernel)
set_option maxRecDepth 20000 in
theorem gX4_isUnder_X1_liesUnder : GoodIn wsX4_isUnder (wsV RX4 104 RX1 yX1_liesUnder wsX1_liesUnder) := goodIn_app (goodIn_of _ (by decide +kernel)) ggX4_isUnder_X1_liesUnder
theorem dX4_isUnder_0 : decode cX4_isUnder 0 = .ok (.iload_n 1, 1) := by decide +kernel
theorem dX4_isUnder_1 : decode cX4_isUnder 1 = .ok (.iconst 2, 1) := by decide +kernel
theorem dX4_isUnder_2 : decode cX4_isUnder 2 = .ok (.invokestatic 34, 3) := by decide +kernel
theorem dX4_isUnder_5 : decode cX4_isUnder 5 = .ok (.ifCond .eq 21, 3) := by decide +kernel
theorem dX4_isUnder_8 : decode cX4_isUnder 8 = .ok (.iload_n 2, 1) := by decide +kernel
theorem dX4_isUnder_9 : decode cX4_isUnder 9 = .ok (.bipush 12, 2) := by decide +kernel
theorem dX4_isUnder_11 : decode cX4_isUnder 11 = .ok (.invokestatic 34, 3) := by decide +kernel
theorem dX4_isUnder_14 : decode cX4_isUnder 14 = .ok (.ifCond .eq 12, 3) := by decide +kernel
theorem dX4_isUnder_17 : decode cX4_isUnder 17 = .ok (.iload_n 3, 1) := by decide +kernel
theorem dX4_isUnder_18 : decode cX4_isUnder 18 = .ok (.bipush 12, 2) := by decide +kernel
theorem dX4_isUnder_20 : decode cX4_isUnder 20 = .ok (.invokestatic 34, 3) := by decide +kernel
theorem dX4_isUnder_23 : decode cX4_isUnder 23 = .ok (.ifCond .ne 5, 3) := by decide +kernel
theorem dX4_isUnder_26 : decode cX4_isUnder 26 = .ok (.iconst 0, 1) := by decide +kernel
theorem dX4_isUnder_27 : decode cX4_isUnder 27 = .ok (.ireturn, 1) := by decide +kernel
theorem dX4_isUnder_28 : decode cX4_isUnder 28 = .ok (.aload_n 0, 1) := by decide +kernel
theorem dX4_isUnder_29 : decode cX4_isUnder 29 = .ok (.getfield 12, 3) := by decide +kernel
theorem dX4_isUnder_32 : decode cX4_isUnder 32 = .ok (.iload_n 1, 1) := by decide +kernel
theorem dX4_isUnder_33 : decode cX4_isUnder 33 = .ok (.aaload, 1) := by decide +kernel
theorem dX4_isUnder_34 : decode cX4_isUnder 34 = .ok (.getfield 38, 3) := by decide +kernel
theorem dX4_isUnder_37 : decode cX4_isUnder 37 = .ok (.astore 4, 2) := by decide +kernel
theorem dX4_isUnder_39 : decode cX4_isUnder 39 = .ok (.aload 4, 2) := by decide +kernel
theorem dX4_isUnder_41 : decode cX4_isUnder 41 = .ok (.iload_n 2, 1) := by decide +kernel
theorem dX4_isUnder_42 : decode cX4_isUnder 42 = .ok (.invokevirtual 83, 3) := by decide +kernel
theorem dX4_isUnder_45 : decode cX4_isUnder 45 = .ok (.invokestatic 98, 3) := by decide +kernel
theorem dX4_isUnder_48 : decode cX4_isUnder 48 = .ok (.ifCond .eq 29, 3) := by decide +kernel
theorem dX4_isUnder_51 : decode cX4_isUnder 51 = .ok (.aload 4, 2) := by decide +kernel
theorem dX4_isUnder_53 : decode cX4_isUnder 53 = .ok (.iload_n 3, 1) := by decide +kernel
theorem dX4_isUnder_54 : decode cX4_isUnder 54 = .ok (.invokevirtual 83, 3) := by decide +kernel
theorem dX4_isUnder_57 : decode cX4_isUnder 57 = .ok (.invokestatic 98, 3) := by decide +kernel
theorem dX4_isUnder_60 : decode cX4_isUnder 60 = .ok (.ifCond .eq 17, 3) := by decide +kernel
theorem dX4_isUnder_63 : decode cX4_isUnder 63 = .ok (.aload 4, 2) := by decide +kernel
theorem dX4_isUnder_65 : decode cX4_isUnder 65 = .ok (.iload_n 2, 1) := by decide +kernel
theorem dX4_isUnder_66 : decode cX4_isUnder 66 = .ok (.iload_n 3, 1) := by decide +kernel
theorem dX4_isUnder_67 : decode cX4_isUnder 67 = .ok (.invokevirtual 104, 3) := by decide +kernel
theorem dX4_isUnder_70 : decode cX4_isUnder 70 = .ok (.ifCond .eq 7, 3) := by decide +kernel
theorem dX4_isUnder_73 : decode cX4_isUnder 73 = .ok (.iconst 1, 1) := by decide +kernel
theorem dX4_isUnder_74 : decode cX4_isUnder 74 = .ok (.goto 4, 3) := by decide +kernel
theorem dX4_isUnder_77 : decode cX4_isUnder 77 = .ok (.iconst 0, 1) := by decide +kernel
theorem dX4_isUnder_78 : decode cX4_isUnder 78 = .ok (.ireturn, 1) := by decide +kernel
set_option maxRecDepth 20000 in
theorem ggX4_count_X4_isWithin : GoodIn wsX4_count wsX4_isWithin := goodIn_r _ [5] (by decide +kernel) (by decide +kernel)
set_option maxRecDepth 20000 in
theorem gX4_count_X4_isWithin : GoodIn wsX4_count (va_wsS RX4 34 yX4_isWithin wsX4_isWithin) := goodIn_app (goodIn_of _ (by decide +kernel)) ggX4_count_X4_isWithin
set_option maxRecDepth 20000 in
theorem ggX4_count_X1_countThere : GoodIn wsX4_count wsX1_countThere := goodIn_r _ [10, 11, 12, 13, 14, 15, 16, 17, 18, 232, 233, 234, 235, 236, 237, 238, 239, 240, 241] (by decide +kernel) (by decide +kernel)
set_option maxRecDepth 20000 in
theorem gX4_count_X1_countThere : GoodIn wsX4_count (wsV RX4 75 RX1 yX1_countThere wsX1_countThere) := goodIn_app (goodIn_of _ (by decide +kernel)) ggX4_count_X1_countThere
set_option maxRecDepth 20000 in
theorem ggX4_count_X2_countPresent : GoodIn wsX4_count wsX2_countPresent := goodIn_r _ [23, 24, 25, 26, 13, 14, 15, 16, 17, 18, 242, 243, 244, 245, 246, 247] (by decide +kernel) (by decide +kernel)
set_option maxRecDepth 20000 in
theorem gX4_count_X2_countPresent : GoodIn wsX4_count (wsV RX4 107 RX2 yX2_countPresent wsX2_countPresent) := goodIn_app (goodIn_of _ (by decide +kernel)) ggX4_count_X2_countPresent
set_option maxRecDepth 20000 in
theorem ggX4_count_X2_countAll : GoodIn wsX4_count wsX2_countAll := goodIn_r _ [30, 24, 242, 243, 244, 245, 246, 247] (by decide +kernel) (by decide +kernel)
set_option maxRecDepth 20000 in
theorem gX4_count_X2_countAll : GoodIn wsX4_count (wsV RX4 110 RX2 yX2_countAll wsX2_countAll) := goodIn_app (goodIn_of _ (by decide +kernel)) ggX4_count_X2_countAll
set_option maxRecDepth 20000 in
theorem ggX4_count_X4_countGoodReferences : GoodIn wsX4_count wsX4_countGoodReferences := goodIn_r _ [34, 35, 36, 37, 38, 39, 40, 41, 42, 43, 44, 45, 9, 46, 47, 48, 4, 49, 2, 3, 5, 50, 51, 52, 53, 54, 55, 56, 57, 58, 59, 60, 61, 62, 63, 64, 65, 66, 67, 68, 69, 70, 71, 72, 73, 74, 75, 76, 77, 78, 79, 80, 81, 82, 22, 83, 24, 84, 85, 25, 86, 87, 88, 89, 90, 91, 92, 93, 94, 95, 96, 97, 98, 99, 100, 101, 102, 103, 104, 105, 106, 107, 108, 109, 110, 111, 112, 113, 114, 115, 116, 117, 118, 119, 120, 121, 122, 123, 124, 125, 126, 127, 128, 129, 130, 131, 132, 133, 134, 135, 136, 137, 138, 139, 140, 141, 142, 143, 144, 145, 146, 147, 148, 149, 150, 151, 152, 153, 154, 155, 156, 157, 158, 159, 160, 161, 162, 163, 164, 165, 166, 167, 168, 169, 170, 171, 172, 173, 174, 175, 176, 177, 178, 179, 180, 181, 182, 183, 184, 185, 186, 187, 188, 189, 190, 191, 192, 193, 194, 195, 196, 11, 197, 198, 199, 200, 201, 202, 203, 204, 205, 206, 207, 208, 209, 225, 226, 227, 228, 229, 230, 231, 248, 249, 250, 251, 232, 233, 234, 235, 236, 237, 238, 239, 240, 241, 242, 243, 244, 245, 246, 247] (by decide +kernel) (by decide +kernel)
set_option maxRecDepth 20000 in
theorem gX4_count_X4_countGoodReferences : GoodIn wsX4_count (wsV RX4 113 RX4 yX4_countGoodReferences wsX4_countGoodReferences) := goodIn_app (goodIn_of _ (by decide +kernel)) ggX4_count_X4_countGoodReferences
set_option maxRecDepth 20000 in
theorem ggX4_count_X1_countLoaded : GoodIn wsX4_count wsX1_countLoaded := goodIn_r _ [213, 214, 12, 13, 14, 15, 16, 17, 18, 232, 233, 234, 235, 236, 237, 238, 239, 240, 241] (by decide +kernel) (by decide +kernel)
set_option maxRecDepth 20000 in
theorem gX4_count_X1_countLoaded : GoodIn wsX4_count (wsV RX4 117 RX1 yX1_countLoaded wsX1_countLoaded) := goodIn_app (goodIn_of _ (by decide +kernel)) ggX4_count_X1_countLoaded
set_option maxRecDepth 20000 in
theorem ggX4_count_X2_countAbstractMethods : GoodIn wsX4_count wsX2_countAbstractMethods := goodIn_r _ [218, 24, 84, 25, 219, 151, 152, 22, 153, 120, 76, 4, 77, 242, 243, 244, 245, 246, 247] (by decide +kernel) (by decide +kernel)
set_option maxRecDepth 20000 in
theorem gX4_count_X2_countAbstractMethods : GoodIn wsX4_count (wsV RX4 120 RX2 yX2_countAbstractMethods wsX2_countAbstractMethods) := goodIn_app (goodIn_of _ (by decide +kernel)) ggX4_count_X2_countAbstractMethods
set_option maxRecDepth 20000 in
theorem ggX4_count_X1_nestSharers : GoodIn wsX4_count wsX1_nestSharers := goodIn_r _ [223, 193, 194, 195, 9, 196, 11, 76, 4, 77, 224, 189, 190, 191, 192, 55, 56, 57, 58, 59, 78, 79, 232, 233, 234, 235, 236, 237, 238, 239, 240, 241] (by decide +kernel) (by decide +kernel)
set_option maxRecDepth 20000 in
theorem gX4_count_X1_nestSharers : GoodIn wsX4_count (wsV RX4 123 RX1 yX1_nestSharers wsX1_nestSharers) := goodIn_app (goodIn_of _ (by decide +kernel)) ggX4_count_X1_nestSharers
theorem dX4_count_0 : decode cX4_count 0 = .ok (.iload_n 1, 1) := by decide +kernel
theorem dX4_count_1 : decode cX4_count 1 = .ok (.iconst 2, 1) := by decide +kernel
theorem dX4_count_2 : decode cX4_count 2 = .ok (.invokestatic 34, 3) := by decide +kernel
theorem dX4_count_5 : decode cX4_count 5 = .ok (.ifCond .ne 5, 3) := by decide +kernel
theorem dX4_count_8 : decode cX4_count 8 = .ok (.iconst (-1), 1) := by decide +kernel
theorem dX4_count_9 : decode cX4_count 9 = .ok (.ireturn, 1) := by decide +kernel
theorem dX4_count_10 : decode cX4_count 10 = .ok (.aload_n 0, 1) := by decide +kernel
theorem dX4_count_11 : decode cX4_count 11 = .ok (.getfield 12, 3) := by decide +kernel
theorem dX4_count_14 : decode cX4_count 14 = .ok (.iload_n 1, 1) := by decide +kernel
theorem dX4_count_15 : decode cX4_count 15 = .ok (.aaload, 1) := by decide +kernel
theorem dX4_count_16 : decode cX4_count 16 = .ok (.astore_n 3, 1) := by decide +kernel
theorem dX4_count_17 : decode cX4_count 17 = .ok (.iload_n 2, 1) := by decide +kernel
theorem dX4_count_18 : decode cX4_count 18 = .ok (.tableswitch 96 0 6 #[42, 50, 58, 66, 72, 80, 88], 42) := by decide +kernel
theorem dX4_count_60 : decode cX4_count 60 = .ok (.aload_n 3, 1) := by decide +kernel
theorem dX4_count_61 : decode cX4_count 61 = .ok (.getfield 38, 3) := by decide +kernel
theorem dX4_count_64 : decode cX4_count 64 = .ok (.invokevirtual 75, 3) := by decide +kernel
theorem dX4_count_67 : decode cX4_count 67 = .ok (.ireturn, 1) := by decide +kernel
theorem dX4_count_68 : decode cX4_count 68 = .ok (.aload_n 3, 1) := by decide +kernel
theorem dX4_count_69 : decode cX4_count 69 = .ok (.getfield 58, 3) := by decide +kernel
theorem dX4_count_72 : decode cX4_count 72 = .ok (.invokevirtual 107, 3) := by decide +kernel
theorem dX4_count_75 : decode cX4_count 75 = .ok (.ireturn, 1) := by decide +kernel
theorem dX4_count_76 : decode cX4_count 76 = .ok (.aload_n 3, 1) := by decide +kernel
theorem dX4_count_77 : decode cX4_count 77 = .ok (.getfield 58, 3) := by decide +kernel
theorem dX4_count_80 : decode cX4_count 80 = .ok (.invokevirtual 110, 3) := by decide +kernel
theorem dX4_count_83 : decode cX4_count 83 = .ok (.ireturn, 1) := by decide +kernel
theorem dX4_count_84 : decode cX4_count 84 = .ok (.aload_n 0, 1) := by decide +kernel
theorem dX4_count_85 : decode cX4_count 85 = .ok (.aload_n 3, 1) := by decide +kernel
theorem dX4_count_86 : decode cX4_count 86 = .ok (.invokevirtual 113, 3) := by decide +kernel
theorem dX4_count_89 : decode cX4_count 89 = .ok (.ireturn, 1) := by decide +kernel
theorem dX4_count_90 : decode cX4_count 90 = .ok (.aload_n 3, 1) := by decide +kernel
theorem dX4_count_91 : decode cX4_count 91 = .ok (.getfield 38, 3) := by decide +kernel
theorem dX4_count_94 : decode cX4_count 94 = .ok (.invokevirtual 117, 3) := by decide +kernel
theorem dX4_count_97 : decode cX4_count 97 = .ok (.ireturn, 1) := by decide +kernel
theorem dX4_count_98 : decode cX4_count 98 = .ok (.aload_n 3, 1) := by decide +kernel
theorem dX4_count_99 : decode cX4_count 99 = .ok (.getfield 58, 3) := by decide +kernel
theorem dX4_count_102 : decode cX4_count 102 = .ok (.invokevirtual 120, 3) := by decide +kernel
theorem dX4_count_105 : decode cX4_count 105 = .ok (.ireturn, 1) := by decide +kernel
theorem dX4_count_106 : decode cX4_count 106 = .ok (.aload_n 3, 1) := by decide +kernel
theorem dX4_count_107 : decode cX4_count 107 = .ok (.getfield 38, 3) := by decide +kernel
theorem dX4_count_110 : decode cX4_count 110 = .ok (.invokevirtual 123, 3) := by decide +kernel
theorem dX4_count_113 : decode cX4_count 113 = .ok (.ireturn, 1) := by decide +kernel
theorem dX4_count_114 : decode cX4_count 114 = .ok (.iconst (-1), 1) := by decide +kernel
theorem dX4_count_115 : decode cX4_count 115 = .ok (.ireturn, 1) := by decide +kernel
set_option maxRecDepth 20000 in
theorem ggX4_countGoodReferences_X0_resolution : GoodIn wsX4_countGoodReferences wsX0_resolution := goodIn_r _ [7, 8, 9, 10, 11, 12, 13, 14, 15, 16, 17, 18, 19, 20, 21, 22, 23, 24, 25, 26, 27, 28, 29, 30, 31, 32, 33, 34, 35, 36, 37, 38, 39, 6, 40, 41, 42, 43, 44, 45, 46, 47, 48, 49, 50, 51, 52, 53, 54, 55, 56, 57, 58, 59, 60, 61, 62, 63, 64, 65, 66, 67, 68, 69, 70, 71, 72, 73, 74, 75, 76, 77, 78, 79, 80, 81, 82, 83, 84, 85, 86, 87, 88, 89, 90, 91, 92, 93, 94, 95, 96, 97, 98, 99, 100, 101, 102, 103, 104, 105, 106, 107, 108, 109, 110, 111, 112, 113, 114, 115, 116, 117, 118, 119, 120, 121, 122, 123, 124, 125, 126, 127, 128, 129, 130, 131, 132, 133, 134, 135, 136, 137, 138, 139, 140, 141, 142, 143, 144, 145, 146, 147, 148, 149, 150, 151, 152, 153, 154, 155, 156, 157, 158, 159, 160, 161, 162, 163, 164, 165, 166, 167, 168, 169, 170, 171, 172, 173, 174, 175, 176, 177, 178, 179, 180, 181, 182, 183, 189, 190, 191, 192, 193, 194, 195, 196, 197, 198, 199, 200, 201, 202, 203, 204, 205, 206, 207, 208, 209, 210, 211] (by decide +kernel) (by decide +kernel)
set_option maxRecDepth 20000 in
theorem gX4_countGoodReferences_X0_resolution : GoodIn wsX4_countGoodReferences (wsV RX4 87 RX0 yX0_resolution wsX0_resolution) := goodIn_app (goodIn_of _ (by decide +kernel)) ggX4_countGoodReferences_X0_resolution
set_option maxRecDepth 20000 in
theorem ggX4_countGoodReferences_X4_isGood : GoodIn wsX4_countGoodReferences wsX4_isGood := goodIn_r _ [17, 18, 19, 16, 20] (by decide +kernel) (by decide +kernel)
set_option maxRecDepth 20000 in
theorem gX4_countGoodReferences_X4_isGood : GoodIn wsX4_countGoodReferences (va_wsS RX4 98 yX4_isGood wsX4_isGood) := goodIn_app (goodIn_of _ (by decide +kernel)) ggX4_countGoodReferences_X4_isGood
theorem dX4_countGoodReferences_0 : decode cX4_countGoodReferences 0 = .ok (.iconst 0, 1) := by decide +kernel
theorem dX4_countGoodReferences_1 : decode cX4_countGoodReferences 1 = .ok (.istore_n 2, 1) := by decide +kernel
theorem dX4_countGoodReferences_2 : decode cX4_countGoodReferences 2 = .ok (.iconst 0, 1) := by decide +kernel
theorem dX4_countGoodReferences_3 : decode cX4_countGoodReferences 3 = .ok (.istore_n 3, 1) := by decide +kernel
theorem dX4_countGoodReferences_4 : decode cX4_countGoodReferences 4 = .ok (.iload_n 3, 1) := by decide +kernel
theorem dX4_countGoodReferences_5 : decode cX4_countGoodReferences 5 = .ok (.aload_n 0, 1) := by decide +kernel
theorem dX4_countGoodReferences_6 : decode cX4_countGoodReferences 6 = .ok (.getfield 23, 3) := by decide +kernel
theorem dX4_countGoodReferences_9 : decode cX4_countGoodReferences 9 = .ok (.if_icmp .ge 33, 3) := by decide +kernel
theorem dX4_countGoodReferences_12 : decode cX4_countGoodReferences 12 = .ok (.iload_n 2, 1) := by decide +kernel
theorem dX4_countGoodReferences_13 : decode cX4_countGoodReferences 13 = .ok (.aload_n 1, 1) := by decide +kernel
theorem dX4_countGoodReferences_14 : decode cX4_countGoodReferences 14 = .ok (.aload_n 0, 1) := by decide +kernel
theorem dX4_countGoodReferences_15 : decode cX4_countGoodReferences 15 = .ok (.getfield 18, 3) := by decide +kernel
theorem dX4_countGoodReferences_18 : decode cX4_countGoodReferences 18 = .ok (.iload_n 3, 1) := by decide +kernel
theorem dX4_countGoodReferences_19 : decode cX4_countGoodReferences 19 = .ok (.aaload, 1) := by decide +kernel
theorem dX4_countGoodReferences_20 : decode cX4_countGoodReferences 20 = .ok (.invokevirtual 87, 3) := by decide +kernel
theorem dX4_countGoodReferences_23 : decode cX4_countGoodReferences 23 = .ok (.invokestatic 98, 3) := by decide +kernel
theorem dX4_countGoodReferences_26 : decode cX4_countGoodReferences 26 = .ok (.ifCond .eq 7, 3) := by decide +kernel
theorem dX4_countGoodReferences_29 : decode cX4_countGoodReferences 29 = .ok (.iconst 1, 1) := by decide +kernel
theorem dX4_countGoodReferences_30 : decode cX4_countGoodReferences 30 = .ok (.goto 4, 3) := by decide +kernel
theorem dX4_countGoodReferences_33 : decode cX4_countGoodReferences 33 = .ok (.iconst 0, 1) := by decide +kernel
theorem dX4_countGoodReferences_34 : decode cX4_countGoodReferences 34 = .ok (.iadd, 1) := by decide +kernel
theorem dX4_countGoodReferences_35 : decode cX4_countGoodReferences 35 = .ok (.istore_n 2, 1) := by decide +kernel
theorem dX4_countGoodReferences_36 : decode cX4_countGoodReferences 36 = .ok (.iinc 3 1, 3) := by decide +kernel
theorem dX4_countGoodReferences_39 : decode cX4_countGoodReferences 39 = .ok (.goto (-35), 3) := by decide +kernel
theorem dX4_countGoodReferences_42 : decode cX4_countGoodReferences 42 = .ok (.iload_n 2, 1) := by decide +kernel
theorem dX4_countGoodReferences_43 : decode cX4_countGoodReferences 43 = .ok (.ireturn, 1) := by decide +kernel
set_option maxRecDepth 20000 in
theorem ggX4_isSuchReceiver_X4_isGood : GoodIn wsX4_isSuchReceiver wsX4_isGood := goodIn_r _ [4, 5, 6, 3, 7] (by decide +kernel) (by decide +kernel)
set_option maxRecDepth 20000 in
theorem gX4_isSuchReceiver_X4_isGood : GoodIn wsX4_isSuchReceiver (va_wsS RX4 98 yX4_isGood wsX4_isGood) := goodIn_app (goodIn_of _ (by decide +kernel)) ggX4_isSuchReceiver_X4_isGood
set_option maxRecDepth 20000 in
theorem ggX4_isSuchReceiver_X4_areAlike : GoodIn wsX4_isSuchReceiver wsX4_areAlike := goodIn_r _ [11, 12, 13, 14, 15, 16, 17, 18, 19, 20, 21, 22, 23, 24, 25, 26, 27, 28, 29, 30, 31, 32] (by decide +kernel) (by decide +kernel)
set_option maxRecDepth 20000 in
theorem gX4_isSuchReceiver_X4_areAlike : GoodIn wsX4_isSuchReceiver (wsV RX4 95 RX4 yX4_areAlike wsX4_areAlike) := goodIn_app (goodIn_of _ (by decide +kernel)) ggX4_isSuchReceiver_X4_areAlike
theorem dX4_isSuchReceiver_0 : decode cX4_isSuchReceiver 0 = .ok (.iload_n 1, 1) := by decide +kernel
theorem dX4_isSuchReceiver_1 : decode cX4_isSuchReceiver 1 = .ok (.tableswitch 57 0 2 #[27, 32, 37], 27) := by decide +kernel
theorem dX4_isSuchReceiver_28 : decode cX4_isSuchReceiver 28 = .ok (.iload_n 2, 1) := by decide +kernel
theorem dX4_isSuchReceiver_29 : decode cX4_isSuchReceiver 29 = .ok (.invokestatic 98, 3) := by decide +kernel
theorem dX4_isSuchReceiver_32 : decode cX4_isSuchReceiver 32 = .ok (.ireturn, 1) := by decide +kernel
theorem dX4_isSuchReceiver_33 : decode cX4_isSuchReceiver 33 = .ok (.iload_n 3, 1) := by decide +kernel
theorem dX4_isSuchReceiver_34 : decode cX4_isSuchReceiver 34 = .ok (.invokestatic 98, 3) := by decide +kernel
theorem dX4_isSuchReceiver_37 : decode cX4_isSuchReceiver 37 = .ok (.ireturn, 1) := by decide +kernel
theorem dX4_isSuchReceiver_38 : decode cX4_isSuchReceiver 38 = .ok (.iload_n 2, 1) := by decide +kernel
theorem dX4_isSuchReceiver_39 : decode cX4_isSuchReceiver 39 = .ok (.invokestatic 98, 3) := by decide +kernel
theorem dX4_isSuchReceiver_42 : decode cX4_isSuchReceiver 42 = .ok (.ifCond .eq 14, 3) := by decide +kernel
theorem dX4_isSuchReceiver_45 : decode cX4_isSuchReceiver 45 = .ok (.iload_n 3, 1) := by decide +kernel
theorem dX4_isSuchReceiver_46 : decode cX4_isSuchReceiver 46 = .ok (.invokestatic 98, 3) := by decide +kernel
theorem dX4_isSuchReceiver_49 : decode cX4_isSuchReceiver 49 = .ok (.ifCond .ne 7, 3) := by decide +kernel
theorem dX4_isSuchReceiver_52 : decode cX4_isSuchReceiver 52 = .ok (.iconst 1, 1) := by decide +kernel
theorem dX4_isSuchReceiver_53 : decode cX4_isSuchReceiver 53 = .ok (.goto 4, 3) := by decide +kernel
theorem dX4_isSuchReceiver_56 : decode cX4_isSuchReceiver 56 = .ok (.iconst 0, 1) := by decide +kernel
theorem dX4_isSuchReceiver_57 : decode cX4_isSuchReceiver 57 = .ok (.ireturn, 1) := by decide +kernel
theorem dX4_isSuchReceiver_58 : decode cX4_isSuchReceiver 58 = .ok (.iload_n 2, 1) := by decide +kernel
theorem dX4_isSuchReceiver_59 : decode cX4_isSuchReceiver 59 = .ok (.invokestatic 98, 3) := by decide +kernel
theorem dX4_isSuchReceiver_62 : decode cX4_isSuchReceiver 62 = .ok (.ifCond .eq 23, 3) := by decide +kernel
theorem dX4_isSuchReceiver_65 : decode cX4_isSuchReceiver 65 = .ok (.iload_n 3, 1) := by decide +kernel
theorem dX4_isSuchReceiver_66 : decode cX4_isSuchReceiver 66 = .ok (.invokestatic 98, 3) := by decide +kernel
theorem dX4_isSuchReceiver_69 : decode cX4_isSuchReceiver 69 = .ok (.ifCond .eq 16, 3) := by decide +kernel
theorem dX4_isSuchReceiver_72 : decode cX4_isSuchReceiver 72 = .ok (.aload_n 0, 1) := by decide +kernel
theorem dX4_isSuchReceiver_73 : decode cX4_isSuchReceiver 73 = .ok (.iload_n 2, 1) := by decide +kernel
theorem dX4_isSuchReceiver_74 : decode cX4_isSuchReceiver 74 = .ok (.iload_n 3, 1) := by decide +kernel
theorem dX4_isSuchReceiver_75 : decode cX4_isSuchReceiver 75 = .ok (.invokevirtual 95, 3) := by decide +kernel
theorem dX4_isSuchReceiver_78 : decode cX4_isSuchReceiver 78 = .ok (.ifCond .ne 7, 3) := by decide +kernel
theorem dX4_isSuchReceiver_81 : decode cX4_isSuchReceiver 81 = .ok (.iconst 1, 1) := by decide +kernel
theorem dX4_isSuchReceiver_82 : decode cX4_isSuchReceiver 82 = .ok (.goto 4, 3) := by decide +kernel
theorem dX4_isSuchReceiver_85 : decode cX4_isSuchReceiver 85 = .ok (.iconst 0, 1) := by decide +kernel
theorem dX4_isSuchReceiver_86 : decode cX4_isSuchReceiver 86 = .ok (.ireturn, 1) := by decide +kernel
set_option maxRecDepth 20000 in
theorem ggX4_areAlike_X2_isSameThing : GoodIn wsX4_areAlike wsX2_isSameThing := goodIn_r _ [6, 7, 8, 16, 17, 18, 19, 20, 21] (by decide +kernel) (by decide +kernel)
set_option maxRecDepth 20000 in
theorem gX4_areAlike_X2_isSameThing : GoodIn wsX4_areAlike (wsV RX4 126 RX2 yX2_isSameThing wsX2_isSameThing) := goodIn_app (goodIn_of _ (by decide +kernel)) ggX4_areAlike_X2_isSameThing
theorem dX4_areAlike_0 : decode cX4_areAlike 0 = .ok (.iload_n 1, 1) := by decide +kernel
theorem dX4_areAlike_1 : decode cX4_areAlike 1 = .ok (.bipush 64, 2) := by decide +kernel
theorem dX4_areAlike_3 : decode cX4_areAlike 3 = .ok (.idiv, 1) := by decide +kernel
theorem dX4_areAlike_4 : decode cX4_areAlike 4 = .ok (.iload_n 2, 1) := by decide +kernel
theorem dX4_areAlike_5 : decode cX4_areAlike 5 = .ok (.bipush 64, 2) := by decide +kernel
theorem dX4_areAlike_7 : decode cX4_areAlike 7 = .ok (.idiv, 1) := by decide +kernel
theorem dX4_areAlike_8 : decode cX4_areAlike 8 = .ok (.if_icmp .eq 5, 3) := by decide +kernel
theorem dX4_areAlike_11 : decode cX4_areAlike 11 = .ok (.iconst 0, 1) := by decide +kernel
theorem dX4_areAlike_12 : decode cX4_areAlike 12 = .ok (.ireturn, 1) := by decide +kernel
theorem dX4_areAlike_13 : decode cX4_areAlike 13 = .ok (.iload_n 1, 1) := by decide +kernel
theorem dX4_areAlike_14 : decode cX4_areAlike 14 = .ok (.bipush 64, 2) := by decide +kernel
theorem dX4_areAlike_16 : decode cX4_areAlike 16 = .ok (.irem, 1) := by decide +kernel
theorem dX4_areAlike_17 : decode cX4_areAlike 17 = .ok (.istore_n 3, 1) := by decide +kernel
theorem dX4_areAlike_18 : decode cX4_areAlike 18 = .ok (.iload_n 2, 1) := by decide +kernel
theorem dX4_areAlike_19 : decode cX4_areAlike 19 = .ok (.bipush 64, 2) := by decide +kernel
theorem dX4_areAlike_21 : decode cX4_areAlike 21 = .ok (.irem, 1) := by decide +kernel
theorem dX4_areAlike_22 : decode cX4_areAlike 22 = .ok (.istore 4, 2) := by decide +kernel
theorem dX4_areAlike_24 : decode cX4_areAlike 24 = .ok (.iload_n 3, 1) := by decide +kernel
theorem dX4_areAlike_25 : decode cX4_areAlike 25 = .ok (.bipush 16, 2) := by decide +kernel
theorem dX4_areAlike_27 : decode cX4_areAlike 27 = .ok (.if_icmp .lt 10, 3) := by decide +kernel
theorem dX4_areAlike_30 : decode cX4_areAlike 30 = .ok (.iload 4, 2) := by decide +kernel
theorem dX4_areAlike_32 : decode cX4_areAlike 32 = .ok (.bipush 16, 2) := by decide +kernel
theorem dX4_areAlike_34 : decode cX4_areAlike 34 = .ok (.if_icmp .ge 15, 3) := by decide +kernel
theorem dX4_areAlike_37 : decode cX4_areAlike 37 = .ok (.iload_n 3, 1) := by decide +kernel
theorem dX4_areAlike_38 : decode cX4_areAlike 38 = .ok (.iload 4, 2) := by decide +kernel
theorem dX4_areAlike_40 : decode cX4_areAlike 40 = .ok (.if_icmp .ne 7, 3) := by decide +kernel
theorem dX4_areAlike_43 : decode cX4_areAlike 43 = .ok (.iconst 1, 1) := by decide +kernel
theorem dX4_areAlike_44 : decode cX4_areAlike 44 = .ok (.goto 4, 3) := by decide +kernel
theorem dX4_areAlike_47 : decode cX4_areAlike 47 = .ok (.iconst 0, 1) := by decide +kernel
theorem dX4_areAlike_48 : decode cX4_areAlike 48 = .ok (.ireturn, 1) := by decide +kernel
theorem dX4_areAlike_49 : decode cX4_areAlike 49 = .ok (.aload_n 0, 1) := by decide +kernel
theorem dX4_areAlike_50 : decode cX4_areAlike 50 = .ok (.getfield 12, 3) := by decide +kernel
theorem dX4_areAlike_53 : decode cX4_areAlike 53 = .ok (.iconst 0, 1) := by decide +kernel
theorem dX4_areAlike_54 : decode cX4_areAlike 54 = .ok (.aaload, 1) := by decide +kernel
theorem dX4_areAlike_55 : decode cX4_areAlike 55 = .ok (.getfield 58, 3) := by decide +kernel
theorem dX4_areAlike_58 : decode cX4_areAlike 58 = .ok (.iload_n 3, 1) := by decide +kernel
theorem dX4_areAlike_59 : decode cX4_areAlike 59 = .ok (.bipush 16, 2) := by decide +kernel
theorem dX4_areAlike_61 : decode cX4_areAlike 61 = .ok (.isub, 1) := by decide +kernel
theorem dX4_areAlike_62 : decode cX4_areAlike 62 = .ok (.aload_n 0, 1) := by decide +kernel
theorem dX4_areAlike_63 : decode cX4_areAlike 63 = .ok (.getfield 12, 3) := by decide +kernel
theorem dX4_areAlike_66 : decode cX4_areAlike 66 = .ok (.iconst 1, 1) := by decide +kernel
theorem dX4_areAlike_67 : decode cX4_areAlike 67 = .ok (.aaload, 1) := by decide +kernel
theorem dX4_areAlike_68 : decode cX4_areAlike 68 = .ok (.getfield 58, 3) := by decide +kernel
theorem dX4_areAlike_71 : decode cX4_areAlike 71 = .ok (.iload 4, 2) := by decide +kernel
theorem dX4_areAlike_73 : decode cX4_areAlike 73 = .ok (.bipush 16, 2) := by decide +kernel
theorem dX4_areAlike_75 : decode cX4_areAlike 75 = .ok (.isub, 1) := by decide +kernel
theorem dX4_areAlike_76 : decode cX4_areAlike 76 = .ok (.invokevirtual 126, 3) := by decide +kernel
theorem dX4_areAlike_79 : decode cX4_areAlike 79 = .ok (.ireturn, 1) := by decide +kernel
theorem dX4_isWithin_0 : decode cX4_isWithin 0 = .ok (.iload_n 0, 1) := by decide +kernel
theorem dX4_isWithin_1 : decode cX4_isWithin 1 = .ok (.ifCond .lt 12, 3) := by decide +kernel
theorem dX4_isWithin_4 : decode cX4_isWithin 4 = .ok (.iload_n 0, 1) := by decide +kernel
theorem dX4_isWithin_5 : decode cX4_isWithin 5 = .ok (.iload_n 1, 1) := by decide +kernel
theorem dX4_isWithin_6 : decode cX4_isWithin 6 = .ok (.if_icmp .ge 7, 3) := by decide +kernel
theorem dX4_isWithin_9 : decode cX4_isWithin 9 = .ok (.iconst 1, 1) := by decide +kernel
theorem dX4_isWithin_10 : decode cX4_isWithin 10 = .ok (.goto 4, 3) := by decide +kernel
theorem dX4_isWithin_13 : decode cX4_isWithin 13 = .ok (.iconst 0, 1) := by decide +kernel
theorem dX4_isWithin_14 : decode cX4_isWithin 14 = .ok (.ireturn, 1) := by decide +kernel
set_option maxRecDepth 20000 in
theorem ggX4_isOrdinaryType_X4_isWithin : GoodIn wsX4_isOrdinaryType wsX4_isWithin := goodIn_r _ [4] (by decide +kernel) (by decide +kernel)
set_option maxRecDepth 20000 in
theorem gX4_isOrdinaryType_X4_isWithin : GoodIn wsX4_isOrdinaryType (va_wsS RX4 34 yX4_isWithin wsX4_isWithin) := goodIn_app (goodIn_of _ (by decide +kernel)) ggX4_isOrdinaryType_X4_isWithin
theorem dX4_isOrdinaryType_0 : decode cX4_isOrdinaryType 0 = .ok (.iload_n 0, 1) := by decide +kernel
theorem dX4_isOrdinaryType_1 : decode cX4_isOrdinaryType 1 = .ok (.ifCond .eq 16, 3) := by decide +kernel
theorem dX4_isOrdinaryType_4 : decode cX4_isOrdinaryType 4 = .ok (.iload_n 0, 1) := by decide +kernel
theorem dX4_isOrdinaryType_5 : decode cX4_isOrdinaryType 5 = .ok (.bipush 12, 2) := by decide +kernel
theorem dX4_isOrdinaryType_7 : decode cX4_isOrdinaryType 7 = .ok (.invokestatic 34, 3) := by decide +kernel
theorem dX4_isOrdinaryType_10 : decode cX4_isOrdinaryType 10 = .ok (.ifCond .eq 7, 3) := by decide +kernel
theorem dX4_isOrdinaryType_13 : decode cX4_isOrdinaryType 13 = .ok (.iconst 1, 1) := by decide +kernel
theorem dX4_isOrdinaryType_14 : decode cX4_isOrdinaryType 14 = .ok (.goto 4, 3) := by decide +kernel
theorem dX4_isOrdinaryType_17 : decode cX4_isOrdinaryType 17 = .ok (.iconst 0, 1) := by decide +kernel
theorem dX4_isOrdinaryType_18 : decode cX4_isOrdinaryType 18 = .ok (.ireturn, 1) := by decide +kernel
set_option maxRecDepth 20000 in
theorem ggX4_isGood_X4_isWithin : GoodIn wsX4_isGood wsX4_isWithin := goodIn_r _ [4] (by decide +kernel) (by decide +kernel)
set_option maxRecDepth 20000 in
theorem gX4_isGood_X4_isWithin : GoodIn wsX4_isGood (va_wsS RX4 34 yX4_isWithin wsX4_isWithin) := goodIn_app (goodIn_of _ (by decide +kernel)) ggX4_isGood_X4_isWithin
theorem dX4_isGood_0 : decode cX4_isGood 0 = .ok (.iload_n 0, 1) := by decide +kernel
theorem dX4_isGood_1 : decode cX4_isGood 1 = .ok (.bipush 64, 2) := by decide +kernel
theorem dX4_isGood_3 : decode cX4_isGood 3 = .ok (.invokestatic 34, 3) := by decide +kernel
theorem dX4_isGood_6 : decode cX4_isGood 6 = .ok (.ireturn, 1) := by decide +kernel
theorem dX4_bit_0 : decode cX4_bit 0 = .ok (.iconst 1, 1) := by decide +kernel
theorem dX4_bit_1 : decode cX4_bit 1 = .ok (.iload_n 0, 1) := by decide +kernel
theorem dX4_bit_2 : decode cX4_bit 2 = .ok (.ishl, 1) := by decide +kernel
theorem dX4_bit_3 : decode cX4_bit 3 = .ok (.ireturn, 1) := by decide +kernel
theorem dX4_contains_0 : decode cX4_contains 0 = .ok (.iload_n 0, 1) := by decide +kernel
theorem dX4_contains_1 : decode cX4_contains 1 = .ok (.iconst 1, 1) := by decide +kernel
theorem dX4_contains_2 : decode cX4_contains 2 = .ok (.iload_n 1, 1) := by decide +kernel
theorem dX4_contains_3 : decode cX4_contains 3 = .ok (.ishl, 1) := by decide +kernel
theorem dX4_contains_4 : decode cX4_contains 4 = .ok (.iand, 1) := by decide +kernel
theorem dX4_contains_5 : decode cX4_contains 5 = .ok (.ifCond .eq 7, 3) := by decide +kernel
theorem dX4_contains_8 : decode cX4_contains 8 = .ok (.iconst 1, 1) := by decide +kernel
theorem dX4_contains_9 : decode cX4_contains 9 = .ok (.goto 4, 3) := by decide +kernel
theorem dX4_contains_12 : decode cX4_contains 12 = .ok (.iconst 0, 1) := by decide +kernel
theorem dX4_contains_13 : decode cX4_contains 13 = .ok (.ireturn, 1) := by decide +kernel
theorem dX5_init_0 : decode cX5_init 0 = .ok (.aload_n 0, 1) := by decide +kernel
theorem dX5_init_1 : decode cX5_init 1 = .ok (.invokespecial 1, 3) := by decide +kernel
theorem dX5_init_4 : decode cX5_init 4 = .ok (.aload_n 0, 1) := by decide +kernel
theorem dX5_init_5 : decode cX5_init 5 = .ok (.bipush 24, 2) := by decide +kernel
theorem dX5_init_7 : decode cX5_init 7 = .ok (.newarray .boolean, 2) := by decide +kernel
theorem dX5_init_9 : decode cX5_init 9 = .ok (.putfield 7, 3) := by decide +kernel
theorem dX5_init_12 : decode cX5_init 12 = .ok (.aload_n 0, 1) := by decide +kernel
theorem dX5_init_13 : decode cX5_init 13 = .ok (.bipush 24, 2) := by decide +kernel
theorem dX5_init_15 : decode cX5_init 15 = .ok (.newarray .int, 2) := by decide +kernel
theorem dX5_init_17 : decode cX5_init 17 = .ok (.putfield 13, 3) := by decide +kernel
theorem dX5_init_20 : decode cX5_init 20 = .ok (.aload_n 0, 1) := by decide +kernel
theorem dX5_init_21 : decode cX5_init 21 = .ok (.bipush 24, 2) := by decide +kernel
theorem dX5_init_23 : decode cX5_init 23 = .ok (.newarray .int, 2) := by decide +kernel
theorem dX5_init_25 : decode cX5_init 25 = .ok (.putfield 17, 3) := by decide +kernel
theorem dX5_init_28 : decode cX5_init 28 = .ok (.aload_n 0, 1) := by decide +kernel
theorem dX5_init_29 : decode cX5_init 29 = .ok (.bipush 24, 2) := by decide +kernel
theorem dX5_init_31 : decode cX5_init 31 = .ok (.newarray .int, 2) := by decide +kernel
theorem dX5_init_33 : decode cX5_init 33 = .ok (.putfield 20, 3) := by decide +kernel
theorem dX5_init_36 : decode cX5_init 36 = .ok (.aload_n 0, 1) := by decide +kernel
theorem dX5_init_37 : decode cX5_init 37 = .ok (.bipush 24, 2) := by decide +kernel
theorem dX5_init_39 : decode cX5_init 39 = .ok (.newarray .int, 2) := by decide +kernel
theorem dX5_init_41 : decode cX5_init 41 = .ok (.putfield 23, 3) := by decide +kernel
theorem dX5_init_44 : decode cX5_init 44 = .ok (.aload_n 0, 1) := by decide +kernel
theorem dX5_init_45 : decode cX5_init 45 = .ok (.bipush 24, 2) := by decide +kernel
theorem dX5_init_47 : decode cX5_init 47 = .ok (.newarray .int, 2) := by decide +kernel
theorem dX5_init_49 : decode cX5_init 49 = .ok (.putfield 26, 3) := by decide +kernel
theorem dX5_init_52 : decode cX5_init 52 = .ok (.aload_n 0, 1) := by decide +kernel
theorem dX5_init_53 : decode cX5_init 53 = .ok (.bipush 60, 2) := by decide +kernel
theorem dX5_init_55 : decode cX5_init 55 = .ok (.newarray .boolean, 2) := by decide +kernel
theorem dX5_init_57 : decode cX5_init 57 = .ok (.putfield 29, 3) := by decide +kernel
theorem dX5_init_60 : decode cX5_init 60 = .ok (.aload_n 0, 1) := by decide +kernel
theorem dX5_init_61 : decode cX5_init 61 = .ok (.bipush 60, 2) := by decide +kernel
theorem dX5_init_63 : decode cX5_init 63 = .ok (.newarray .boolean, 2) := by decide +kernel
theorem dX5_init_65 : decode cX5_init 65 = .ok (.putfield 32, 3) := by decide +kernel
theorem dX5_init_68 : decode cX5_init 68 = .ok (.aload_n 0, 1) := by decide +kernel
theorem dX5_init_69 : decode cX5_init 69 = .ok (.iconst 2, 1) := by decide +kernel
theorem dX5_init_70 : decode cX5_init 70 = .ok (.newarray .int, 2) := by decide +kernel
theorem dX5_init_72 : decode cX5_init 72 = .ok (.putfield 35, 3) := by decide +kernel
theorem dX5_init_75 : decode cX5_init 75 = .ok (.aload_n 0, 1) := by decide +kernel
theorem dX5_init_76 : decode cX5_init 76 = .ok (.bipush 60, 2) := by decide +kernel
theorem dX5_init_78 : decode cX5_init 78 = .ok (.newarray .int, 2) := by decide +kernel
theorem dX5_init_80 : decode cX5_init 80 = .ok (.putfield 38, 3) := by decide +kernel
theorem dX5_init_83 : decode cX5_init 83 = .ok (.aload_n 0, 1) := by decide +kernel
theorem dX5_init_84 : decode cX5_init 84 = .ok (.bipush 60, 2) := by decide +kernel
theorem dX5_init_86 : decode cX5_init 86 = .ok (.newarray .int, 2) := by decide +kernel
theorem dX5_init_88 : decode cX5_init 88 = .ok (.putfield 41, 3) := by decide +kernel
theorem dX5_init_91 : decode cX5_init 91 = .ok (.aload_n 0, 1) := by decide +kernel
theorem dX5_init_92 : decode cX5_init 92 = .ok (.bipush 60, 2) := by decide +kernel
theorem dX5_init_94 : decode cX5_init 94 = .ok (.newarray .int, 2) := by decide +kernel
theorem dX5_init_96 : decode cX5_init 96 = .ok (.putfield 44, 3) := by decide +kernel
theorem dX5_init_99 : decode cX5_init 99 = .ok (.aload_n 0, 1) := by decide +kernel
theorem dX5_init_100 : decode cX5_init 100 = .ok (.bipush 60, 2) := by decide +kernel
theorem dX5_init_102 : decode cX5_init 102 = .ok (.newarray .int, 2) := by decide +kernel
theorem dX5_init_104 : decode cX5_init 104 = .ok (.putfield 47, 3) := by decide +kernel
theorem dX5_init_107 : decode cX5_init 107 = .ok (.aload_n 0, 1) := by decide +kernel
theorem dX5_init_108 : decode cX5_init 108 = .ok (.bipush 16, 2) := by decide +kernel
theorem dX5_init_110 : decode cX5_init 110 = .ok (.newarray .int, 2) := by decide +kernel
theorem dX5_init_112 : decode cX5_init 112 = .ok (.putfield 50, 3) := by decide +kernel
theorem dX5_init_115 : decode cX5_init 115 = .ok (.aload_n 0, 1) := by decide +kernel
theorem dX5_init_116 : decode cX5_init 116 = .ok (.bipush 16, 2) := by decide +kernel
theorem dX5_init_118 : decode cX5_init 118 = .ok (.newarray .int, 2) := by decide +kernel
theorem dX5_init_120 : decode cX5_init 120 = .ok (.putfield 53, 3) := by decide +kernel
theorem dX5_init_123 : decode cX5_init 123 = .ok (.aload_n 0, 1) := by decide +kernel
theorem dX5_init_124 : decode cX5_init 124 = .ok (.bipush 16, 2) := by decide +kernel
theorem dX5_init_126 : decode cX5_init 126 = .ok (.newarray .int, 2) := by decide +kernel
theorem dX5_init_128 : decode cX5_init 128 = .ok (.putfield 56, 3) := by decide +kernel
theorem dX5_init_131 : decode cX5_init 131 = .ok (.aload_n 0, 1) := by decide +kernel
theorem dX5_init_132 : decode cX5_init 132 = .ok (.bipush 16, 2) := by decide +kernel
theorem dX5_init_134 : decode cX5_init 134 = .ok (.newarray .int, 2) := by decide +kernel
theorem dX5_init_136 : decode cX5_init 136 = .ok (.putfield 59, 3) := by decide +kernel
theorem dX5_init_139 : decode cX5_init 139 = .ok (.aload_n 0, 1) := by decide +kernel
theorem dX5_init_140 : decode cX5_init 140 = .ok (.bipush 40, 2) := by decide +kernel
theorem dX5_init_142 : decode cX5_init 142 = .ok (.newarray .int, 2) := by decide +kernel
theorem dX5_init_144 : decode cX5_init 144 = .ok (.putfield 62, 3) := by decide +kernel
theorem dX5_init_147 : decode cX5_init 147 = .ok (.aload_n 0, 1) := by decide +kernel
theorem dX5_init_148 : decode cX5_init 148 = .ok (.bipush 14, 2) := by decide +kernel
theorem dX5_init_150 : decode cX5_init 150 = .ok (.newarray .int, 2) := by decide +kernel
theorem dX5_init_152 : decode cX5_init 152 = .ok (.putfield 65, 3) := by decide +kernel
theorem dX5_init_155 : decode cX5_init 155 = .ok (.iconst 0, 1) := by decide +kernel
theorem dX5_init_156 : decode cX5_init 156 = .ok (.istore_n 1, 1) := by decide +kernel
theorem dX5_init_157 : decode cX5_init 157 = .ok (.iload_n 1, 1) := by decide +kernel
theorem dX5_init_158 : decode cX5_init 158 = .ok (.iconst 2, 1) := by decide +kernel
theorem dX5_init_159 : decode cX5_init 159 = .ok (.if_icmp .ge 65, 3) := by decide +kernel
theorem dX5_init_162 : decode cX5_init 162 = .ok (.iconst 0, 1) := by decide +kernel
theorem dX5_init_163 : decode cX5_init 163 = .ok (.istore_n 2, 1) := by decide +kernel
theorem dX5_init_164 : decode cX5_init 164 = .ok (.iload_n 2, 1) := by decide +kernel
theorem dX5_init_165 : decode cX5_init 165 = .ok (.bipush 12, 2) := by decide +kernel
theorem dX5_init_167 : decode cX5_init 167 = .ok (.if_icmp .ge 21, 3) := by decide +kernel
theorem dX5_init_170 : decode cX5_init 170 = .ok (.aload_n 0, 1) := by decide +kernel
theorem dX5_init_171 : decode cX5_init 171 = .ok (.getfield 26, 3) := by decide +kernel
theorem dX5_init_174 : decode cX5_init 174 = .ok (.bipush 12, 2) := by decide +kernel
theorem dX5_init_176 : decode cX5_init 176 = .ok (.iload_n 1, 1) := by decide +kernel
theorem dX5_init_177 : decode cX5_init 177 = .ok (.imul, 1) := by decide +kernel
theorem dX5_init_178 : decode cX5_init 178 = .ok (.iload_n 2, 1) := by decide +kernel
theorem dX5_init_179 : decode cX5_init 179 = .ok (.iadd, 1) := by decide +kernel
theorem dX5_init_180 : decode cX5_init 180 = .ok (.iload_n 2, 1) := by decide +kernel
theorem dX5_init_181 : decode cX5_init 181 = .ok (.iastore, 1) := by decide +kernel
theorem dX5_init_182 : decode cX5_init 182 = .ok (.iinc 2 1, 3) := by decide +kernel
theorem dX5_init_185 : decode cX5_init 185 = .ok (.goto (-21), 3) := by decide +kernel
theorem dX5_init_188 : decode cX5_init 188 = .ok (.aload_n 0, 1) := by decide +kernel
theorem dX5_init_189 : decode cX5_init 189 = .ok (.getfield 7, 3) := by decide +kernel
theorem dX5_init_192 : decode cX5_init 192 = .ok (.bipush 12, 2) := by decide +kernel
theorem dX5_init_194 : decode cX5_init 194 = .ok (.iload_n 1, 1) := by decide +kernel
theorem dX5_init_195 : decode cX5_init 195 = .ok (.imul, 1) := by decide +kernel
theorem dX5_init_196 : decode cX5_init 196 = .ok (.iconst 1, 1) := by decide +kernel
theorem dX5_init_197 : decode cX5_init 197 = .ok (.bastore, 1) := by decide +kernel
theorem dX5_init_198 : decode cX5_init 198 = .ok (.aload_n 0, 1) := by decide +kernel
theorem dX5_init_199 : decode cX5_init 199 = .ok (.getfield 13, 3) := by decide +kernel
theorem dX5_init_202 : decode cX5_init 202 = .ok (.bipush 12, 2) := by decide +kernel
theorem dX5_init_204 : decode cX5_init 204 = .ok (.iload_n 1, 1) := by decide +kernel
theorem dX5_init_205 : decode cX5_init 205 = .ok (.imul, 1) := by decide +kernel
theorem dX5_init_206 : decode cX5_init 206 = .ok (.iconst 1, 1) := by decide +kernel
theorem dX5_init_207 : decode cX5_init 207 = .ok (.iastore, 1) := by decide +kernel
theorem dX5_init_208 : decode cX5_init 208 = .ok (.aload_n 0, 1) := by decide +kernel
theorem dX5_init_209 : decode cX5_init 209 = .ok (.getfield 20, 3) := by decide +kernel
theorem dX5_init_212 : decode cX5_init 212 = .ok (.bipush 12, 2) := by decide +kernel
theorem dX5_init_214 : decode cX5_init 214 = .ok (.iload_n 1, 1) := by decide +kernel
theorem dX5_init_215 : decode cX5_init 215 = .ok (.imul, 1) := by decide +kernel
theorem dX5_init_216 : decode cX5_init 216 = .ok (.iconst (-1), 1) := by decide +kernel
theorem dX5_init_217 : decode cX5_init 217 = .ok (.iastore, 1) := by decide +kernel
theorem dX5_init_218 : decode cX5_init 218 = .ok (.iinc 1 1, 3) := by decide +kernel
theorem dX5_init_221 : decode cX5_init 221 = .ok (.goto (-64), 3) := by decide +kernel
theorem dX5_init_224 : decode cX5_init 224 = .ok (.return_, 1) := by decide +kernel
theorem dX5_in_0 : decode cX5_in 0 = .ok (.iload_n 0, 1) := by decide +kernel
theorem dX5_in_1 : decode cX5_in 1 = .ok (.ifCond .lt 12, 3) := by decide +kernel
theorem dX5_in_4 : decode cX5_in 4 = .ok (.iload_n 0, 1) := by decide +kernel
theorem dX5_in_5 : decode cX5_in 5 = .ok (.iload_n 1, 1) := by decide +kernel
theorem dX5_in_6 : decode cX5_in 6 = .ok (.if_icmp .ge 7, 3) := by decide +kernel
theorem dX5_in_9 : decode cX5_in 9 = .ok (.iconst 1, 1) := by decide +kernel
theorem dX5_in_10 : decode cX5_in 10 = .ok (.goto 4, 3) := by decide +kernel
theorem dX5_in_13 : decode cX5_in 13 = .ok (.iconst 0, 1) := by decide +kernel
theorem dX5_in_14 : decode cX5_in 14 = .ok (.ireturn, 1) := by decide +kernel
theorem dX5_has_0 : decode cX5_has 0 = .ok (.iload_n 0, 1) := by decide +kernel
theorem dX5_has_1 : decode cX5_has 1 = .ok (.iload_n 1, 1) := by decide +kernel
theorem dX5_has_2 : decode cX5_has 2 = .ok (.ishr, 1) := by decide +kernel
theorem dX5_has_3 : decode cX5_has 3 = .ok (.iconst 1, 1) := by decide +kernel
theorem dX5_has_4 : decode cX5_has 4 = .ok (.iand, 1) := by decide +kernel
theorem dX5_has_5 : decode cX5_has 5 = .ok (.iconst 1, 1) := by decide +kernel
theorem dX5_has_6 : decode cX5_has 6 = .ok (.if_icmp .ne 7, 3) := by decide +kernel
theorem dX5_has_9 : decode cX5_has 9 = .ok (.iconst 1, 1) := by decide +kernel
theorem dX5_has_10 : decode cX5_has 10 = .ok (.goto 4, 3) := by decide +kernel
theorem dX5_has_13 : decode cX5_has 13 = .ok (.iconst 0, 1) := by decide +kernel
theorem dX5_has_14 : decode cX5_has 14 = .ok (.ireturn, 1) := by decide +kernel
theorem dX5_at_0 : decode cX5_at 0 = .ok (.bipush 12, 2) := by decide +kernel
theorem dX5_at_2 : decode cX5_at 2 = .ok (.aload_n 0, 1) := by decide +kernel
theorem dX5_at_3 : decode cX5_at 3 = .ok (.getfield 68, 3) := by decide +kernel
theorem dX5_at_6 : decode cX5_at 6 = .ok (.imul, 1) := by decide +kernel
theorem dX5_at_7 : decode cX5_at 7 = .ok (.iload_n 1, 1) := by decide +kernel
theorem dX5_at_8 : decode cX5_at 8 = .ok (.iadd, 1) := by decide +kernel
theorem dX5_at_9 : decode cX5_at 9 = .ok (.ireturn, 1) := by decide +kernel
set_option maxRecDepth 20000 in
theorem ggX5_isThere_X5_in : GoodIn wsX5_isThere wsX5_in := goodIn_r _ [5] (by decide +kernel) (by decide +kernel)
set_option maxRecDepth 20000 in
theorem gX5_isThere_X5_in : GoodIn wsX5_isThere (va_wsS RX5 72 yX5_in wsX5_in) := goodIn_app (goodIn_of _ (by decide +kernel)) ggX5_isThere_X5_in
set_option maxRecDepth 20000 in
theorem ggX5_isThere_X5_at : GoodIn wsX5_isThere wsX5_at := goodIn_r _ [9, 10, 11, 12, 13, 14, 15, 16, 17, 18, 19, 20, 21, 22, 23, 24, 25, 26, 27, 28, 29, 30, 31] (by decide +kernel) (by decide +kernel)
set_option maxRecDepth 20000 in
theorem gX5_isThere_X5_at : GoodIn wsX5_isThere (wsV RX5 76 RX5 yX5_at wsX5_at) := goodIn_app (goodIn_of _ (by decide +kernel)) ggX5_isThere_X5_at
theorem dX5_isThere_0 : decode cX5_isThere 0 = .ok (.iload_n 1, 1) := by decide +kernel
theorem dX5_isThere_1 : decode cX5_isThere 1 = .ok (.bipush 12, 2) := by decide +kernel
theorem dX5_isThere_3 : decode cX5_isThere 3 = .ok (.invokestatic 72, 3) := by decide +kernel
theorem dX5_isThere_6 : decode cX5_isThere 6 = .ok (.ifCond .eq 20, 3) := by decide +kernel
theorem dX5_isThere_9 : decode cX5_isThere 9 = .ok (.aload_n 0, 1) := by decide +kernel
theorem dX5_isThere_10 : decode cX5_isThere 10 = .ok (.getfield 7, 3) := by decide +kernel
theorem dX5_isThere_13 : decode cX5_isThere 13 = .ok (.aload_n 0, 1) := by decide +kernel
theorem dX5_isThere_14 : decode cX5_isThere 14 = .ok (.iload_n 1, 1) := by decide +kernel
theorem dX5_isThere_15 : decode cX5_isThere 15 = .ok (.invokevirtual 76, 3) := by decide +kernel
theorem dX5_isThere_18 : decode cX5_isThere 18 = .ok (.baload, 1) := by decide +kernel
theorem dX5_isThere_19 : decode cX5_isThere 19 = .ok (.ifCond .eq 7, 3) := by decide +kernel
theorem dX5_isThere_22 : decode cX5_isThere 22 = .ok (.iconst 1, 1) := by decide +kernel
theorem dX5_isThere_23 : decode cX5_isThere 23 = .ok (.goto 4, 3) := by decide +kernel
theorem dX5_isThere_26 : decode cX5_isThere 26 = .ok (.iconst 0, 1) := by decide +kernel
theorem dX5_isThere_27 : decode cX5_isThere 27 = .ok (.ireturn, 1) := by decide +kernel
set_option maxRecDepth 20000 in
theorem ggX5_type_X5_in : GoodIn wsX5_type wsX5_in := goodIn_r _ [10] (by decide +kernel) (by decide +kernel)
set_option maxRecDepth 20000 in
theorem gX5_type_X5_in : GoodIn wsX5_type (va_wsS RX5 72 yX5_in wsX5_in) := goodIn_app (goodIn_of _ (by decide +kernel)) ggX5_type_X5_in
set_option maxRecDepth 20000 in
theorem ggX5_type_X5_at : GoodIn wsX5_type wsX5_at := goodIn_r _ [14, 15, 16, 17, 18, 19, 20, 21, 22, 23, 24, 25, 26, 27, 28, 29, 30, 31, 32, 33, 34, 35, 36] (by decide +kernel) (by decide +kernel)
set_option maxRecDepth 20000 in
theorem gX5_type_X5_at : GoodIn wsX5_type (wsV RX5 76 RX5 yX5_at wsX5_at) := goodIn_app (goodIn_of _ (by decide +kernel)) ggX5_type_X5_at
theorem dX5_type_0 : decode cX5_type 0 = .ok (.iload_n 1, 1) := by decide +kernel
theorem dX5_type_1 : decode cX5_type 1 = .ok (.ifCond .eq 50, 3) := by decide +kernel
theorem dX5_type_4 : decode cX5_type 4 = .ok (.iload_n 1, 1) := by decide +kernel
theorem dX5_type_5 : decode cX5_type 5 = .ok (.bipush 12, 2) := by decide +kernel
theorem dX5_type_7 : decode cX5_type 7 = .ok (.invokestatic 72, 3) := by decide +kernel
theorem dX5_type_10 : decode cX5_type 10 = .ok (.ifCond .eq 41, 3) := by decide +kernel
theorem dX5_type_13 : decode cX5_type 13 = .ok (.iload_n 2, 1) := by decide +kernel
theorem dX5_type_14 : decode cX5_type 14 = .ok (.bipush 16, 2) := by decide +kernel
theorem dX5_type_16 : decode cX5_type 16 = .ok (.invokestatic 72, 3) := by decide +kernel
theorem dX5_type_19 : decode cX5_type 19 = .ok (.ifCond .eq 32, 3) := by decide +kernel
theorem dX5_type_22 : decode cX5_type 22 = .ok (.iload_n 3, 1) := by decide +kernel
theorem dX5_type_23 : decode cX5_type 23 = .ok (.iconst 4, 1) := by decide +kernel
theorem dX5_type_24 : decode cX5_type 24 = .ok (.invokestatic 72, 3) := by decide +kernel
theorem dX5_type_27 : decode cX5_type 27 = .ok (.ifCond .eq 24, 3) := by decide +kernel
theorem dX5_type_30 : decode cX5_type 30 = .ok (.iload 4, 2) := by decide +kernel
theorem dX5_type_32 : decode cX5_type 32 = .ok (.bipush 12, 2) := by decide +kernel
theorem dX5_type_34 : decode cX5_type 34 = .ok (.invokestatic 72, 3) := by decide +kernel
theorem dX5_type_37 : decode cX5_type 37 = .ok (.ifCond .eq 14, 3) := by decide +kernel
theorem dX5_type_40 : decode cX5_type 40 = .ok (.iload 5, 2) := by decide +kernel
theorem dX5_type_42 : decode cX5_type 42 = .ok (.sipush 4096, 3) := by decide +kernel
theorem dX5_type_45 : decode cX5_type 45 = .ok (.invokestatic 72, 3) := by decide +kernel
theorem dX5_type_48 : decode cX5_type 48 = .ok (.ifCond .ne 5, 3) := by decide +kernel
theorem dX5_type_51 : decode cX5_type 51 = .ok (.iconst 0, 1) := by decide +kernel
theorem dX5_type_52 : decode cX5_type 52 = .ok (.ireturn, 1) := by decide +kernel
theorem dX5_type_53 : decode cX5_type 53 = .ok (.aload_n 0, 1) := by decide +kernel
theorem dX5_type_54 : decode cX5_type 54 = .ok (.iload_n 1, 1) := by decide +kernel
theorem dX5_type_55 : decode cX5_type 55 = .ok (.invokevirtual 76, 3) := by decide +kernel
theorem dX5_type_58 : decode cX5_type 58 = .ok (.istore 6, 2) := by decide +kernel
theorem dX5_type_60 : decode cX5_type 60 = .ok (.aload_n 0, 1) := by decide +kernel
theorem dX5_type_61 : decode cX5_type 61 = .ok (.getfield 7, 3) := by decide +kernel
theorem dX5_type_64 : decode cX5_type 64 = .ok (.iload 6, 2) := by decide +kernel
theorem dX5_type_66 : decode cX5_type 66 = .ok (.iconst 1, 1) := by decide +kernel
theorem dX5_type_67 : decode cX5_type 67 = .ok (.bastore, 1) := by decide +kernel
theorem dX5_type_68 : decode cX5_type 68 = .ok (.aload_n 0, 1) := by decide +kernel
theorem dX5_type_69 : decode cX5_type 69 = .ok (.getfield 13, 3) := by decide +kernel
theorem dX5_type_72 : decode cX5_type 72 = .ok (.iload 6, 2) := by decide +kernel
theorem dX5_type_74 : decode cX5_type 74 = .ok (.iload_n 2, 1) := by decide +kernel
theorem dX5_type_75 : decode cX5_type 75 = .ok (.iastore, 1) := by decide +kernel
theorem dX5_type_76 : decode cX5_type 76 = .ok (.aload_n 0, 1) := by decide +kernel
theorem dX5_type_77 : decode cX5_type 77 = .ok (.getfield 17, 3) := by decide +kernel
theorem dX5_type_80 : decode cX5_type 80 = .ok (.iload 6, 2) := by decide +kernel
theorem dX5_type_82 : decode cX5_type 82 = .ok (.iload_n 3, 1) := by decide +kernel
theorem dX5_type_83 : decode cX5_type 83 = .ok (.iastore, 1) := by decide +kernel
theorem dX5_type_84 : decode cX5_type 84 = .ok (.aload_n 0, 1) := by decide +kernel
theorem dX5_type_85 : decode cX5_type 85 = .ok (.getfield 20, 3) := by decide +kernel
theorem dX5_type_88 : decode cX5_type 88 = .ok (.iload 6, 2) := by decide +kernel
theorem dX5_type_90 : decode cX5_type 90 = .ok (.iload 4, 2) := by decide +kernel
theorem dX5_type_92 : decode cX5_type 92 = .ok (.iastore, 1) := by decide +kernel
theorem dX5_type_93 : decode cX5_type 93 = .ok (.aload_n 0, 1) := by decide +kernel
theorem dX5_type_94 : decode cX5_type 94 = .ok (.getfield 23, 3) := by decide +kernel
theorem dX5_type_97 : decode cX5_type 97 = .ok (.iload 6, 2) := by decide +kernel
theorem dX5_type_99 : decode cX5_type 99 = .ok (.iload 5, 2) := by decide +kernel
theorem dX5_type_101 : decode cX5_type 101 = .ok (.iastore, 1) := by decide +kernel
theorem dX5_type_102 : decode cX5_type 102 = .ok (.aload_n 0, 1) := by decide +kernel
theorem dX5_type_103 : decode cX5_type 103 = .ok (.getfield 26, 3) := by decide +kernel
theorem dX5_type_106 : decode cX5_type 106 = .ok (.iload 6, 2) := by decide +kernel
theorem dX5_type_108 : decode cX5_type 108 = .ok (.iload_n 1, 1) := by decide +kernel
theorem dX5_type_109 : decode cX5_type 109 = .ok (.iastore, 1) := by decide +kernel
theorem dX5_type_110 : decode cX5_type 110 = .ok (.iconst 1, 1) := by decide +kernel
theorem dX5_type_111 : decode cX5_type 111 = .ok (.ireturn, 1) := by decide +kernel
set_option maxRecDepth 20000 in
theorem ggX5_nest_X5_isThere : GoodIn wsX5_nest wsX5_isThere := goodIn_r _ [6, 7, 8, 9, 5, 10, 11, 12, 13, 14, 15, 16, 17, 18, 19, 20, 21, 22, 23, 24, 25, 26, 27, 28, 29, 30, 31, 32, 33, 34, 35, 36] (by decide +kernel) (by decide +kernel)
set_option maxRecDepth 20000 in
theorem gX5_nest_X5_isThere : GoodIn wsX5_nest (wsV RX5 80 RX5 yX5_isThere wsX5_isThere) := goodIn_app (goodIn_of _ (by decide +kernel)) ggX5_nest_X5_isThere
set_option maxRecDepth 20000 in
theorem ggX5_nest_X5_in : GoodIn wsX5_nest wsX5_in := goodIn_r _ [10] (by decide +kernel) (by decide +kernel)
set_option maxRecDepth 20000 in
theorem gX5_nest_X5_in : GoodIn wsX5_nest (va_wsS RX5 72 yX5_in wsX5_in) := goodIn_app (goodIn_of _ (by decide +kernel)) ggX5_nest_X5_in
set_option maxRecDepth 20000 in
theorem ggX5_nest_X5_at : GoodIn wsX5_nest wsX5_at := goodIn_r _ [14, 15, 16, 17, 18, 19, 20, 21, 22, 23, 24, 25, 26, 27, 28, 29, 30, 31, 32, 33, 34, 35, 36] (by decide +kernel) (by decide +kernel)
set_option maxRecDepth 20000 in
theorem gX5_nest_X5_at : GoodIn wsX5_nest (wsV RX5 76 RX5 yX5_at wsX5_at) := goodIn_app (goodIn_of _ (by decide +kernel)) ggX5_nest_X5_at
theorem dX5_nest_0 : decode cX5_nest 0 = .ok (.iload_n 1, 1) := by decide +kernel
theorem dX5_nest_1 : decode cX5_nest 1 = .ok (.ifCond .eq 20, 3) := by decide +kernel
theorem dX5_nest_4 : decode cX5_nest 4 = .ok (.aload_n 0, 1) := by decide +kernel
theorem dX5_nest_5 : decode cX5_nest 5 = .ok (.iload_n 1, 1) := by decide +kernel
theorem dX5_nest_6 : decode cX5_nest 6 = .ok (.invokevirtual 80, 3) := by decide +kernel
theorem dX5_nest_9 : decode cX5_nest 9 = .ok (.ifCond .eq 12, 3) := by decide +kernel
theorem dX5_nest_12 : decode cX5_nest 12 = .ok (.iload_n 2, 1) := by decide +kernel
theorem dX5_nest_13 : decode cX5_nest 13 = .ok (.bipush 12, 2) := by decide +kernel
theorem dX5_nest_15 : decode cX5_nest 15 = .ok (.invokestatic 72, 3) := by decide +kernel
theorem dX5_nest_18 : decode cX5_nest 18 = .ok (.ifCond .ne 5, 3) := by decide +kernel
theorem dX5_nest_21 : decode cX5_nest 21 = .ok (.iconst 0, 1) := by decide +kernel
theorem dX5_nest_22 : decode cX5_nest 22 = .ok (.ireturn, 1) := by decide +kernel
theorem dX5_nest_23 : decode cX5_nest 23 = .ok (.aload_n 0, 1) := by decide +kernel
theorem dX5_nest_24 : decode cX5_nest 24 = .ok (.getfield 26, 3) := by decide +kernel
theorem dX5_nest_27 : decode cX5_nest 27 = .ok (.aload_n 0, 1) := by decide +kernel
theorem dX5_nest_28 : decode cX5_nest 28 = .ok (.iload_n 1, 1) := by decide +kernel
theorem dX5_nest_29 : decode cX5_nest 29 = .ok (.invokevirtual 76, 3) := by decide +kernel
theorem dX5_nest_32 : decode cX5_nest 32 = .ok (.iload_n 2, 1) := by decide +kernel
theorem dX5_nest_33 : decode cX5_nest 33 = .ok (.iastore, 1) := by decide +kernel
theorem dX5_nest_34 : decode cX5_nest 34 = .ok (.iconst 1, 1) := by decide +kernel
theorem dX5_nest_35 : decode cX5_nest 35 = .ok (.ireturn, 1) := by decide +kernel
set_option maxRecDepth 20000 in
theorem ggX5_drop_X5_isThere : GoodIn wsX5_drop wsX5_isThere := goodIn_r _ [10, 1, 11, 12, 9, 13, 14, 15, 16, 17, 2, 18, 19, 20, 21, 22, 23, 24, 25, 26, 27, 28, 29, 30, 31, 32, 33, 34, 35, 36, 37, 38] (by decide +kernel) (by decide +kernel)
set_option maxRecDepth 20000 in
theorem gX5_drop_X5_isThere : GoodIn wsX5_drop (wsV RX5 80 RX5 yX5_isThere wsX5_isThere) := goodIn_app (goodIn_of _ (by decide +kernel)) ggX5_drop_X5_isThere
set_option maxRecDepth 20000 in
theorem ggX5_drop_X5_at : GoodIn wsX5_drop wsX5_at := goodIn_r _ [17, 2, 18, 19, 20, 21, 22, 23, 24, 25, 26, 27, 28, 29, 30, 31, 32, 33, 34, 35, 36, 37, 38] (by decide +kernel) (by decide +kernel)
set_option maxRecDepth 20000 in
theorem gX5_drop_X5_at : GoodIn wsX5_drop (wsV RX5 76 RX5 yX5_at wsX5_at) := goodIn_app (goodIn_of _ (by decide +kernel)) ggX5_drop_X5_at
theorem dX5_drop_0 : decode cX5_drop 0 = .ok (.iload_n 1, 1) := by decide +kernel
theorem dX5_drop_1 : decode cX5_drop 1 = .ok (.ifCond .eq 11, 3) := by decide +kernel
theorem dX5_drop_4 : decode cX5_drop 4 = .ok (.aload_n 0, 1) := by decide +kernel
theorem dX5_drop_5 : decode cX5_drop 5 = .ok (.iload_n 1, 1) := by decide +kernel
theorem dX5_drop_6 : decode cX5_drop 6 = .ok (.invokevirtual 80, 3) := by decide +kernel
theorem dX5_drop_9 : decode cX5_drop 9 = .ok (.ifCond .ne 5, 3) := by decide +kernel
theorem dX5_drop_12 : decode cX5_drop 12 = .ok (.iconst 0, 1) := by decide +kernel
theorem dX5_drop_13 : decode cX5_drop 13 = .ok (.ireturn, 1) := by decide +kernel
theorem dX5_drop_14 : decode cX5_drop 14 = .ok (.aload_n 0, 1) := by decide +kernel
theorem dX5_drop_15 : decode cX5_drop 15 = .ok (.getfield 7, 3) := by decide +kernel
theorem dX5_drop_18 : decode cX5_drop 18 = .ok (.aload_n 0, 1) := by decide +kernel
theorem dX5_drop_19 : decode cX5_drop 19 = .ok (.iload_n 1, 1) := by decide +kernel
theorem dX5_drop_20 : decode cX5_drop 20 = .ok (.invokevirtual 76, 3) := by decide +kernel
theorem dX5_drop_23 : decode cX5_drop 23 = .ok (.iconst 0, 1) := by decide +kernel
theorem dX5_drop_24 : decode cX5_drop 24 = .ok (.bastore, 1) := by decide +kernel
theorem dX5_drop_25 : decode cX5_drop 25 = .ok (.bipush 30, 2) := by decide +kernel
theorem dX5_drop_27 : decode cX5_drop 27 = .ok (.aload_n 0, 1) := by decide +kernel
theorem dX5_drop_28 : decode cX5_drop 28 = .ok (.getfield 68, 3) := by decide +kernel
theorem dX5_drop_31 : decode cX5_drop 31 = .ok (.imul, 1) := by decide +kernel
theorem dX5_drop_32 : decode cX5_drop 32 = .ok (.istore_n 2, 1) := by decide +kernel
theorem dX5_drop_33 : decode cX5_drop 33 = .ok (.iload_n 2, 1) := by decide +kernel
theorem dX5_drop_34 : decode cX5_drop 34 = .ok (.bipush 30, 2) := by decide +kernel
theorem dX5_drop_36 : decode cX5_drop 36 = .ok (.aload_n 0, 1) := by decide +kernel
theorem dX5_drop_37 : decode cX5_drop 37 = .ok (.getfield 68, 3) := by decide +kernel
theorem dX5_drop_40 : decode cX5_drop 40 = .ok (.imul, 1) := by decide +kernel
theorem dX5_drop_41 : decode cX5_drop 41 = .ok (.aload_n 0, 1) := by decide +kernel
theorem dX5_drop_42 : decode cX5_drop 42 = .ok (.getfield 35, 3) := by decide +kernel
theorem dX5_drop_45 : decode cX5_drop 45 = .ok (.aload_n 0, 1) := by decide +kernel
theorem dX5_drop_46 : decode cX5_drop 46 = .ok (.getfield 68, 3) := by decide +kernel
theorem dX5_drop_49 : decode cX5_drop 49 = .ok (.iaload, 1) := by decide +kernel
theorem dX5_drop_50 : decode cX5_drop 50 = .ok (.iadd, 1) := by decide +kernel
theorem dX5_drop_51 : decode cX5_drop 51 = .ok (.if_icmp .ge 26, 3) := by decide +kernel
theorem dX5_drop_54 : decode cX5_drop 54 = .ok (.aload_n 0, 1) := by decide +kernel
theorem dX5_drop_55 : decode cX5_drop 55 = .ok (.getfield 38, 3) := by decide +kernel
theorem dX5_drop_58 : decode cX5_drop 58 = .ok (.iload_n 2, 1) := by decide +kernel
theorem dX5_drop_59 : decode cX5_drop 59 = .ok (.iaload, 1) := by decide +kernel
theorem dX5_drop_60 : decode cX5_drop 60 = .ok (.iload_n 1, 1) := by decide +kernel
theorem dX5_drop_61 : decode cX5_drop 61 = .ok (.if_icmp .ne 10, 3) := by decide +kernel
theorem dX5_drop_64 : decode cX5_drop 64 = .ok (.aload_n 0, 1) := by decide +kernel
theorem dX5_drop_65 : decode cX5_drop 65 = .ok (.getfield 32, 3) := by decide +kernel
theorem dX5_drop_68 : decode cX5_drop 68 = .ok (.iload_n 2, 1) := by decide +kernel
theorem dX5_drop_69 : decode cX5_drop 69 = .ok (.iconst 1, 1) := by decide +kernel
theorem dX5_drop_70 : decode cX5_drop 70 = .ok (.bastore, 1) := by decide +kernel
theorem dX5_drop_71 : decode cX5_drop 71 = .ok (.iinc 2 1, 3) := by decide +kernel
theorem dX5_drop_74 : decode cX5_drop 74 = .ok (.goto (-41), 3) := by decide +kernel
theorem dX5_drop_77 : decode cX5_drop 77 = .ok (.iconst 1, 1) := by decide +kernel
theorem dX5_drop_78 : decode cX5_drop 78 = .ok (.ireturn, 1) := by decide +kernel
theorem dX5_own_0 : decode cX5_own 0 = .ok (.iconst 0, 1) := by decide +kernel
theorem dX5_own_1 : decode cX5_own 1 = .ok (.istore 5, 2) := by decide +kernel
theorem dX5_own_3 : decode cX5_own 3 = .ok (.iload 5, 2) := by decide +kernel
theorem dX5_own_5 : decode cX5_own 5 = .ok (.aload_n 0, 1) := by decide +kernel
theorem dX5_own_6 : decode cX5_own 6 = .ok (.getfield 35, 3) := by decide +kernel
theorem dX5_own_9 : decode cX5_own 9 = .ok (.iload_n 1, 1) := by decide +kernel
theorem dX5_own_10 : decode cX5_own 10 = .ok (.iaload, 1) := by decide +kernel
theorem dX5_own_11 : decode cX5_own 11 = .ok (.if_icmp .ge 65, 3) := by decide +kernel
theorem dX5_own_14 : decode cX5_own 14 = .ok (.bipush 30, 2) := by decide +kernel
theorem dX5_own_16 : decode cX5_own 16 = .ok (.iload_n 1, 1) := by decide +kernel
theorem dX5_own_17 : decode cX5_own 17 = .ok (.imul, 1) := by decide +kernel
theorem dX5_own_18 : decode cX5_own 18 = .ok (.iload 5, 2) := by decide +kernel
theorem dX5_own_20 : decode cX5_own 20 = .ok (.iadd, 1) := by decide +kernel
theorem dX5_own_21 : decode cX5_own 21 = .ok (.istore 6, 2) := by decide +kernel
theorem dX5_own_23 : decode cX5_own 23 = .ok (.aload_n 0, 1) := by decide +kernel
theorem dX5_own_24 : decode cX5_own 24 = .ok (.getfield 32, 3) := by decide +kernel
theorem dX5_own_27 : decode cX5_own 27 = .ok (.iload 6, 2) := by decide +kernel
theorem dX5_own_29 : decode cX5_own 29 = .ok (.baload, 1) := by decide +kernel
theorem dX5_own_30 : decode cX5_own 30 = .ok (.ifCond .ne 40, 3) := by decide +kernel
theorem dX5_own_33 : decode cX5_own 33 = .ok (.aload_n 0, 1) := by decide +kernel
theorem dX5_own_34 : decode cX5_own 34 = .ok (.getfield 38, 3) := by decide +kernel
theorem dX5_own_37 : decode cX5_own 37 = .ok (.iload 6, 2) := by decide +kernel
theorem dX5_own_39 : decode cX5_own 39 = .ok (.iaload, 1) := by decide +kernel
theorem dX5_own_40 : decode cX5_own 40 = .ok (.iload_n 2, 1) := by decide +kernel
theorem dX5_own_41 : decode cX5_own 41 = .ok (.if_icmp .ne 29, 3) := by decide +kernel
theorem dX5_own_44 : decode cX5_own 44 = .ok (.aload_n 0, 1) := by decide +kernel
theorem dX5_own_45 : decode cX5_own 45 = .ok (.getfield 29, 3) := by decide +kernel
theorem dX5_own_48 : decode cX5_own 48 = .ok (.iload 6, 2) := by decide +kernel
theorem dX5_own_50 : decode cX5_own 50 = .ok (.baload, 1) := by decide +kernel
theorem dX5_own_51 : decode cX5_own 51 = .ok (.iload_n 3, 1) := by decide +kernel
theorem dX5_own_52 : decode cX5_own 52 = .ok (.if_icmp .ne 18, 3) := by decide +kernel
theorem dX5_own_55 : decode cX5_own 55 = .ok (.aload_n 0, 1) := by decide +kernel
theorem dX5_own_56 : decode cX5_own 56 = .ok (.getfield 41, 3) := by decide +kernel
theorem dX5_own_59 : decode cX5_own 59 = .ok (.iload 6, 2) := by decide +kernel
theorem dX5_own_61 : decode cX5_own 61 = .ok (.iaload, 1) := by decide +kernel
theorem dX5_own_62 : decode cX5_own 62 = .ok (.iload 4, 2) := by decide +kernel
theorem dX5_own_64 : decode cX5_own 64 = .ok (.if_icmp .ne 6, 3) := by decide +kernel
theorem dX5_own_67 : decode cX5_own 67 = .ok (.iload 5, 2) := by decide +kernel
theorem dX5_own_69 : decode cX5_own 69 = .ok (.ireturn, 1) := by decide +kernel
theorem dX5_own_70 : decode cX5_own 70 = .ok (.iinc 5 1, 3) := by decide +kernel
theorem dX5_own_73 : decode cX5_own 73 = .ok (.goto (-70), 3) := by decide +kernel
theorem dX5_own_76 : decode cX5_own 76 = .ok (.iconst (-1), 1) := by decide +kernel
theorem dX5_own_77 : decode cX5_own 77 = .ok (.ireturn, 1) := by decide +kernel
set_option maxRecDepth 20000 in
theorem ggX5_member_X5_isThere : GoodIn wsX5_member wsX5_isThere := goodIn_r _ [13, 14, 15, 16, 12, 17, 18, 19, 20, 21, 1, 26, 27, 28, 29, 30, 31, 32, 33, 34, 35, 36, 37, 38, 39, 40, 41, 42, 43, 44, 45, 46] (by decide +kernel) (by decide +kernel)
set_option maxRecDepth 20000 in
theorem gX5_member_X5_isThere : GoodIn wsX5_member (wsV RX5 80 RX5 yX5_isThere wsX5_isThere) := goodIn_app (goodIn_of _ (by decide +kernel)) ggX5_member_X5_isThere
set_option maxRecDepth 20000 in
theorem ggX5_member_X5_in : GoodIn wsX5_member wsX5_in := goodIn_r _ [17] (by decide +kernel) (by decide +kernel)
set_option maxRecDepth 20000 in
theorem gX5_member_X5_in : GoodIn wsX5_member (va_wsS RX5 72 yX5_in wsX5_in) := goodIn_app (goodIn_of _ (by decide +kernel)) ggX5_member_X5_in
set_option maxRecDepth 20000 in
theorem ggX5_member_X5_own : GoodIn wsX5_member wsX5_own := goodIn_r _ [25, 2, 3, 4, 5, 6, 26, 27, 28, 29, 30, 31, 32, 33, 34, 35, 36, 37, 38, 39, 40, 41, 42, 43, 44, 45, 46] (by decide +kernel) (by decide +kernel)
set_option maxRecDepth 20000 in
theorem gX5_member_X5_own : GoodIn wsX5_member (wsV RX5 84 RX5 yX5_own wsX5_own) := goodIn_app (goodIn_of _ (by decide +kernel)) ggX5_member_X5_own
theorem dX5_member_0 : decode cX5_member 0 = .ok (.aload_n 0, 1) := by decide +kernel
theorem dX5_member_1 : decode cX5_member 1 = .ok (.iload_n 1, 1) := by decide +kernel
theorem dX5_member_2 : decode cX5_member 2 = .ok (.invokevirtual 80, 3) := by decide +kernel
theorem dX5_member_5 : decode cX5_member 5 = .ok (.ifCond .eq 45, 3) := by decide +kernel
theorem dX5_member_8 : decode cX5_member 8 = .ok (.iload_n 3, 1) := by decide +kernel
theorem dX5_member_9 : decode cX5_member 9 = .ok (.bipush 15, 2) := by decide +kernel
theorem dX5_member_11 : decode cX5_member 11 = .ok (.invokestatic 72, 3) := by decide +kernel
theorem dX5_member_14 : decode cX5_member 14 = .ok (.ifCond .eq 36, 3) := by decide +kernel
theorem dX5_member_17 : decode cX5_member 17 = .ok (.iload 4, 2) := by decide +kernel
theorem dX5_member_19 : decode cX5_member 19 = .ok (.iconst 4, 1) := by decide +kernel
theorem dX5_member_20 : decode cX5_member 20 = .ok (.invokestatic 72, 3) := by decide +kernel
theorem dX5_member_23 : decode cX5_member 23 = .ok (.ifCond .eq 27, 3) := by decide +kernel
theorem dX5_member_26 : decode cX5_member 26 = .ok (.iload 5, 2) := by decide +kernel
theorem dX5_member_28 : decode cX5_member 28 = .ok (.bipush 8, 2) := by decide +kernel
theorem dX5_member_30 : decode cX5_member 30 = .ok (.invokestatic 72, 3) := by decide +kernel
theorem dX5_member_33 : decode cX5_member 33 = .ok (.ifCond .eq 17, 3) := by decide +kernel
theorem dX5_member_36 : decode cX5_member 36 = .ok (.aload_n 0, 1) := by decide +kernel
theorem dX5_member_37 : decode cX5_member 37 = .ok (.aload_n 0, 1) := by decide +kernel
theorem dX5_member_38 : decode cX5_member 38 = .ok (.getfield 68, 3) := by decide +kernel
theorem dX5_member_41 : decode cX5_member 41 = .ok (.iload_n 1, 1) := by decide +kernel
theorem dX5_member_42 : decode cX5_member 42 = .ok (.iload_n 2, 1) := by decide +kernel
theorem dX5_member_43 : decode cX5_member 43 = .ok (.iload_n 3, 1) := by decide +kernel
theorem dX5_member_44 : decode cX5_member 44 = .ok (.invokevirtual 84, 3) := by decide +kernel
theorem dX5_member_47 : decode cX5_member 47 = .ok (.ifCond .lt 5, 3) := by decide +kernel
theorem dX5_member_50 : decode cX5_member 50 = .ok (.iconst (-1), 1) := by decide +kernel
theorem dX5_member_51 : decode cX5_member 51 = .ok (.ireturn, 1) := by decide +kernel
theorem dX5_member_52 : decode cX5_member 52 = .ok (.aload_n 0, 1) := by decide +kernel
theorem dX5_member_53 : decode cX5_member 53 = .ok (.getfield 35, 3) := by decide +kernel
theorem dX5_member_56 : decode cX5_member 56 = .ok (.aload_n 0, 1) := by decide +kernel
theorem dX5_member_57 : decode cX5_member 57 = .ok (.getfield 68, 3) := by decide +kernel
theorem dX5_member_60 : decode cX5_member 60 = .ok (.iaload, 1) := by decide +kernel
theorem dX5_member_61 : decode cX5_member 61 = .ok (.bipush 30, 2) := by decide +kernel
theorem dX5_member_63 : decode cX5_member 63 = .ok (.if_icmp .ne 6, 3) := by decide +kernel
theorem dX5_member_66 : decode cX5_member 66 = .ok (.bipush (-3), 2) := by decide +kernel
theorem dX5_member_68 : decode cX5_member 68 = .ok (.ireturn, 1) := by decide +kernel
theorem dX5_member_69 : decode cX5_member 69 = .ok (.bipush 30, 2) := by decide +kernel
theorem dX5_member_71 : decode cX5_member 71 = .ok (.aload_n 0, 1) := by decide +kernel
theorem dX5_member_72 : decode cX5_member 72 = .ok (.getfield 68, 3) := by decide +kernel
theorem dX5_member_75 : decode cX5_member 75 = .ok (.imul, 1) := by decide +kernel
theorem dX5_member_76 : decode cX5_member 76 = .ok (.aload_n 0, 1) := by decide +kernel
theorem dX5_member_77 : decode cX5_member 77 = .ok (.getfield 35, 3) := by decide +kernel
theorem dX5_member_80 : decode cX5_member 80 = .ok (.aload_n 0, 1) := by decide +kernel
theorem dX5_member_81 : decode cX5_member 81 = .ok (.getfield 68, 3) := by decide +kernel
theorem dX5_member_84 : decode cX5_member 84 = .ok (.iaload, 1) := by decide +kernel
theorem dX5_member_85 : decode cX5_member 85 = .ok (.iadd, 1) := by decide +kernel
theorem dX5_member_86 : decode cX5_member 86 = .ok (.istore 6, 2) := by decide +kernel
theorem dX5_member_88 : decode cX5_member 88 = .ok (.aload_n 0, 1) := by decide +kernel
theorem dX5_member_89 : decode cX5_member 89 = .ok (.getfield 32, 3) := by decide +kernel
theorem dX5_member_92 : decode cX5_member 92 = .ok (.iload 6, 2) := by decide +kernel
theorem dX5_member_94 : decode cX5_member 94 = .ok (.iconst 0, 1) := by decide +kernel
theorem dX5_member_95 : decode cX5_member 95 = .ok (.bastore, 1) := by decide +kernel
theorem dX5_member_96 : decode cX5_member 96 = .ok (.aload_n 0, 1) := by decide +kernel
theorem dX5_member_97 : decode cX5_member 97 = .ok (.getfield 38, 3) := by decide +kernel
theorem dX5_member_100 : decode cX5_member 100 = .ok (.iload 6, 2) := by decide +kernel
theorem dX5_member_102 : decode cX5_member 102 = .ok (.iload_n 1, 1) := by decide +kernel
theorem dX5_member_103 : decode cX5_member 103 = .ok (.iastore, 1) := by decide +kernel
theorem dX5_member_104 : decode cX5_member 104 = .ok (.aload_n 0, 1) := by decide +kernel
theorem dX5_member_105 : decode cX5_member 105 = .ok (.getfield 29, 3) := by decide +kernel
theorem dX5_member_108 : decode cX5_member 108 = .ok (.iload 6, 2) := by decide +kernel
theorem dX5_member_110 : decode cX5_member 110 = .ok (.iload_n 2, 1) := by decide +kernel
theorem dX5_member_111 : decode cX5_member 111 = .ok (.bastore, 1) := by decide +kernel
theorem dX5_member_112 : decode cX5_member 112 = .ok (.aload_n 0, 1) := by decide +kernel
theorem dX5_member_113 : decode cX5_member 113 = .ok (.getfield 41, 3) := by decide +kernel
theorem dX5_member_116 : decode cX5_member 116 = .ok (.iload 6, 2) := by decide +kernel
theorem dX5_member_118 : decode cX5_member 118 = .ok (.iload_n 3, 1) := by decide +kernel
theorem dX5_member_119 : decode cX5_member 119 = .ok (.iastore, 1) := by decide +kernel
theorem dX5_member_120 : decode cX5_member 120 = .ok (.aload_n 0, 1) := by decide +kernel
theorem dX5_member_121 : decode cX5_member 121 = .ok (.getfield 44, 3) := by decide +kernel
theorem dX5_member_124 : decode cX5_member 124 = .ok (.iload 6, 2) := by decide +kernel
theorem dX5_member_126 : decode cX5_member 126 = .ok (.iload 4, 2) := by decide +kernel
theorem dX5_member_128 : decode cX5_member 128 = .ok (.iastore, 1) := by decide +kernel
theorem dX5_member_129 : decode cX5_member 129 = .ok (.aload_n 0, 1) := by decide +kernel
theorem dX5_member_130 : decode cX5_member 130 = .ok (.getfield 47, 3) := by decide +kernel
theorem dX5_member_133 : decode cX5_member 133 = .ok (.iload 6, 2) := by decide +kernel
theorem dX5_member_135 : decode cX5_member 135 = .ok (.iload 5, 2) := by decide +kernel
theorem dX5_member_137 : decode cX5_member 137 = .ok (.iastore, 1) := by decide +kernel
theorem dX5_member_138 : decode cX5_member 138 = .ok (.aload_n 0, 1) := by decide +kernel
theorem dX5_member_139 : decode cX5_member 139 = .ok (.getfield 35, 3) := by decide +kernel
theorem dX5_member_142 : decode cX5_member 142 = .ok (.aload_n 0, 1) := by decide +kernel
theorem dX5_member_143 : decode cX5_member 143 = .ok (.getfield 68, 3) := by decide +kernel
theorem dX5_member_146 : decode cX5_member 146 = .ok (.dup2, 1) := by decide +kernel
theorem dX5_member_147 : decode cX5_member 147 = .ok (.iaload, 1) := by decide +kernel
theorem dX5_member_148 : decode cX5_member 148 = .ok (.iconst 1, 1) := by decide +kernel
theorem dX5_member_149 : decode cX5_member 149 = .ok (.iadd, 1) := by decide +kernel
theorem dX5_member_150 : decode cX5_member 150 = .ok (.iastore, 1) := by decide +kernel
theorem dX5_member_151 : decode cX5_member 151 = .ok (.aload_n 0, 1) := by decide +kernel
theorem dX5_member_152 : decode cX5_member 152 = .ok (.getfield 35, 3) := by decide +kernel
theorem dX5_member_155 : decode cX5_member 155 = .ok (.aload_n 0, 1) := by decide +kernel
theorem dX5_member_156 : decode cX5_member 156 = .ok (.getfield 68, 3) := by decide +kernel
theorem dX5_member_159 : decode cX5_member 159 = .ok (.iaload, 1) := by decide +kernel
theorem dX5_member_160 : decode cX5_member 160 = .ok (.iconst 1, 1) := by decide +kernel
theorem dX5_member_161 : decode cX5_member 161 = .ok (.isub, 1) := by decide +kernel
theorem dX5_member_162 : decode cX5_member 162 = .ok (.ireturn, 1) := by decide +kernel
set_option maxRecDepth 20000 in
theorem ggX5_isMember_X5_in : GoodIn wsX5_isMember wsX5_in := goodIn_r _ [7] (by decide +kernel) (by decide +kernel)
set_option maxRecDepth 20000 in
theorem gX5_isMember_X5_in : GoodIn wsX5_isMember (va_wsS RX5 72 yX5_in wsX5_in) := goodIn_app (goodIn_of _ (by decide +kernel)) ggX5_isMember_X5_in
theorem dX5_isMember_0 : decode cX5_isMember 0 = .ok (.iload_n 1, 1) := by decide +kernel
theorem dX5_isMember_1 : decode cX5_isMember 1 = .ok (.aload_n 0, 1) := by decide +kernel
theorem dX5_isMember_2 : decode cX5_isMember 2 = .ok (.getfield 35, 3) := by decide +kernel
theorem dX5_isMember_5 : decode cX5_isMember 5 = .ok (.aload_n 0, 1) := by decide +kernel
theorem dX5_isMember_6 : decode cX5_isMember 6 = .ok (.getfield 68, 3) := by decide +kernel
theorem dX5_isMember_9 : decode cX5_isMember 9 = .ok (.iaload, 1) := by decide +kernel
theorem dX5_isMember_10 : decode cX5_isMember 10 = .ok (.invokestatic 72, 3) := by decide +kernel
theorem dX5_isMember_13 : decode cX5_isMember 13 = .ok (.ifCond .eq 24, 3) := by decide +kernel
theorem dX5_isMember_16 : decode cX5_isMember 16 = .ok (.aload_n 0, 1) := by decide +kernel
theorem dX5_isMember_17 : decode cX5_isMember 17 = .ok (.getfield 32, 3) := by decide +kernel
theorem dX5_isMember_20 : decode cX5_isMember 20 = .ok (.bipush 30, 2) := by decide +kernel
theorem dX5_isMember_22 : decode cX5_isMember 22 = .ok (.aload_n 0, 1) := by decide +kernel
theorem dX5_isMember_23 : decode cX5_isMember 23 = .ok (.getfield 68, 3) := by decide +kernel
theorem dX5_isMember_26 : decode cX5_isMember 26 = .ok (.imul, 1) := by decide +kernel
theorem dX5_isMember_27 : decode cX5_isMember 27 = .ok (.iload_n 1, 1) := by decide +kernel
theorem dX5_isMember_28 : decode cX5_isMember 28 = .ok (.iadd, 1) := by decide +kernel
theorem dX5_isMember_29 : decode cX5_isMember 29 = .ok (.baload, 1) := by decide +kernel
theorem dX5_isMember_30 : decode cX5_isMember 30 = .ok (.ifCond .ne 7, 3) := by decide +kernel
theorem dX5_isMember_33 : decode cX5_isMember 33 = .ok (.iconst 1, 1) := by decide +kernel
theorem dX5_isMember_34 : decode cX5_isMember 34 = .ok (.goto 4, 3) := by decide +kernel
theorem dX5_isMember_37 : decode cX5_isMember 37 = .ok (.iconst 0, 1) := by decide +kernel
theorem dX5_isMember_38 : decode cX5_isMember 38 = .ok (.ireturn, 1) := by decide +kernel
set_option maxRecDepth 20000 in
theorem ggX5_remake_X5_isMember : GoodIn wsX5_remake wsX5_isMember := goodIn_r _ [8, 9, 2, 10, 11, 12, 7, 13, 14, 15, 16, 17, 18, 19, 20, 21, 22, 23, 24, 25, 26, 27, 28, 29, 30, 31, 32, 33, 34] (by decide +kernel) (by decide +kernel)
set_option maxRecDepth 20000 in
theorem gX5_remake_X5_isMember : GoodIn wsX5_remake (wsV RX5 88 RX5 yX5_isMember wsX5_isMember) := goodIn_app (goodIn_of _ (by decide +kernel)) ggX5_remake_X5_isMember
set_option maxRecDepth 20000 in
theorem ggX5_remake_X5_in : GoodIn wsX5_remake wsX5_in := goodIn_r _ [13] (by decide +kernel) (by decide +kernel)
set_option maxRecDepth 20000 in
theorem gX5_remake_X5_in : GoodIn wsX5_remake (va_wsS RX5 72 yX5_in wsX5_in) := goodIn_app (goodIn_of _ (by decide +kernel)) ggX5_remake_X5_in
theorem dX5_remake_0 : decode cX5_remake 0 = .ok (.aload_n 0, 1) := by decide +kernel
theorem dX5_remake_1 : decode cX5_remake 1 = .ok (.iload_n 1, 1) := by decide +kernel
theorem dX5_remake_2 : decode cX5_remake 2 = .ok (.invokevirtual 88, 3) := by decide +kernel
theorem dX5_remake_5 : decode cX5_remake 5 = .ok (.ifCond .eq 20, 3) := by decide +kernel
theorem dX5_remake_8 : decode cX5_remake 8 = .ok (.iload_n 2, 1) := by decide +kernel
theorem dX5_remake_9 : decode cX5_remake 9 = .ok (.iconst 4, 1) := by decide +kernel
theorem dX5_remake_10 : decode cX5_remake 10 = .ok (.invokestatic 72, 3) := by decide +kernel
theorem dX5_remake_13 : decode cX5_remake 13 = .ok (.ifCond .eq 12, 3) := by decide +kernel
theorem dX5_remake_16 : decode cX5_remake 16 = .ok (.iload_n 3, 1) := by decide +kernel
theorem dX5_remake_17 : decode cX5_remake 17 = .ok (.bipush 8, 2) := by decide +kernel
theorem dX5_remake_19 : decode cX5_remake 19 = .ok (.invokestatic 72, 3) := by decide +kernel
theorem dX5_remake_22 : decode cX5_remake 22 = .ok (.ifCond .ne 5, 3) := by decide +kernel
theorem dX5_remake_25 : decode cX5_remake 25 = .ok (.iconst 0, 1) := by decide +kernel
theorem dX5_remake_26 : decode cX5_remake 26 = .ok (.ireturn, 1) := by decide +kernel
theorem dX5_remake_27 : decode cX5_remake 27 = .ok (.aload_n 0, 1) := by decide +kernel
theorem dX5_remake_28 : decode cX5_remake 28 = .ok (.getfield 44, 3) := by decide +kernel
theorem dX5_remake_31 : decode cX5_remake 31 = .ok (.bipush 30, 2) := by decide +kernel
theorem dX5_remake_33 : decode cX5_remake 33 = .ok (.aload_n 0, 1) := by decide +kernel
theorem dX5_remake_34 : decode cX5_remake 34 = .ok (.getfield 68, 3) := by decide +kernel
theorem dX5_remake_37 : decode cX5_remake 37 = .ok (.imul, 1) := by decide +kernel
theorem dX5_remake_38 : decode cX5_remake 38 = .ok (.iload_n 1, 1) := by decide +kernel
theorem dX5_remake_39 : decode cX5_remake 39 = .ok (.iadd, 1) := by decide +kernel
theorem dX5_remake_40 : decode cX5_remake 40 = .ok (.iload_n 2, 1) := by decide +kernel
theorem dX5_remake_41 : decode cX5_remake 41 = .ok (.iastore, 1) := by decide +kernel
theorem dX5_remake_42 : decode cX5_remake 42 = .ok (.aload_n 0, 1) := by decide +kernel
theorem dX5_remake_43 : decode cX5_remake 43 = .ok (.getfield 47, 3) := by decide +kernel
theorem dX5_remake_46 : decode cX5_remake 46 = .ok (.bipush 30, 2) := by decide +kernel
theorem dX5_remake_48 : decode cX5_remake 48 = .ok (.aload_n 0, 1) := by decide +kernel
theorem dX5_remake_49 : decode cX5_remake 49 = .ok (.getfield 68, 3) := by decide +kernel
theorem dX5_remake_52 : decode cX5_remake 52 = .ok (.imul, 1) := by decide +kernel
theorem dX5_remake_53 : decode cX5_remake 53 = .ok (.iload_n 1, 1) := by decide +kernel
theorem dX5_remake_54 : decode cX5_remake 54 = .ok (.iadd, 1) := by decide +kernel
theorem dX5_remake_55 : decode cX5_remake 55 = .ok (.iload_n 3, 1) := by decide +kernel
theorem dX5_remake_56 : decode cX5_remake 56 = .ok (.iastore, 1) := by decide +kernel
theorem dX5_remake_57 : decode cX5_remake 57 = .ok (.iconst 1, 1) := by decide +kernel
theorem dX5_remake_58 : decode cX5_remake 58 = .ok (.ireturn, 1) := by decide +kernel
set_option maxRecDepth 20000 in
theorem ggX5_remove_X5_isMember : GoodIn wsX5_remove wsX5_isMember := goodIn_r _ [7, 8, 2, 1, 9, 10, 6, 11, 12, 13, 14, 15, 16, 17, 18, 19, 20, 21, 22, 23, 24, 25, 26, 27, 28, 29, 30, 31, 32] (by decide +kernel) (by decide +kernel)
set_option maxRecDepth 20000 in
theorem gX5_remove_X5_isMember : GoodIn wsX5_remove (wsV RX5 88 RX5 yX5_isMember wsX5_isMember) := goodIn_app (goodIn_of _ (by decide +kernel)) ggX5_remove_X5_isMember
theorem dX5_remove_0 : decode cX5_remove 0 = .ok (.aload_n 0, 1) := by decide +kernel
theorem dX5_remove_1 : decode cX5_remove 1 = .ok (.iload_n 1, 1) := by decide +kernel
theorem dX5_remove_2 : decode cX5_remove 2 = .ok (.invokevirtual 88, 3) := by decide +kernel
theorem dX5_remove_5 : decode cX5_remove 5 = .ok (.ifCond .ne 5, 3) := by decide +kernel
theorem dX5_remove_8 : decode cX5_remove 8 = .ok (.iconst 0, 1) := by decide +kernel
theorem dX5_remove_9 : decode cX5_remove 9 = .ok (.ireturn, 1) := by decide +kernel
theorem dX5_remove_10 : decode cX5_remove 10 = .ok (.aload_n 0, 1) := by decide +kernel
theorem dX5_remove_11 : decode cX5_remove 11 = .ok (.getfield 32, 3) := by decide +kernel
theorem dX5_remove_14 : decode cX5_remove 14 = .ok (.bipush 30, 2) := by decide +kernel
theorem dX5_remove_16 : decode cX5_remove 16 = .ok (.aload_n 0, 1) := by decide +kernel
theorem dX5_remove_17 : decode cX5_remove 17 = .ok (.getfield 68, 3) := by decide +kernel
theorem dX5_remove_20 : decode cX5_remove 20 = .ok (.imul, 1) := by decide +kernel
theorem dX5_remove_21 : decode cX5_remove 21 = .ok (.iload_n 1, 1) := by decide +kernel
theorem dX5_remove_22 : decode cX5_remove 22 = .ok (.iadd, 1) := by decide +kernel
theorem dX5_remove_23 : decode cX5_remove 23 = .ok (.iconst 1, 1) := by decide +kernel
theorem dX5_remove_24 : decode cX5_remove 24 = .ok (.bastore, 1) := by decide +kernel
theorem dX5_remove_25 : decode cX5_remove 25 = .ok (.iconst 1, 1) := by decide +kernel
theorem dX5_remove_26 : decode cX5_remove 26 = .ok (.ireturn, 1) := by decide +kernel
theorem dX5_branch_0 : decode cX5_branch 0 = .ok (.iconst 0, 1) := by decide +kernel
theorem dX5_branch_1 : decode cX5_branch 1 = .ok (.istore_n 1, 1) := by decide +kernel
theorem dX5_branch_2 : decode cX5_branch 2 = .ok (.iconst 0, 1) := by decide +kernel
theorem dX5_branch_3 : decode cX5_branch 3 = .ok (.istore_n 2, 1) := by decide +kernel
theorem dX5_branch_4 : decode cX5_branch 4 = .ok (.iload_n 2, 1) := by decide +kernel
theorem dX5_branch_5 : decode cX5_branch 5 = .ok (.bipush 12, 2) := by decide +kernel
theorem dX5_branch_7 : decode cX5_branch 7 = .ok (.if_icmp .ge 111, 3) := by decide +kernel
theorem dX5_branch_10 : decode cX5_branch 10 = .ok (.aload_n 0, 1) := by decide +kernel
theorem dX5_branch_11 : decode cX5_branch 11 = .ok (.getfield 7, 3) := by decide +kernel
theorem dX5_branch_14 : decode cX5_branch 14 = .ok (.bipush 12, 2) := by decide +kernel
theorem dX5_branch_16 : decode cX5_branch 16 = .ok (.iload_n 2, 1) := by decide +kernel
theorem dX5_branch_17 : decode cX5_branch 17 = .ok (.iadd, 1) := by decide +kernel
theorem dX5_branch_18 : decode cX5_branch 18 = .ok (.aload_n 0, 1) := by decide +kernel
theorem dX5_branch_19 : decode cX5_branch 19 = .ok (.getfield 7, 3) := by decide +kernel
theorem dX5_branch_22 : decode cX5_branch 22 = .ok (.iload_n 2, 1) := by decide +kernel
theorem dX5_branch_23 : decode cX5_branch 23 = .ok (.baload, 1) := by decide +kernel
theorem dX5_branch_24 : decode cX5_branch 24 = .ok (.bastore, 1) := by decide +kernel
theorem dX5_branch_25 : decode cX5_branch 25 = .ok (.aload_n 0, 1) := by decide +kernel
theorem dX5_branch_26 : decode cX5_branch 26 = .ok (.getfield 13, 3) := by decide +kernel
theorem dX5_branch_29 : decode cX5_branch 29 = .ok (.bipush 12, 2) := by decide +kernel
theorem dX5_branch_31 : decode cX5_branch 31 = .ok (.iload_n 2, 1) := by decide +kernel
theorem dX5_branch_32 : decode cX5_branch 32 = .ok (.iadd, 1) := by decide +kernel
theorem dX5_branch_33 : decode cX5_branch 33 = .ok (.aload_n 0, 1) := by decide +kernel
theorem dX5_branch_34 : decode cX5_branch 34 = .ok (.getfield 13, 3) := by decide +kernel
theorem dX5_branch_37 : decode cX5_branch 37 = .ok (.iload_n 2, 1) := by decide +kernel
theorem dX5_branch_38 : decode cX5_branch 38 = .ok (.iaload, 1) := by decide +kernel
theorem dX5_branch_39 : decode cX5_branch 39 = .ok (.iastore, 1) := by decide +kernel
theorem dX5_branch_40 : decode cX5_branch 40 = .ok (.aload_n 0, 1) := by decide +kernel
theorem dX5_branch_41 : decode cX5_branch 41 = .ok (.getfield 17, 3) := by decide +kernel
theorem dX5_branch_44 : decode cX5_branch 44 = .ok (.bipush 12, 2) := by decide +kernel
theorem dX5_branch_46 : decode cX5_branch 46 = .ok (.iload_n 2, 1) := by decide +kernel
theorem dX5_branch_47 : decode cX5_branch 47 = .ok (.iadd, 1) := by decide +kernel
theorem dX5_branch_48 : decode cX5_branch 48 = .ok (.aload_n 0, 1) := by decide +kernel
theorem dX5_branch_49 : decode cX5_branch 49 = .ok (.getfield 17, 3) := by decide +kernel
theorem dX5_branch_52 : decode cX5_branch 52 = .ok (.iload_n 2, 1) := by decide +kernel
theorem dX5_branch_53 : decode cX5_branch 53 = .ok (.iaload, 1) := by decide +kernel
theorem dX5_branch_54 : decode cX5_branch 54 = .ok (.iastore, 1) := by decide +kernel
theorem dX5_branch_55 : decode cX5_branch 55 = .ok (.aload_n 0, 1) := by decide +kernel
theorem dX5_branch_56 : decode cX5_branch 56 = .ok (.getfield 20, 3) := by decide +kernel
theorem dX5_branch_59 : decode cX5_branch 59 = .ok (.bipush 12, 2) := by decide +kernel
theorem dX5_branch_61 : decode cX5_branch 61 = .ok (.iload_n 2, 1) := by decide +kernel
theorem dX5_branch_62 : decode cX5_branch 62 = .ok (.iadd, 1) := by decide +kernel
theorem dX5_branch_63 : decode cX5_branch 63 = .ok (.aload_n 0, 1) := by decide +kernel
theorem dX5_branch_64 : decode cX5_branch 64 = .ok (.getfield 20, 3) := by decide +kernel
theorem dX5_branch_67 : decode cX5_branch 67 = .ok (.iload_n 2, 1) := by decide +kernel
theorem dX5_branch_68 : decode cX5_branch 68 = .ok (.iaload, 1) := by decide +kernel
theorem dX5_branch_69 : decode cX5_branch 69 = .ok (.iastore, 1) := by decide +kernel
theorem dX5_branch_70 : decode cX5_branch 70 = .ok (.aload_n 0, 1) := by decide +kernel
theorem dX5_branch_71 : decode cX5_branch 71 = .ok (.getfield 23, 3) := by decide +kernel
theorem dX5_branch_74 : decode cX5_branch 74 = .ok (.bipush 12, 2) := by decide +kernel
theorem dX5_branch_76 : decode cX5_branch 76 = .ok (.iload_n 2, 1) := by decide +kernel
theorem dX5_branch_77 : decode cX5_branch 77 = .ok (.iadd, 1) := by decide +kernel
theorem dX5_branch_78 : decode cX5_branch 78 = .ok (.aload_n 0, 1) := by decide +kernel
theorem dX5_branch_79 : decode cX5_branch 79 = .ok (.getfield 23, 3) := by decide +kernel
theorem dX5_branch_82 : decode cX5_branch 82 = .ok (.iload_n 2, 1) := by decide +kernel
theorem dX5_branch_83 : decode cX5_branch 83 = .ok (.iaload, 1) := by decide +kernel
theorem dX5_branch_84 : decode cX5_branch 84 = .ok (.iastore, 1) := by decide +kernel
theorem dX5_branch_85 : decode cX5_branch 85 = .ok (.aload_n 0, 1) := by decide +kernel
theorem dX5_branch_86 : decode cX5_branch 86 = .ok (.getfield 26, 3) := by decide +kernel
theorem dX5_branch_89 : decode cX5_branch 89 = .ok (.bipush 12, 2) := by decide +kernel
theorem dX5_branch_91 : decode cX5_branch 91 = .ok (.iload_n 2, 1) := by decide +kernel
theorem dX5_branch_92 : decode cX5_branch 92 = .ok (.iadd, 1) := by decide +kernel
theorem dX5_branch_93 : decode cX5_branch 93 = .ok (.aload_n 0, 1) := by decide +kernel
theorem dX5_branch_94 : decode cX5_branch 94 = .ok (.getfield 26, 3) := by decide +kernel
theorem dX5_branch_97 : decode cX5_branch 97 = .ok (.iload_n 2, 1) := by decide +kernel
theorem dX5_branch_98 : decode cX5_branch 98 = .ok (.iaload, 1) := by decide +kernel
theorem dX5_branch_99 : decode cX5_branch 99 = .ok (.iastore, 1) := by decide +kernel
theorem dX5_branch_100 : decode cX5_branch 100 = .ok (.aload_n 0, 1) := by decide +kernel
theorem dX5_branch_101 : decode cX5_branch 101 = .ok (.getfield 7, 3) := by decide +kernel
theorem dX5_branch_104 : decode cX5_branch 104 = .ok (.iload_n 2, 1) := by decide +kernel
theorem dX5_branch_105 : decode cX5_branch 105 = .ok (.baload, 1) := by decide +kernel
theorem dX5_branch_106 : decode cX5_branch 106 = .ok (.ifCond .eq 6, 3) := by decide +kernel
theorem dX5_branch_109 : decode cX5_branch 109 = .ok (.iinc 1 1, 3) := by decide +kernel
theorem dX5_branch_112 : decode cX5_branch 112 = .ok (.iinc 2 1, 3) := by decide +kernel
theorem dX5_branch_115 : decode cX5_branch 115 = .ok (.goto (-111), 3) := by decide +kernel
theorem dX5_branch_118 : decode cX5_branch 118 = .ok (.iconst 0, 1) := by decide +kernel
theorem dX5_branch_119 : decode cX5_branch 119 = .ok (.istore_n 2, 1) := by decide +kernel
theorem dX5_branch_120 : decode cX5_branch 120 = .ok (.iload_n 2, 1) := by decide +kernel
theorem dX5_branch_121 : decode cX5_branch 121 = .ok (.aload_n 0, 1) := by decide +kernel
theorem dX5_branch_122 : decode cX5_branch 122 = .ok (.getfield 35, 3) := by decide +kernel
theorem dX5_branch_125 : decode cX5_branch 125 = .ok (.iconst 0, 1) := by decide +kernel
theorem dX5_branch_126 : decode cX5_branch 126 = .ok (.iaload, 1) := by decide +kernel
theorem dX5_branch_127 : decode cX5_branch 127 = .ok (.if_icmp .ge 99, 3) := by decide +kernel
theorem dX5_branch_130 : decode cX5_branch 130 = .ok (.aload_n 0, 1) := by decide +kernel
theorem dX5_branch_131 : decode cX5_branch 131 = .ok (.getfield 32, 3) := by decide +kernel
theorem dX5_branch_134 : decode cX5_branch 134 = .ok (.bipush 30, 2) := by decide +kernel
theorem dX5_branch_136 : decode cX5_branch 136 = .ok (.iload_n 2, 1) := by decide +kernel
theorem dX5_branch_137 : decode cX5_branch 137 = .ok (.iadd, 1) := by decide +kernel
theorem dX5_branch_138 : decode cX5_branch 138 = .ok (.aload_n 0, 1) := by decide +kernel
theorem dX5_branch_139 : decode cX5_branch 139 = .ok (.getfield 32, 3) := by decide +kernel
theorem dX5_branch_142 : decode cX5_branch 142 = .ok (.iload_n 2, 1) := by decide +kernel
theorem dX5_branch_143 : decode cX5_branch 143 = .ok (.baload, 1) := by decide +kernel
theorem dX5_branch_144 : decode cX5_branch 144 = .ok (.bastore, 1) := by decide +kernel
theorem dX5_branch_145 : decode cX5_branch 145 = .ok (.aload_n 0, 1) := by decide +kernel
theorem dX5_branch_146 : decode cX5_branch 146 = .ok (.getfield 38, 3) := by decide +kernel
theorem dX5_branch_149 : decode cX5_branch 149 = .ok (.bipush 30, 2) := by decide +kernel
theorem dX5_branch_151 : decode cX5_branch 151 = .ok (.iload_n 2, 1) := by decide +kernel
theorem dX5_branch_152 : decode cX5_branch 152 = .ok (.iadd, 1) := by decide +kernel
theorem dX5_branch_153 : decode cX5_branch 153 = .ok (.aload_n 0, 1) := by decide +kernel
theorem dX5_branch_154 : decode cX5_branch 154 = .ok (.getfield 38, 3) := by decide +kernel
theorem dX5_branch_157 : decode cX5_branch 157 = .ok (.iload_n 2, 1) := by decide +kernel
theorem dX5_branch_158 : decode cX5_branch 158 = .ok (.iaload, 1) := by decide +kernel
theorem dX5_branch_159 : decode cX5_branch 159 = .ok (.iastore, 1) := by decide +kernel
theorem dX5_branch_160 : decode cX5_branch 160 = .ok (.aload_n 0, 1) := by decide +kernel
theorem dX5_branch_161 : decode cX5_branch 161 = .ok (.getfield 29, 3) := by decide +kernel
theorem dX5_branch_164 : decode cX5_branch 164 = .ok (.bipush 30, 2) := by decide +kernel
theorem dX5_branch_166 : decode cX5_branch 166 = .ok (.iload_n 2, 1) := by decide +kernel
theorem dX5_branch_167 : decode cX5_branch 167 = .ok (.iadd, 1) := by decide +kernel
theorem dX5_branch_168 : decode cX5_branch 168 = .ok (.aload_n 0, 1) := by decide +kernel
theorem dX5_branch_169 : decode cX5_branch 169 = .ok (.getfield 29, 3) := by decide +kernel
theorem dX5_branch_172 : decode cX5_branch 172 = .ok (.iload_n 2, 1) := by decide +kernel
theorem dX5_branch_173 : decode cX5_branch 173 = .ok (.baload, 1) := by decide +kernel
theorem dX5_branch_174 : decode cX5_branch 174 = .ok (.bastore, 1) := by decide +kernel
theorem dX5_branch_175 : decode cX5_branch 175 = .ok (.aload_n 0, 1) := by decide +kernel
theorem dX5_branch_176 : decode cX5_branch 176 = .ok (.getfield 41, 3) := by decide +kernel
theorem dX5_branch_179 : decode cX5_branch 179 = .ok (.bipush 30, 2) := by decide +kernel
theorem dX5_branch_181 : decode cX5_branch 181 = .ok (.iload_n 2, 1) := by decide +kernel
theorem dX5_branch_182 : decode cX5_branch 182 = .ok (.iadd, 1) := by decide +kernel
theorem dX5_branch_183 : decode cX5_branch 183 = .ok (.aload_n 0, 1) := by decide +kernel
theorem dX5_branch_184 : decode cX5_branch 184 = .ok (.getfield 41, 3) := by decide +kernel
theorem dX5_branch_187 : decode cX5_branch 187 = .ok (.iload_n 2, 1) := by decide +kernel
theorem dX5_branch_188 : decode cX5_branch 188 = .ok (.iaload, 1) := by decide +kernel
theorem dX5_branch_189 : decode cX5_branch 189 = .ok (.iastore, 1) := by decide +kernel
theorem dX5_branch_190 : decode cX5_branch 190 = .ok (.aload_n 0, 1) := by decide +kernel
theorem dX5_branch_191 : decode cX5_branch 191 = .ok (.getfield 44, 3) := by decide +kernel
theorem dX5_branch_194 : decode cX5_branch 194 = .ok (.bipush 30, 2) := by decide +kernel
theorem dX5_branch_196 : decode cX5_branch 196 = .ok (.iload_n 2, 1) := by decide +kernel
theorem dX5_branch_197 : decode cX5_branch 197 = .ok (.iadd, 1) := by decide +kernel
theorem dX5_branch_198 : decode cX5_branch 198 = .ok (.aload_n 0, 1) := by decide +kernel
theorem dX5_branch_199 : decode cX5_branch 199 = .ok (.getfield 44, 3) := by decide +kernel
theorem dX5_branch_202 : decode cX5_branch 202 = .ok (.iload_n 2, 1) := by decide +kernel
theorem dX5_branch_203 : decode cX5_branch 203 = .ok (.iaload, 1) := by decide +kernel
theorem dX5_branch_204 : decode cX5_branch 204 = .ok (.iastore, 1) := by decide +kernel
theorem dX5_branch_205 : decode cX5_branch 205 = .ok (.aload_n 0, 1) := by decide +kernel
theorem dX5_branch_206 : decode cX5_branch 206 = .ok (.getfield 47, 3) := by decide +kernel
theorem dX5_branch_209 : decode cX5_branch 209 = .ok (.bipush 30, 2) := by decide +kernel
theorem dX5_branch_211 : decode cX5_branch 211 = .ok (.iload_n 2, 1) := by decide +kernel
theorem dX5_branch_212 : decode cX5_branch 212 = .ok (.iadd, 1) := by decide +kernel
theorem dX5_branch_213 : decode cX5_branch 213 = .ok (.aload_n 0, 1) := by decide +kernel
theorem dX5_branch_214 : decode cX5_branch 214 = .ok (.getfield 47, 3) := by decide +kernel
theorem dX5_branch_217 : decode cX5_branch 217 = .ok (.iload_n 2, 1) := by decide +kernel
theorem dX5_branch_218 : decode cX5_branch 218 = .ok (.iaload, 1) := by decide +kernel
theorem dX5_branch_219 : decode cX5_branch 219 = .ok (.iastore, 1) := by decide +kernel
theorem dX5_branch_220 : decode cX5_branch 220 = .ok (.iinc 2 1, 3) := by decide +kernel
theorem dX5_branch_223 : decode cX5_branch 223 = .ok (.goto (-103), 3) := by decide +kernel
theorem dX5_branch_226 : decode cX5_branch 226 = .ok (.aload_n 0, 1) := by decide +kernel
theorem dX5_branch_227 : decode cX5_branch 227 = .ok (.getfield 35, 3) := by decide +kernel
theorem dX5_branch_230 : decode cX5_branch 230 = .ok (.iconst 1, 1) := by decide +kernel
theorem dX5_branch_231 : decode cX5_branch 231 = .ok (.aload_n 0, 1) := by decide +kernel
theorem dX5_branch_232 : decode cX5_branch 232 = .ok (.getfield 35, 3) := by decide +kernel
theorem dX5_branch_235 : decode cX5_branch 235 = .ok (.iconst 0, 1) := by decide +kernel
theorem dX5_branch_236 : decode cX5_branch 236 = .ok (.iaload, 1) := by decide +kernel
theorem dX5_branch_237 : decode cX5_branch 237 = .ok (.iastore, 1) := by decide +kernel
theorem dX5_branch_238 : decode cX5_branch 238 = .ok (.aload_n 0, 1) := by decide +kernel
theorem dX5_branch_239 : decode cX5_branch 239 = .ok (.iconst 1, 1) := by decide +kernel
theorem dX5_branch_240 : decode cX5_branch 240 = .ok (.putfield 68, 3) := by decide +kernel
theorem dX5_branch_243 : decode cX5_branch 243 = .ok (.iload_n 1, 1) := by decide +kernel
theorem dX5_branch_244 : decode cX5_branch 244 = .ok (.ireturn, 1) := by decide +kernel
set_option maxRecDepth 20000 in
theorem ggX5_write_X5_in : GoodIn wsX5_write wsX5_in := goodIn_r _ [5] (by decide +kernel) (by decide +kernel)
set_option maxRecDepth 20000 in
theorem gX5_write_X5_in : GoodIn wsX5_write (va_wsS RX5 72 yX5_in wsX5_in) := goodIn_app (goodIn_of _ (by decide +kernel)) ggX5_write_X5_in
theorem dX5_write_0 : decode cX5_write 0 = .ok (.iload_n 1, 1) := by decide +kernel
theorem dX5_write_1 : decode cX5_write 1 = .ok (.iconst 2, 1) := by decide +kernel
theorem dX5_write_2 : decode cX5_write 2 = .ok (.invokestatic 72, 3) := by decide +kernel
theorem dX5_write_5 : decode cX5_write 5 = .ok (.ifCond .ne 5, 3) := by decide +kernel
theorem dX5_write_8 : decode cX5_write 8 = .ok (.iconst 0, 1) := by decide +kernel
theorem dX5_write_9 : decode cX5_write 9 = .ok (.ireturn, 1) := by decide +kernel
theorem dX5_write_10 : decode cX5_write 10 = .ok (.aload_n 0, 1) := by decide +kernel
theorem dX5_write_11 : decode cX5_write 11 = .ok (.iload_n 1, 1) := by decide +kernel
theorem dX5_write_12 : decode cX5_write 12 = .ok (.putfield 68, 3) := by decide +kernel
theorem dX5_write_15 : decode cX5_write 15 = .ok (.iconst 1, 1) := by decide +kernel
theorem dX5_write_16 : decode cX5_write 16 = .ok (.ireturn, 1) := by decide +kernel
set_option maxRecDepth 20000 in
theorem ggX5_refer_X5_in : GoodIn wsX5_refer wsX5_in := goodIn_r _ [9] (by decide +kernel) (by decide +kernel)
set_option maxRecDepth 20000 in
theorem gX5_refer_X5_in : GoodIn wsX5_refer (va_wsS RX5 72 yX5_in wsX5_in) := goodIn_app (goodIn_of _ (by decide +kernel)) ggX5_refer_X5_in
theorem dX5_refer_0 : decode cX5_refer 0 = .ok (.iload_n 1, 1) := by decide +kernel
theorem dX5_refer_1 : decode cX5_refer 1 = .ok (.bipush 9, 2) := by decide +kernel
theorem dX5_refer_3 : decode cX5_refer 3 = .ok (.invokestatic 72, 3) := by decide +kernel
theorem dX5_refer_6 : decode cX5_refer 6 = .ok (.ifCond .eq 31, 3) := by decide +kernel
theorem dX5_refer_9 : decode cX5_refer 9 = .ok (.iload_n 2, 1) := by decide +kernel
theorem dX5_refer_10 : decode cX5_refer 10 = .ok (.bipush 12, 2) := by decide +kernel
theorem dX5_refer_12 : decode cX5_refer 12 = .ok (.invokestatic 72, 3) := by decide +kernel
theorem dX5_refer_15 : decode cX5_refer 15 = .ok (.ifCond .eq 22, 3) := by decide +kernel
theorem dX5_refer_18 : decode cX5_refer 18 = .ok (.iload_n 3, 1) := by decide +kernel
theorem dX5_refer_19 : decode cX5_refer 19 = .ok (.bipush 12, 2) := by decide +kernel
theorem dX5_refer_21 : decode cX5_refer 21 = .ok (.invokestatic 72, 3) := by decide +kernel
theorem dX5_refer_24 : decode cX5_refer 24 = .ok (.ifCond .eq 13, 3) := by decide +kernel
theorem dX5_refer_27 : decode cX5_refer 27 = .ok (.iload 4, 2) := by decide +kernel
theorem dX5_refer_29 : decode cX5_refer 29 = .ok (.bipush 15, 2) := by decide +kernel
theorem dX5_refer_31 : decode cX5_refer 31 = .ok (.invokestatic 72, 3) := by decide +kernel
theorem dX5_refer_34 : decode cX5_refer 34 = .ok (.ifCond .ne 5, 3) := by decide +kernel
theorem dX5_refer_37 : decode cX5_refer 37 = .ok (.iconst (-1), 1) := by decide +kernel
theorem dX5_refer_38 : decode cX5_refer 38 = .ok (.ireturn, 1) := by decide +kernel
theorem dX5_refer_39 : decode cX5_refer 39 = .ok (.aload_n 0, 1) := by decide +kernel
theorem dX5_refer_40 : decode cX5_refer 40 = .ok (.getfield 91, 3) := by decide +kernel
theorem dX5_refer_43 : decode cX5_refer 43 = .ok (.bipush 16, 2) := by decide +kernel
theorem dX5_refer_45 : decode cX5_refer 45 = .ok (.if_icmp .ne 6, 3) := by decide +kernel
theorem dX5_refer_48 : decode cX5_refer 48 = .ok (.bipush (-3), 2) := by decide +kernel
theorem dX5_refer_50 : decode cX5_refer 50 = .ok (.ireturn, 1) := by decide +kernel
theorem dX5_refer_51 : decode cX5_refer 51 = .ok (.aload_n 0, 1) := by decide +kernel
theorem dX5_refer_52 : decode cX5_refer 52 = .ok (.getfield 50, 3) := by decide +kernel
theorem dX5_refer_55 : decode cX5_refer 55 = .ok (.aload_n 0, 1) := by decide +kernel
theorem dX5_refer_56 : decode cX5_refer 56 = .ok (.getfield 91, 3) := by decide +kernel
theorem dX5_refer_59 : decode cX5_refer 59 = .ok (.iload_n 1, 1) := by decide +kernel
theorem dX5_refer_60 : decode cX5_refer 60 = .ok (.iastore, 1) := by decide +kernel
theorem dX5_refer_61 : decode cX5_refer 61 = .ok (.aload_n 0, 1) := by decide +kernel
theorem dX5_refer_62 : decode cX5_refer 62 = .ok (.getfield 53, 3) := by decide +kernel
theorem dX5_refer_65 : decode cX5_refer 65 = .ok (.aload_n 0, 1) := by decide +kernel
theorem dX5_refer_66 : decode cX5_refer 66 = .ok (.getfield 91, 3) := by decide +kernel
theorem dX5_refer_69 : decode cX5_refer 69 = .ok (.iload_n 2, 1) := by decide +kernel
theorem dX5_refer_70 : decode cX5_refer 70 = .ok (.iastore, 1) := by decide +kernel
theorem dX5_refer_71 : decode cX5_refer 71 = .ok (.aload_n 0, 1) := by decide +kernel
theorem dX5_refer_72 : decode cX5_refer 72 = .ok (.getfield 56, 3) := by decide +kernel
theorem dX5_refer_75 : decode cX5_refer 75 = .ok (.aload_n 0, 1) := by decide +kernel
theorem dX5_refer_76 : decode cX5_refer 76 = .ok (.getfield 91, 3) := by decide +kernel
theorem dX5_refer_79 : decode cX5_refer 79 = .ok (.iload_n 3, 1) := by decide +kernel
theorem dX5_refer_80 : decode cX5_refer 80 = .ok (.iastore, 1) := by decide +kernel
theorem dX5_refer_81 : decode cX5_refer 81 = .ok (.aload_n 0, 1) := by decide +kernel
theorem dX5_refer_82 : decode cX5_refer 82 = .ok (.getfield 59, 3) := by decide +kernel
theorem dX5_refer_85 : decode cX5_refer 85 = .ok (.aload_n 0, 1) := by decide +kernel
theorem dX5_refer_86 : decode cX5_refer 86 = .ok (.getfield 91, 3) := by decide +kernel
theorem dX5_refer_89 : decode cX5_refer 89 = .ok (.iload 4, 2) := by decide +kernel
theorem dX5_refer_91 : decode cX5_refer 91 = .ok (.iastore, 1) := by decide +kernel
theorem dX5_refer_92 : decode cX5_refer 92 = .ok (.aload_n 0, 1) := by decide +kernel
theorem dX5_refer_93 : decode cX5_refer 93 = .ok (.dup, 1) := by decide +kernel
theorem dX5_refer_94 : decode cX5_refer 94 = .ok (.getfield 91, 3) := by decide +kernel
theorem dX5_refer_97 : decode cX5_refer 97 = .ok (.iconst 1, 1) := by decide +kernel
theorem dX5_refer_98 : decode cX5_refer 98 = .ok (.iadd, 1) := by decide +kernel
theorem dX5_refer_99 : decode cX5_refer 99 = .ok (.putfield 91, 3) := by decide +kernel
theorem dX5_refer_102 : decode cX5_refer 102 = .ok (.aload_n 0, 1) := by decide +kernel
theorem dX5_refer_103 : decode cX5_refer 103 = .ok (.getfield 91, 3) := by decide +kernel
theorem dX5_refer_106 : decode cX5_refer 106 = .ok (.iconst 1, 1) := by decide +kernel
theorem dX5_refer_107 : decode cX5_refer 107 = .ok (.isub, 1) := by decide +kernel
theorem dX5_refer_108 : decode cX5_refer 108 = .ok (.ireturn, 1) := by decide +kernel
theorem dX5_forget_0 : decode cX5_forget 0 = .ok (.aload_n 0, 1) := by decide +kernel
theorem dX5_forget_1 : decode cX5_forget 1 = .ok (.getfield 91, 3) := by decide +kernel
theorem dX5_forget_4 : decode cX5_forget 4 = .ok (.istore_n 1, 1) := by decide +kernel
theorem dX5_forget_5 : decode cX5_forget 5 = .ok (.aload_n 0, 1) := by decide +kernel
theorem dX5_forget_6 : decode cX5_forget 6 = .ok (.iconst 0, 1) := by decide +kernel
theorem dX5_forget_7 : decode cX5_forget 7 = .ok (.putfield 91, 3) := by decide +kernel
theorem dX5_forget_10 : decode cX5_forget 10 = .ok (.iload_n 1, 1) := by decide +kernel
theorem dX5_forget_11 : decode cX5_forget 11 = .ok (.ireturn, 1) := by decide +kernel
theorem dX5_verdict_0 : decode cX5_verdict 0 = .ok (.bipush 64, 2) := by decide +kernel
theorem dX5_verdict_2 : decode cX5_verdict 2 = .ok (.iload_n 0, 1) := by decide +kernel
theorem dX5_verdict_3 : decode cX5_verdict 3 = .ok (.imul, 1) := by decide +kernel
theorem dX5_verdict_4 : decode cX5_verdict 4 = .ok (.iload_n 1, 1) := by decide +kernel
theorem dX5_verdict_5 : decode cX5_verdict 5 = .ok (.iadd, 1) := by decide +kernel
theorem dX5_verdict_6 : decode cX5_verdict 6 = .ok (.ireturn, 1) := by decide +kernel
set_option maxRecDepth 20000 in
theorem ggX5_isChanged_X5_has : GoodIn wsX5_isChanged wsX5_has := goodIn_r _ [7] (by decide +kernel) (by decide +kernel)
set_option maxRecDepth 20000 in
theorem gX5_isChanged_X5_has : GoodIn wsX5_isChanged (va_wsS RX5 94 yX5_has wsX5_has) := goodIn_app (goodIn_of _ (by decide +kernel)) ggX5_isChanged_X5_has
theorem dX5_isChanged_0 : decode cX5_isChanged 0 = .ok (.bipush 12, 2) := by decide +kernel
theorem dX5_isChanged_2 : decode cX5_isChanged 2 = .ok (.iload_n 1, 1) := by decide +kernel
theorem dX5_isChanged_3 : decode cX5_isChanged 3 = .ok (.imul, 1) := by decide +kernel
theorem dX5_isChanged_4 : decode cX5_isChanged 4 = .ok (.iload_n 2, 1) := by decide +kernel
theorem dX5_isChanged_5 : decode cX5_isChanged 5 = .ok (.iadd, 1) := by decide +kernel
theorem dX5_isChanged_6 : decode cX5_isChanged 6 = .ok (.istore_n 3, 1) := by decide +kernel
theorem dX5_isChanged_7 : decode cX5_isChanged 7 = .ok (.aload_n 0, 1) := by decide +kernel
theorem dX5_isChanged_8 : decode cX5_isChanged 8 = .ok (.getfield 20, 3) := by decide +kernel
theorem dX5_isChanged_11 : decode cX5_isChanged 11 = .ok (.iload_n 3, 1) := by decide +kernel
theorem dX5_isChanged_12 : decode cX5_isChanged 12 = .ok (.iaload, 1) := by decide +kernel
theorem dX5_isChanged_13 : decode cX5_isChanged 13 = .ok (.istore 4, 2) := by decide +kernel
theorem dX5_isChanged_15 : decode cX5_isChanged 15 = .ok (.iload 4, 2) := by decide +kernel
theorem dX5_isChanged_17 : decode cX5_isChanged 17 = .ok (.ifCond .lt 39, 3) := by decide +kernel
theorem dX5_isChanged_20 : decode cX5_isChanged 20 = .ok (.aload_n 0, 1) := by decide +kernel
theorem dX5_isChanged_21 : decode cX5_isChanged 21 = .ok (.getfield 13, 3) := by decide +kernel
theorem dX5_isChanged_24 : decode cX5_isChanged 24 = .ok (.bipush 12, 2) := by decide +kernel
theorem dX5_isChanged_26 : decode cX5_isChanged 26 = .ok (.iload_n 1, 1) := by decide +kernel
theorem dX5_isChanged_27 : decode cX5_isChanged 27 = .ok (.imul, 1) := by decide +kernel
theorem dX5_isChanged_28 : decode cX5_isChanged 28 = .ok (.iload 4, 2) := by decide +kernel
theorem dX5_isChanged_30 : decode cX5_isChanged 30 = .ok (.iadd, 1) := by decide +kernel
theorem dX5_isChanged_31 : decode cX5_isChanged 31 = .ok (.iaload, 1) := by decide +kernel
theorem dX5_isChanged_32 : decode cX5_isChanged 32 = .ok (.bipush 10, 2) := by decide +kernel
theorem dX5_isChanged_34 : decode cX5_isChanged 34 = .ok (.iand, 1) := by decide +kernel
theorem dX5_isChanged_35 : decode cX5_isChanged 35 = .ok (.ifCond .ne 19, 3) := by decide +kernel
theorem dX5_isChanged_38 : decode cX5_isChanged 38 = .ok (.aload_n 0, 1) := by decide +kernel
theorem dX5_isChanged_39 : decode cX5_isChanged 39 = .ok (.getfield 13, 3) := by decide +kernel
theorem dX5_isChanged_42 : decode cX5_isChanged 42 = .ok (.iload_n 3, 1) := by decide +kernel
theorem dX5_isChanged_43 : decode cX5_isChanged 43 = .ok (.iaload, 1) := by decide +kernel
theorem dX5_isChanged_44 : decode cX5_isChanged 44 = .ok (.iconst 2, 1) := by decide +kernel
theorem dX5_isChanged_45 : decode cX5_isChanged 45 = .ok (.iand, 1) := by decide +kernel
theorem dX5_isChanged_46 : decode cX5_isChanged 46 = .ok (.ifCond .eq 10, 3) := by decide +kernel
theorem dX5_isChanged_49 : decode cX5_isChanged 49 = .ok (.iload 4, 2) := by decide +kernel
theorem dX5_isChanged_51 : decode cX5_isChanged 51 = .ok (.ifCond .eq 5, 3) := by decide +kernel
theorem dX5_isChanged_54 : decode cX5_isChanged 54 = .ok (.iconst 1, 1) := by decide +kernel
theorem dX5_isChanged_55 : decode cX5_isChanged 55 = .ok (.ireturn, 1) := by decide +kernel
theorem dX5_isChanged_56 : decode cX5_isChanged 56 = .ok (.iconst 0, 1) := by decide +kernel
theorem dX5_isChanged_57 : decode cX5_isChanged 57 = .ok (.istore 5, 2) := by decide +kernel
theorem dX5_isChanged_59 : decode cX5_isChanged 59 = .ok (.iload 5, 2) := by decide +kernel
theorem dX5_isChanged_61 : decode cX5_isChanged 61 = .ok (.bipush 12, 2) := by decide +kernel
theorem dX5_isChanged_63 : decode cX5_isChanged 63 = .ok (.if_icmp .ge 42, 3) := by decide +kernel
theorem dX5_isChanged_66 : decode cX5_isChanged 66 = .ok (.aload_n 0, 1) := by decide +kernel
theorem dX5_isChanged_67 : decode cX5_isChanged 67 = .ok (.getfield 23, 3) := by decide +kernel
theorem dX5_isChanged_70 : decode cX5_isChanged 70 = .ok (.iload_n 3, 1) := by decide +kernel
theorem dX5_isChanged_71 : decode cX5_isChanged 71 = .ok (.iaload, 1) := by decide +kernel
theorem dX5_isChanged_72 : decode cX5_isChanged 72 = .ok (.iload 5, 2) := by decide +kernel
theorem dX5_isChanged_74 : decode cX5_isChanged 74 = .ok (.invokestatic 94, 3) := by decide +kernel
theorem dX5_isChanged_77 : decode cX5_isChanged 77 = .ok (.ifCond .eq 22, 3) := by decide +kernel
theorem dX5_isChanged_80 : decode cX5_isChanged 80 = .ok (.aload_n 0, 1) := by decide +kernel
theorem dX5_isChanged_81 : decode cX5_isChanged 81 = .ok (.getfield 13, 3) := by decide +kernel
theorem dX5_isChanged_84 : decode cX5_isChanged 84 = .ok (.bipush 12, 2) := by decide +kernel
theorem dX5_isChanged_86 : decode cX5_isChanged 86 = .ok (.iload_n 1, 1) := by decide +kernel
theorem dX5_isChanged_87 : decode cX5_isChanged 87 = .ok (.imul, 1) := by decide +kernel
theorem dX5_isChanged_88 : decode cX5_isChanged 88 = .ok (.iload 5, 2) := by decide +kernel
theorem dX5_isChanged_90 : decode cX5_isChanged 90 = .ok (.iadd, 1) := by decide +kernel
theorem dX5_isChanged_91 : decode cX5_isChanged 91 = .ok (.iaload, 1) := by decide +kernel
theorem dX5_isChanged_92 : decode cX5_isChanged 92 = .ok (.iconst 2, 1) := by decide +kernel
theorem dX5_isChanged_93 : decode cX5_isChanged 93 = .ok (.iand, 1) := by decide +kernel
theorem dX5_isChanged_94 : decode cX5_isChanged 94 = .ok (.ifCond .ne 5, 3) := by decide +kernel
theorem dX5_isChanged_97 : decode cX5_isChanged 97 = .ok (.iconst 1, 1) := by decide +kernel
theorem dX5_isChanged_98 : decode cX5_isChanged 98 = .ok (.ireturn, 1) := by decide +kernel
theorem dX5_isChanged_99 : decode cX5_isChanged 99 = .ok (.iinc 5 1, 3) := by decide +kernel
theorem dX5_isChanged_102 : decode cX5_isChanged 102 = .ok (.goto (-43), 3) := by decide +kernel
theorem dX5_isChanged_105 : decode cX5_isChanged 105 = .ok (.iconst 0, 1) := by decide +kernel
theorem dX5_isChanged_106 : decode cX5_isChanged 106 = .ok (.ireturn, 1) := by decide +kernel
set_option maxRecDepth 20000 in
theorem ggX5_loaded_X5_verdict : GoodIn wsX5_loaded wsX5_verdict := goodIn_r _ [9] (by decide +kernel) (by decide +kernel)
set_option maxRecDepth 20000 in
theorem gX5_loaded_X5_verdict : GoodIn wsX5_loaded (va_wsS RX5 97 yX5_verdict wsX5_verdict) := goodIn_app (goodIn_of _ (by decide +kernel)) ggX5_loaded_X5_verdict
set_option maxRecDepth 20000 in
theorem ggX5_loaded_X5_has : GoodIn wsX5_loaded wsX5_has := goodIn_r _ [12] (by decide +kernel) (by decide +kernel)
set_option maxRecDepth 20000 in
theorem gX5_loaded_X5_has : GoodIn wsX5_loaded (va_wsS RX5 94 yX5_has wsX5_has) := goodIn_app (goodIn_of _ (by decide +kernel)) ggX5_loaded_X5_has
set_option maxRecDepth 20000 in
theorem ggX5_loaded_X5_isChanged : GoodIn wsX5_loaded wsX5_isChanged := goodIn_r _ [16, 4, 17, 5, 10, 11, 8, 12, 18, 19, 20, 21, 22, 23, 24, 25, 26, 27, 28, 29, 30, 31, 32, 33, 34, 35, 36, 37, 38] (by decide +kernel) (by decide +kernel)
set_option maxRecDepth 20000 in
theorem gX5_loaded_X5_isChanged : GoodIn wsX5_loaded (wsV RX5 101 RX5 yX5_isChanged wsX5_isChanged) := goodIn_app (goodIn_of _ (by decide +kernel)) ggX5_loaded_X5_isChanged
theorem dX5_loaded_0 : decode cX5_loaded 0 = .ok (.iconst 1, 1) := by decide +kernel
theorem dX5_loaded_1 : decode cX5_loaded 1 = .ok (.istore_n 3, 1) := by decide +kernel
theorem dX5_loaded_2 : decode cX5_loaded 2 = .ok (.iconst 0, 1) := by decide +kernel
theorem dX5_loaded_3 : decode cX5_loaded 3 = .ok (.istore 4, 2) := by decide +kernel
theorem dX5_loaded_5 : decode cX5_loaded 5 = .ok (.iconst 0, 1) := by decide +kernel
theorem dX5_loaded_6 : decode cX5_loaded 6 = .ok (.istore 5, 2) := by decide +kernel
theorem dX5_loaded_8 : decode cX5_loaded 8 = .ok (.aload_n 0, 1) := by decide +kernel
theorem dX5_loaded_9 : decode cX5_loaded 9 = .ok (.getfield 62, 3) := by decide +kernel
theorem dX5_loaded_12 : decode cX5_loaded 12 = .ok (.iconst 0, 1) := by decide +kernel
theorem dX5_loaded_13 : decode cX5_loaded 13 = .ok (.iload_n 2, 1) := by decide +kernel
theorem dX5_loaded_14 : decode cX5_loaded 14 = .ok (.iastore, 1) := by decide +kernel
theorem dX5_loaded_15 : decode cX5_loaded 15 = .ok (.aload_n 0, 1) := by decide +kernel
theorem dX5_loaded_16 : decode cX5_loaded 16 = .ok (.getfield 65, 3) := by decide +kernel
theorem dX5_loaded_19 : decode cX5_loaded 19 = .ok (.iconst 0, 1) := by decide +kernel
theorem dX5_loaded_20 : decode cX5_loaded 20 = .ok (.bipush (-2), 2) := by decide +kernel
theorem dX5_loaded_22 : decode cX5_loaded 22 = .ok (.iastore, 1) := by decide +kernel
theorem dX5_loaded_23 : decode cX5_loaded 23 = .ok (.iload_n 3, 1) := by decide +kernel
theorem dX5_loaded_24 : decode cX5_loaded 24 = .ok (.ifCond .le 248, 3) := by decide +kernel
theorem dX5_loaded_27 : decode cX5_loaded 27 = .ok (.aload_n 0, 1) := by decide +kernel
theorem dX5_loaded_28 : decode cX5_loaded 28 = .ok (.getfield 62, 3) := by decide +kernel
theorem dX5_loaded_31 : decode cX5_loaded 31 = .ok (.iload_n 3, 1) := by decide +kernel
theorem dX5_loaded_32 : decode cX5_loaded 32 = .ok (.iconst 1, 1) := by decide +kernel
theorem dX5_loaded_33 : decode cX5_loaded 33 = .ok (.isub, 1) := by decide +kernel
theorem dX5_loaded_34 : decode cX5_loaded 34 = .ok (.iaload, 1) := by decide +kernel
theorem dX5_loaded_35 : decode cX5_loaded 35 = .ok (.istore 6, 2) := by decide +kernel
theorem dX5_loaded_37 : decode cX5_loaded 37 = .ok (.bipush 12, 2) := by decide +kernel
theorem dX5_loaded_39 : decode cX5_loaded 39 = .ok (.iload_n 1, 1) := by decide +kernel
theorem dX5_loaded_40 : decode cX5_loaded 40 = .ok (.imul, 1) := by decide +kernel
theorem dX5_loaded_41 : decode cX5_loaded 41 = .ok (.iload 6, 2) := by decide +kernel
theorem dX5_loaded_43 : decode cX5_loaded 43 = .ok (.iadd, 1) := by decide +kernel
theorem dX5_loaded_44 : decode cX5_loaded 44 = .ok (.istore 7, 2) := by decide +kernel
theorem dX5_loaded_46 : decode cX5_loaded 46 = .ok (.aload_n 0, 1) := by decide +kernel
theorem dX5_loaded_47 : decode cX5_loaded 47 = .ok (.getfield 65, 3) := by decide +kernel
theorem dX5_loaded_50 : decode cX5_loaded 50 = .ok (.iload_n 3, 1) := by decide +kernel
theorem dX5_loaded_51 : decode cX5_loaded 51 = .ok (.iconst 1, 1) := by decide +kernel
theorem dX5_loaded_52 : decode cX5_loaded 52 = .ok (.isub, 1) := by decide +kernel
theorem dX5_loaded_53 : decode cX5_loaded 53 = .ok (.iaload, 1) := by decide +kernel
theorem dX5_loaded_54 : decode cX5_loaded 54 = .ok (.bipush (-2), 2) := by decide +kernel
theorem dX5_loaded_56 : decode cX5_loaded 56 = .ok (.if_icmp .ne 46, 3) := by decide +kernel
theorem dX5_loaded_59 : decode cX5_loaded 59 = .ok (.aload_n 0, 1) := by decide +kernel
theorem dX5_loaded_60 : decode cX5_loaded 60 = .ok (.getfield 7, 3) := by decide +kernel
theorem dX5_loaded_63 : decode cX5_loaded 63 = .ok (.iload 7, 2) := by decide +kernel
theorem dX5_loaded_65 : decode cX5_loaded 65 = .ok (.baload, 1) := by decide +kernel
theorem dX5_loaded_66 : decode cX5_loaded 66 = .ok (.ifCond .ne 10, 3) := by decide +kernel
theorem dX5_loaded_69 : decode cX5_loaded 69 = .ok (.iconst 1, 1) := by decide +kernel
theorem dX5_loaded_70 : decode cX5_loaded 70 = .ok (.iload 6, 2) := by decide +kernel
theorem dX5_loaded_72 : decode cX5_loaded 72 = .ok (.invokestatic 97, 3) := by decide +kernel
theorem dX5_loaded_75 : decode cX5_loaded 75 = .ok (.ireturn, 1) := by decide +kernel
theorem dX5_loaded_76 : decode cX5_loaded 76 = .ok (.iload 4, 2) := by decide +kernel
theorem dX5_loaded_78 : decode cX5_loaded 78 = .ok (.iload 6, 2) := by decide +kernel
theorem dX5_loaded_80 : decode cX5_loaded 80 = .ok (.invokestatic 94, 3) := by decide +kernel
theorem dX5_loaded_83 : decode cX5_loaded 83 = .ok (.ifCond .eq 10, 3) := by decide +kernel
theorem dX5_loaded_86 : decode cX5_loaded 86 = .ok (.iconst 2, 1) := by decide +kernel
theorem dX5_loaded_87 : decode cX5_loaded 87 = .ok (.iload 6, 2) := by decide +kernel
theorem dX5_loaded_89 : decode cX5_loaded 89 = .ok (.invokestatic 97, 3) := by decide +kernel
theorem dX5_loaded_92 : decode cX5_loaded 92 = .ok (.ireturn, 1) := by decide +kernel
theorem dX5_loaded_93 : decode cX5_loaded 93 = .ok (.iload 4, 2) := by decide +kernel
theorem dX5_loaded_95 : decode cX5_loaded 95 = .ok (.iconst 1, 1) := by decide +kernel
theorem dX5_loaded_96 : decode cX5_loaded 96 = .ok (.iload 6, 2) := by decide +kernel
theorem dX5_loaded_98 : decode cX5_loaded 98 = .ok (.ishl, 1) := by decide +kernel
theorem dX5_loaded_99 : decode cX5_loaded 99 = .ok (.ior, 1) := by decide +kernel
theorem dX5_loaded_100 : decode cX5_loaded 100 = .ok (.istore 4, 2) := by decide +kernel
theorem dX5_loaded_102 : decode cX5_loaded 102 = .ok (.iconst (-1), 1) := by decide +kernel
theorem dX5_loaded_103 : decode cX5_loaded 103 = .ok (.istore 8, 2) := by decide +kernel
theorem dX5_loaded_105 : decode cX5_loaded 105 = .ok (.iload 8, 2) := by decide +kernel
theorem dX5_loaded_107 : decode cX5_loaded 107 = .ok (.ifCond .ge 95, 3) := by decide +kernel
theorem dX5_loaded_110 : decode cX5_loaded 110 = .ok (.aload_n 0, 1) := by decide +kernel
theorem dX5_loaded_111 : decode cX5_loaded 111 = .ok (.getfield 65, 3) := by decide +kernel
theorem dX5_loaded_114 : decode cX5_loaded 114 = .ok (.iload_n 3, 1) := by decide +kernel
theorem dX5_loaded_115 : decode cX5_loaded 115 = .ok (.iconst 1, 1) := by decide +kernel
theorem dX5_loaded_116 : decode cX5_loaded 116 = .ok (.isub, 1) := by decide +kernel
theorem dX5_loaded_117 : decode cX5_loaded 117 = .ok (.iaload, 1) := by decide +kernel
theorem dX5_loaded_118 : decode cX5_loaded 118 = .ok (.bipush 11, 2) := by decide +kernel
theorem dX5_loaded_120 : decode cX5_loaded 120 = .ok (.if_icmp .ge 82, 3) := by decide +kernel
theorem dX5_loaded_123 : decode cX5_loaded 123 = .ok (.aload_n 0, 1) := by decide +kernel
theorem dX5_loaded_124 : decode cX5_loaded 124 = .ok (.getfield 65, 3) := by decide +kernel
theorem dX5_loaded_127 : decode cX5_loaded 127 = .ok (.iload_n 3, 1) := by decide +kernel
theorem dX5_loaded_128 : decode cX5_loaded 128 = .ok (.iconst 1, 1) := by decide +kernel
theorem dX5_loaded_129 : decode cX5_loaded 129 = .ok (.isub, 1) := by decide +kernel
theorem dX5_loaded_130 : decode cX5_loaded 130 = .ok (.dup2, 1) := by decide +kernel
theorem dX5_loaded_131 : decode cX5_loaded 131 = .ok (.iaload, 1) := by decide +kernel
theorem dX5_loaded_132 : decode cX5_loaded 132 = .ok (.iconst 1, 1) := by decide +kernel
theorem dX5_loaded_133 : decode cX5_loaded 133 = .ok (.iadd, 1) := by decide +kernel
theorem dX5_loaded_134 : decode cX5_loaded 134 = .ok (.iastore, 1) := by decide +kernel
theorem dX5_loaded_135 : decode cX5_loaded 135 = .ok (.aload_n 0, 1) := by decide +kernel
theorem dX5_loaded_136 : decode cX5_loaded 136 = .ok (.getfield 65, 3) := by decide +kernel
theorem dX5_loaded_139 : decode cX5_loaded 139 = .ok (.iload_n 3, 1) := by decide +kernel
theorem dX5_loaded_140 : decode cX5_loaded 140 = .ok (.iconst 1, 1) := by decide +kernel
theorem dX5_loaded_141 : decode cX5_loaded 141 = .ok (.isub, 1) := by decide +kernel
theorem dX5_loaded_142 : decode cX5_loaded 142 = .ok (.iaload, 1) := by decide +kernel
theorem dX5_loaded_143 : decode cX5_loaded 143 = .ok (.istore 9, 2) := by decide +kernel
theorem dX5_loaded_145 : decode cX5_loaded 145 = .ok (.iload 9, 2) := by decide +kernel
theorem dX5_loaded_147 : decode cX5_loaded 147 = .ok (.ifCond .ge 15, 3) := by decide +kernel
theorem dX5_loaded_150 : decode cX5_loaded 150 = .ok (.aload_n 0, 1) := by decide +kernel
theorem dX5_loaded_151 : decode cX5_loaded 151 = .ok (.getfield 20, 3) := by decide +kernel
theorem dX5_loaded_154 : decode cX5_loaded 154 = .ok (.iload 7, 2) := by decide +kernel
theorem dX5_loaded_156 : decode cX5_loaded 156 = .ok (.iaload, 1) := by decide +kernel
theorem dX5_loaded_157 : decode cX5_loaded 157 = .ok (.istore 8, 2) := by decide +kernel
theorem dX5_loaded_159 : decode cX5_loaded 159 = .ok (.goto 22, 3) := by decide +kernel
theorem dX5_loaded_162 : decode cX5_loaded 162 = .ok (.aload_n 0, 1) := by decide +kernel
theorem dX5_loaded_163 : decode cX5_loaded 163 = .ok (.getfield 23, 3) := by decide +kernel
theorem dX5_loaded_166 : decode cX5_loaded 166 = .ok (.iload 7, 2) := by decide +kernel
theorem dX5_loaded_168 : decode cX5_loaded 168 = .ok (.iaload, 1) := by decide +kernel
theorem dX5_loaded_169 : decode cX5_loaded 169 = .ok (.iload 9, 2) := by decide +kernel
theorem dX5_loaded_171 : decode cX5_loaded 171 = .ok (.invokestatic 94, 3) := by decide +kernel
theorem dX5_loaded_174 : decode cX5_loaded 174 = .ok (.ifCond .eq 7, 3) := by decide +kernel
theorem dX5_loaded_177 : decode cX5_loaded 177 = .ok (.iload 9, 2) := by decide +kernel
theorem dX5_loaded_179 : decode cX5_loaded 179 = .ok (.istore 8, 2) := by decide +kernel
theorem dX5_loaded_181 : decode cX5_loaded 181 = .ok (.iload 8, 2) := by decide +kernel
theorem dX5_loaded_183 : decode cX5_loaded 183 = .ok (.ifCond .lt 16, 3) := by decide +kernel
theorem dX5_loaded_186 : decode cX5_loaded 186 = .ok (.iload 5, 2) := by decide +kernel
theorem dX5_loaded_188 : decode cX5_loaded 188 = .ok (.iload 8, 2) := by decide +kernel
theorem dX5_loaded_190 : decode cX5_loaded 190 = .ok (.invokestatic 94, 3) := by decide +kernel
theorem dX5_loaded_193 : decode cX5_loaded 193 = .ok (.ifCond .eq 6, 3) := by decide +kernel
theorem dX5_loaded_196 : decode cX5_loaded 196 = .ok (.iconst (-1), 1) := by decide +kernel
theorem dX5_loaded_197 : decode cX5_loaded 197 = .ok (.istore 8, 2) := by decide +kernel
theorem dX5_loaded_199 : decode cX5_loaded 199 = .ok (.goto (-94), 3) := by decide +kernel
theorem dX5_loaded_202 : decode cX5_loaded 202 = .ok (.iload 8, 2) := by decide +kernel
theorem dX5_loaded_204 : decode cX5_loaded 204 = .ok (.ifCond .lt 25, 3) := by decide +kernel
theorem dX5_loaded_207 : decode cX5_loaded 207 = .ok (.aload_n 0, 1) := by decide +kernel
theorem dX5_loaded_208 : decode cX5_loaded 208 = .ok (.getfield 62, 3) := by decide +kernel
theorem dX5_loaded_211 : decode cX5_loaded 211 = .ok (.iload_n 3, 1) := by decide +kernel
theorem dX5_loaded_212 : decode cX5_loaded 212 = .ok (.iload 8, 2) := by decide +kernel
theorem dX5_loaded_214 : decode cX5_loaded 214 = .ok (.iastore, 1) := by decide +kernel
theorem dX5_loaded_215 : decode cX5_loaded 215 = .ok (.aload_n 0, 1) := by decide +kernel
theorem dX5_loaded_216 : decode cX5_loaded 216 = .ok (.getfield 65, 3) := by decide +kernel
theorem dX5_loaded_219 : decode cX5_loaded 219 = .ok (.iload_n 3, 1) := by decide +kernel
theorem dX5_loaded_220 : decode cX5_loaded 220 = .ok (.bipush (-2), 2) := by decide +kernel
theorem dX5_loaded_222 : decode cX5_loaded 222 = .ok (.iastore, 1) := by decide +kernel
theorem dX5_loaded_223 : decode cX5_loaded 223 = .ok (.iinc 3 1, 3) := by decide +kernel
theorem dX5_loaded_226 : decode cX5_loaded 226 = .ok (.goto (-203), 3) := by decide +kernel
theorem dX5_loaded_229 : decode cX5_loaded 229 = .ok (.aload_n 0, 1) := by decide +kernel
theorem dX5_loaded_230 : decode cX5_loaded 230 = .ok (.iload_n 1, 1) := by decide +kernel
theorem dX5_loaded_231 : decode cX5_loaded 231 = .ok (.iload 6, 2) := by decide +kernel
theorem dX5_loaded_233 : decode cX5_loaded 233 = .ok (.invokevirtual 101, 3) := by decide +kernel
theorem dX5_loaded_236 : decode cX5_loaded 236 = .ok (.ifCond .eq 10, 3) := by decide +kernel
theorem dX5_loaded_239 : decode cX5_loaded 239 = .ok (.iconst 3, 1) := by decide +kernel
theorem dX5_loaded_240 : decode cX5_loaded 240 = .ok (.iload 6, 2) := by decide +kernel
theorem dX5_loaded_242 : decode cX5_loaded 242 = .ok (.invokestatic 97, 3) := by decide +kernel
theorem dX5_loaded_245 : decode cX5_loaded 245 = .ok (.ireturn, 1) := by decide +kernel
theorem dX5_loaded_246 : decode cX5_loaded 246 = .ok (.iload 4, 2) := by decide +kernel
theorem dX5_loaded_248 : decode cX5_loaded 248 = .ok (.iconst 1, 1) := by decide +kernel
theorem dX5_loaded_249 : decode cX5_loaded 249 = .ok (.iload 6, 2) := by decide +kernel
theorem dX5_loaded_251 : decode cX5_loaded 251 = .ok (.ishl, 1) := by decide +kernel
theorem dX5_loaded_252 : decode cX5_loaded 252 = .ok (.iconst (-1), 1) := by decide +kernel
theorem dX5_loaded_253 : decode cX5_loaded 253 = .ok (.ixor, 1) := by decide +kernel
theorem dX5_loaded_254 : decode cX5_loaded 254 = .ok (.iand, 1) := by decide +kernel
theorem dX5_loaded_255 : decode cX5_loaded 255 = .ok (.istore 4, 2) := by decide +kernel
theorem dX5_loaded_257 : decode cX5_loaded 257 = .ok (.iload 5, 2) := by decide +kernel
theorem dX5_loaded_259 : decode cX5_loaded 259 = .ok (.iconst 1, 1) := by decide +kernel
theorem dX5_loaded_260 : decode cX5_loaded 260 = .ok (.iload 6, 2) := by decide +kernel
theorem dX5_loaded_262 : decode cX5_loaded 262 = .ok (.ishl, 1) := by decide +kernel
theorem dX5_loaded_263 : decode cX5_loaded 263 = .ok (.ior, 1) := by decide +kernel
theorem dX5_loaded_264 : decode cX5_loaded 264 = .ok (.istore 5, 2) := by decide +kernel
theorem dX5_loaded_266 : decode cX5_loaded 266 = .ok (.iinc 3 (-1), 3) := by decide +kernel
theorem dX5_loaded_269 : decode cX5_loaded 269 = .ok (.goto (-246), 3) := by decide +kernel
theorem dX5_loaded_272 : decode cX5_loaded 272 = .ok (.iconst 0, 1) := by decide +kernel
theorem dX5_loaded_273 : decode cX5_loaded 273 = .ok (.iload_n 2, 1) := by decide +kernel
theorem dX5_loaded_274 : decode cX5_loaded 274 = .ok (.invokestatic 97, 3) := by decide +kernel
theorem dX5_loaded_277 : decode cX5_loaded 277 = .ok (.ireturn, 1) := by decide +kernel
set_option maxRecDepth 20000 in
theorem ggX5_isLoaded_X5_loaded : GoodIn wsX5_isLoaded wsX5_loaded := goodIn_r _ [5, 6, 7, 8, 9, 10, 11, 12, 4, 13, 14, 15, 16, 17, 18, 19, 20, 21, 22, 23, 24, 25, 26, 27, 28, 29, 30, 31, 32, 33, 34, 35, 36, 37, 38, 39, 40, 41, 42] (by decide +kernel) (by decide +kernel)
set_option maxRecDepth 20000 in
theorem gX5_isLoaded_X5_loaded : GoodIn wsX5_isLoaded (wsV RX5 104 RX5 yX5_loaded wsX5_loaded) := goodIn_app (goodIn_of _ (by decide +kernel)) ggX5_isLoaded_X5_loaded
theorem dX5_isLoaded_0 : decode cX5_isLoaded 0 = .ok (.aload_n 0, 1) := by decide +kernel
theorem dX5_isLoaded_1 : decode cX5_isLoaded 1 = .ok (.iload_n 1, 1) := by decide +kernel
theorem dX5_isLoaded_2 : decode cX5_isLoaded 2 = .ok (.iload_n 2, 1) := by decide +kernel
theorem dX5_isLoaded_3 : decode cX5_isLoaded 3 = .ok (.invokevirtual 104, 3) := by decide +kernel
theorem dX5_isLoaded_6 : decode cX5_isLoaded 6 = .ok (.bipush 64, 2) := by decide +kernel
theorem dX5_isLoaded_8 : decode cX5_isLoaded 8 = .ok (.if_icmp .ge 7, 3) := by decide +kernel
theorem dX5_isLoaded_11 : decode cX5_isLoaded 11 = .ok (.iconst 1, 1) := by decide +kernel
theorem dX5_isLoaded_12 : decode cX5_isLoaded 12 = .ok (.goto 4, 3) := by decide +kernel
theorem dX5_isLoaded_15 : decode cX5_isLoaded 15 = .ok (.iconst 0, 1) := by decide +kernel
theorem dX5_isLoaded_16 : decode cX5_isLoaded 16 = .ok (.ireturn, 1) := by decide +kernel
theorem dX5_aboveOf_0 : decode cX5_aboveOf 0 = .ok (.iconst 0, 1) := by decide +kernel
theorem dX5_aboveOf_1 : decode cX5_aboveOf 1 = .ok (.istore_n 3, 1) := by decide +kernel
theorem dX5_aboveOf_2 : decode cX5_aboveOf 2 = .ok (.iload_n 2, 1) := by decide +kernel
theorem dX5_aboveOf_3 : decode cX5_aboveOf 3 = .ok (.istore 4, 2) := by decide +kernel
theorem dX5_aboveOf_5 : decode cX5_aboveOf 5 = .ok (.iload 4, 2) := by decide +kernel
theorem dX5_aboveOf_7 : decode cX5_aboveOf 7 = .ok (.ifCond .lt 27, 3) := by decide +kernel
theorem dX5_aboveOf_10 : decode cX5_aboveOf 10 = .ok (.iload_n 3, 1) := by decide +kernel
theorem dX5_aboveOf_11 : decode cX5_aboveOf 11 = .ok (.iconst 1, 1) := by decide +kernel
theorem dX5_aboveOf_12 : decode cX5_aboveOf 12 = .ok (.iload 4, 2) := by decide +kernel
theorem dX5_aboveOf_14 : decode cX5_aboveOf 14 = .ok (.ishl, 1) := by decide +kernel
theorem dX5_aboveOf_15 : decode cX5_aboveOf 15 = .ok (.ior, 1) := by decide +kernel
theorem dX5_aboveOf_16 : decode cX5_aboveOf 16 = .ok (.istore_n 3, 1) := by decide +kernel
theorem dX5_aboveOf_17 : decode cX5_aboveOf 17 = .ok (.aload_n 0, 1) := by decide +kernel
theorem dX5_aboveOf_18 : decode cX5_aboveOf 18 = .ok (.getfield 20, 3) := by decide +kernel
theorem dX5_aboveOf_21 : decode cX5_aboveOf 21 = .ok (.bipush 12, 2) := by decide +kernel
theorem dX5_aboveOf_23 : decode cX5_aboveOf 23 = .ok (.iload_n 1, 1) := by decide +kernel
theorem dX5_aboveOf_24 : decode cX5_aboveOf 24 = .ok (.imul, 1) := by decide +kernel
theorem dX5_aboveOf_25 : decode cX5_aboveOf 25 = .ok (.iload 4, 2) := by decide +kernel
theorem dX5_aboveOf_27 : decode cX5_aboveOf 27 = .ok (.iadd, 1) := by decide +kernel
theorem dX5_aboveOf_28 : decode cX5_aboveOf 28 = .ok (.iaload, 1) := by decide +kernel
theorem dX5_aboveOf_29 : decode cX5_aboveOf 29 = .ok (.istore 4, 2) := by decide +kernel
theorem dX5_aboveOf_31 : decode cX5_aboveOf 31 = .ok (.goto (-26), 3) := by decide +kernel
theorem dX5_aboveOf_34 : decode cX5_aboveOf 34 = .ok (.iload_n 3, 1) := by decide +kernel
theorem dX5_aboveOf_35 : decode cX5_aboveOf 35 = .ok (.ireturn, 1) := by decide +kernel
set_option maxRecDepth 20000 in
theorem ggX5_facesOf_X5_aboveOf : GoodIn wsX5_facesOf wsX5_aboveOf := goodIn_r _ [6, 7, 11, 12, 13, 14, 15, 16, 17, 18, 19, 20, 21, 22, 23, 24, 25, 26, 27, 28, 29, 30, 31] (by decide +kernel) (by decide +kernel)
set_option maxRecDepth 20000 in
theorem gX5_facesOf_X5_aboveOf : GoodIn wsX5_facesOf (wsV RX5 107 RX5 yX5_aboveOf wsX5_aboveOf) := goodIn_app (goodIn_of _ (by decide +kernel)) ggX5_facesOf_X5_aboveOf
set_option maxRecDepth 20000 in
theorem ggX5_facesOf_X5_has : GoodIn wsX5_facesOf wsX5_has := goodIn_r _ [10] (by decide +kernel) (by decide +kernel)
set_option maxRecDepth 20000 in
theorem gX5_facesOf_X5_has : GoodIn wsX5_facesOf (va_wsS RX5 94 yX5_has wsX5_has) := goodIn_app (goodIn_of _ (by decide +kernel)) ggX5_facesOf_X5_has
theorem dX5_facesOf_0 : decode cX5_facesOf 0 = .ok (.iconst 0, 1) := by decide +kernel
theorem dX5_facesOf_1 : decode cX5_facesOf 1 = .ok (.istore_n 3, 1) := by decide +kernel
theorem dX5_facesOf_2 : decode cX5_facesOf 2 = .ok (.aload_n 0, 1) := by decide +kernel
theorem dX5_facesOf_3 : decode cX5_facesOf 3 = .ok (.iload_n 1, 1) := by decide +kernel
theorem dX5_facesOf_4 : decode cX5_facesOf 4 = .ok (.iload_n 2, 1) := by decide +kernel
theorem dX5_facesOf_5 : decode cX5_facesOf 5 = .ok (.invokevirtual 107, 3) := by decide +kernel
theorem dX5_facesOf_8 : decode cX5_facesOf 8 = .ok (.istore 4, 2) := by decide +kernel
theorem dX5_facesOf_10 : decode cX5_facesOf 10 = .ok (.iload 4, 2) := by decide +kernel
theorem dX5_facesOf_12 : decode cX5_facesOf 12 = .ok (.ifCond .eq 69, 3) := by decide +kernel
theorem dX5_facesOf_15 : decode cX5_facesOf 15 = .ok (.iconst 0, 1) := by decide +kernel
theorem dX5_facesOf_16 : decode cX5_facesOf 16 = .ok (.istore 5, 2) := by decide +kernel
theorem dX5_facesOf_18 : decode cX5_facesOf 18 = .ok (.iconst 0, 1) := by decide +kernel
theorem dX5_facesOf_19 : decode cX5_facesOf 19 = .ok (.istore 6, 2) := by decide +kernel
theorem dX5_facesOf_21 : decode cX5_facesOf 21 = .ok (.iload 6, 2) := by decide +kernel
theorem dX5_facesOf_23 : decode cX5_facesOf 23 = .ok (.bipush 12, 2) := by decide +kernel
theorem dX5_facesOf_25 : decode cX5_facesOf 25 = .ok (.if_icmp .ge 36, 3) := by decide +kernel
theorem dX5_facesOf_28 : decode cX5_facesOf 28 = .ok (.iload 4, 2) := by decide +kernel
theorem dX5_facesOf_30 : decode cX5_facesOf 30 = .ok (.iload 6, 2) := by decide +kernel
theorem dX5_facesOf_32 : decode cX5_facesOf 32 = .ok (.invokestatic 94, 3) := by decide +kernel
theorem dX5_facesOf_35 : decode cX5_facesOf 35 = .ok (.ifCond .eq 20, 3) := by decide +kernel
theorem dX5_facesOf_38 : decode cX5_facesOf 38 = .ok (.iload 5, 2) := by decide +kernel
theorem dX5_facesOf_40 : decode cX5_facesOf 40 = .ok (.aload_n 0, 1) := by decide +kernel
theorem dX5_facesOf_41 : decode cX5_facesOf 41 = .ok (.getfield 23, 3) := by decide +kernel
theorem dX5_facesOf_44 : decode cX5_facesOf 44 = .ok (.bipush 12, 2) := by decide +kernel
theorem dX5_facesOf_46 : decode cX5_facesOf 46 = .ok (.iload_n 1, 1) := by decide +kernel
theorem dX5_facesOf_47 : decode cX5_facesOf 47 = .ok (.imul, 1) := by decide +kernel
theorem dX5_facesOf_48 : decode cX5_facesOf 48 = .ok (.iload 6, 2) := by decide +kernel
theorem dX5_facesOf_50 : decode cX5_facesOf 50 = .ok (.iadd, 1) := by decide +kernel
theorem dX5_facesOf_51 : decode cX5_facesOf 51 = .ok (.iaload, 1) := by decide +kernel
theorem dX5_facesOf_52 : decode cX5_facesOf 52 = .ok (.ior, 1) := by decide +kernel
theorem dX5_facesOf_53 : decode cX5_facesOf 53 = .ok (.istore 5, 2) := by decide +kernel
theorem dX5_facesOf_55 : decode cX5_facesOf 55 = .ok (.iinc 6 1, 3) := by decide +kernel
theorem dX5_facesOf_58 : decode cX5_facesOf 58 = .ok (.goto (-37), 3) := by decide +kernel
theorem dX5_facesOf_61 : decode cX5_facesOf 61 = .ok (.iload 5, 2) := by decide +kernel
theorem dX5_facesOf_63 : decode cX5_facesOf 63 = .ok (.iload_n 3, 1) := by decide +kernel
theorem dX5_facesOf_64 : decode cX5_facesOf 64 = .ok (.iconst (-1), 1) := by decide +kernel
theorem dX5_facesOf_65 : decode cX5_facesOf 65 = .ok (.ixor, 1) := by decide +kernel
theorem dX5_facesOf_66 : decode cX5_facesOf 66 = .ok (.iand, 1) := by decide +kernel
theorem dX5_facesOf_67 : decode cX5_facesOf 67 = .ok (.istore 5, 2) := by decide +kernel
theorem dX5_facesOf_69 : decode cX5_facesOf 69 = .ok (.iload_n 3, 1) := by decide +kernel
theorem dX5_facesOf_70 : decode cX5_facesOf 70 = .ok (.iload 5, 2) := by decide +kernel
theorem dX5_facesOf_72 : decode cX5_facesOf 72 = .ok (.ior, 1) := by decide +kernel
theorem dX5_facesOf_73 : decode cX5_facesOf 73 = .ok (.istore_n 3, 1) := by decide +kernel
theorem dX5_facesOf_74 : decode cX5_facesOf 74 = .ok (.iload 5, 2) := by decide +kernel
theorem dX5_facesOf_76 : decode cX5_facesOf 76 = .ok (.istore 4, 2) := by decide +kernel
theorem dX5_facesOf_78 : decode cX5_facesOf 78 = .ok (.goto (-68), 3) := by decide +kernel
theorem dX5_facesOf_81 : decode cX5_facesOf 81 = .ok (.iload_n 3, 1) := by decide +kernel
theorem dX5_facesOf_82 : decode cX5_facesOf 82 = .ok (.ireturn, 1) := by decide +kernel
set_option maxRecDepth 20000 in
theorem ggX5_under_X5_aboveOf : GoodIn wsX5_under wsX5_aboveOf := goodIn_r _ [5, 6, 15, 16, 17, 18, 19, 20, 21, 22, 23, 24, 25, 26, 27, 28, 29, 30, 31, 32, 33, 34, 35] (by decide +kernel) (by decide +kernel)
set_option maxRecDepth 20000 in
theorem gX5_under_X5_aboveOf : GoodIn wsX5_under (wsV RX5 107 RX5 yX5_aboveOf wsX5_aboveOf) := goodIn_app (goodIn_of _ (by decide +kernel)) ggX5_under_X5_aboveOf
set_option maxRecDepth 20000 in
theorem ggX5_under_X5_facesOf : GoodIn wsX5_under wsX5_facesOf := goodIn_r _ [10, 11, 1, 2, 3, 4, 5, 6, 12, 13, 14, 15, 16, 17, 18, 19, 20, 21, 22, 23, 24, 25, 26, 27, 28, 29, 30, 31, 32, 33, 34, 35] (by decide +kernel) (by decide +kernel)
set_option maxRecDepth 20000 in
theorem gX5_under_X5_facesOf : GoodIn wsX5_under (wsV RX5 110 RX5 yX5_facesOf wsX5_facesOf) := goodIn_app (goodIn_of _ (by decide +kernel)) ggX5_under_X5_facesOf
set_option maxRecDepth 20000 in
theorem ggX5_under_X5_has : GoodIn wsX5_under wsX5_has := goodIn_r _ [14] (by decide +kernel) (by decide +kernel)
set_option maxRecDepth 20000 in
theorem gX5_under_X5_has : GoodIn wsX5_under (va_wsS RX5 94 yX5_has wsX5_has) := goodIn_app (goodIn_of _ (by decide +kernel)) ggX5_under_X5_has
theorem dX5_under_0 : decode cX5_under 0 = .ok (.aload_n 0, 1) := by decide +kernel
theorem dX5_under_1 : decode cX5_under 1 = .ok (.iload_n 1, 1) := by decide +kernel
theorem dX5_under_2 : decode cX5_under 2 = .ok (.iload_n 2, 1) := by decide +kernel
theorem dX5_under_3 : decode cX5_under 3 = .ok (.invokevirtual 107, 3) := by decide +kernel
theorem dX5_under_6 : decode cX5_under 6 = .ok (.aload_n 0, 1) := by decide +kernel
theorem dX5_under_7 : decode cX5_under 7 = .ok (.iload_n 1, 1) := by decide +kernel
theorem dX5_under_8 : decode cX5_under 8 = .ok (.iload_n 2, 1) := by decide +kernel
theorem dX5_under_9 : decode cX5_under 9 = .ok (.invokevirtual 110, 3) := by decide +kernel
theorem dX5_under_12 : decode cX5_under 12 = .ok (.ior, 1) := by decide +kernel
theorem dX5_under_13 : decode cX5_under 13 = .ok (.iload_n 3, 1) := by decide +kernel
theorem dX5_under_14 : decode cX5_under 14 = .ok (.invokestatic 94, 3) := by decide +kernel
theorem dX5_under_17 : decode cX5_under 17 = .ok (.ireturn, 1) := by decide +kernel
theorem dX5_nestOf_0 : decode cX5_nestOf 0 = .ok (.aload_n 0, 1) := by decide +kernel
theorem dX5_nestOf_1 : decode cX5_nestOf 1 = .ok (.getfield 26, 3) := by decide +kernel
theorem dX5_nestOf_4 : decode cX5_nestOf 4 = .ok (.bipush 12, 2) := by decide +kernel
theorem dX5_nestOf_6 : decode cX5_nestOf 6 = .ok (.iload_n 1, 1) := by decide +kernel
theorem dX5_nestOf_7 : decode cX5_nestOf 7 = .ok (.imul, 1) := by decide +kernel
theorem dX5_nestOf_8 : decode cX5_nestOf 8 = .ok (.iload_n 2, 1) := by decide +kernel
theorem dX5_nestOf_9 : decode cX5_nestOf 9 = .ok (.iadd, 1) := by decide +kernel
theorem dX5_nestOf_10 : decode cX5_nestOf 10 = .ok (.iaload, 1) := by decide +kernel
theorem dX5_nestOf_11 : decode cX5_nestOf 11 = .ok (.istore_n 3, 1) := by decide +kernel
theorem dX5_nestOf_12 : decode cX5_nestOf 12 = .ok (.bipush 12, 2) := by decide +kernel
theorem dX5_nestOf_14 : decode cX5_nestOf 14 = .ok (.iload_n 1, 1) := by decide +kernel
theorem dX5_nestOf_15 : decode cX5_nestOf 15 = .ok (.imul, 1) := by decide +kernel
theorem dX5_nestOf_16 : decode cX5_nestOf 16 = .ok (.iload_n 3, 1) := by decide +kernel
theorem dX5_nestOf_17 : decode cX5_nestOf 17 = .ok (.iadd, 1) := by decide +kernel
theorem dX5_nestOf_18 : decode cX5_nestOf 18 = .ok (.istore 4, 2) := by decide +kernel
theorem dX5_nestOf_20 : decode cX5_nestOf 20 = .ok (.aload_n 0, 1) := by decide +kernel
theorem dX5_nestOf_21 : decode cX5_nestOf 21 = .ok (.getfield 7, 3) := by decide +kernel
theorem dX5_nestOf_24 : decode cX5_nestOf 24 = .ok (.iload 4, 2) := by decide +kernel
theorem dX5_nestOf_26 : decode cX5_nestOf 26 = .ok (.baload, 1) := by decide +kernel
theorem dX5_nestOf_27 : decode cX5_nestOf 27 = .ok (.ifCond .eq 39, 3) := by decide +kernel
theorem dX5_nestOf_30 : decode cX5_nestOf 30 = .ok (.aload_n 0, 1) := by decide +kernel
theorem dX5_nestOf_31 : decode cX5_nestOf 31 = .ok (.getfield 17, 3) := by decide +kernel
theorem dX5_nestOf_34 : decode cX5_nestOf 34 = .ok (.iload 4, 2) := by decide +kernel
theorem dX5_nestOf_36 : decode cX5_nestOf 36 = .ok (.iaload, 1) := by decide +kernel
theorem dX5_nestOf_37 : decode cX5_nestOf 37 = .ok (.aload_n 0, 1) := by decide +kernel
theorem dX5_nestOf_38 : decode cX5_nestOf 38 = .ok (.getfield 17, 3) := by decide +kernel
theorem dX5_nestOf_41 : decode cX5_nestOf 41 = .ok (.bipush 12, 2) := by decide +kernel
theorem dX5_nestOf_43 : decode cX5_nestOf 43 = .ok (.iload_n 1, 1) := by decide +kernel
theorem dX5_nestOf_44 : decode cX5_nestOf 44 = .ok (.imul, 1) := by decide +kernel
theorem dX5_nestOf_45 : decode cX5_nestOf 45 = .ok (.iload_n 2, 1) := by decide +kernel
theorem dX5_nestOf_46 : decode cX5_nestOf 46 = .ok (.iadd, 1) := by decide +kernel
theorem dX5_nestOf_47 : decode cX5_nestOf 47 = .ok (.iaload, 1) := by decide +kernel
theorem dX5_nestOf_48 : decode cX5_nestOf 48 = .ok (.if_icmp .ne 18, 3) := by decide +kernel
theorem dX5_nestOf_51 : decode cX5_nestOf 51 = .ok (.aload_n 0, 1) := by decide +kernel
theorem dX5_nestOf_52 : decode cX5_nestOf 52 = .ok (.getfield 26, 3) := by decide +kernel
theorem dX5_nestOf_55 : decode cX5_nestOf 55 = .ok (.iload 4, 2) := by decide +kernel
theorem dX5_nestOf_57 : decode cX5_nestOf 57 = .ok (.iaload, 1) := by decide +kernel
theorem dX5_nestOf_58 : decode cX5_nestOf 58 = .ok (.iload_n 3, 1) := by decide +kernel
theorem dX5_nestOf_59 : decode cX5_nestOf 59 = .ok (.if_icmp .ne 7, 3) := by decide +kernel
theorem dX5_nestOf_62 : decode cX5_nestOf 62 = .ok (.iload_n 3, 1) := by decide +kernel
theorem dX5_nestOf_63 : decode cX5_nestOf 63 = .ok (.goto 4, 3) := by decide +kernel
theorem dX5_nestOf_66 : decode cX5_nestOf 66 = .ok (.iload_n 2, 1) := by decide +kernel
theorem dX5_nestOf_67 : decode cX5_nestOf 67 = .ok (.ireturn, 1) := by decide +kernel
set_option maxRecDepth 20000 in
theorem ggX5_isOpen_X5_nestOf : GoodIn wsX5_isOpen wsX5_nestOf := goodIn_r _ [9, 10, 11, 3, 29, 30, 31, 32, 33, 34, 35, 36, 37, 38, 39, 40, 41, 42, 43, 44, 45, 46, 47, 48, 49] (by decide +kernel) (by decide +kernel)
set_option maxRecDepth 20000 in
theorem gX5_isOpen_X5_nestOf : GoodIn wsX5_isOpen (wsV RX5 113 RX5 yX5_nestOf wsX5_nestOf) := goodIn_app (goodIn_of _ (by decide +kernel)) ggX5_isOpen_X5_nestOf
set_option maxRecDepth 20000 in
theorem ggX5_isOpen_X5_aboveOf : GoodIn wsX5_isOpen wsX5_aboveOf := goodIn_r _ [15, 16, 29, 30, 31, 32, 33, 34, 35, 36, 37, 38, 39, 40, 41, 42, 43, 44, 45, 46, 47, 48, 49] (by decide +kernel) (by decide +kernel)
set_option maxRecDepth 20000 in
theorem gX5_isOpen_X5_aboveOf : GoodIn wsX5_isOpen (wsV RX5 107 RX5 yX5_aboveOf wsX5_aboveOf) := goodIn_app (goodIn_of _ (by decide +kernel)) ggX5_isOpen_X5_aboveOf
set_option maxRecDepth 20000 in
theorem ggX5_isOpen_X5_has : GoodIn wsX5_isOpen wsX5_has := goodIn_r _ [19] (by decide +kernel) (by decide +kernel)
set_option maxRecDepth 20000 in
theorem gX5_isOpen_X5_has : GoodIn wsX5_isOpen (va_wsS RX5 94 yX5_has wsX5_has) := goodIn_app (goodIn_of _ (by decide +kernel)) ggX5_isOpen_X5_has
set_option maxRecDepth 20000 in
theorem ggX5_isOpen_X5_under : GoodIn wsX5_isOpen wsX5_under := goodIn_r _ [23, 12, 13, 14, 8, 15, 16, 24, 25, 26, 27, 28, 17, 18, 19, 29, 30, 31, 32, 33, 34, 35, 36, 37, 38, 39, 40, 41, 42, 43, 44, 45, 46, 47, 48, 49] (by decide +kernel) (by decide +kernel)
set_option maxRecDepth 20000 in
theorem gX5_isOpen_X5_under : GoodIn wsX5_isOpen (wsV RX5 116 RX5 yX5_under wsX5_under) := goodIn_app (goodIn_of _ (by decide +kernel)) ggX5_isOpen_X5_under
theorem dX5_isOpen_0 : decode cX5_isOpen 0 = .ok (.bipush 30, 2) := by decide +kernel
theorem dX5_isOpen_2 : decode cX5_isOpen 2 = .ok (.iload_n 1, 1) := by decide +kernel
theorem dX5_isOpen_3 : decode cX5_isOpen 3 = .ok (.imul, 1) := by decide +kernel
theorem dX5_isOpen_4 : decode cX5_isOpen 4 = .ok (.iload_n 2, 1) := by decide +kernel
theorem dX5_isOpen_5 : decode cX5_isOpen 5 = .ok (.iadd, 1) := by decide +kernel
theorem dX5_isOpen_6 : decode cX5_isOpen 6 = .ok (.istore 5, 2) := by decide +kernel
theorem dX5_isOpen_8 : decode cX5_isOpen 8 = .ok (.aload_n 0, 1) := by decide +kernel
theorem dX5_isOpen_9 : decode cX5_isOpen 9 = .ok (.getfield 38, 3) := by decide +kernel
theorem dX5_isOpen_12 : decode cX5_isOpen 12 = .ok (.iload 5, 2) := by decide +kernel
theorem dX5_isOpen_14 : decode cX5_isOpen 14 = .ok (.iaload, 1) := by decide +kernel
theorem dX5_isOpen_15 : decode cX5_isOpen 15 = .ok (.istore 6, 2) := by decide +kernel
theorem dX5_isOpen_17 : decode cX5_isOpen 17 = .ok (.aload_n 0, 1) := by decide +kernel
theorem dX5_isOpen_18 : decode cX5_isOpen 18 = .ok (.getfield 44, 3) := by decide +kernel
theorem dX5_isOpen_21 : decode cX5_isOpen 21 = .ok (.iload 5, 2) := by decide +kernel
theorem dX5_isOpen_23 : decode cX5_isOpen 23 = .ok (.iaload, 1) := by decide +kernel
theorem dX5_isOpen_24 : decode cX5_isOpen 24 = .ok (.istore 7, 2) := by decide +kernel
theorem dX5_isOpen_26 : decode cX5_isOpen 26 = .ok (.aload_n 0, 1) := by decide +kernel
theorem dX5_isOpen_27 : decode cX5_isOpen 27 = .ok (.getfield 17, 3) := by decide +kernel
theorem dX5_isOpen_30 : decode cX5_isOpen 30 = .ok (.bipush 12, 2) := by decide +kernel
theorem dX5_isOpen_32 : decode cX5_isOpen 32 = .ok (.iload_n 1, 1) := by decide +kernel
theorem dX5_isOpen_33 : decode cX5_isOpen 33 = .ok (.imul, 1) := by decide +kernel
theorem dX5_isOpen_34 : decode cX5_isOpen 34 = .ok (.iload 6, 2) := by decide +kernel
theorem dX5_isOpen_36 : decode cX5_isOpen 36 = .ok (.iadd, 1) := by decide +kernel
theorem dX5_isOpen_37 : decode cX5_isOpen 37 = .ok (.iaload, 1) := by decide +kernel
theorem dX5_isOpen_38 : decode cX5_isOpen 38 = .ok (.aload_n 0, 1) := by decide +kernel
theorem dX5_isOpen_39 : decode cX5_isOpen 39 = .ok (.getfield 17, 3) := by decide +kernel
theorem dX5_isOpen_42 : decode cX5_isOpen 42 = .ok (.bipush 12, 2) := by decide +kernel
theorem dX5_isOpen_44 : decode cX5_isOpen 44 = .ok (.iload_n 1, 1) := by decide +kernel
theorem dX5_isOpen_45 : decode cX5_isOpen 45 = .ok (.imul, 1) := by decide +kernel
theorem dX5_isOpen_46 : decode cX5_isOpen 46 = .ok (.iload 4, 2) := by decide +kernel
theorem dX5_isOpen_48 : decode cX5_isOpen 48 = .ok (.iadd, 1) := by decide +kernel
theorem dX5_isOpen_49 : decode cX5_isOpen 49 = .ok (.iaload, 1) := by decide +kernel
theorem dX5_isOpen_50 : decode cX5_isOpen 50 = .ok (.if_icmp .ne 7, 3) := by decide +kernel
theorem dX5_isOpen_53 : decode cX5_isOpen 53 = .ok (.iconst 1, 1) := by decide +kernel
theorem dX5_isOpen_54 : decode cX5_isOpen 54 = .ok (.goto 4, 3) := by decide +kernel
theorem dX5_isOpen_57 : decode cX5_isOpen 57 = .ok (.iconst 0, 1) := by decide +kernel
theorem dX5_isOpen_58 : decode cX5_isOpen 58 = .ok (.istore 8, 2) := by decide +kernel
theorem dX5_isOpen_60 : decode cX5_isOpen 60 = .ok (.iload 7, 2) := by decide +kernel
theorem dX5_isOpen_62 : decode cX5_isOpen 62 = .ok (.iconst 3, 1) := by decide +kernel
theorem dX5_isOpen_63 : decode cX5_isOpen 63 = .ok (.if_icmp .ne 5, 3) := by decide +kernel
theorem dX5_isOpen_66 : decode cX5_isOpen 66 = .ok (.iconst 1, 1) := by decide +kernel
theorem dX5_isOpen_67 : decode cX5_isOpen 67 = .ok (.ireturn, 1) := by decide +kernel
theorem dX5_isOpen_68 : decode cX5_isOpen 68 = .ok (.iload 7, 2) := by decide +kernel
theorem dX5_isOpen_70 : decode cX5_isOpen 70 = .ok (.ifCond .ne 26, 3) := by decide +kernel
theorem dX5_isOpen_73 : decode cX5_isOpen 73 = .ok (.aload_n 0, 1) := by decide +kernel
theorem dX5_isOpen_74 : decode cX5_isOpen 74 = .ok (.iload_n 1, 1) := by decide +kernel
theorem dX5_isOpen_75 : decode cX5_isOpen 75 = .ok (.iload 6, 2) := by decide +kernel
theorem dX5_isOpen_77 : decode cX5_isOpen 77 = .ok (.invokevirtual 113, 3) := by decide +kernel
theorem dX5_isOpen_80 : decode cX5_isOpen 80 = .ok (.aload_n 0, 1) := by decide +kernel
theorem dX5_isOpen_81 : decode cX5_isOpen 81 = .ok (.iload_n 1, 1) := by decide +kernel
theorem dX5_isOpen_82 : decode cX5_isOpen 82 = .ok (.iload 4, 2) := by decide +kernel
theorem dX5_isOpen_84 : decode cX5_isOpen 84 = .ok (.invokevirtual 113, 3) := by decide +kernel
theorem dX5_isOpen_87 : decode cX5_isOpen 87 = .ok (.if_icmp .ne 7, 3) := by decide +kernel
theorem dX5_isOpen_90 : decode cX5_isOpen 90 = .ok (.iconst 1, 1) := by decide +kernel
theorem dX5_isOpen_91 : decode cX5_isOpen 91 = .ok (.goto 4, 3) := by decide +kernel
theorem dX5_isOpen_94 : decode cX5_isOpen 94 = .ok (.iconst 0, 1) := by decide +kernel
theorem dX5_isOpen_95 : decode cX5_isOpen 95 = .ok (.ireturn, 1) := by decide +kernel
theorem dX5_isOpen_96 : decode cX5_isOpen 96 = .ok (.iload 8, 2) := by decide +kernel
theorem dX5_isOpen_98 : decode cX5_isOpen 98 = .ok (.ifCond .eq 5, 3) := by decide +kernel
theorem dX5_isOpen_101 : decode cX5_isOpen 101 = .ok (.iconst 1, 1) := by decide +kernel
theorem dX5_isOpen_102 : decode cX5_isOpen 102 = .ok (.ireturn, 1) := by decide +kernel
theorem dX5_isOpen_103 : decode cX5_isOpen 103 = .ok (.iload 7, 2) := by decide +kernel
theorem dX5_isOpen_105 : decode cX5_isOpen 105 = .ok (.iconst 2, 1) := by decide +kernel
theorem dX5_isOpen_106 : decode cX5_isOpen 106 = .ok (.if_icmp .ne 56, 3) := by decide +kernel
theorem dX5_isOpen_109 : decode cX5_isOpen 109 = .ok (.aload_n 0, 1) := by decide +kernel
theorem dX5_isOpen_110 : decode cX5_isOpen 110 = .ok (.iload_n 1, 1) := by decide +kernel
theorem dX5_isOpen_111 : decode cX5_isOpen 111 = .ok (.iload 4, 2) := by decide +kernel
theorem dX5_isOpen_113 : decode cX5_isOpen 113 = .ok (.invokevirtual 107, 3) := by decide +kernel
theorem dX5_isOpen_116 : decode cX5_isOpen 116 = .ok (.iload 6, 2) := by decide +kernel
theorem dX5_isOpen_118 : decode cX5_isOpen 118 = .ok (.invokestatic 94, 3) := by decide +kernel
theorem dX5_isOpen_121 : decode cX5_isOpen 121 = .ok (.ifCond .eq 41, 3) := by decide +kernel
theorem dX5_isOpen_124 : decode cX5_isOpen 124 = .ok (.aload_n 0, 1) := by decide +kernel
theorem dX5_isOpen_125 : decode cX5_isOpen 125 = .ok (.getfield 47, 3) := by decide +kernel
theorem dX5_isOpen_128 : decode cX5_isOpen 128 = .ok (.iload 5, 2) := by decide +kernel
theorem dX5_isOpen_130 : decode cX5_isOpen 130 = .ok (.iaload, 1) := by decide +kernel
theorem dX5_isOpen_131 : decode cX5_isOpen 131 = .ok (.iconst 1, 1) := by decide +kernel
theorem dX5_isOpen_132 : decode cX5_isOpen 132 = .ok (.iand, 1) := by decide +kernel
theorem dX5_isOpen_133 : decode cX5_isOpen 133 = .ok (.ifCond .ne 25, 3) := by decide +kernel
theorem dX5_isOpen_136 : decode cX5_isOpen 136 = .ok (.aload_n 0, 1) := by decide +kernel
theorem dX5_isOpen_137 : decode cX5_isOpen 137 = .ok (.iload_n 1, 1) := by decide +kernel
theorem dX5_isOpen_138 : decode cX5_isOpen 138 = .ok (.iload_n 3, 1) := by decide +kernel
theorem dX5_isOpen_139 : decode cX5_isOpen 139 = .ok (.iload 4, 2) := by decide +kernel
theorem dX5_isOpen_141 : decode cX5_isOpen 141 = .ok (.invokevirtual 116, 3) := by decide +kernel
theorem dX5_isOpen_144 : decode cX5_isOpen 144 = .ok (.ifCond .ne 14, 3) := by decide +kernel
theorem dX5_isOpen_147 : decode cX5_isOpen 147 = .ok (.aload_n 0, 1) := by decide +kernel
theorem dX5_isOpen_148 : decode cX5_isOpen 148 = .ok (.iload_n 1, 1) := by decide +kernel
theorem dX5_isOpen_149 : decode cX5_isOpen 149 = .ok (.iload 4, 2) := by decide +kernel
theorem dX5_isOpen_151 : decode cX5_isOpen 151 = .ok (.iload_n 3, 1) := by decide +kernel
theorem dX5_isOpen_152 : decode cX5_isOpen 152 = .ok (.invokevirtual 116, 3) := by decide +kernel
theorem dX5_isOpen_155 : decode cX5_isOpen 155 = .ok (.ifCond .eq 7, 3) := by decide +kernel
theorem dX5_isOpen_158 : decode cX5_isOpen 158 = .ok (.iconst 1, 1) := by decide +kernel
theorem dX5_isOpen_159 : decode cX5_isOpen 159 = .ok (.goto 4, 3) := by decide +kernel
theorem dX5_isOpen_162 : decode cX5_isOpen 162 = .ok (.iconst 0, 1) := by decide +kernel
theorem dX5_isOpen_163 : decode cX5_isOpen 163 = .ok (.ireturn, 1) := by decide +kernel
set_option maxRecDepth 20000 in
theorem ggX5_field_X5_has : GoodIn wsX5_field wsX5_has := goodIn_r _ [7] (by decide +kernel) (by decide +kernel)
set_option maxRecDepth 20000 in
theorem gX5_field_X5_has : GoodIn wsX5_field (va_wsS RX5 94 yX5_has wsX5_has) := goodIn_app (goodIn_of _ (by decide +kernel)) ggX5_field_X5_has
set_option maxRecDepth 20000 in
theorem ggX5_field_X5_own : GoodIn wsX5_field wsX5_own := goodIn_r _ [11, 12, 13, 14, 15, 16, 21, 22, 23, 24, 25, 26, 27, 28, 29, 30, 31, 32, 33, 34, 35, 36, 37, 38, 39, 40, 41] (by decide +kernel) (by decide +kernel)
set_option maxRecDepth 20000 in
theorem gX5_field_X5_own : GoodIn wsX5_field (wsV RX5 84 RX5 yX5_own wsX5_own) := goodIn_app (goodIn_of _ (by decide +kernel)) ggX5_field_X5_own
set_option maxRecDepth 20000 in
theorem ggX5_field_X5_lay : GoodIn wsX5_field wsX5_lay := goodIn_r _ [20, 1, 21, 22, 23, 24, 25, 26, 27, 28, 29, 30, 31, 32, 33, 34, 35, 36, 37, 38, 39, 40, 41] (by decide +kernel) (by decide +kernel)
set_option maxRecDepth 20000 in
theorem gX5_field_X5_lay : GoodIn wsX5_field (wsV RX5 120 RX5 yX5_lay wsX5_lay) := goodIn_app (goodIn_of _ (by decide +kernel)) ggX5_field_X5_lay
theorem dX5_field_0 : decode cX5_field 0 = .ok (.iconst 1, 1) := by decide +kernel
theorem dX5_field_1 : decode cX5_field 1 = .ok (.istore 4, 2) := by decide +kernel
theorem dX5_field_3 : decode cX5_field 3 = .ok (.iconst 0, 1) := by decide +kernel
theorem dX5_field_4 : decode cX5_field 4 = .ok (.istore 5, 2) := by decide +kernel
theorem dX5_field_6 : decode cX5_field 6 = .ok (.aload_n 0, 1) := by decide +kernel
theorem dX5_field_7 : decode cX5_field 7 = .ok (.getfield 62, 3) := by decide +kernel
theorem dX5_field_10 : decode cX5_field 10 = .ok (.iconst 0, 1) := by decide +kernel
theorem dX5_field_11 : decode cX5_field 11 = .ok (.iload_n 2, 1) := by decide +kernel
theorem dX5_field_12 : decode cX5_field 12 = .ok (.iastore, 1) := by decide +kernel
theorem dX5_field_13 : decode cX5_field 13 = .ok (.iload 4, 2) := by decide +kernel
theorem dX5_field_15 : decode cX5_field 15 = .ok (.ifCond .le 143, 3) := by decide +kernel
theorem dX5_field_18 : decode cX5_field 18 = .ok (.iinc 4 (-1), 3) := by decide +kernel
theorem dX5_field_21 : decode cX5_field 21 = .ok (.aload_n 0, 1) := by decide +kernel
theorem dX5_field_22 : decode cX5_field 22 = .ok (.getfield 62, 3) := by decide +kernel
theorem dX5_field_25 : decode cX5_field 25 = .ok (.iload 4, 2) := by decide +kernel
theorem dX5_field_27 : decode cX5_field 27 = .ok (.iaload, 1) := by decide +kernel
theorem dX5_field_28 : decode cX5_field 28 = .ok (.istore 6, 2) := by decide +kernel
theorem dX5_field_30 : decode cX5_field 30 = .ok (.bipush 12, 2) := by decide +kernel
theorem dX5_field_32 : decode cX5_field 32 = .ok (.iload_n 1, 1) := by decide +kernel
theorem dX5_field_33 : decode cX5_field 33 = .ok (.imul, 1) := by decide +kernel
theorem dX5_field_34 : decode cX5_field 34 = .ok (.iload 6, 2) := by decide +kernel
theorem dX5_field_36 : decode cX5_field 36 = .ok (.iadd, 1) := by decide +kernel
theorem dX5_field_37 : decode cX5_field 37 = .ok (.istore 7, 2) := by decide +kernel
theorem dX5_field_39 : decode cX5_field 39 = .ok (.iload 5, 2) := by decide +kernel
theorem dX5_field_41 : decode cX5_field 41 = .ok (.iload 6, 2) := by decide +kernel
theorem dX5_field_43 : decode cX5_field 43 = .ok (.invokestatic 94, 3) := by decide +kernel
theorem dX5_field_46 : decode cX5_field 46 = .ok (.ifCond .eq 6, 3) := by decide +kernel
theorem dX5_field_49 : decode cX5_field 49 = .ok (.goto (-36), 3) := by decide +kernel
theorem dX5_field_52 : decode cX5_field 52 = .ok (.iload 5, 2) := by decide +kernel
theorem dX5_field_54 : decode cX5_field 54 = .ok (.iconst 1, 1) := by decide +kernel
theorem dX5_field_55 : decode cX5_field 55 = .ok (.iload 6, 2) := by decide +kernel
theorem dX5_field_57 : decode cX5_field 57 = .ok (.ishl, 1) := by decide +kernel
theorem dX5_field_58 : decode cX5_field 58 = .ok (.ior, 1) := by decide +kernel
theorem dX5_field_59 : decode cX5_field 59 = .ok (.istore 5, 2) := by decide +kernel
theorem dX5_field_61 : decode cX5_field 61 = .ok (.aload_n 0, 1) := by decide +kernel
theorem dX5_field_62 : decode cX5_field 62 = .ok (.iload_n 1, 1) := by decide +kernel
theorem dX5_field_63 : decode cX5_field 63 = .ok (.iload 6, 2) := by decide +kernel
theorem dX5_field_65 : decode cX5_field 65 = .ok (.iconst 0, 1) := by decide +kernel
theorem dX5_field_66 : decode cX5_field 66 = .ok (.iload_n 3, 1) := by decide +kernel
theorem dX5_field_67 : decode cX5_field 67 = .ok (.invokevirtual 84, 3) := by decide +kernel
theorem dX5_field_70 : decode cX5_field 70 = .ok (.istore 8, 2) := by decide +kernel
theorem dX5_field_72 : decode cX5_field 72 = .ok (.iload 8, 2) := by decide +kernel
theorem dX5_field_74 : decode cX5_field 74 = .ok (.ifCond .lt 6, 3) := by decide +kernel
theorem dX5_field_77 : decode cX5_field 77 = .ok (.iload 8, 2) := by decide +kernel
theorem dX5_field_79 : decode cX5_field 79 = .ok (.ireturn, 1) := by decide +kernel
theorem dX5_field_80 : decode cX5_field 80 = .ok (.aload_n 0, 1) := by decide +kernel
theorem dX5_field_81 : decode cX5_field 81 = .ok (.getfield 20, 3) := by decide +kernel
theorem dX5_field_84 : decode cX5_field 84 = .ok (.iload 7, 2) := by decide +kernel
theorem dX5_field_86 : decode cX5_field 86 = .ok (.iaload, 1) := by decide +kernel
theorem dX5_field_87 : decode cX5_field 87 = .ok (.ifCond .lt 18, 3) := by decide +kernel
theorem dX5_field_90 : decode cX5_field 90 = .ok (.aload_n 0, 1) := by decide +kernel
theorem dX5_field_91 : decode cX5_field 91 = .ok (.iload 4, 2) := by decide +kernel
theorem dX5_field_93 : decode cX5_field 93 = .ok (.aload_n 0, 1) := by decide +kernel
theorem dX5_field_94 : decode cX5_field 94 = .ok (.getfield 20, 3) := by decide +kernel
theorem dX5_field_97 : decode cX5_field 97 = .ok (.iload 7, 2) := by decide +kernel
theorem dX5_field_99 : decode cX5_field 99 = .ok (.iaload, 1) := by decide +kernel
theorem dX5_field_100 : decode cX5_field 100 = .ok (.invokevirtual 120, 3) := by decide +kernel
theorem dX5_field_103 : decode cX5_field 103 = .ok (.istore 4, 2) := by decide +kernel
theorem dX5_field_105 : decode cX5_field 105 = .ok (.bipush 11, 2) := by decide +kernel
theorem dX5_field_107 : decode cX5_field 107 = .ok (.istore 9, 2) := by decide +kernel
theorem dX5_field_109 : decode cX5_field 109 = .ok (.iload 9, 2) := by decide +kernel
theorem dX5_field_111 : decode cX5_field 111 = .ok (.ifCond .lt 44, 3) := by decide +kernel
theorem dX5_field_114 : decode cX5_field 114 = .ok (.aload_n 0, 1) := by decide +kernel
theorem dX5_field_115 : decode cX5_field 115 = .ok (.getfield 23, 3) := by decide +kernel
theorem dX5_field_118 : decode cX5_field 118 = .ok (.iload 7, 2) := by decide +kernel
theorem dX5_field_120 : decode cX5_field 120 = .ok (.iaload, 1) := by decide +kernel
theorem dX5_field_121 : decode cX5_field 121 = .ok (.iload 9, 2) := by decide +kernel
theorem dX5_field_123 : decode cX5_field 123 = .ok (.invokestatic 94, 3) := by decide +kernel
theorem dX5_field_126 : decode cX5_field 126 = .ok (.ifCond .eq 23, 3) := by decide +kernel
theorem dX5_field_129 : decode cX5_field 129 = .ok (.iload 5, 2) := by decide +kernel
theorem dX5_field_131 : decode cX5_field 131 = .ok (.iload 9, 2) := by decide +kernel
theorem dX5_field_133 : decode cX5_field 133 = .ok (.invokestatic 94, 3) := by decide +kernel
theorem dX5_field_136 : decode cX5_field 136 = .ok (.ifCond .ne 13, 3) := by decide +kernel
theorem dX5_field_139 : decode cX5_field 139 = .ok (.aload_n 0, 1) := by decide +kernel
theorem dX5_field_140 : decode cX5_field 140 = .ok (.iload 4, 2) := by decide +kernel
theorem dX5_field_142 : decode cX5_field 142 = .ok (.iload 9, 2) := by decide +kernel
theorem dX5_field_144 : decode cX5_field 144 = .ok (.invokevirtual 120, 3) := by decide +kernel
theorem dX5_field_147 : decode cX5_field 147 = .ok (.istore 4, 2) := by decide +kernel
theorem dX5_field_149 : decode cX5_field 149 = .ok (.iinc 9 (-1), 3) := by decide +kernel
theorem dX5_field_152 : decode cX5_field 152 = .ok (.goto (-43), 3) := by decide +kernel
theorem dX5_field_155 : decode cX5_field 155 = .ok (.goto (-142), 3) := by decide +kernel
theorem dX5_field_158 : decode cX5_field 158 = .ok (.iconst (-1), 1) := by decide +kernel
theorem dX5_field_159 : decode cX5_field 159 = .ok (.ireturn, 1) := by decide +kernel
theorem dX5_lay_0 : decode cX5_lay 0 = .ok (.iconst 0, 1) := by decide +kernel
theorem dX5_lay_1 : decode cX5_lay 1 = .ok (.istore_n 3, 1) := by decide +kernel
theorem dX5_lay_2 : decode cX5_lay 2 = .ok (.iconst 0, 1) := by decide +kernel
theorem dX5_lay_3 : decode cX5_lay 3 = .ok (.istore 4, 2) := by decide +kernel
theorem dX5_lay_5 : decode cX5_lay 5 = .ok (.iload 4, 2) := by decide +kernel
theorem dX5_lay_7 : decode cX5_lay 7 = .ok (.iload_n 1, 1) := by decide +kernel
theorem dX5_lay_8 : decode cX5_lay 8 = .ok (.if_icmp .ge 39, 3) := by decide +kernel
theorem dX5_lay_11 : decode cX5_lay 11 = .ok (.aload_n 0, 1) := by decide +kernel
theorem dX5_lay_12 : decode cX5_lay 12 = .ok (.getfield 62, 3) := by decide +kernel
theorem dX5_lay_15 : decode cX5_lay 15 = .ok (.iload 4, 2) := by decide +kernel
theorem dX5_lay_17 : decode cX5_lay 17 = .ok (.iaload, 1) := by decide +kernel
theorem dX5_lay_18 : decode cX5_lay 18 = .ok (.iload_n 2, 1) := by decide +kernel
theorem dX5_lay_19 : decode cX5_lay 19 = .ok (.if_icmp .ne 6, 3) := by decide +kernel
theorem dX5_lay_22 : decode cX5_lay 22 = .ok (.goto 19, 3) := by decide +kernel
theorem dX5_lay_25 : decode cX5_lay 25 = .ok (.aload_n 0, 1) := by decide +kernel
theorem dX5_lay_26 : decode cX5_lay 26 = .ok (.getfield 62, 3) := by decide +kernel
theorem dX5_lay_29 : decode cX5_lay 29 = .ok (.iload_n 3, 1) := by decide +kernel
theorem dX5_lay_30 : decode cX5_lay 30 = .ok (.aload_n 0, 1) := by decide +kernel
theorem dX5_lay_31 : decode cX5_lay 31 = .ok (.getfield 62, 3) := by decide +kernel
theorem dX5_lay_34 : decode cX5_lay 34 = .ok (.iload 4, 2) := by decide +kernel
theorem dX5_lay_36 : decode cX5_lay 36 = .ok (.iaload, 1) := by decide +kernel
theorem dX5_lay_37 : decode cX5_lay 37 = .ok (.iastore, 1) := by decide +kernel
theorem dX5_lay_38 : decode cX5_lay 38 = .ok (.iinc 3 1, 3) := by decide +kernel
theorem dX5_lay_41 : decode cX5_lay 41 = .ok (.iinc 4 1, 3) := by decide +kernel
theorem dX5_lay_44 : decode cX5_lay 44 = .ok (.goto (-39), 3) := by decide +kernel
theorem dX5_lay_47 : decode cX5_lay 47 = .ok (.aload_n 0, 1) := by decide +kernel
theorem dX5_lay_48 : decode cX5_lay 48 = .ok (.getfield 62, 3) := by decide +kernel
theorem dX5_lay_51 : decode cX5_lay 51 = .ok (.iload_n 3, 1) := by decide +kernel
theorem dX5_lay_52 : decode cX5_lay 52 = .ok (.iload_n 2, 1) := by decide +kernel
theorem dX5_lay_53 : decode cX5_lay 53 = .ok (.iastore, 1) := by decide +kernel
theorem dX5_lay_54 : decode cX5_lay 54 = .ok (.iload_n 3, 1) := by decide +kernel
theorem dX5_lay_55 : decode cX5_lay 55 = .ok (.iconst 1, 1) := by decide +kernel
theorem dX5_lay_56 : decode cX5_lay 56 = .ok (.iadd, 1) := by decide +kernel
theorem dX5_lay_57 : decode cX5_lay 57 = .ok (.ireturn, 1) := by decide +kernel
set_option maxRecDepth 20000 in
theorem ggX5_offers_X5_own : GoodIn wsX5_offers wsX5_own := goodIn_r _ [7, 8, 9, 10, 11, 12, 13, 14, 15, 16, 17, 18, 19, 20, 21, 22, 23, 24, 25, 26, 27, 28, 29, 30, 31, 32, 33] (by decide +kernel) (by decide +kernel)
set_option maxRecDepth 20000 in
theorem gX5_offers_X5_own : GoodIn wsX5_offers (wsV RX5 84 RX5 yX5_own wsX5_own) := goodIn_app (goodIn_of _ (by decide +kernel)) ggX5_offers_X5_own
theorem dX5_offers_0 : decode cX5_offers 0 = .ok (.aload_n 0, 1) := by decide +kernel
theorem dX5_offers_1 : decode cX5_offers 1 = .ok (.iload_n 1, 1) := by decide +kernel
theorem dX5_offers_2 : decode cX5_offers 2 = .ok (.iload_n 2, 1) := by decide +kernel
theorem dX5_offers_3 : decode cX5_offers 3 = .ok (.iconst 1, 1) := by decide +kernel
theorem dX5_offers_4 : decode cX5_offers 4 = .ok (.iload_n 3, 1) := by decide +kernel
theorem dX5_offers_5 : decode cX5_offers 5 = .ok (.invokevirtual 84, 3) := by decide +kernel
theorem dX5_offers_8 : decode cX5_offers 8 = .ok (.istore 4, 2) := by decide +kernel
theorem dX5_offers_10 : decode cX5_offers 10 = .ok (.iload 4, 2) := by decide +kernel
theorem dX5_offers_12 : decode cX5_offers 12 = .ok (.ifCond .lt 39, 3) := by decide +kernel
theorem dX5_offers_15 : decode cX5_offers 15 = .ok (.aload_n 0, 1) := by decide +kernel
theorem dX5_offers_16 : decode cX5_offers 16 = .ok (.getfield 44, 3) := by decide +kernel
theorem dX5_offers_19 : decode cX5_offers 19 = .ok (.bipush 30, 2) := by decide +kernel
theorem dX5_offers_21 : decode cX5_offers 21 = .ok (.iload_n 1, 1) := by decide +kernel
theorem dX5_offers_22 : decode cX5_offers 22 = .ok (.imul, 1) := by decide +kernel
theorem dX5_offers_23 : decode cX5_offers 23 = .ok (.iload 4, 2) := by decide +kernel
theorem dX5_offers_25 : decode cX5_offers 25 = .ok (.iadd, 1) := by decide +kernel
theorem dX5_offers_26 : decode cX5_offers 26 = .ok (.iaload, 1) := by decide +kernel
theorem dX5_offers_27 : decode cX5_offers 27 = .ok (.ifCond .eq 24, 3) := by decide +kernel
theorem dX5_offers_30 : decode cX5_offers 30 = .ok (.aload_n 0, 1) := by decide +kernel
theorem dX5_offers_31 : decode cX5_offers 31 = .ok (.getfield 47, 3) := by decide +kernel
theorem dX5_offers_34 : decode cX5_offers 34 = .ok (.bipush 30, 2) := by decide +kernel
theorem dX5_offers_36 : decode cX5_offers 36 = .ok (.iload_n 1, 1) := by decide +kernel
theorem dX5_offers_37 : decode cX5_offers 37 = .ok (.imul, 1) := by decide +kernel
theorem dX5_offers_38 : decode cX5_offers 38 = .ok (.iload 4, 2) := by decide +kernel
theorem dX5_offers_40 : decode cX5_offers 40 = .ok (.iadd, 1) := by decide +kernel
theorem dX5_offers_41 : decode cX5_offers 41 = .ok (.iaload, 1) := by decide +kernel
theorem dX5_offers_42 : decode cX5_offers 42 = .ok (.iconst 1, 1) := by decide +kernel
theorem dX5_offers_43 : decode cX5_offers 43 = .ok (.iand, 1) := by decide +kernel
theorem dX5_offers_44 : decode cX5_offers 44 = .ok (.ifCond .ne 7, 3) := by decide +kernel
theorem dX5_offers_47 : decode cX5_offers 47 = .ok (.iconst 1, 1) := by decide +kernel
theorem dX5_offers_48 : decode cX5_offers 48 = .ok (.goto 4, 3) := by decide +kernel
theorem dX5_offers_51 : decode cX5_offers 51 = .ok (.iconst 0, 1) := by decide +kernel
theorem dX5_offers_52 : decode cX5_offers 52 = .ok (.ireturn, 1) := by decide +kernel
set_option maxRecDepth 20000 in
theorem ggX5_specific_X5_facesOf : GoodIn wsX5_specific wsX5_facesOf := goodIn_r _ [5, 6, 7, 8, 9, 4, 10, 11, 12, 13, 14, 34, 35, 36, 37, 38, 39, 40, 41, 42, 43, 44, 45, 46, 47, 48, 49, 50, 51, 52, 53, 54] (by decide +kernel) (by decide +kernel)
set_option maxRecDepth 20000 in
theorem gX5_specific_X5_facesOf : GoodIn wsX5_specific (wsV RX5 110 RX5 yX5_facesOf wsX5_facesOf) := goodIn_app (goodIn_of _ (by decide +kernel)) ggX5_specific_X5_facesOf
set_option maxRecDepth 20000 in
theorem ggX5_specific_X5_has : GoodIn wsX5_specific wsX5_has := goodIn_r _ [14] (by decide +kernel) (by decide +kernel)
set_option maxRecDepth 20000 in
theorem gX5_specific_X5_has : GoodIn wsX5_specific (va_wsS RX5 94 yX5_has wsX5_has) := goodIn_app (goodIn_of _ (by decide +kernel)) ggX5_specific_X5_has
set_option maxRecDepth 20000 in
theorem ggX5_specific_X5_offers : GoodIn wsX5_specific wsX5_offers := goodIn_r _ [18, 19, 20, 21, 22, 23, 4, 24, 25, 26, 27, 28, 29, 34, 35, 36, 37, 38, 39, 40, 41, 42, 43, 44, 45, 46, 47, 48, 49, 50, 51, 52, 53, 54] (by decide +kernel) (by decide +kernel)
set_option maxRecDepth 20000 in
theorem gX5_specific_X5_offers : GoodIn wsX5_specific (wsV RX5 123 RX5 yX5_offers wsX5_offers) := goodIn_app (goodIn_of _ (by decide +kernel)) ggX5_specific_X5_offers
set_option maxRecDepth 20000 in
theorem ggX5_specific_X5_under : GoodIn wsX5_specific wsX5_under := goodIn_r _ [33, 7, 8, 9, 4, 10, 11, 1, 2, 3, 5, 6, 12, 13, 14, 34, 35, 36, 37, 38, 39, 40, 41, 42, 43, 44, 45, 46, 47, 48, 49, 50, 51, 52, 53, 54] (by decide +kernel) (by decide +kernel)
set_option maxRecDepth 20000 in
theorem gX5_specific_X5_under : GoodIn wsX5_specific (wsV RX5 116 RX5 yX5_under wsX5_under) := goodIn_app (goodIn_of _ (by decide +kernel)) ggX5_specific_X5_under
theorem dX5_specific_0 : decode cX5_specific 0 = .ok (.iconst 0, 1) := by decide +kernel
theorem dX5_specific_1 : decode cX5_specific 1 = .ok (.istore 4, 2) := by decide +kernel
theorem dX5_specific_3 : decode cX5_specific 3 = .ok (.iconst 0, 1) := by decide +kernel
theorem dX5_specific_4 : decode cX5_specific 4 = .ok (.istore 5, 2) := by decide +kernel
theorem dX5_specific_6 : decode cX5_specific 6 = .ok (.aload_n 0, 1) := by decide +kernel
theorem dX5_specific_7 : decode cX5_specific 7 = .ok (.iload_n 1, 1) := by decide +kernel
theorem dX5_specific_8 : decode cX5_specific 8 = .ok (.iload_n 2, 1) := by decide +kernel
theorem dX5_specific_9 : decode cX5_specific 9 = .ok (.invokevirtual 110, 3) := by decide +kernel
theorem dX5_specific_12 : decode cX5_specific 12 = .ok (.istore 6, 2) := by decide +kernel
theorem dX5_specific_14 : decode cX5_specific 14 = .ok (.iconst 0, 1) := by decide +kernel
theorem dX5_specific_15 : decode cX5_specific 15 = .ok (.istore 7, 2) := by decide +kernel
theorem dX5_specific_17 : decode cX5_specific 17 = .ok (.iload 7, 2) := by decide +kernel
theorem dX5_specific_19 : decode cX5_specific 19 = .ok (.bipush 12, 2) := by decide +kernel
theorem dX5_specific_21 : decode cX5_specific 21 = .ok (.if_icmp .ge 39, 3) := by decide +kernel
theorem dX5_specific_24 : decode cX5_specific 24 = .ok (.iload 6, 2) := by decide +kernel
theorem dX5_specific_26 : decode cX5_specific 26 = .ok (.iload 7, 2) := by decide +kernel
theorem dX5_specific_28 : decode cX5_specific 28 = .ok (.invokestatic 94, 3) := by decide +kernel
theorem dX5_specific_31 : decode cX5_specific 31 = .ok (.ifCond .eq 23, 3) := by decide +kernel
theorem dX5_specific_34 : decode cX5_specific 34 = .ok (.aload_n 0, 1) := by decide +kernel
theorem dX5_specific_35 : decode cX5_specific 35 = .ok (.iload_n 1, 1) := by decide +kernel
theorem dX5_specific_36 : decode cX5_specific 36 = .ok (.iload 7, 2) := by decide +kernel
theorem dX5_specific_38 : decode cX5_specific 38 = .ok (.iload_n 3, 1) := by decide +kernel
theorem dX5_specific_39 : decode cX5_specific 39 = .ok (.invokevirtual 123, 3) := by decide +kernel
theorem dX5_specific_42 : decode cX5_specific 42 = .ok (.ifCond .eq 12, 3) := by decide +kernel
theorem dX5_specific_45 : decode cX5_specific 45 = .ok (.iload 4, 2) := by decide +kernel
theorem dX5_specific_47 : decode cX5_specific 47 = .ok (.iconst 1, 1) := by decide +kernel
theorem dX5_specific_48 : decode cX5_specific 48 = .ok (.iload 7, 2) := by decide +kernel
theorem dX5_specific_50 : decode cX5_specific 50 = .ok (.ishl, 1) := by decide +kernel
theorem dX5_specific_51 : decode cX5_specific 51 = .ok (.ior, 1) := by decide +kernel
theorem dX5_specific_52 : decode cX5_specific 52 = .ok (.istore 4, 2) := by decide +kernel
theorem dX5_specific_54 : decode cX5_specific 54 = .ok (.iinc 7 1, 3) := by decide +kernel
theorem dX5_specific_57 : decode cX5_specific 57 = .ok (.goto (-40), 3) := by decide +kernel
theorem dX5_specific_60 : decode cX5_specific 60 = .ok (.iconst 0, 1) := by decide +kernel
theorem dX5_specific_61 : decode cX5_specific 61 = .ok (.istore 7, 2) := by decide +kernel
theorem dX5_specific_63 : decode cX5_specific 63 = .ok (.iload 7, 2) := by decide +kernel
theorem dX5_specific_65 : decode cX5_specific 65 = .ok (.bipush 12, 2) := by decide +kernel
theorem dX5_specific_67 : decode cX5_specific 67 = .ok (.if_icmp .ge 80, 3) := by decide +kernel
theorem dX5_specific_70 : decode cX5_specific 70 = .ok (.iload 4, 2) := by decide +kernel
theorem dX5_specific_72 : decode cX5_specific 72 = .ok (.iload 7, 2) := by decide +kernel
theorem dX5_specific_74 : decode cX5_specific 74 = .ok (.invokestatic 94, 3) := by decide +kernel
theorem dX5_specific_77 : decode cX5_specific 77 = .ok (.istore 8, 2) := by decide +kernel
theorem dX5_specific_79 : decode cX5_specific 79 = .ok (.iconst 0, 1) := by decide +kernel
theorem dX5_specific_80 : decode cX5_specific 80 = .ok (.istore 9, 2) := by decide +kernel
theorem dX5_specific_82 : decode cX5_specific 82 = .ok (.iload 9, 2) := by decide +kernel
theorem dX5_specific_84 : decode cX5_specific 84 = .ok (.bipush 12, 2) := by decide +kernel
theorem dX5_specific_86 : decode cX5_specific 86 = .ok (.if_icmp .ge 41, 3) := by decide +kernel
theorem dX5_specific_89 : decode cX5_specific 89 = .ok (.iload 9, 2) := by decide +kernel
theorem dX5_specific_91 : decode cX5_specific 91 = .ok (.iload 7, 2) := by decide +kernel
theorem dX5_specific_93 : decode cX5_specific 93 = .ok (.if_icmp .eq 28, 3) := by decide +kernel
theorem dX5_specific_96 : decode cX5_specific 96 = .ok (.iload 4, 2) := by decide +kernel
theorem dX5_specific_98 : decode cX5_specific 98 = .ok (.iload 9, 2) := by decide +kernel
theorem dX5_specific_100 : decode cX5_specific 100 = .ok (.invokestatic 94, 3) := by decide +kernel
theorem dX5_specific_103 : decode cX5_specific 103 = .ok (.ifCond .eq 18, 3) := by decide +kernel
theorem dX5_specific_106 : decode cX5_specific 106 = .ok (.aload_n 0, 1) := by decide +kernel
theorem dX5_specific_107 : decode cX5_specific 107 = .ok (.iload_n 1, 1) := by decide +kernel
theorem dX5_specific_108 : decode cX5_specific 108 = .ok (.iload 9, 2) := by decide +kernel
theorem dX5_specific_110 : decode cX5_specific 110 = .ok (.iload 7, 2) := by decide +kernel
theorem dX5_specific_112 : decode cX5_specific 112 = .ok (.invokevirtual 116, 3) := by decide +kernel
theorem dX5_specific_115 : decode cX5_specific 115 = .ok (.ifCond .eq 6, 3) := by decide +kernel
theorem dX5_specific_118 : decode cX5_specific 118 = .ok (.iconst 0, 1) := by decide +kernel
theorem dX5_specific_119 : decode cX5_specific 119 = .ok (.istore 8, 2) := by decide +kernel
theorem dX5_specific_121 : decode cX5_specific 121 = .ok (.iinc 9 1, 3) := by decide +kernel
theorem dX5_specific_124 : decode cX5_specific 124 = .ok (.goto (-42), 3) := by decide +kernel
theorem dX5_specific_127 : decode cX5_specific 127 = .ok (.iload 8, 2) := by decide +kernel
theorem dX5_specific_129 : decode cX5_specific 129 = .ok (.ifCond .eq 12, 3) := by decide +kernel
theorem dX5_specific_132 : decode cX5_specific 132 = .ok (.iload 5, 2) := by decide +kernel
theorem dX5_specific_134 : decode cX5_specific 134 = .ok (.iconst 1, 1) := by decide +kernel
theorem dX5_specific_135 : decode cX5_specific 135 = .ok (.iload 7, 2) := by decide +kernel
theorem dX5_specific_137 : decode cX5_specific 137 = .ok (.ishl, 1) := by decide +kernel
theorem dX5_specific_138 : decode cX5_specific 138 = .ok (.ior, 1) := by decide +kernel
theorem dX5_specific_139 : decode cX5_specific 139 = .ok (.istore 5, 2) := by decide +kernel
theorem dX5_specific_141 : decode cX5_specific 141 = .ok (.iinc 7 1, 3) := by decide +kernel
theorem dX5_specific_144 : decode cX5_specific 144 = .ok (.goto (-81), 3) := by decide +kernel
theorem dX5_specific_147 : decode cX5_specific 147 = .ok (.iload 5, 2) := by decide +kernel
theorem dX5_specific_149 : decode cX5_specific 149 = .ok (.ireturn, 1) := by decide +kernel
set_option maxRecDepth 20000 in
theorem ggX5_bodied_X5_has : GoodIn wsX5_bodied wsX5_has := goodIn_r _ [5] (by decide +kernel) (by decide +kernel)
set_option maxRecDepth 20000 in
theorem gX5_bodied_X5_has : GoodIn wsX5_bodied (va_wsS RX5 94 yX5_has wsX5_has) := goodIn_app (goodIn_of _ (by decide +kernel)) ggX5_bodied_X5_has
set_option maxRecDepth 20000 in
theorem ggX5_bodied_X5_own : GoodIn wsX5_bodied wsX5_own := goodIn_r _ [9, 10, 11, 12, 13, 14, 15, 16, 17, 18, 19, 20, 21, 22, 23, 24, 25, 26, 27, 28, 29, 30, 31, 32, 33, 34, 35] (by decide +kernel) (by decide +kernel)
set_option maxRecDepth 20000 in
theorem gX5_bodied_X5_own : GoodIn wsX5_bodied (wsV RX5 84 RX5 yX5_own wsX5_own) := goodIn_app (goodIn_of _ (by decide +kernel)) ggX5_bodied_X5_own
theorem dX5_bodied_0 : decode cX5_bodied 0 = .ok (.iconst (-1), 1) := by decide +kernel
theorem dX5_bodied_1 : decode cX5_bodied 1 = .ok (.istore 4, 2) := by decide +kernel
theorem dX5_bodied_3 : decode cX5_bodied 3 = .ok (.iconst 0, 1) := by decide +kernel
theorem dX5_bodied_4 : decode cX5_bodied 4 = .ok (.istore 5, 2) := by decide +kernel
theorem dX5_bodied_6 : decode cX5_bodied 6 = .ok (.iload 5, 2) := by decide +kernel
theorem dX5_bodied_8 : decode cX5_bodied 8 = .ok (.bipush 12, 2) := by decide +kernel
theorem dX5_bodied_10 : decode cX5_bodied 10 = .ok (.if_icmp .ge 67, 3) := by decide +kernel
theorem dX5_bodied_13 : decode cX5_bodied 13 = .ok (.iload_n 2, 1) := by decide +kernel
theorem dX5_bodied_14 : decode cX5_bodied 14 = .ok (.iload 5, 2) := by decide +kernel
theorem dX5_bodied_16 : decode cX5_bodied 16 = .ok (.invokestatic 94, 3) := by decide +kernel
theorem dX5_bodied_19 : decode cX5_bodied 19 = .ok (.ifCond .ne 6, 3) := by decide +kernel
theorem dX5_bodied_22 : decode cX5_bodied 22 = .ok (.goto 49, 3) := by decide +kernel
theorem dX5_bodied_25 : decode cX5_bodied 25 = .ok (.aload_n 0, 1) := by decide +kernel
theorem dX5_bodied_26 : decode cX5_bodied 26 = .ok (.iload_n 1, 1) := by decide +kernel
theorem dX5_bodied_27 : decode cX5_bodied 27 = .ok (.iload 5, 2) := by decide +kernel
theorem dX5_bodied_29 : decode cX5_bodied 29 = .ok (.iconst 1, 1) := by decide +kernel
theorem dX5_bodied_30 : decode cX5_bodied 30 = .ok (.iload_n 3, 1) := by decide +kernel
theorem dX5_bodied_31 : decode cX5_bodied 31 = .ok (.invokevirtual 84, 3) := by decide +kernel
theorem dX5_bodied_34 : decode cX5_bodied 34 = .ok (.istore 6, 2) := by decide +kernel
theorem dX5_bodied_36 : decode cX5_bodied 36 = .ok (.aload_n 0, 1) := by decide +kernel
theorem dX5_bodied_37 : decode cX5_bodied 37 = .ok (.getfield 47, 3) := by decide +kernel
theorem dX5_bodied_40 : decode cX5_bodied 40 = .ok (.bipush 30, 2) := by decide +kernel
theorem dX5_bodied_42 : decode cX5_bodied 42 = .ok (.iload_n 1, 1) := by decide +kernel
theorem dX5_bodied_43 : decode cX5_bodied 43 = .ok (.imul, 1) := by decide +kernel
theorem dX5_bodied_44 : decode cX5_bodied 44 = .ok (.iload 6, 2) := by decide +kernel
theorem dX5_bodied_46 : decode cX5_bodied 46 = .ok (.iadd, 1) := by decide +kernel
theorem dX5_bodied_47 : decode cX5_bodied 47 = .ok (.iaload, 1) := by decide +kernel
theorem dX5_bodied_48 : decode cX5_bodied 48 = .ok (.iconst 2, 1) := by decide +kernel
theorem dX5_bodied_49 : decode cX5_bodied 49 = .ok (.iand, 1) := by decide +kernel
theorem dX5_bodied_50 : decode cX5_bodied 50 = .ok (.ifCond .eq 6, 3) := by decide +kernel
theorem dX5_bodied_53 : decode cX5_bodied 53 = .ok (.goto 18, 3) := by decide +kernel
theorem dX5_bodied_56 : decode cX5_bodied 56 = .ok (.iload 4, 2) := by decide +kernel
theorem dX5_bodied_58 : decode cX5_bodied 58 = .ok (.iconst (-1), 1) := by decide +kernel
theorem dX5_bodied_59 : decode cX5_bodied 59 = .ok (.if_icmp .ne 8, 3) := by decide +kernel
theorem dX5_bodied_62 : decode cX5_bodied 62 = .ok (.iload 6, 2) := by decide +kernel
theorem dX5_bodied_64 : decode cX5_bodied 64 = .ok (.goto 5, 3) := by decide +kernel
theorem dX5_bodied_67 : decode cX5_bodied 67 = .ok (.bipush (-2), 2) := by decide +kernel
theorem dX5_bodied_69 : decode cX5_bodied 69 = .ok (.istore 4, 2) := by decide +kernel
theorem dX5_bodied_71 : decode cX5_bodied 71 = .ok (.iinc 5 1, 3) := by decide +kernel
theorem dX5_bodied_74 : decode cX5_bodied 74 = .ok (.goto (-68), 3) := by decide +kernel
theorem dX5_bodied_77 : decode cX5_bodied 77 = .ok (.iload 4, 2) := by decide +kernel
theorem dX5_bodied_79 : decode cX5_bodied 79 = .ok (.ireturn, 1) := by decide +kernel
set_option maxRecDepth 20000 in
theorem ggX5_find_X5_own : GoodIn wsX5_find wsX5_own := goodIn_r _ [14, 5, 6, 9, 7, 8, 43, 44, 45, 46, 47, 48, 49, 50, 51, 52, 53, 54, 55, 56, 57, 58, 59, 60, 61, 62, 63] (by decide +kernel) (by decide +kernel)
set_option maxRecDepth 20000 in
theorem gX5_find_X5_own : GoodIn wsX5_find (wsV RX5 84 RX5 yX5_own wsX5_own) := goodIn_app (goodIn_of _ (by decide +kernel)) ggX5_find_X5_own
set_option maxRecDepth 20000 in
theorem ggX5_find_X5_specific : GoodIn wsX5_find wsX5_specific := goodIn_r _ [18, 19, 20, 21, 13, 22, 23, 24, 25, 26, 27, 4, 28, 29, 30, 31, 32, 33, 34, 2, 3, 10, 11, 12, 14, 5, 6, 9, 7, 8, 35, 36, 37, 38, 43, 44, 45, 46, 47, 48, 49, 50, 51, 52, 53, 54, 55, 56, 57, 58, 59, 60, 61, 62, 63] (by decide +kernel) (by decide +kernel)
set_option maxRecDepth 20000 in
theorem gX5_find_X5_specific : GoodIn wsX5_find (wsV RX5 126 RX5 yX5_specific wsX5_specific) := goodIn_app (goodIn_of _ (by decide +kernel)) ggX5_find_X5_specific
set_option maxRecDepth 20000 in
theorem ggX5_find_X5_bodied : GoodIn wsX5_find wsX5_bodied := goodIn_r _ [42, 3, 28, 29, 13, 30, 10, 11, 12, 14, 5, 6, 9, 7, 8, 43, 44, 45, 46, 47, 48, 49, 50, 51, 52, 53, 54, 55, 56, 57, 58, 59, 60, 61, 62, 63] (by decide +kernel) (by decide +kernel)
set_option maxRecDepth 20000 in
theorem gX5_find_X5_bodied : GoodIn wsX5_find (wsV RX5 130 RX5 yX5_bodied wsX5_bodied) := goodIn_app (goodIn_of _ (by decide +kernel)) ggX5_find_X5_bodied
set_option maxRecDepth 20000 in
theorem ggX5_find_X5_facesOf : GoodIn wsX5_find wsX5_facesOf := goodIn_r _ [22, 23, 24, 25, 26, 13, 27, 4, 28, 29, 30, 43, 44, 45, 46, 47, 48, 49, 50, 51, 52, 53, 54, 55, 56, 57, 58, 59, 60, 61, 62, 63] (by decide +kernel) (by decide +kernel)
set_option maxRecDepth 20000 in
theorem gX5_find_X5_facesOf : GoodIn wsX5_find (wsV RX5 110 RX5 yX5_facesOf wsX5_facesOf) := goodIn_app (goodIn_of _ (by decide +kernel)) ggX5_find_X5_facesOf
set_option maxRecDepth 20000 in
theorem ggX5_find_X5_has : GoodIn wsX5_find wsX5_has := goodIn_r _ [30] (by decide +kernel) (by decide +kernel)
set_option maxRecDepth 20000 in
theorem gX5_find_X5_has : GoodIn wsX5_find (va_wsS RX5 94 yX5_has wsX5_has) := goodIn_app (goodIn_of _ (by decide +kernel)) ggX5_find_X5_has
theorem dX5_find_0 : decode cX5_find 0 = .ok (.aload_n 0, 1) := by decide +kernel
theorem dX5_find_1 : decode cX5_find 1 = .ok (.getfield 13, 3) := by decide +kernel
theorem dX5_find_4 : decode cX5_find 4 = .ok (.bipush 12, 2) := by decide +kernel
theorem dX5_find_6 : decode cX5_find 6 = .ok (.iload_n 1, 1) := by decide +kernel
theorem dX5_find_7 : decode cX5_find 7 = .ok (.imul, 1) := by decide +kernel
theorem dX5_find_8 : decode cX5_find 8 = .ok (.iload_n 2, 1) := by decide +kernel
theorem dX5_find_9 : decode cX5_find 9 = .ok (.iadd, 1) := by decide +kernel
theorem dX5_find_10 : decode cX5_find 10 = .ok (.iaload, 1) := by decide +kernel
theorem dX5_find_11 : decode cX5_find 11 = .ok (.iconst 2, 1) := by decide +kernel
theorem dX5_find_12 : decode cX5_find 12 = .ok (.iand, 1) := by decide +kernel
theorem dX5_find_13 : decode cX5_find 13 = .ok (.ifCond .eq 7, 3) := by decide +kernel
theorem dX5_find_16 : decode cX5_find 16 = .ok (.iconst 1, 1) := by decide +kernel
theorem dX5_find_17 : decode cX5_find 17 = .ok (.goto 4, 3) := by decide +kernel
theorem dX5_find_20 : decode cX5_find 20 = .ok (.iconst 0, 1) := by decide +kernel
theorem dX5_find_21 : decode cX5_find 21 = .ok (.istore 4, 2) := by decide +kernel
theorem dX5_find_23 : decode cX5_find 23 = .ok (.iload_n 2, 1) := by decide +kernel
theorem dX5_find_24 : decode cX5_find 24 = .ok (.istore 5, 2) := by decide +kernel
theorem dX5_find_26 : decode cX5_find 26 = .ok (.iload 5, 2) := by decide +kernel
theorem dX5_find_28 : decode cX5_find 28 = .ok (.ifCond .lt 86, 3) := by decide +kernel
theorem dX5_find_31 : decode cX5_find 31 = .ok (.aload_n 0, 1) := by decide +kernel
theorem dX5_find_32 : decode cX5_find 32 = .ok (.iload_n 1, 1) := by decide +kernel
theorem dX5_find_33 : decode cX5_find 33 = .ok (.iload 5, 2) := by decide +kernel
theorem dX5_find_35 : decode cX5_find 35 = .ok (.iconst 1, 1) := by decide +kernel
theorem dX5_find_36 : decode cX5_find 36 = .ok (.iload_n 3, 1) := by decide +kernel
theorem dX5_find_37 : decode cX5_find 37 = .ok (.invokevirtual 84, 3) := by decide +kernel
theorem dX5_find_40 : decode cX5_find 40 = .ok (.istore 6, 2) := by decide +kernel
theorem dX5_find_42 : decode cX5_find 42 = .ok (.iload 6, 2) := by decide +kernel
theorem dX5_find_44 : decode cX5_find 44 = .ok (.ifCond .ge 6, 3) := by decide +kernel
theorem dX5_find_47 : decode cX5_find 47 = .ok (.goto 50, 3) := by decide +kernel
theorem dX5_find_50 : decode cX5_find 50 = .ok (.iload 4, 2) := by decide +kernel
theorem dX5_find_52 : decode cX5_find 52 = .ok (.ifCond .eq 42, 3) := by decide +kernel
theorem dX5_find_55 : decode cX5_find 55 = .ok (.iload 5, 2) := by decide +kernel
theorem dX5_find_57 : decode cX5_find 57 = .ok (.iload_n 2, 1) := by decide +kernel
theorem dX5_find_58 : decode cX5_find 58 = .ok (.if_icmp .eq 36, 3) := by decide +kernel
theorem dX5_find_61 : decode cX5_find 61 = .ok (.aload_n 0, 1) := by decide +kernel
theorem dX5_find_62 : decode cX5_find 62 = .ok (.getfield 44, 3) := by decide +kernel
theorem dX5_find_65 : decode cX5_find 65 = .ok (.bipush 30, 2) := by decide +kernel
theorem dX5_find_67 : decode cX5_find 67 = .ok (.iload_n 1, 1) := by decide +kernel
theorem dX5_find_68 : decode cX5_find 68 = .ok (.imul, 1) := by decide +kernel
theorem dX5_find_69 : decode cX5_find 69 = .ok (.iload 6, 2) := by decide +kernel
theorem dX5_find_71 : decode cX5_find 71 = .ok (.iadd, 1) := by decide +kernel
theorem dX5_find_72 : decode cX5_find 72 = .ok (.iaload, 1) := by decide +kernel
theorem dX5_find_73 : decode cX5_find 73 = .ok (.iconst 3, 1) := by decide +kernel
theorem dX5_find_74 : decode cX5_find 74 = .ok (.if_icmp .ne 23, 3) := by decide +kernel
theorem dX5_find_77 : decode cX5_find 77 = .ok (.aload_n 0, 1) := by decide +kernel
theorem dX5_find_78 : decode cX5_find 78 = .ok (.getfield 47, 3) := by decide +kernel
theorem dX5_find_81 : decode cX5_find 81 = .ok (.bipush 30, 2) := by decide +kernel
theorem dX5_find_83 : decode cX5_find 83 = .ok (.iload_n 1, 1) := by decide +kernel
theorem dX5_find_84 : decode cX5_find 84 = .ok (.imul, 1) := by decide +kernel
theorem dX5_find_85 : decode cX5_find 85 = .ok (.iload 6, 2) := by decide +kernel
theorem dX5_find_87 : decode cX5_find 87 = .ok (.iadd, 1) := by decide +kernel
theorem dX5_find_88 : decode cX5_find 88 = .ok (.iaload, 1) := by decide +kernel
theorem dX5_find_89 : decode cX5_find 89 = .ok (.iconst 1, 1) := by decide +kernel
theorem dX5_find_90 : decode cX5_find 90 = .ok (.iand, 1) := by decide +kernel
theorem dX5_find_91 : decode cX5_find 91 = .ok (.ifCond .ne 6, 3) := by decide +kernel
theorem dX5_find_94 : decode cX5_find 94 = .ok (.iload 6, 2) := by decide +kernel
theorem dX5_find_96 : decode cX5_find 96 = .ok (.ireturn, 1) := by decide +kernel
theorem dX5_find_97 : decode cX5_find 97 = .ok (.aload_n 0, 1) := by decide +kernel
theorem dX5_find_98 : decode cX5_find 98 = .ok (.getfield 20, 3) := by decide +kernel
theorem dX5_find_101 : decode cX5_find 101 = .ok (.bipush 12, 2) := by decide +kernel
theorem dX5_find_103 : decode cX5_find 103 = .ok (.iload_n 1, 1) := by decide +kernel
theorem dX5_find_104 : decode cX5_find 104 = .ok (.imul, 1) := by decide +kernel
theorem dX5_find_105 : decode cX5_find 105 = .ok (.iload 5, 2) := by decide +kernel
theorem dX5_find_107 : decode cX5_find 107 = .ok (.iadd, 1) := by decide +kernel
theorem dX5_find_108 : decode cX5_find 108 = .ok (.iaload, 1) := by decide +kernel
theorem dX5_find_109 : decode cX5_find 109 = .ok (.istore 5, 2) := by decide +kernel
theorem dX5_find_111 : decode cX5_find 111 = .ok (.goto (-85), 3) := by decide +kernel
theorem dX5_find_114 : decode cX5_find 114 = .ok (.aload_n 0, 1) := by decide +kernel
theorem dX5_find_115 : decode cX5_find 115 = .ok (.iload_n 1, 1) := by decide +kernel
theorem dX5_find_116 : decode cX5_find 116 = .ok (.aload_n 0, 1) := by decide +kernel
theorem dX5_find_117 : decode cX5_find 117 = .ok (.iload_n 1, 1) := by decide +kernel
theorem dX5_find_118 : decode cX5_find 118 = .ok (.iload_n 2, 1) := by decide +kernel
theorem dX5_find_119 : decode cX5_find 119 = .ok (.iload_n 3, 1) := by decide +kernel
theorem dX5_find_120 : decode cX5_find 120 = .ok (.invokevirtual 126, 3) := by decide +kernel
theorem dX5_find_123 : decode cX5_find 123 = .ok (.iload_n 3, 1) := by decide +kernel
theorem dX5_find_124 : decode cX5_find 124 = .ok (.invokevirtual 130, 3) := by decide +kernel
theorem dX5_find_127 : decode cX5_find 127 = .ok (.istore 5, 2) := by decide +kernel
theorem dX5_find_129 : decode cX5_find 129 = .ok (.iload 5, 2) := by decide +kernel
theorem dX5_find_131 : decode cX5_find 131 = .ok (.ifCond .lt 6, 3) := by decide +kernel
theorem dX5_find_134 : decode cX5_find 134 = .ok (.iload 5, 2) := by decide +kernel
theorem dX5_find_136 : decode cX5_find 136 = .ok (.ireturn, 1) := by decide +kernel
theorem dX5_find_137 : decode cX5_find 137 = .ok (.aload_n 0, 1) := by decide +kernel
theorem dX5_find_138 : decode cX5_find 138 = .ok (.iload_n 1, 1) := by decide +kernel
theorem dX5_find_139 : decode cX5_find 139 = .ok (.iload_n 2, 1) := by decide +kernel
theorem dX5_find_140 : decode cX5_find 140 = .ok (.invokevirtual 110, 3) := by decide +kernel
theorem dX5_find_143 : decode cX5_find 143 = .ok (.istore 6, 2) := by decide +kernel
theorem dX5_find_145 : decode cX5_find 145 = .ok (.iconst 0, 1) := by decide +kernel
theorem dX5_find_146 : decode cX5_find 146 = .ok (.istore 7, 2) := by decide +kernel
theorem dX5_find_148 : decode cX5_find 148 = .ok (.iload 7, 2) := by decide +kernel
theorem dX5_find_150 : decode cX5_find 150 = .ok (.aload_n 0, 1) := by decide +kernel
theorem dX5_find_151 : decode cX5_find 151 = .ok (.getfield 35, 3) := by decide +kernel
theorem dX5_find_154 : decode cX5_find 154 = .ok (.iload_n 1, 1) := by decide +kernel
theorem dX5_find_155 : decode cX5_find 155 = .ok (.iaload, 1) := by decide +kernel
theorem dX5_find_156 : decode cX5_find 156 = .ok (.if_icmp .ge 89, 3) := by decide +kernel
theorem dX5_find_159 : decode cX5_find 159 = .ok (.bipush 30, 2) := by decide +kernel
theorem dX5_find_161 : decode cX5_find 161 = .ok (.iload_n 1, 1) := by decide +kernel
theorem dX5_find_162 : decode cX5_find 162 = .ok (.imul, 1) := by decide +kernel
theorem dX5_find_163 : decode cX5_find 163 = .ok (.iload 7, 2) := by decide +kernel
theorem dX5_find_165 : decode cX5_find 165 = .ok (.iadd, 1) := by decide +kernel
theorem dX5_find_166 : decode cX5_find 166 = .ok (.istore 8, 2) := by decide +kernel
theorem dX5_find_168 : decode cX5_find 168 = .ok (.aload_n 0, 1) := by decide +kernel
theorem dX5_find_169 : decode cX5_find 169 = .ok (.getfield 32, 3) := by decide +kernel
theorem dX5_find_172 : decode cX5_find 172 = .ok (.iload 8, 2) := by decide +kernel
theorem dX5_find_174 : decode cX5_find 174 = .ok (.baload, 1) := by decide +kernel
theorem dX5_find_175 : decode cX5_find 175 = .ok (.ifCond .ne 64, 3) := by decide +kernel
theorem dX5_find_178 : decode cX5_find 178 = .ok (.aload_n 0, 1) := by decide +kernel
theorem dX5_find_179 : decode cX5_find 179 = .ok (.getfield 29, 3) := by decide +kernel
theorem dX5_find_182 : decode cX5_find 182 = .ok (.iload 8, 2) := by decide +kernel
theorem dX5_find_184 : decode cX5_find 184 = .ok (.baload, 1) := by decide +kernel
theorem dX5_find_185 : decode cX5_find 185 = .ok (.ifCond .eq 54, 3) := by decide +kernel
theorem dX5_find_188 : decode cX5_find 188 = .ok (.aload_n 0, 1) := by decide +kernel
theorem dX5_find_189 : decode cX5_find 189 = .ok (.getfield 41, 3) := by decide +kernel
theorem dX5_find_192 : decode cX5_find 192 = .ok (.iload 8, 2) := by decide +kernel
theorem dX5_find_194 : decode cX5_find 194 = .ok (.iaload, 1) := by decide +kernel
theorem dX5_find_195 : decode cX5_find 195 = .ok (.iload_n 3, 1) := by decide +kernel
theorem dX5_find_196 : decode cX5_find 196 = .ok (.if_icmp .ne 43, 3) := by decide +kernel
theorem dX5_find_199 : decode cX5_find 199 = .ok (.iload 6, 2) := by decide +kernel
theorem dX5_find_201 : decode cX5_find 201 = .ok (.aload_n 0, 1) := by decide +kernel
theorem dX5_find_202 : decode cX5_find 202 = .ok (.getfield 38, 3) := by decide +kernel
theorem dX5_find_205 : decode cX5_find 205 = .ok (.iload 8, 2) := by decide +kernel
theorem dX5_find_207 : decode cX5_find 207 = .ok (.iaload, 1) := by decide +kernel
theorem dX5_find_208 : decode cX5_find 208 = .ok (.invokestatic 94, 3) := by decide +kernel
theorem dX5_find_211 : decode cX5_find 211 = .ok (.ifCond .eq 28, 3) := by decide +kernel
theorem dX5_find_214 : decode cX5_find 214 = .ok (.aload_n 0, 1) := by decide +kernel
theorem dX5_find_215 : decode cX5_find 215 = .ok (.getfield 44, 3) := by decide +kernel
theorem dX5_find_218 : decode cX5_find 218 = .ok (.iload 8, 2) := by decide +kernel
theorem dX5_find_220 : decode cX5_find 220 = .ok (.iaload, 1) := by decide +kernel
theorem dX5_find_221 : decode cX5_find 221 = .ok (.ifCond .eq 18, 3) := by decide +kernel
theorem dX5_find_224 : decode cX5_find 224 = .ok (.aload_n 0, 1) := by decide +kernel
theorem dX5_find_225 : decode cX5_find 225 = .ok (.getfield 47, 3) := by decide +kernel
theorem dX5_find_228 : decode cX5_find 228 = .ok (.iload 8, 2) := by decide +kernel
theorem dX5_find_230 : decode cX5_find 230 = .ok (.iaload, 1) := by decide +kernel
theorem dX5_find_231 : decode cX5_find 231 = .ok (.iconst 1, 1) := by decide +kernel
theorem dX5_find_232 : decode cX5_find 232 = .ok (.iand, 1) := by decide +kernel
theorem dX5_find_233 : decode cX5_find 233 = .ok (.ifCond .ne 6, 3) := by decide +kernel
theorem dX5_find_236 : decode cX5_find 236 = .ok (.iload 7, 2) := by decide +kernel
theorem dX5_find_238 : decode cX5_find 238 = .ok (.ireturn, 1) := by decide +kernel
theorem dX5_find_239 : decode cX5_find 239 = .ok (.iinc 7 1, 3) := by decide +kernel
theorem dX5_find_242 : decode cX5_find 242 = .ok (.goto (-94), 3) := by decide +kernel
theorem dX5_find_245 : decode cX5_find 245 = .ok (.iconst (-1), 1) := by decide +kernel
theorem dX5_find_246 : decode cX5_find 246 = .ok (.ireturn, 1) := by decide +kernel
set_option maxRecDepth 20000 in
theorem ggX5_resolved_X5_loaded : GoodIn wsX5_resolved wsX5_loaded := goodIn_r _ [13, 14, 15, 16, 17, 18, 19, 20, 12, 21, 22, 23, 24, 25, 26, 27, 28, 4, 83, 84, 85, 86, 87, 88, 89, 90, 91, 92, 93, 94, 95, 96, 97, 98, 99, 100, 101, 102, 103] (by decide +kernel) (by decide +kernel)
set_option maxRecDepth 20000 in
theorem gX5_resolved_X5_loaded : GoodIn wsX5_resolved (wsV RX5 104 RX5 yX5_loaded wsX5_loaded) := goodIn_app (goodIn_of _ (by decide +kernel)) ggX5_resolved_X5_loaded
set_option maxRecDepth 20000 in
theorem ggX5_resolved_X5_verdict : GoodIn wsX5_resolved wsX5_verdict := goodIn_r _ [21] (by decide +kernel) (by decide +kernel)
set_option maxRecDepth 20000 in
theorem gX5_resolved_X5_verdict : GoodIn wsX5_resolved (va_wsS RX5 97 yX5_verdict wsX5_verdict) := goodIn_app (goodIn_of _ (by decide +kernel)) ggX5_resolved_X5_verdict
set_option maxRecDepth 20000 in
theorem ggX5_resolved_X5_field : GoodIn wsX5_resolved wsX5_field := goodIn_r _ [32, 14, 17, 18, 22, 23, 12, 24, 33, 34, 35, 36, 37, 38, 8, 39, 40, 41, 42, 43, 44, 83, 84, 85, 86, 87, 88, 89, 90, 91, 92, 93, 94, 95, 96, 97, 98, 99, 100, 101, 102, 103] (by decide +kernel) (by decide +kernel)
set_option maxRecDepth 20000 in
theorem gX5_resolved_X5_field : GoodIn wsX5_resolved (wsV RX5 133 RX5 yX5_field wsX5_field) := goodIn_app (goodIn_of _ (by decide +kernel)) ggX5_resolved_X5_field
set_option maxRecDepth 20000 in
theorem ggX5_resolved_X5_find : GoodIn wsX5_resolved wsX5_find := goodIn_r _ [48, 4, 49, 7, 17, 37, 38, 39, 40, 8, 33, 34, 35, 12, 36, 50, 51, 52, 53, 54, 55, 56, 57, 18, 58, 59, 60, 61, 22, 23, 24, 62, 63, 64, 65, 66, 67, 68, 69, 70, 71, 72, 73, 83, 84, 85, 86, 87, 88, 89, 90, 91, 92, 93, 94, 95, 96, 97, 98, 99, 100, 101, 102, 103] (by decide +kernel) (by decide +kernel)
set_option maxRecDepth 20000 in
theorem gX5_resolved_X5_find : GoodIn wsX5_resolved (wsV RX5 136 RX5 yX5_find wsX5_find) := goodIn_app (goodIn_of _ (by decide +kernel)) ggX5_resolved_X5_find
set_option maxRecDepth 20000 in
theorem ggX5_resolved_X5_isOpen : GoodIn wsX5_resolved wsX5_isOpen := goodIn_r _ [77, 8, 49, 5, 7, 78, 79, 80, 12, 81, 82, 16, 58, 59, 60, 61, 17, 22, 23, 24, 66, 67, 68, 69, 54, 55, 56, 57, 18, 83, 84, 85, 86, 87, 88, 89, 90, 91, 92, 93, 94, 95, 96, 97, 98, 99, 100, 101, 102, 103] (by decide +kernel) (by decide +kernel)
set_option maxRecDepth 20000 in
theorem gX5_resolved_X5_isOpen : GoodIn wsX5_resolved (wsV RX5 139 RX5 yX5_isOpen wsX5_isOpen) := goodIn_app (goodIn_of _ (by decide +kernel)) ggX5_resolved_X5_isOpen
set_option maxRecDepth 20000 in
theorem ggX5_resolved_X5_under : GoodIn wsX5_resolved wsX5_under := goodIn_r _ [69, 58, 59, 60, 12, 61, 17, 54, 55, 56, 57, 18, 22, 23, 24, 83, 84, 85, 86, 87, 88, 89, 90, 91, 92, 93, 94, 95, 96, 97, 98, 99, 100, 101, 102, 103] (by decide +kernel) (by decide +kernel)
set_option maxRecDepth 20000 in
theorem gX5_resolved_X5_under : GoodIn wsX5_resolved (wsV RX5 116 RX5 yX5_under wsX5_under) := goodIn_app (goodIn_of _ (by decide +kernel)) ggX5_resolved_X5_under
theorem dX5_resolved_0 : decode cX5_resolved 0 = .ok (.aload_n 0, 1) := by decide +kernel
theorem dX5_resolved_1 : decode cX5_resolved 1 = .ok (.getfield 50, 3) := by decide +kernel
theorem dX5_resolved_4 : decode cX5_resolved 4 = .ok (.iload_n 2, 1) := by decide +kernel
theorem dX5_resolved_5 : decode cX5_resolved 5 = .ok (.iaload, 1) := by decide +kernel
theorem dX5_resolved_6 : decode cX5_resolved 6 = .ok (.istore_n 3, 1) := by decide +kernel
theorem dX5_resolved_7 : decode cX5_resolved 7 = .ok (.aload_n 0, 1) := by decide +kernel
theorem dX5_resolved_8 : decode cX5_resolved 8 = .ok (.getfield 53, 3) := by decide +kernel
theorem dX5_resolved_11 : decode cX5_resolved 11 = .ok (.iload_n 2, 1) := by decide +kernel
theorem dX5_resolved_12 : decode cX5_resolved 12 = .ok (.iaload, 1) := by decide +kernel
theorem dX5_resolved_13 : decode cX5_resolved 13 = .ok (.istore 4, 2) := by decide +kernel
theorem dX5_resolved_15 : decode cX5_resolved 15 = .ok (.aload_n 0, 1) := by decide +kernel
theorem dX5_resolved_16 : decode cX5_resolved 16 = .ok (.getfield 56, 3) := by decide +kernel
theorem dX5_resolved_19 : decode cX5_resolved 19 = .ok (.iload_n 2, 1) := by decide +kernel
theorem dX5_resolved_20 : decode cX5_resolved 20 = .ok (.iaload, 1) := by decide +kernel
theorem dX5_resolved_21 : decode cX5_resolved 21 = .ok (.istore 5, 2) := by decide +kernel
theorem dX5_resolved_23 : decode cX5_resolved 23 = .ok (.bipush 12, 2) := by decide +kernel
theorem dX5_resolved_25 : decode cX5_resolved 25 = .ok (.iload_n 1, 1) := by decide +kernel
theorem dX5_resolved_26 : decode cX5_resolved 26 = .ok (.imul, 1) := by decide +kernel
theorem dX5_resolved_27 : decode cX5_resolved 27 = .ok (.iload 5, 2) := by decide +kernel
theorem dX5_resolved_29 : decode cX5_resolved 29 = .ok (.iadd, 1) := by decide +kernel
theorem dX5_resolved_30 : decode cX5_resolved 30 = .ok (.istore 6, 2) := by decide +kernel
theorem dX5_resolved_32 : decode cX5_resolved 32 = .ok (.aload_n 0, 1) := by decide +kernel
theorem dX5_resolved_33 : decode cX5_resolved 33 = .ok (.iload_n 1, 1) := by decide +kernel
theorem dX5_resolved_34 : decode cX5_resolved 34 = .ok (.iload 4, 2) := by decide +kernel
theorem dX5_resolved_36 : decode cX5_resolved 36 = .ok (.invokevirtual 104, 3) := by decide +kernel
theorem dX5_resolved_39 : decode cX5_resolved 39 = .ok (.istore 7, 2) := by decide +kernel
theorem dX5_resolved_41 : decode cX5_resolved 41 = .ok (.iload 7, 2) := by decide +kernel
theorem dX5_resolved_43 : decode cX5_resolved 43 = .ok (.bipush 64, 2) := by decide +kernel
theorem dX5_resolved_45 : decode cX5_resolved 45 = .ok (.if_icmp .lt 6, 3) := by decide +kernel
theorem dX5_resolved_48 : decode cX5_resolved 48 = .ok (.iload 7, 2) := by decide +kernel
theorem dX5_resolved_50 : decode cX5_resolved 50 = .ok (.ireturn, 1) := by decide +kernel
theorem dX5_resolved_51 : decode cX5_resolved 51 = .ok (.aload_n 0, 1) := by decide +kernel
theorem dX5_resolved_52 : decode cX5_resolved 52 = .ok (.iload_n 1, 1) := by decide +kernel
theorem dX5_resolved_53 : decode cX5_resolved 53 = .ok (.iload 5, 2) := by decide +kernel
theorem dX5_resolved_55 : decode cX5_resolved 55 = .ok (.invokevirtual 104, 3) := by decide +kernel
theorem dX5_resolved_58 : decode cX5_resolved 58 = .ok (.istore 7, 2) := by decide +kernel
theorem dX5_resolved_60 : decode cX5_resolved 60 = .ok (.iload 7, 2) := by decide +kernel
theorem dX5_resolved_62 : decode cX5_resolved 62 = .ok (.bipush 64, 2) := by decide +kernel
theorem dX5_resolved_64 : decode cX5_resolved 64 = .ok (.if_icmp .lt 6, 3) := by decide +kernel
theorem dX5_resolved_67 : decode cX5_resolved 67 = .ok (.iload 7, 2) := by decide +kernel
theorem dX5_resolved_69 : decode cX5_resolved 69 = .ok (.ireturn, 1) := by decide +kernel
theorem dX5_resolved_70 : decode cX5_resolved 70 = .ok (.aload_n 0, 1) := by decide +kernel
theorem dX5_resolved_71 : decode cX5_resolved 71 = .ok (.getfield 13, 3) := by decide +kernel
theorem dX5_resolved_74 : decode cX5_resolved 74 = .ok (.iload 6, 2) := by decide +kernel
theorem dX5_resolved_76 : decode cX5_resolved 76 = .ok (.iaload, 1) := by decide +kernel
theorem dX5_resolved_77 : decode cX5_resolved 77 = .ok (.iconst 1, 1) := by decide +kernel
theorem dX5_resolved_78 : decode cX5_resolved 78 = .ok (.iand, 1) := by decide +kernel
theorem dX5_resolved_79 : decode cX5_resolved 79 = .ok (.ifCond .ne 32, 3) := by decide +kernel
theorem dX5_resolved_82 : decode cX5_resolved 82 = .ok (.aload_n 0, 1) := by decide +kernel
theorem dX5_resolved_83 : decode cX5_resolved 83 = .ok (.getfield 17, 3) := by decide +kernel
theorem dX5_resolved_86 : decode cX5_resolved 86 = .ok (.iload 6, 2) := by decide +kernel
theorem dX5_resolved_88 : decode cX5_resolved 88 = .ok (.iaload, 1) := by decide +kernel
theorem dX5_resolved_89 : decode cX5_resolved 89 = .ok (.aload_n 0, 1) := by decide +kernel
theorem dX5_resolved_90 : decode cX5_resolved 90 = .ok (.getfield 17, 3) := by decide +kernel
theorem dX5_resolved_93 : decode cX5_resolved 93 = .ok (.bipush 12, 2) := by decide +kernel
theorem dX5_resolved_95 : decode cX5_resolved 95 = .ok (.iload_n 1, 1) := by decide +kernel
theorem dX5_resolved_96 : decode cX5_resolved 96 = .ok (.imul, 1) := by decide +kernel
theorem dX5_resolved_97 : decode cX5_resolved 97 = .ok (.iload 4, 2) := by decide +kernel
theorem dX5_resolved_99 : decode cX5_resolved 99 = .ok (.iadd, 1) := by decide +kernel
theorem dX5_resolved_100 : decode cX5_resolved 100 = .ok (.iaload, 1) := by decide +kernel
theorem dX5_resolved_101 : decode cX5_resolved 101 = .ok (.if_icmp .eq 10, 3) := by decide +kernel
theorem dX5_resolved_104 : decode cX5_resolved 104 = .ok (.iconst 4, 1) := by decide +kernel
theorem dX5_resolved_105 : decode cX5_resolved 105 = .ok (.iload 5, 2) := by decide +kernel
theorem dX5_resolved_107 : decode cX5_resolved 107 = .ok (.invokestatic 97, 3) := by decide +kernel
theorem dX5_resolved_110 : decode cX5_resolved 110 = .ok (.ireturn, 1) := by decide +kernel
theorem dX5_resolved_111 : decode cX5_resolved 111 = .ok (.iload_n 3, 1) := by decide +kernel
theorem dX5_resolved_112 : decode cX5_resolved 112 = .ok (.bipush 8, 2) := by decide +kernel
theorem dX5_resolved_114 : decode cX5_resolved 114 = .ok (.if_icmp .ne 10, 3) := by decide +kernel
theorem dX5_resolved_117 : decode cX5_resolved 117 = .ok (.iconst 0, 1) := by decide +kernel
theorem dX5_resolved_118 : decode cX5_resolved 118 = .ok (.iload 5, 2) := by decide +kernel
theorem dX5_resolved_120 : decode cX5_resolved 120 = .ok (.invokestatic 97, 3) := by decide +kernel
theorem dX5_resolved_123 : decode cX5_resolved 123 = .ok (.ireturn, 1) := by decide +kernel
theorem dX5_resolved_124 : decode cX5_resolved 124 = .ok (.aload_n 0, 1) := by decide +kernel
theorem dX5_resolved_125 : decode cX5_resolved 125 = .ok (.getfield 13, 3) := by decide +kernel
theorem dX5_resolved_128 : decode cX5_resolved 128 = .ok (.iload 6, 2) := by decide +kernel
theorem dX5_resolved_130 : decode cX5_resolved 130 = .ok (.iaload, 1) := by decide +kernel
theorem dX5_resolved_131 : decode cX5_resolved 131 = .ok (.iconst 2, 1) := by decide +kernel
theorem dX5_resolved_132 : decode cX5_resolved 132 = .ok (.iand, 1) := by decide +kernel
theorem dX5_resolved_133 : decode cX5_resolved 133 = .ok (.ifCond .eq 7, 3) := by decide +kernel
theorem dX5_resolved_136 : decode cX5_resolved 136 = .ok (.iconst 1, 1) := by decide +kernel
theorem dX5_resolved_137 : decode cX5_resolved 137 = .ok (.goto 4, 3) := by decide +kernel
theorem dX5_resolved_140 : decode cX5_resolved 140 = .ok (.iconst 0, 1) := by decide +kernel
theorem dX5_resolved_141 : decode cX5_resolved 141 = .ok (.istore 8, 2) := by decide +kernel
theorem dX5_resolved_143 : decode cX5_resolved 143 = .ok (.iload_n 3, 1) := by decide +kernel
theorem dX5_resolved_144 : decode cX5_resolved 144 = .ok (.iconst 4, 1) := by decide +kernel
theorem dX5_resolved_145 : decode cX5_resolved 145 = .ok (.if_icmp .ne 8, 3) := by decide +kernel
theorem dX5_resolved_148 : decode cX5_resolved 148 = .ok (.iload 8, 2) := by decide +kernel
theorem dX5_resolved_150 : decode cX5_resolved 150 = .ok (.ifCond .ne 14, 3) := by decide +kernel
theorem dX5_resolved_153 : decode cX5_resolved 153 = .ok (.iload_n 3, 1) := by decide +kernel
theorem dX5_resolved_154 : decode cX5_resolved 154 = .ok (.bipush 7, 2) := by decide +kernel
theorem dX5_resolved_156 : decode cX5_resolved 156 = .ok (.if_icmp .ne 15, 3) := by decide +kernel
theorem dX5_resolved_159 : decode cX5_resolved 159 = .ok (.iload 8, 2) := by decide +kernel
theorem dX5_resolved_161 : decode cX5_resolved 161 = .ok (.ifCond .ne 10, 3) := by decide +kernel
theorem dX5_resolved_164 : decode cX5_resolved 164 = .ok (.iconst 3, 1) := by decide +kernel
theorem dX5_resolved_165 : decode cX5_resolved 165 = .ok (.iload 5, 2) := by decide +kernel
theorem dX5_resolved_167 : decode cX5_resolved 167 = .ok (.invokestatic 97, 3) := by decide +kernel
theorem dX5_resolved_170 : decode cX5_resolved 170 = .ok (.ireturn, 1) := by decide +kernel
theorem dX5_resolved_171 : decode cX5_resolved 171 = .ok (.iload_n 3, 1) := by decide +kernel
theorem dX5_resolved_172 : decode cX5_resolved 172 = .ok (.iconst 4, 1) := by decide +kernel
theorem dX5_resolved_173 : decode cX5_resolved 173 = .ok (.if_icmp .ge 19, 3) := by decide +kernel
theorem dX5_resolved_176 : decode cX5_resolved 176 = .ok (.aload_n 0, 1) := by decide +kernel
theorem dX5_resolved_177 : decode cX5_resolved 177 = .ok (.iload_n 1, 1) := by decide +kernel
theorem dX5_resolved_178 : decode cX5_resolved 178 = .ok (.iload 5, 2) := by decide +kernel
theorem dX5_resolved_180 : decode cX5_resolved 180 = .ok (.aload_n 0, 1) := by decide +kernel
theorem dX5_resolved_181 : decode cX5_resolved 181 = .ok (.getfield 59, 3) := by decide +kernel
theorem dX5_resolved_184 : decode cX5_resolved 184 = .ok (.iload_n 2, 1) := by decide +kernel
theorem dX5_resolved_185 : decode cX5_resolved 185 = .ok (.iaload, 1) := by decide +kernel
theorem dX5_resolved_186 : decode cX5_resolved 186 = .ok (.invokevirtual 133, 3) := by decide +kernel
theorem dX5_resolved_189 : decode cX5_resolved 189 = .ok (.goto 16, 3) := by decide +kernel
theorem dX5_resolved_192 : decode cX5_resolved 192 = .ok (.aload_n 0, 1) := by decide +kernel
theorem dX5_resolved_193 : decode cX5_resolved 193 = .ok (.iload_n 1, 1) := by decide +kernel
theorem dX5_resolved_194 : decode cX5_resolved 194 = .ok (.iload 5, 2) := by decide +kernel
theorem dX5_resolved_196 : decode cX5_resolved 196 = .ok (.aload_n 0, 1) := by decide +kernel
theorem dX5_resolved_197 : decode cX5_resolved 197 = .ok (.getfield 59, 3) := by decide +kernel
theorem dX5_resolved_200 : decode cX5_resolved 200 = .ok (.iload_n 2, 1) := by decide +kernel
theorem dX5_resolved_201 : decode cX5_resolved 201 = .ok (.iaload, 1) := by decide +kernel
theorem dX5_resolved_202 : decode cX5_resolved 202 = .ok (.invokevirtual 136, 3) := by decide +kernel
theorem dX5_resolved_205 : decode cX5_resolved 205 = .ok (.istore 9, 2) := by decide +kernel
theorem dX5_resolved_207 : decode cX5_resolved 207 = .ok (.iload 9, 2) := by decide +kernel
theorem dX5_resolved_209 : decode cX5_resolved 209 = .ok (.ifCond .ge 20, 3) := by decide +kernel
theorem dX5_resolved_212 : decode cX5_resolved 212 = .ok (.iload_n 3, 1) := by decide +kernel
theorem dX5_resolved_213 : decode cX5_resolved 213 = .ok (.iconst 4, 1) := by decide +kernel
theorem dX5_resolved_214 : decode cX5_resolved 214 = .ok (.if_icmp .ge 7, 3) := by decide +kernel
theorem dX5_resolved_217 : decode cX5_resolved 217 = .ok (.iconst 5, 1) := by decide +kernel
theorem dX5_resolved_218 : decode cX5_resolved 218 = .ok (.goto 5, 3) := by decide +kernel
theorem dX5_resolved_221 : decode cX5_resolved 221 = .ok (.bipush 6, 2) := by decide +kernel
theorem dX5_resolved_223 : decode cX5_resolved 223 = .ok (.iload 5, 2) := by decide +kernel
theorem dX5_resolved_225 : decode cX5_resolved 225 = .ok (.invokestatic 97, 3) := by decide +kernel
theorem dX5_resolved_228 : decode cX5_resolved 228 = .ok (.ireturn, 1) := by decide +kernel
theorem dX5_resolved_229 : decode cX5_resolved 229 = .ok (.bipush 30, 2) := by decide +kernel
theorem dX5_resolved_231 : decode cX5_resolved 231 = .ok (.iload_n 1, 1) := by decide +kernel
theorem dX5_resolved_232 : decode cX5_resolved 232 = .ok (.imul, 1) := by decide +kernel
theorem dX5_resolved_233 : decode cX5_resolved 233 = .ok (.iload 9, 2) := by decide +kernel
theorem dX5_resolved_235 : decode cX5_resolved 235 = .ok (.iadd, 1) := by decide +kernel
theorem dX5_resolved_236 : decode cX5_resolved 236 = .ok (.istore 10, 2) := by decide +kernel
theorem dX5_resolved_238 : decode cX5_resolved 238 = .ok (.aload_n 0, 1) := by decide +kernel
theorem dX5_resolved_239 : decode cX5_resolved 239 = .ok (.iload_n 1, 1) := by decide +kernel
theorem dX5_resolved_240 : decode cX5_resolved 240 = .ok (.iload 9, 2) := by decide +kernel
theorem dX5_resolved_242 : decode cX5_resolved 242 = .ok (.iload 5, 2) := by decide +kernel
theorem dX5_resolved_244 : decode cX5_resolved 244 = .ok (.iload 4, 2) := by decide +kernel
theorem dX5_resolved_246 : decode cX5_resolved 246 = .ok (.invokevirtual 139, 3) := by decide +kernel
theorem dX5_resolved_249 : decode cX5_resolved 249 = .ok (.ifCond .ne 13, 3) := by decide +kernel
theorem dX5_resolved_252 : decode cX5_resolved 252 = .ok (.iconst 4, 1) := by decide +kernel
theorem dX5_resolved_253 : decode cX5_resolved 253 = .ok (.bipush 16, 2) := by decide +kernel
theorem dX5_resolved_255 : decode cX5_resolved 255 = .ok (.iload 9, 2) := by decide +kernel
theorem dX5_resolved_257 : decode cX5_resolved 257 = .ok (.iadd, 1) := by decide +kernel
theorem dX5_resolved_258 : decode cX5_resolved 258 = .ok (.invokestatic 97, 3) := by decide +kernel
theorem dX5_resolved_261 : decode cX5_resolved 261 = .ok (.ireturn, 1) := by decide +kernel
theorem dX5_resolved_262 : decode cX5_resolved 262 = .ok (.iload_n 3, 1) := by decide +kernel
theorem dX5_resolved_263 : decode cX5_resolved 263 = .ok (.iconst 2, 1) := by decide +kernel
theorem dX5_resolved_264 : decode cX5_resolved 264 = .ok (.if_icmp .eq 14, 3) := by decide +kernel
theorem dX5_resolved_267 : decode cX5_resolved 267 = .ok (.iload_n 3, 1) := by decide +kernel
theorem dX5_resolved_268 : decode cX5_resolved 268 = .ok (.iconst 3, 1) := by decide +kernel
theorem dX5_resolved_269 : decode cX5_resolved 269 = .ok (.if_icmp .eq 9, 3) := by decide +kernel
theorem dX5_resolved_272 : decode cX5_resolved 272 = .ok (.iload_n 3, 1) := by decide +kernel
theorem dX5_resolved_273 : decode cX5_resolved 273 = .ok (.bipush 6, 2) := by decide +kernel
theorem dX5_resolved_275 : decode cX5_resolved 275 = .ok (.if_icmp .ne 7, 3) := by decide +kernel
theorem dX5_resolved_278 : decode cX5_resolved 278 = .ok (.iconst 1, 1) := by decide +kernel
theorem dX5_resolved_279 : decode cX5_resolved 279 = .ok (.goto 4, 3) := by decide +kernel
theorem dX5_resolved_282 : decode cX5_resolved 282 = .ok (.iconst 0, 1) := by decide +kernel
theorem dX5_resolved_283 : decode cX5_resolved 283 = .ok (.istore 11, 2) := by decide +kernel
theorem dX5_resolved_285 : decode cX5_resolved 285 = .ok (.aload_n 0, 1) := by decide +kernel
theorem dX5_resolved_286 : decode cX5_resolved 286 = .ok (.getfield 47, 3) := by decide +kernel
theorem dX5_resolved_289 : decode cX5_resolved 289 = .ok (.iload 10, 2) := by decide +kernel
theorem dX5_resolved_291 : decode cX5_resolved 291 = .ok (.iaload, 1) := by decide +kernel
theorem dX5_resolved_292 : decode cX5_resolved 292 = .ok (.iconst 1, 1) := by decide +kernel
theorem dX5_resolved_293 : decode cX5_resolved 293 = .ok (.iand, 1) := by decide +kernel
theorem dX5_resolved_294 : decode cX5_resolved 294 = .ok (.ifCond .eq 7, 3) := by decide +kernel
theorem dX5_resolved_297 : decode cX5_resolved 297 = .ok (.iconst 1, 1) := by decide +kernel
theorem dX5_resolved_298 : decode cX5_resolved 298 = .ok (.goto 4, 3) := by decide +kernel
theorem dX5_resolved_301 : decode cX5_resolved 301 = .ok (.iconst 0, 1) := by decide +kernel
theorem dX5_resolved_302 : decode cX5_resolved 302 = .ok (.iload 11, 2) := by decide +kernel
theorem dX5_resolved_304 : decode cX5_resolved 304 = .ok (.if_icmp .eq 13, 3) := by decide +kernel
theorem dX5_resolved_307 : decode cX5_resolved 307 = .ok (.iconst 3, 1) := by decide +kernel
theorem dX5_resolved_308 : decode cX5_resolved 308 = .ok (.bipush 16, 2) := by decide +kernel
theorem dX5_resolved_310 : decode cX5_resolved 310 = .ok (.iload 9, 2) := by decide +kernel
theorem dX5_resolved_312 : decode cX5_resolved 312 = .ok (.iadd, 1) := by decide +kernel
theorem dX5_resolved_313 : decode cX5_resolved 313 = .ok (.invokestatic 97, 3) := by decide +kernel
theorem dX5_resolved_316 : decode cX5_resolved 316 = .ok (.ireturn, 1) := by decide +kernel
theorem dX5_resolved_317 : decode cX5_resolved 317 = .ok (.iload_n 3, 1) := by decide +kernel
theorem dX5_resolved_318 : decode cX5_resolved 318 = .ok (.iconst 1, 1) := by decide +kernel
theorem dX5_resolved_319 : decode cX5_resolved 319 = .ok (.if_icmp .eq 8, 3) := by decide +kernel
theorem dX5_resolved_322 : decode cX5_resolved 322 = .ok (.iload_n 3, 1) := by decide +kernel
theorem dX5_resolved_323 : decode cX5_resolved 323 = .ok (.iconst 3, 1) := by decide +kernel
theorem dX5_resolved_324 : decode cX5_resolved 324 = .ok (.if_icmp .ne 37, 3) := by decide +kernel
theorem dX5_resolved_327 : decode cX5_resolved 327 = .ok (.aload_n 0, 1) := by decide +kernel
theorem dX5_resolved_328 : decode cX5_resolved 328 = .ok (.getfield 47, 3) := by decide +kernel
theorem dX5_resolved_331 : decode cX5_resolved 331 = .ok (.iload 10, 2) := by decide +kernel
theorem dX5_resolved_333 : decode cX5_resolved 333 = .ok (.iaload, 1) := by decide +kernel
theorem dX5_resolved_334 : decode cX5_resolved 334 = .ok (.iconst 4, 1) := by decide +kernel
theorem dX5_resolved_335 : decode cX5_resolved 335 = .ok (.iand, 1) := by decide +kernel
theorem dX5_resolved_336 : decode cX5_resolved 336 = .ok (.ifCond .eq 25, 3) := by decide +kernel
theorem dX5_resolved_339 : decode cX5_resolved 339 = .ok (.iload 4, 2) := by decide +kernel
theorem dX5_resolved_341 : decode cX5_resolved 341 = .ok (.aload_n 0, 1) := by decide +kernel
theorem dX5_resolved_342 : decode cX5_resolved 342 = .ok (.getfield 38, 3) := by decide +kernel
theorem dX5_resolved_345 : decode cX5_resolved 345 = .ok (.iload 10, 2) := by decide +kernel
theorem dX5_resolved_347 : decode cX5_resolved 347 = .ok (.iaload, 1) := by decide +kernel
theorem dX5_resolved_348 : decode cX5_resolved 348 = .ok (.if_icmp .eq 13, 3) := by decide +kernel
theorem dX5_resolved_351 : decode cX5_resolved 351 = .ok (.iconst 4, 1) := by decide +kernel
theorem dX5_resolved_352 : decode cX5_resolved 352 = .ok (.bipush 16, 2) := by decide +kernel
theorem dX5_resolved_354 : decode cX5_resolved 354 = .ok (.iload 9, 2) := by decide +kernel
theorem dX5_resolved_356 : decode cX5_resolved 356 = .ok (.iadd, 1) := by decide +kernel
theorem dX5_resolved_357 : decode cX5_resolved 357 = .ok (.invokestatic 97, 3) := by decide +kernel
theorem dX5_resolved_360 : decode cX5_resolved 360 = .ok (.ireturn, 1) := by decide +kernel
theorem dX5_resolved_361 : decode cX5_resolved 361 = .ok (.iload_n 3, 1) := by decide +kernel
theorem dX5_resolved_362 : decode cX5_resolved 362 = .ok (.iconst 5, 1) := by decide +kernel
theorem dX5_resolved_363 : decode cX5_resolved 363 = .ok (.if_icmp .ne 22, 3) := by decide +kernel
theorem dX5_resolved_366 : decode cX5_resolved 366 = .ok (.aload_n 0, 1) := by decide +kernel
theorem dX5_resolved_367 : decode cX5_resolved 367 = .ok (.iload_n 1, 1) := by decide +kernel
theorem dX5_resolved_368 : decode cX5_resolved 368 = .ok (.iload 4, 2) := by decide +kernel
theorem dX5_resolved_370 : decode cX5_resolved 370 = .ok (.iload 5, 2) := by decide +kernel
theorem dX5_resolved_372 : decode cX5_resolved 372 = .ok (.invokevirtual 116, 3) := by decide +kernel
theorem dX5_resolved_375 : decode cX5_resolved 375 = .ok (.ifCond .ne 10, 3) := by decide +kernel
theorem dX5_resolved_378 : decode cX5_resolved 378 = .ok (.iconst 3, 1) := by decide +kernel
theorem dX5_resolved_379 : decode cX5_resolved 379 = .ok (.iload 5, 2) := by decide +kernel
theorem dX5_resolved_381 : decode cX5_resolved 381 = .ok (.invokestatic 97, 3) := by decide +kernel
theorem dX5_resolved_384 : decode cX5_resolved 384 = .ok (.ireturn, 1) := by decide +kernel
theorem dX5_resolved_385 : decode cX5_resolved 385 = .ok (.iload_n 3, 1) := by decide +kernel
theorem dX5_resolved_386 : decode cX5_resolved 386 = .ok (.iconst 5, 1) := by decide +kernel
theorem dX5_resolved_387 : decode cX5_resolved 387 = .ok (.if_icmp .ne 26, 3) := by decide +kernel
theorem dX5_resolved_390 : decode cX5_resolved 390 = .ok (.aload_n 0, 1) := by decide +kernel
theorem dX5_resolved_391 : decode cX5_resolved 391 = .ok (.getfield 47, 3) := by decide +kernel
theorem dX5_resolved_394 : decode cX5_resolved 394 = .ok (.iload 10, 2) := by decide +kernel
theorem dX5_resolved_396 : decode cX5_resolved 396 = .ok (.iaload, 1) := by decide +kernel
theorem dX5_resolved_397 : decode cX5_resolved 397 = .ok (.iconst 2, 1) := by decide +kernel
theorem dX5_resolved_398 : decode cX5_resolved 398 = .ok (.iand, 1) := by decide +kernel
theorem dX5_resolved_399 : decode cX5_resolved 399 = .ok (.ifCond .eq 14, 3) := by decide +kernel
theorem dX5_resolved_402 : decode cX5_resolved 402 = .ok (.bipush 7, 2) := by decide +kernel
theorem dX5_resolved_404 : decode cX5_resolved 404 = .ok (.bipush 16, 2) := by decide +kernel
theorem dX5_resolved_406 : decode cX5_resolved 406 = .ok (.iload 9, 2) := by decide +kernel
theorem dX5_resolved_408 : decode cX5_resolved 408 = .ok (.iadd, 1) := by decide +kernel
theorem dX5_resolved_409 : decode cX5_resolved 409 = .ok (.invokestatic 97, 3) := by decide +kernel
theorem dX5_resolved_412 : decode cX5_resolved 412 = .ok (.ireturn, 1) := by decide +kernel
theorem dX5_resolved_413 : decode cX5_resolved 413 = .ok (.iconst 0, 1) := by decide +kernel
theorem dX5_resolved_414 : decode cX5_resolved 414 = .ok (.bipush 16, 2) := by decide +kernel
theorem dX5_resolved_416 : decode cX5_resolved 416 = .ok (.iload 9, 2) := by decide +kernel
theorem dX5_resolved_418 : decode cX5_resolved 418 = .ok (.iadd, 1) := by decide +kernel
theorem dX5_resolved_419 : decode cX5_resolved 419 = .ok (.invokestatic 97, 3) := by decide +kernel
theorem dX5_resolved_422 : decode cX5_resolved 422 = .ok (.ireturn, 1) := by decide +kernel
theorem dX5_overrides_0 : decode cX5_overrides 0 = .ok (.bipush 30, 2) := by decide +kernel
theorem dX5_overrides_2 : decode cX5_overrides 2 = .ok (.iload_n 1, 1) := by decide +kernel
theorem dX5_overrides_3 : decode cX5_overrides 3 = .ok (.imul, 1) := by decide +kernel
theorem dX5_overrides_4 : decode cX5_overrides 4 = .ok (.iload_n 2, 1) := by decide +kernel
theorem dX5_overrides_5 : decode cX5_overrides 5 = .ok (.iadd, 1) := by decide +kernel
theorem dX5_overrides_6 : decode cX5_overrides 6 = .ok (.istore 4, 2) := by decide +kernel
theorem dX5_overrides_8 : decode cX5_overrides 8 = .ok (.bipush 30, 2) := by decide +kernel
theorem dX5_overrides_10 : decode cX5_overrides 10 = .ok (.iload_n 1, 1) := by decide +kernel
theorem dX5_overrides_11 : decode cX5_overrides 11 = .ok (.imul, 1) := by decide +kernel
theorem dX5_overrides_12 : decode cX5_overrides 12 = .ok (.iload_n 3, 1) := by decide +kernel
theorem dX5_overrides_13 : decode cX5_overrides 13 = .ok (.iadd, 1) := by decide +kernel
theorem dX5_overrides_14 : decode cX5_overrides 14 = .ok (.istore 5, 2) := by decide +kernel
theorem dX5_overrides_16 : decode cX5_overrides 16 = .ok (.iload_n 2, 1) := by decide +kernel
theorem dX5_overrides_17 : decode cX5_overrides 17 = .ok (.iload_n 3, 1) := by decide +kernel
theorem dX5_overrides_18 : decode cX5_overrides 18 = .ok (.if_icmp .eq 25, 3) := by decide +kernel
theorem dX5_overrides_21 : decode cX5_overrides 21 = .ok (.aload_n 0, 1) := by decide +kernel
theorem dX5_overrides_22 : decode cX5_overrides 22 = .ok (.getfield 44, 3) := by decide +kernel
theorem dX5_overrides_25 : decode cX5_overrides 25 = .ok (.iload 5, 2) := by decide +kernel
theorem dX5_overrides_27 : decode cX5_overrides 27 = .ok (.iaload, 1) := by decide +kernel
theorem dX5_overrides_28 : decode cX5_overrides 28 = .ok (.iconst 3, 1) := by decide +kernel
theorem dX5_overrides_29 : decode cX5_overrides 29 = .ok (.if_icmp .eq 14, 3) := by decide +kernel
theorem dX5_overrides_32 : decode cX5_overrides 32 = .ok (.aload_n 0, 1) := by decide +kernel
theorem dX5_overrides_33 : decode cX5_overrides 33 = .ok (.getfield 44, 3) := by decide +kernel
theorem dX5_overrides_36 : decode cX5_overrides 36 = .ok (.iload 5, 2) := by decide +kernel
theorem dX5_overrides_38 : decode cX5_overrides 38 = .ok (.iaload, 1) := by decide +kernel
theorem dX5_overrides_39 : decode cX5_overrides 39 = .ok (.iconst 2, 1) := by decide +kernel
theorem dX5_overrides_40 : decode cX5_overrides 40 = .ok (.if_icmp .ne 5, 3) := by decide +kernel
theorem dX5_overrides_43 : decode cX5_overrides 43 = .ok (.iconst 1, 1) := by decide +kernel
theorem dX5_overrides_44 : decode cX5_overrides 44 = .ok (.ireturn, 1) := by decide +kernel
theorem dX5_overrides_45 : decode cX5_overrides 45 = .ok (.aload_n 0, 1) := by decide +kernel
theorem dX5_overrides_46 : decode cX5_overrides 46 = .ok (.getfield 44, 3) := by decide +kernel
theorem dX5_overrides_49 : decode cX5_overrides 49 = .ok (.iload 5, 2) := by decide +kernel
theorem dX5_overrides_51 : decode cX5_overrides 51 = .ok (.iaload, 1) := by decide +kernel
theorem dX5_overrides_52 : decode cX5_overrides 52 = .ok (.iconst 1, 1) := by decide +kernel
theorem dX5_overrides_53 : decode cX5_overrides 53 = .ok (.if_icmp .ne 44, 3) := by decide +kernel
theorem dX5_overrides_56 : decode cX5_overrides 56 = .ok (.aload_n 0, 1) := by decide +kernel
theorem dX5_overrides_57 : decode cX5_overrides 57 = .ok (.getfield 17, 3) := by decide +kernel
theorem dX5_overrides_60 : decode cX5_overrides 60 = .ok (.bipush 12, 2) := by decide +kernel
theorem dX5_overrides_62 : decode cX5_overrides 62 = .ok (.iload_n 1, 1) := by decide +kernel
theorem dX5_overrides_63 : decode cX5_overrides 63 = .ok (.imul, 1) := by decide +kernel
theorem dX5_overrides_64 : decode cX5_overrides 64 = .ok (.aload_n 0, 1) := by decide +kernel
theorem dX5_overrides_65 : decode cX5_overrides 65 = .ok (.getfield 38, 3) := by decide +kernel
theorem dX5_overrides_68 : decode cX5_overrides 68 = .ok (.iload 4, 2) := by decide +kernel
theorem dX5_overrides_70 : decode cX5_overrides 70 = .ok (.iaload, 1) := by decide +kernel
theorem dX5_overrides_71 : decode cX5_overrides 71 = .ok (.iadd, 1) := by decide +kernel
theorem dX5_overrides_72 : decode cX5_overrides 72 = .ok (.iaload, 1) := by decide +kernel
theorem dX5_overrides_73 : decode cX5_overrides 73 = .ok (.aload_n 0, 1) := by decide +kernel
theorem dX5_overrides_74 : decode cX5_overrides 74 = .ok (.getfield 17, 3) := by decide +kernel
theorem dX5_overrides_77 : decode cX5_overrides 77 = .ok (.bipush 12, 2) := by decide +kernel
theorem dX5_overrides_79 : decode cX5_overrides 79 = .ok (.iload_n 1, 1) := by decide +kernel
theorem dX5_overrides_80 : decode cX5_overrides 80 = .ok (.imul, 1) := by decide +kernel
theorem dX5_overrides_81 : decode cX5_overrides 81 = .ok (.aload_n 0, 1) := by decide +kernel
theorem dX5_overrides_82 : decode cX5_overrides 82 = .ok (.getfield 38, 3) := by decide +kernel
theorem dX5_overrides_85 : decode cX5_overrides 85 = .ok (.iload 5, 2) := by decide +kernel
theorem dX5_overrides_87 : decode cX5_overrides 87 = .ok (.iaload, 1) := by decide +kernel
theorem dX5_overrides_88 : decode cX5_overrides 88 = .ok (.iadd, 1) := by decide +kernel
theorem dX5_overrides_89 : decode cX5_overrides 89 = .ok (.iaload, 1) := by decide +kernel
theorem dX5_overrides_90 : decode cX5_overrides 90 = .ok (.if_icmp .ne 7, 3) := by decide +kernel
theorem dX5_overrides_93 : decode cX5_overrides 93 = .ok (.iconst 1, 1) := by decide +kernel
theorem dX5_overrides_94 : decode cX5_overrides 94 = .ok (.goto 4, 3) := by decide +kernel
theorem dX5_overrides_97 : decode cX5_overrides 97 = .ok (.iconst 0, 1) := by decide +kernel
theorem dX5_overrides_98 : decode cX5_overrides 98 = .ok (.ireturn, 1) := by decide +kernel
set_option maxRecDepth 20000 in
theorem ggX5_selected_X5_resolved : GoodIn wsX5_selected wsX5_resolved := goodIn_r _ [12, 7, 13, 3, 2, 14, 1, 6, 15, 16, 17, 18, 11, 19, 20, 21, 22, 5, 23, 24, 25, 26, 27, 28, 29, 30, 31, 32, 33, 34, 35, 36, 37, 38, 39, 40, 41, 42, 43, 44, 45, 46, 47, 48, 49, 50, 51, 52, 53, 4, 54, 55, 56, 57, 58, 59, 60, 61, 62, 63, 64, 65, 66, 67, 68, 69, 70, 71, 72, 73, 74, 75, 76, 77, 78, 79, 80, 81, 82, 83, 84, 85, 86, 95, 96, 97, 98, 99, 100, 101, 102, 103, 104, 105, 106, 107, 108, 109, 110, 111, 112, 113, 114, 115] (by decide +kernel) (by decide +kernel)
set_option maxRecDepth 20000 in
theorem gX5_selected_X5_resolved : GoodIn wsX5_selected (wsV RX5 143 RX5 yX5_resolved wsX5_resolved) := goodIn_app (goodIn_of _ (by decide +kernel)) ggX5_selected_X5_resolved
set_option maxRecDepth 20000 in
theorem ggX5_selected_X5_isLoaded : GoodIn wsX5_selected wsX5_isLoaded := goodIn_r _ [90, 16, 17, 18, 11, 19, 20, 21, 22, 5, 23, 24, 25, 26, 27, 28, 29, 30, 31, 32, 33, 2, 95, 96, 97, 98, 99, 100, 101, 102, 103, 104, 105, 106, 107, 108, 109, 110, 111, 112, 113, 114, 115] (by decide +kernel) (by decide +kernel)
set_option maxRecDepth 20000 in
theorem gX5_selected_X5_isLoaded : GoodIn wsX5_selected (wsV RX5 146 RX5 yX5_isLoaded wsX5_isLoaded) := goodIn_app (goodIn_of _ (by decide +kernel)) ggX5_selected_X5_isLoaded
set_option maxRecDepth 20000 in
theorem ggX5_selected_X5_under : GoodIn wsX5_selected wsX5_under := goodIn_r _ [73, 62, 63, 64, 11, 65, 5, 58, 59, 60, 61, 23, 27, 28, 29, 95, 96, 97, 98, 99, 100, 101, 102, 103, 104, 105, 106, 107, 108, 109, 110, 111, 112, 113, 114, 115] (by decide +kernel) (by decide +kernel)
set_option maxRecDepth 20000 in
theorem gX5_selected_X5_under : GoodIn wsX5_selected (wsV RX5 116 RX5 yX5_under wsX5_under) := goodIn_app (goodIn_of _ (by decide +kernel)) ggX5_selected_X5_under
set_option maxRecDepth 20000 in
theorem ggX5_selected_X5_verdict : GoodIn wsX5_selected wsX5_verdict := goodIn_r _ [26] (by decide +kernel) (by decide +kernel)
set_option maxRecDepth 20000 in
theorem gX5_selected_X5_verdict : GoodIn wsX5_selected (va_wsS RX5 97 yX5_verdict wsX5_verdict) := goodIn_app (goodIn_of _ (by decide +kernel)) ggX5_selected_X5_verdict
set_option maxRecDepth 20000 in
theorem ggX5_selected_X5_own : GoodIn wsX5_selected wsX5_own := goodIn_r _ [41, 42, 43, 15, 44, 45, 95, 96, 97, 98, 99, 100, 101, 102, 103, 104, 105, 106, 107, 108, 109, 110, 111, 112, 113, 114, 115] (by decide +kernel) (by decide +kernel)
set_option maxRecDepth 20000 in
theorem gX5_selected_X5_own : GoodIn wsX5_selected (wsV RX5 84 RX5 yX5_own wsX5_own) := goodIn_app (goodIn_of _ (by decide +kernel)) ggX5_selected_X5_own
set_option maxRecDepth 20000 in
theorem ggX5_selected_X5_offers : GoodIn wsX5_selected wsX5_offers := goodIn_r _ [69, 4, 6, 38, 39, 40, 11, 41, 42, 43, 15, 44, 45, 95, 96, 97, 98, 99, 100, 101, 102, 103, 104, 105, 106, 107, 108, 109, 110, 111, 112, 113, 114, 115] (by decide +kernel) (by decide +kernel)
set_option maxRecDepth 20000 in
theorem gX5_selected_X5_offers : GoodIn wsX5_selected (wsV RX5 123 RX5 yX5_offers wsX5_offers) := goodIn_app (goodIn_of _ (by decide +kernel)) ggX5_selected_X5_offers
set_option maxRecDepth 20000 in
theorem ggX5_selected_X5_overrides : GoodIn wsX5_selected wsX5_overrides := goodIn_r _ [94, 4, 14, 15, 95, 96, 97, 98, 99, 100, 101, 102, 103, 104, 105, 106, 107, 108, 109, 110, 111, 112, 113, 114, 115] (by decide +kernel) (by decide +kernel)
set_option maxRecDepth 20000 in
theorem gX5_selected_X5_overrides : GoodIn wsX5_selected (wsV RX5 149 RX5 yX5_overrides wsX5_overrides) := goodIn_app (goodIn_of _ (by decide +kernel)) ggX5_selected_X5_overrides
set_option maxRecDepth 20000 in
theorem ggX5_selected_X5_specific : GoodIn wsX5_selected wsX5_specific := goodIn_r _ [57, 58, 59, 60, 11, 61, 23, 62, 63, 64, 65, 5, 27, 28, 29, 66, 67, 68, 69, 4, 6, 38, 39, 40, 41, 42, 43, 15, 44, 45, 70, 71, 72, 73, 95, 96, 97, 98, 99, 100, 101, 102, 103, 104, 105, 106, 107, 108, 109, 110, 111, 112, 113, 114, 115] (by decide +kernel) (by decide +kernel)
set_option maxRecDepth 20000 in
theorem gX5_selected_X5_specific : GoodIn wsX5_selected (wsV RX5 126 RX5 yX5_specific wsX5_specific) := goodIn_app (goodIn_of _ (by decide +kernel)) ggX5_selected_X5_specific
set_option maxRecDepth 20000 in
theorem ggX5_selected_X5_bodied : GoodIn wsX5_selected wsX5_bodied := goodIn_r _ [77, 6, 27, 28, 11, 29, 38, 39, 40, 41, 42, 43, 15, 44, 45, 95, 96, 97, 98, 99, 100, 101, 102, 103, 104, 105, 106, 107, 108, 109, 110, 111, 112, 113, 114, 115] (by decide +kernel) (by decide +kernel)
set_option maxRecDepth 20000 in
theorem gX5_selected_X5_bodied : GoodIn wsX5_selected (wsV RX5 130 RX5 yX5_bodied wsX5_bodied) := goodIn_app (goodIn_of _ (by decide +kernel)) ggX5_selected_X5_bodied
theorem dX5_selected_0 : decode cX5_selected 0 = .ok (.aload_n 0, 1) := by decide +kernel
theorem dX5_selected_1 : decode cX5_selected 1 = .ok (.iload_n 1, 1) := by decide +kernel
theorem dX5_selected_2 : decode cX5_selected 2 = .ok (.iload_n 2, 1) := by decide +kernel
theorem dX5_selected_3 : decode cX5_selected 3 = .ok (.invokevirtual 143, 3) := by decide +kernel
theorem dX5_selected_6 : decode cX5_selected 6 = .ok (.bipush 16, 2) := by decide +kernel
theorem dX5_selected_8 : decode cX5_selected 8 = .ok (.isub, 1) := by decide +kernel
theorem dX5_selected_9 : decode cX5_selected 9 = .ok (.istore 4, 2) := by decide +kernel
theorem dX5_selected_11 : decode cX5_selected 11 = .ok (.aload_n 0, 1) := by decide +kernel
theorem dX5_selected_12 : decode cX5_selected 12 = .ok (.getfield 59, 3) := by decide +kernel
theorem dX5_selected_15 : decode cX5_selected 15 = .ok (.iload_n 2, 1) := by decide +kernel
theorem dX5_selected_16 : decode cX5_selected 16 = .ok (.iaload, 1) := by decide +kernel
theorem dX5_selected_17 : decode cX5_selected 17 = .ok (.istore 5, 2) := by decide +kernel
theorem dX5_selected_19 : decode cX5_selected 19 = .ok (.bipush 12, 2) := by decide +kernel
theorem dX5_selected_21 : decode cX5_selected 21 = .ok (.iload_n 1, 1) := by decide +kernel
theorem dX5_selected_22 : decode cX5_selected 22 = .ok (.imul, 1) := by decide +kernel
theorem dX5_selected_23 : decode cX5_selected 23 = .ok (.iload_n 3, 1) := by decide +kernel
theorem dX5_selected_24 : decode cX5_selected 24 = .ok (.iadd, 1) := by decide +kernel
theorem dX5_selected_25 : decode cX5_selected 25 = .ok (.istore 6, 2) := by decide +kernel
theorem dX5_selected_27 : decode cX5_selected 27 = .ok (.aload_n 0, 1) := by decide +kernel
theorem dX5_selected_28 : decode cX5_selected 28 = .ok (.iload_n 1, 1) := by decide +kernel
theorem dX5_selected_29 : decode cX5_selected 29 = .ok (.iload_n 3, 1) := by decide +kernel
theorem dX5_selected_30 : decode cX5_selected 30 = .ok (.invokevirtual 146, 3) := by decide +kernel
theorem dX5_selected_33 : decode cX5_selected 33 = .ok (.ifCond .eq 31, 3) := by decide +kernel
theorem dX5_selected_36 : decode cX5_selected 36 = .ok (.aload_n 0, 1) := by decide +kernel
theorem dX5_selected_37 : decode cX5_selected 37 = .ok (.getfield 13, 3) := by decide +kernel
theorem dX5_selected_40 : decode cX5_selected 40 = .ok (.iload 6, 2) := by decide +kernel
theorem dX5_selected_42 : decode cX5_selected 42 = .ok (.iaload, 1) := by decide +kernel
theorem dX5_selected_43 : decode cX5_selected 43 = .ok (.bipush 6, 2) := by decide +kernel
theorem dX5_selected_45 : decode cX5_selected 45 = .ok (.iand, 1) := by decide +kernel
theorem dX5_selected_46 : decode cX5_selected 46 = .ok (.ifCond .ne 18, 3) := by decide +kernel
theorem dX5_selected_49 : decode cX5_selected 49 = .ok (.aload_n 0, 1) := by decide +kernel
theorem dX5_selected_50 : decode cX5_selected 50 = .ok (.iload_n 1, 1) := by decide +kernel
theorem dX5_selected_51 : decode cX5_selected 51 = .ok (.iload_n 3, 1) := by decide +kernel
theorem dX5_selected_52 : decode cX5_selected 52 = .ok (.aload_n 0, 1) := by decide +kernel
theorem dX5_selected_53 : decode cX5_selected 53 = .ok (.getfield 56, 3) := by decide +kernel
theorem dX5_selected_56 : decode cX5_selected 56 = .ok (.iload_n 2, 1) := by decide +kernel
theorem dX5_selected_57 : decode cX5_selected 57 = .ok (.iaload, 1) := by decide +kernel
theorem dX5_selected_58 : decode cX5_selected 58 = .ok (.invokevirtual 116, 3) := by decide +kernel
theorem dX5_selected_61 : decode cX5_selected 61 = .ok (.ifCond .ne 10, 3) := by decide +kernel
theorem dX5_selected_64 : decode cX5_selected 64 = .ok (.bipush 8, 2) := by decide +kernel
theorem dX5_selected_66 : decode cX5_selected 66 = .ok (.iload_n 3, 1) := by decide +kernel
theorem dX5_selected_67 : decode cX5_selected 67 = .ok (.invokestatic 97, 3) := by decide +kernel
theorem dX5_selected_70 : decode cX5_selected 70 = .ok (.ireturn, 1) := by decide +kernel
theorem dX5_selected_71 : decode cX5_selected 71 = .ok (.aload_n 0, 1) := by decide +kernel
theorem dX5_selected_72 : decode cX5_selected 72 = .ok (.getfield 44, 3) := by decide +kernel
theorem dX5_selected_75 : decode cX5_selected 75 = .ok (.bipush 30, 2) := by decide +kernel
theorem dX5_selected_77 : decode cX5_selected 77 = .ok (.iload_n 1, 1) := by decide +kernel
theorem dX5_selected_78 : decode cX5_selected 78 = .ok (.imul, 1) := by decide +kernel
theorem dX5_selected_79 : decode cX5_selected 79 = .ok (.iload 4, 2) := by decide +kernel
theorem dX5_selected_81 : decode cX5_selected 81 = .ok (.iadd, 1) := by decide +kernel
theorem dX5_selected_82 : decode cX5_selected 82 = .ok (.iaload, 1) := by decide +kernel
theorem dX5_selected_83 : decode cX5_selected 83 = .ok (.ifCond .ne 8, 3) := by decide +kernel
theorem dX5_selected_86 : decode cX5_selected 86 = .ok (.iload 4, 2) := by decide +kernel
theorem dX5_selected_88 : decode cX5_selected 88 = .ok (.goto 4, 3) := by decide +kernel
theorem dX5_selected_91 : decode cX5_selected 91 = .ok (.iconst (-1), 1) := by decide +kernel
theorem dX5_selected_92 : decode cX5_selected 92 = .ok (.istore 7, 2) := by decide +kernel
theorem dX5_selected_94 : decode cX5_selected 94 = .ok (.iload_n 3, 1) := by decide +kernel
theorem dX5_selected_95 : decode cX5_selected 95 = .ok (.istore 8, 2) := by decide +kernel
theorem dX5_selected_97 : decode cX5_selected 97 = .ok (.iload 8, 2) := by decide +kernel
theorem dX5_selected_99 : decode cX5_selected 99 = .ok (.ifCond .lt 70, 3) := by decide +kernel
theorem dX5_selected_102 : decode cX5_selected 102 = .ok (.iload 7, 2) := by decide +kernel
theorem dX5_selected_104 : decode cX5_selected 104 = .ok (.ifCond .ge 65, 3) := by decide +kernel
theorem dX5_selected_107 : decode cX5_selected 107 = .ok (.aload_n 0, 1) := by decide +kernel
theorem dX5_selected_108 : decode cX5_selected 108 = .ok (.iload_n 1, 1) := by decide +kernel
theorem dX5_selected_109 : decode cX5_selected 109 = .ok (.iload 8, 2) := by decide +kernel
theorem dX5_selected_111 : decode cX5_selected 111 = .ok (.iconst 1, 1) := by decide +kernel
theorem dX5_selected_112 : decode cX5_selected 112 = .ok (.iload 5, 2) := by decide +kernel
theorem dX5_selected_114 : decode cX5_selected 114 = .ok (.invokevirtual 84, 3) := by decide +kernel
theorem dX5_selected_117 : decode cX5_selected 117 = .ok (.istore 9, 2) := by decide +kernel
theorem dX5_selected_119 : decode cX5_selected 119 = .ok (.iload 9, 2) := by decide +kernel
theorem dX5_selected_121 : decode cX5_selected 121 = .ok (.ifCond .lt 31, 3) := by decide +kernel
theorem dX5_selected_124 : decode cX5_selected 124 = .ok (.aload_n 0, 1) := by decide +kernel
theorem dX5_selected_125 : decode cX5_selected 125 = .ok (.iload_n 1, 1) := by decide +kernel
theorem dX5_selected_126 : decode cX5_selected 126 = .ok (.iload 8, 2) := by decide +kernel
theorem dX5_selected_128 : decode cX5_selected 128 = .ok (.iload 5, 2) := by decide +kernel
theorem dX5_selected_130 : decode cX5_selected 130 = .ok (.invokevirtual 123, 3) := by decide +kernel
theorem dX5_selected_133 : decode cX5_selected 133 = .ok (.ifCond .eq 19, 3) := by decide +kernel
theorem dX5_selected_136 : decode cX5_selected 136 = .ok (.aload_n 0, 1) := by decide +kernel
theorem dX5_selected_137 : decode cX5_selected 137 = .ok (.iload_n 1, 1) := by decide +kernel
theorem dX5_selected_138 : decode cX5_selected 138 = .ok (.iload 9, 2) := by decide +kernel
theorem dX5_selected_140 : decode cX5_selected 140 = .ok (.iload 4, 2) := by decide +kernel
theorem dX5_selected_142 : decode cX5_selected 142 = .ok (.invokevirtual 149, 3) := by decide +kernel
theorem dX5_selected_145 : decode cX5_selected 145 = .ok (.ifCond .eq 7, 3) := by decide +kernel
theorem dX5_selected_148 : decode cX5_selected 148 = .ok (.iload 9, 2) := by decide +kernel
theorem dX5_selected_150 : decode cX5_selected 150 = .ok (.istore 7, 2) := by decide +kernel
theorem dX5_selected_152 : decode cX5_selected 152 = .ok (.aload_n 0, 1) := by decide +kernel
theorem dX5_selected_153 : decode cX5_selected 153 = .ok (.getfield 20, 3) := by decide +kernel
theorem dX5_selected_156 : decode cX5_selected 156 = .ok (.bipush 12, 2) := by decide +kernel
theorem dX5_selected_158 : decode cX5_selected 158 = .ok (.iload_n 1, 1) := by decide +kernel
theorem dX5_selected_159 : decode cX5_selected 159 = .ok (.imul, 1) := by decide +kernel
theorem dX5_selected_160 : decode cX5_selected 160 = .ok (.iload 8, 2) := by decide +kernel
theorem dX5_selected_162 : decode cX5_selected 162 = .ok (.iadd, 1) := by decide +kernel
theorem dX5_selected_163 : decode cX5_selected 163 = .ok (.iaload, 1) := by decide +kernel
theorem dX5_selected_164 : decode cX5_selected 164 = .ok (.istore 8, 2) := by decide +kernel
theorem dX5_selected_166 : decode cX5_selected 166 = .ok (.goto (-69), 3) := by decide +kernel
theorem dX5_selected_169 : decode cX5_selected 169 = .ok (.iload 7, 2) := by decide +kernel
theorem dX5_selected_171 : decode cX5_selected 171 = .ok (.ifCond .ge 43, 3) := by decide +kernel
theorem dX5_selected_174 : decode cX5_selected 174 = .ok (.aload_n 0, 1) := by decide +kernel
theorem dX5_selected_175 : decode cX5_selected 175 = .ok (.iload_n 1, 1) := by decide +kernel
theorem dX5_selected_176 : decode cX5_selected 176 = .ok (.aload_n 0, 1) := by decide +kernel
theorem dX5_selected_177 : decode cX5_selected 177 = .ok (.iload_n 1, 1) := by decide +kernel
theorem dX5_selected_178 : decode cX5_selected 178 = .ok (.iload_n 3, 1) := by decide +kernel
theorem dX5_selected_179 : decode cX5_selected 179 = .ok (.iload 5, 2) := by decide +kernel
theorem dX5_selected_181 : decode cX5_selected 181 = .ok (.invokevirtual 126, 3) := by decide +kernel
theorem dX5_selected_184 : decode cX5_selected 184 = .ok (.iload 5, 2) := by decide +kernel
theorem dX5_selected_186 : decode cX5_selected 186 = .ok (.invokevirtual 130, 3) := by decide +kernel
theorem dX5_selected_189 : decode cX5_selected 189 = .ok (.istore 7, 2) := by decide +kernel
theorem dX5_selected_191 : decode cX5_selected 191 = .ok (.iload 7, 2) := by decide +kernel
theorem dX5_selected_193 : decode cX5_selected 193 = .ok (.ifCond .ge 21, 3) := by decide +kernel
theorem dX5_selected_196 : decode cX5_selected 196 = .ok (.iload 7, 2) := by decide +kernel
theorem dX5_selected_198 : decode cX5_selected 198 = .ok (.bipush (-2), 2) := by decide +kernel
theorem dX5_selected_200 : decode cX5_selected 200 = .ok (.if_icmp .ne 7, 3) := by decide +kernel
theorem dX5_selected_203 : decode cX5_selected 203 = .ok (.iconst 3, 1) := by decide +kernel
theorem dX5_selected_204 : decode cX5_selected 204 = .ok (.goto 5, 3) := by decide +kernel
theorem dX5_selected_207 : decode cX5_selected 207 = .ok (.bipush 7, 2) := by decide +kernel
theorem dX5_selected_209 : decode cX5_selected 209 = .ok (.iload_n 3, 1) := by decide +kernel
theorem dX5_selected_210 : decode cX5_selected 210 = .ok (.invokestatic 97, 3) := by decide +kernel
theorem dX5_selected_213 : decode cX5_selected 213 = .ok (.ireturn, 1) := by decide +kernel
theorem dX5_selected_214 : decode cX5_selected 214 = .ok (.bipush 30, 2) := by decide +kernel
theorem dX5_selected_216 : decode cX5_selected 216 = .ok (.iload_n 1, 1) := by decide +kernel
theorem dX5_selected_217 : decode cX5_selected 217 = .ok (.imul, 1) := by decide +kernel
theorem dX5_selected_218 : decode cX5_selected 218 = .ok (.iload 7, 2) := by decide +kernel
theorem dX5_selected_220 : decode cX5_selected 220 = .ok (.iadd, 1) := by decide +kernel
theorem dX5_selected_221 : decode cX5_selected 221 = .ok (.istore 8, 2) := by decide +kernel
theorem dX5_selected_223 : decode cX5_selected 223 = .ok (.aload_n 0, 1) := by decide +kernel
theorem dX5_selected_224 : decode cX5_selected 224 = .ok (.getfield 47, 3) := by decide +kernel
theorem dX5_selected_227 : decode cX5_selected 227 = .ok (.iload 8, 2) := by decide +kernel
theorem dX5_selected_229 : decode cX5_selected 229 = .ok (.iaload, 1) := by decide +kernel
theorem dX5_selected_230 : decode cX5_selected 230 = .ok (.iconst 2, 1) := by decide +kernel
theorem dX5_selected_231 : decode cX5_selected 231 = .ok (.iand, 1) := by decide +kernel
theorem dX5_selected_232 : decode cX5_selected 232 = .ok (.ifCond .eq 14, 3) := by decide +kernel
theorem dX5_selected_235 : decode cX5_selected 235 = .ok (.bipush 7, 2) := by decide +kernel
theorem dX5_selected_237 : decode cX5_selected 237 = .ok (.bipush 16, 2) := by decide +kernel
theorem dX5_selected_239 : decode cX5_selected 239 = .ok (.iload 7, 2) := by decide +kernel
theorem dX5_selected_241 : decode cX5_selected 241 = .ok (.iadd, 1) := by decide +kernel
theorem dX5_selected_242 : decode cX5_selected 242 = .ok (.invokestatic 97, 3) := by decide +kernel
theorem dX5_selected_245 : decode cX5_selected 245 = .ok (.ireturn, 1) := by decide +kernel
theorem dX5_selected_246 : decode cX5_selected 246 = .ok (.aload_n 0, 1) := by decide +kernel
theorem dX5_selected_247 : decode cX5_selected 247 = .ok (.getfield 50, 3) := by decide +kernel
theorem dX5_selected_250 : decode cX5_selected 250 = .ok (.iload_n 2, 1) := by decide +kernel
theorem dX5_selected_251 : decode cX5_selected 251 = .ok (.iaload, 1) := by decide +kernel
theorem dX5_selected_252 : decode cX5_selected 252 = .ok (.bipush 7, 2) := by decide +kernel
theorem dX5_selected_254 : decode cX5_selected 254 = .ok (.if_icmp .ne 34, 3) := by decide +kernel
theorem dX5_selected_257 : decode cX5_selected 257 = .ok (.aload_n 0, 1) := by decide +kernel
theorem dX5_selected_258 : decode cX5_selected 258 = .ok (.getfield 44, 3) := by decide +kernel
theorem dX5_selected_261 : decode cX5_selected 261 = .ok (.iload 8, 2) := by decide +kernel
theorem dX5_selected_263 : decode cX5_selected 263 = .ok (.iaload, 1) := by decide +kernel
theorem dX5_selected_264 : decode cX5_selected 264 = .ok (.iconst 3, 1) := by decide +kernel
theorem dX5_selected_265 : decode cX5_selected 265 = .ok (.if_icmp .eq 23, 3) := by decide +kernel
theorem dX5_selected_268 : decode cX5_selected 268 = .ok (.aload_n 0, 1) := by decide +kernel
theorem dX5_selected_269 : decode cX5_selected 269 = .ok (.getfield 44, 3) := by decide +kernel
theorem dX5_selected_272 : decode cX5_selected 272 = .ok (.iload 8, 2) := by decide +kernel
theorem dX5_selected_274 : decode cX5_selected 274 = .ok (.iaload, 1) := by decide +kernel
theorem dX5_selected_275 : decode cX5_selected 275 = .ok (.ifCond .eq 13, 3) := by decide +kernel
theorem dX5_selected_278 : decode cX5_selected 278 = .ok (.iconst 4, 1) := by decide +kernel
theorem dX5_selected_279 : decode cX5_selected 279 = .ok (.bipush 16, 2) := by decide +kernel
theorem dX5_selected_281 : decode cX5_selected 281 = .ok (.iload 7, 2) := by decide +kernel
theorem dX5_selected_283 : decode cX5_selected 283 = .ok (.iadd, 1) := by decide +kernel
theorem dX5_selected_284 : decode cX5_selected 284 = .ok (.invokestatic 97, 3) := by decide +kernel
theorem dX5_selected_287 : decode cX5_selected 287 = .ok (.ireturn, 1) := by decide +kernel
theorem dX5_selected_288 : decode cX5_selected 288 = .ok (.iconst 0, 1) := by decide +kernel
theorem dX5_selected_289 : decode cX5_selected 289 = .ok (.bipush 16, 2) := by decide +kernel
theorem dX5_selected_291 : decode cX5_selected 291 = .ok (.iload 7, 2) := by decide +kernel
theorem dX5_selected_293 : decode cX5_selected 293 = .ok (.iadd, 1) := by decide +kernel
theorem dX5_selected_294 : decode cX5_selected 294 = .ok (.invokestatic 97, 3) := by decide +kernel
theorem dX5_selected_297 : decode cX5_selected 297 = .ok (.ireturn, 1) := by decide +kernel
set_option maxRecDepth 20000 in
theorem ggX5_isAsk_X5_in : GoodIn wsX5_isAsk wsX5_in := goodIn_r _ [5] (by decide +kernel) (by decide +kernel)
set_option maxRecDepth 20000 in
theorem gX5_isAsk_X5_in : GoodIn wsX5_isAsk (va_wsS RX5 72 yX5_in wsX5_in) := goodIn_app (goodIn_of _ (by decide +kernel)) ggX5_isAsk_X5_in
theorem dX5_isAsk_0 : decode cX5_isAsk 0 = .ok (.iload_n 1, 1) := by decide +kernel
theorem dX5_isAsk_1 : decode cX5_isAsk 1 = .ok (.iconst 2, 1) := by decide +kernel
theorem dX5_isAsk_2 : decode cX5_isAsk 2 = .ok (.invokestatic 72, 3) := by decide +kernel
theorem dX5_isAsk_5 : decode cX5_isAsk 5 = .ok (.ifCond .eq 18, 3) := by decide +kernel
theorem dX5_isAsk_8 : decode cX5_isAsk 8 = .ok (.iload_n 2, 1) := by decide +kernel
theorem dX5_isAsk_9 : decode cX5_isAsk 9 = .ok (.aload_n 0, 1) := by decide +kernel
theorem dX5_isAsk_10 : decode cX5_isAsk 10 = .ok (.getfield 91, 3) := by decide +kernel
theorem dX5_isAsk_13 : decode cX5_isAsk 13 = .ok (.invokestatic 72, 3) := by decide +kernel
theorem dX5_isAsk_16 : decode cX5_isAsk 16 = .ok (.ifCond .eq 7, 3) := by decide +kernel
theorem dX5_isAsk_19 : decode cX5_isAsk 19 = .ok (.iconst 1, 1) := by decide +kernel
theorem dX5_isAsk_20 : decode cX5_isAsk 20 = .ok (.goto 4, 3) := by decide +kernel
theorem dX5_isAsk_23 : decode cX5_isAsk 23 = .ok (.iconst 0, 1) := by decide +kernel
theorem dX5_isAsk_24 : decode cX5_isAsk 24 = .ok (.ireturn, 1) := by decide +kernel
set_option maxRecDepth 20000 in
theorem ggX5_load_X5_in : GoodIn wsX5_load wsX5_in := goodIn_r _ [4] (by decide +kernel) (by decide +kernel)
set_option maxRecDepth 20000 in
theorem gX5_load_X5_in : GoodIn wsX5_load (va_wsS RX5 72 yX5_in wsX5_in) := goodIn_app (goodIn_of _ (by decide +kernel)) ggX5_load_X5_in
set_option maxRecDepth 20000 in
theorem ggX5_load_X5_loaded : GoodIn wsX5_load wsX5_loaded := goodIn_r _ [8, 9, 10, 11, 12, 13, 14, 15, 3, 16, 17, 18, 19, 20, 21, 22, 23, 24, 25, 26, 27, 28, 29, 30, 31, 32, 33, 34, 35, 36, 37, 38, 39, 40, 41, 42, 43, 44, 45] (by decide +kernel) (by decide +kernel)
set_option maxRecDepth 20000 in
theorem gX5_load_X5_loaded : GoodIn wsX5_load (wsV RX5 104 RX5 yX5_loaded wsX5_loaded) := goodIn_app (goodIn_of _ (by decide +kernel)) ggX5_load_X5_loaded
theorem dX5_load_0 : decode cX5_load 0 = .ok (.iload_n 1, 1) := by decide +kernel
theorem dX5_load_1 : decode cX5_load 1 = .ok (.iconst 2, 1) := by decide +kernel
theorem dX5_load_2 : decode cX5_load 2 = .ok (.invokestatic 72, 3) := by decide +kernel
theorem dX5_load_5 : decode cX5_load 5 = .ok (.ifCond .eq 21, 3) := by decide +kernel
theorem dX5_load_8 : decode cX5_load 8 = .ok (.iload_n 2, 1) := by decide +kernel
theorem dX5_load_9 : decode cX5_load 9 = .ok (.bipush 12, 2) := by decide +kernel
theorem dX5_load_11 : decode cX5_load 11 = .ok (.invokestatic 72, 3) := by decide +kernel
theorem dX5_load_14 : decode cX5_load 14 = .ok (.ifCond .eq 12, 3) := by decide +kernel
theorem dX5_load_17 : decode cX5_load 17 = .ok (.aload_n 0, 1) := by decide +kernel
theorem dX5_load_18 : decode cX5_load 18 = .ok (.iload_n 1, 1) := by decide +kernel
theorem dX5_load_19 : decode cX5_load 19 = .ok (.iload_n 2, 1) := by decide +kernel
theorem dX5_load_20 : decode cX5_load 20 = .ok (.invokevirtual 104, 3) := by decide +kernel
theorem dX5_load_23 : decode cX5_load 23 = .ok (.goto 4, 3) := by decide +kernel
theorem dX5_load_26 : decode cX5_load 26 = .ok (.iconst (-1), 1) := by decide +kernel
theorem dX5_load_27 : decode cX5_load 27 = .ok (.ireturn, 1) := by decide +kernel
set_option maxRecDepth 20000 in
theorem ggX5_resolve_X5_isAsk : GoodIn wsX5_resolve wsX5_isAsk := goodIn_r _ [5, 6, 7, 8, 4, 9, 95, 96, 97, 98, 99, 100, 101, 102, 103, 104, 105, 106, 107, 108, 109, 110, 111, 112, 113, 114, 115] (by decide +kernel) (by decide +kernel)
set_option maxRecDepth 20000 in
theorem gX5_resolve_X5_isAsk : GoodIn wsX5_resolve (wsV RX5 152 RX5 yX5_isAsk wsX5_isAsk) := goodIn_app (goodIn_of _ (by decide +kernel)) ggX5_resolve_X5_isAsk
set_option maxRecDepth 20000 in
theorem ggX5_resolve_X5_resolved : GoodIn wsX5_resolve wsX5_resolved := goodIn_r _ [13, 14, 15, 16, 17, 18, 19, 20, 21, 22, 23, 24, 4, 25, 26, 27, 28, 29, 30, 31, 32, 33, 34, 35, 36, 37, 38, 39, 40, 41, 42, 43, 44, 45, 46, 47, 48, 49, 50, 51, 52, 53, 54, 55, 56, 57, 58, 59, 60, 61, 62, 63, 64, 65, 66, 67, 68, 69, 70, 71, 72, 73, 74, 75, 76, 77, 78, 79, 80, 81, 82, 83, 84, 85, 86, 87, 88, 89, 90, 91, 92, 93, 94, 95, 96, 97, 98, 99, 100, 101, 102, 103, 104, 105, 106, 107, 108, 109, 110, 111, 112, 113, 114, 115] (by decide +kernel) (by decide +kernel)
set_option maxRecDepth 20000 in
theorem gX5_resolve_X5_resolved : GoodIn wsX5_resolve (wsV RX5 143 RX5 yX5_resolved wsX5_resolved) := goodIn_app (goodIn_of _ (by decide +kernel)) ggX5_resolve_X5_resolved
theorem dX5_resolve_0 : decode cX5_resolve 0 = .ok (.aload_n 0, 1) := by decide +kernel
theorem dX5_resolve_1 : decode cX5_resolve 1 = .ok (.iload_n 1, 1) := by decide +kernel
theorem dX5_resolve_2 : decode cX5_resolve 2 = .ok (.iload_n 2, 1) := by decide +kernel
theorem dX5_resolve_3 : decode cX5_resolve 3 = .ok (.invokevirtual 152, 3) := by decide +kernel
theorem dX5_resolve_6 : decode cX5_resolve 6 = .ok (.ifCond .eq 12, 3) := by decide +kernel
theorem dX5_resolve_9 : decode cX5_resolve 9 = .ok (.aload_n 0, 1) := by decide +kernel
theorem dX5_resolve_10 : decode cX5_resolve 10 = .ok (.iload_n 1, 1) := by decide +kernel
theorem dX5_resolve_11 : decode cX5_resolve 11 = .ok (.iload_n 2, 1) := by decide +kernel
theorem dX5_resolve_12 : decode cX5_resolve 12 = .ok (.invokevirtual 143, 3) := by decide +kernel
theorem dX5_resolve_15 : decode cX5_resolve 15 = .ok (.goto 4, 3) := by decide +kernel
theorem dX5_resolve_18 : decode cX5_resolve 18 = .ok (.iconst (-1), 1) := by decide +kernel
theorem dX5_resolve_19 : decode cX5_resolve 19 = .ok (.ireturn, 1) := by decide +kernel
set_option maxRecDepth 20000 in
theorem ggX5_selects_X5_resolved : GoodIn wsX5_selects wsX5_resolved := goodIn_r _ [6, 1, 7, 8, 9, 10, 11, 12, 13, 14, 15, 16, 5, 17, 18, 19, 20, 21, 22, 23, 24, 25, 26, 27, 28, 29, 30, 31, 32, 33, 34, 35, 36, 37, 38, 39, 40, 41, 42, 43, 44, 45, 46, 47, 48, 49, 50, 51, 52, 53, 54, 55, 56, 57, 58, 59, 60, 61, 62, 63, 64, 65, 66, 67, 68, 69, 70, 71, 72, 73, 74, 75, 76, 77, 78, 79, 80, 81, 82, 83, 84, 85, 86, 87, 88, 89, 90, 91, 92, 93, 94, 95, 96, 97, 98, 99, 100, 101, 102, 103, 104, 105, 106, 107] (by decide +kernel) (by decide +kernel)
set_option maxRecDepth 20000 in
theorem gX5_selects_X5_resolved : GoodIn wsX5_selects (wsV RX5 143 RX5 yX5_resolved wsX5_resolved) := goodIn_app (goodIn_of _ (by decide +kernel)) ggX5_selects_X5_resolved
theorem dX5_selects_0 : decode cX5_selects 0 = .ok (.aload_n 0, 1) := by decide +kernel
theorem dX5_selects_1 : decode cX5_selects 1 = .ok (.getfield 50, 3) := by decide +kernel
theorem dX5_selects_4 : decode cX5_selects 4 = .ok (.iload_n 2, 1) := by decide +kernel
theorem dX5_selects_5 : decode cX5_selects 5 = .ok (.iaload, 1) := by decide +kernel
theorem dX5_selects_6 : decode cX5_selects 6 = .ok (.iconst 4, 1) := by decide +kernel
theorem dX5_selects_7 : decode cX5_selects 7 = .ok (.if_icmp .eq 14, 3) := by decide +kernel
theorem dX5_selects_10 : decode cX5_selects 10 = .ok (.aload_n 0, 1) := by decide +kernel
theorem dX5_selects_11 : decode cX5_selects 11 = .ok (.getfield 50, 3) := by decide +kernel
theorem dX5_selects_14 : decode cX5_selects 14 = .ok (.iload_n 2, 1) := by decide +kernel
theorem dX5_selects_15 : decode cX5_selects 15 = .ok (.iaload, 1) := by decide +kernel
theorem dX5_selects_16 : decode cX5_selects 16 = .ok (.bipush 7, 2) := by decide +kernel
theorem dX5_selects_18 : decode cX5_selects 18 = .ok (.if_icmp .ne 18, 3) := by decide +kernel
theorem dX5_selects_21 : decode cX5_selects 21 = .ok (.aload_n 0, 1) := by decide +kernel
theorem dX5_selects_22 : decode cX5_selects 22 = .ok (.iload_n 1, 1) := by decide +kernel
theorem dX5_selects_23 : decode cX5_selects 23 = .ok (.iload_n 2, 1) := by decide +kernel
theorem dX5_selects_24 : decode cX5_selects 24 = .ok (.invokevirtual 143, 3) := by decide +kernel
theorem dX5_selects_27 : decode cX5_selects 27 = .ok (.bipush 64, 2) := by decide +kernel
theorem dX5_selects_29 : decode cX5_selects 29 = .ok (.if_icmp .ge 7, 3) := by decide +kernel
theorem dX5_selects_32 : decode cX5_selects 32 = .ok (.iconst 1, 1) := by decide +kernel
theorem dX5_selects_33 : decode cX5_selects 33 = .ok (.goto 4, 3) := by decide +kernel
theorem dX5_selects_36 : decode cX5_selects 36 = .ok (.iconst 0, 1) := by decide +kernel
theorem dX5_selects_37 : decode cX5_selects 37 = .ok (.ireturn, 1) := by decide +kernel
set_option maxRecDepth 20000 in
theorem ggX5_select_X5_isAsk : GoodIn wsX5_select wsX5_isAsk := goodIn_r _ [5, 6, 7, 8, 4, 9, 111, 112, 113, 114, 115, 116, 117, 118, 119, 120, 121, 122, 123, 124, 125, 126, 127, 128, 129, 130, 131] (by decide +kernel) (by decide +kernel)
set_option maxRecDepth 20000 in
theorem gX5_select_X5_isAsk : GoodIn wsX5_select (wsV RX5 152 RX5 yX5_isAsk wsX5_isAsk) := goodIn_app (goodIn_of _ (by decide +kernel)) ggX5_select_X5_isAsk
set_option maxRecDepth 20000 in
theorem ggX5_select_X5_in : GoodIn wsX5_select wsX5_in := goodIn_r _ [9] (by decide +kernel) (by decide +kernel)
set_option maxRecDepth 20000 in
theorem gX5_select_X5_in : GoodIn wsX5_select (va_wsS RX5 72 yX5_in wsX5_in) := goodIn_app (goodIn_of _ (by decide +kernel)) ggX5_select_X5_in
set_option maxRecDepth 20000 in
theorem ggX5_select_X5_selects : GoodIn wsX5_select wsX5_selects := goodIn_r _ [13, 14, 15, 16, 17, 4, 18, 19, 20, 21, 22, 23, 24, 25, 26, 27, 28, 29, 30, 31, 32, 33, 34, 35, 36, 37, 38, 39, 40, 41, 42, 43, 44, 45, 46, 47, 48, 49, 50, 51, 52, 53, 54, 55, 56, 57, 58, 59, 60, 61, 62, 63, 64, 65, 66, 67, 68, 69, 70, 71, 72, 73, 74, 75, 76, 77, 78, 79, 80, 81, 82, 83, 84, 85, 86, 87, 88, 89, 90, 91, 92, 93, 94, 95, 96, 97, 98, 111, 112, 113, 114, 115, 116, 117, 118, 119, 120, 121, 122, 123, 124, 125, 126, 127, 128, 129, 130, 131] (by decide +kernel) (by decide +kernel)
set_option maxRecDepth 20000 in
theorem gX5_select_X5_selects : GoodIn wsX5_select (wsV RX5 155 RX5 yX5_selects wsX5_selects) := goodIn_app (goodIn_of _ (by decide +kernel)) ggX5_select_X5_selects
set_option maxRecDepth 20000 in
theorem ggX5_select_X5_selected : GoodIn wsX5_select wsX5_selected := goodIn_r _ [102, 23, 21, 20, 65, 33, 24, 14, 15, 16, 17, 4, 18, 19, 22, 25, 26, 27, 28, 29, 30, 31, 32, 34, 35, 36, 37, 38, 39, 40, 41, 42, 43, 44, 45, 46, 47, 48, 49, 50, 51, 52, 53, 54, 55, 56, 57, 58, 59, 60, 61, 62, 63, 64, 66, 67, 68, 69, 70, 71, 72, 73, 74, 75, 76, 77, 78, 79, 80, 81, 82, 83, 84, 85, 86, 87, 88, 89, 90, 91, 92, 93, 94, 95, 96, 97, 98, 103, 104, 105, 106, 107, 108, 109, 110, 111, 112, 113, 114, 115, 116, 117, 118, 119, 120, 121, 122, 123, 124, 125, 126, 127, 128, 129, 130, 131] (by decide +kernel) (by decide +kernel)
set_option maxRecDepth 20000 in
theorem gX5_select_X5_selected : GoodIn wsX5_select (wsV RX5 158 RX5 yX5_selected wsX5_selected) := goodIn_app (goodIn_of _ (by decide +kernel)) ggX5_select_X5_selected
theorem dX5_select_0 : decode cX5_select 0 = .ok (.aload_n 0, 1) := by decide +kernel
theorem dX5_select_1 : decode cX5_select 1 = .ok (.iload_n 1, 1) := by decide +kernel
theorem dX5_select_2 : decode cX5_select 2 = .ok (.iload_n 2, 1) := by decide +kernel
theorem dX5_select_3 : decode cX5_select 3 = .ok (.invokevirtual 152, 3) := by decide +kernel
theorem dX5_select_6 : decode cX5_select 6 = .ok (.ifCond .eq 12, 3) := by decide +kernel
theorem dX5_select_9 : decode cX5_select 9 = .ok (.iload_n 3, 1) := by decide +kernel
theorem dX5_select_10 : decode cX5_select 10 = .ok (.bipush 12, 2) := by decide +kernel
theorem dX5_select_12 : decode cX5_select 12 = .ok (.invokestatic 72, 3) := by decide +kernel
theorem dX5_select_15 : decode cX5_select 15 = .ok (.ifCond .ne 5, 3) := by decide +kernel
theorem dX5_select_18 : decode cX5_select 18 = .ok (.iconst (-1), 1) := by decide +kernel
theorem dX5_select_19 : decode cX5_select 19 = .ok (.ireturn, 1) := by decide +kernel
theorem dX5_select_20 : decode cX5_select 20 = .ok (.aload_n 0, 1) := by decide +kernel
theorem dX5_select_21 : decode cX5_select 21 = .ok (.iload_n 1, 1) := by decide +kernel
theorem dX5_select_22 : decode cX5_select 22 = .ok (.iload_n 2, 1) := by decide +kernel
theorem dX5_select_23 : decode cX5_select 23 = .ok (.invokevirtual 155, 3) := by decide +kernel
theorem dX5_select_26 : decode cX5_select 26 = .ok (.ifCond .eq 13, 3) := by decide +kernel
theorem dX5_select_29 : decode cX5_select 29 = .ok (.aload_n 0, 1) := by decide +kernel
theorem dX5_select_30 : decode cX5_select 30 = .ok (.iload_n 1, 1) := by decide +kernel
theorem dX5_select_31 : decode cX5_select 31 = .ok (.iload_n 2, 1) := by decide +kernel
theorem dX5_select_32 : decode cX5_select 32 = .ok (.iload_n 3, 1) := by decide +kernel
theorem dX5_select_33 : decode cX5_select 33 = .ok (.invokevirtual 158, 3) := by decide +kernel
theorem dX5_select_36 : decode cX5_select 36 = .ok (.goto 5, 3) := by decide +kernel
theorem dX5_select_39 : decode cX5_select 39 = .ok (.bipush (-2), 2) := by decide +kernel
theorem dX5_select_41 : decode cX5_select 41 = .ok (.ireturn, 1) := by decide +kernel
theorem dX5_areAlike_0 : decode cX5_areAlike 0 = .ok (.iload_n 1, 1) := by decide +kernel
theorem dX5_areAlike_1 : decode cX5_areAlike 1 = .ok (.bipush 64, 2) := by decide +kernel
theorem dX5_areAlike_3 : decode cX5_areAlike 3 = .ok (.idiv, 1) := by decide +kernel
theorem dX5_areAlike_4 : decode cX5_areAlike 4 = .ok (.iload_n 2, 1) := by decide +kernel
theorem dX5_areAlike_5 : decode cX5_areAlike 5 = .ok (.bipush 64, 2) := by decide +kernel
theorem dX5_areAlike_7 : decode cX5_areAlike 7 = .ok (.idiv, 1) := by decide +kernel
theorem dX5_areAlike_8 : decode cX5_areAlike 8 = .ok (.if_icmp .eq 5, 3) := by decide +kernel
theorem dX5_areAlike_11 : decode cX5_areAlike 11 = .ok (.iconst 0, 1) := by decide +kernel
theorem dX5_areAlike_12 : decode cX5_areAlike 12 = .ok (.ireturn, 1) := by decide +kernel
theorem dX5_areAlike_13 : decode cX5_areAlike 13 = .ok (.iload_n 1, 1) := by decide +kernel
theorem dX5_areAlike_14 : decode cX5_areAlike 14 = .ok (.bipush 64, 2) := by decide +kernel
theorem dX5_areAlike_16 : decode cX5_areAlike 16 = .ok (.irem, 1) := by decide +kernel
theorem dX5_areAlike_17 : decode cX5_areAlike 17 = .ok (.istore_n 3, 1) := by decide +kernel
theorem dX5_areAlike_18 : decode cX5_areAlike 18 = .ok (.iload_n 2, 1) := by decide +kernel
theorem dX5_areAlike_19 : decode cX5_areAlike 19 = .ok (.bipush 64, 2) := by decide +kernel
theorem dX5_areAlike_21 : decode cX5_areAlike 21 = .ok (.irem, 1) := by decide +kernel
theorem dX5_areAlike_22 : decode cX5_areAlike 22 = .ok (.istore 4, 2) := by decide +kernel
theorem dX5_areAlike_24 : decode cX5_areAlike 24 = .ok (.iload_n 3, 1) := by decide +kernel
theorem dX5_areAlike_25 : decode cX5_areAlike 25 = .ok (.bipush 16, 2) := by decide +kernel
theorem dX5_areAlike_27 : decode cX5_areAlike 27 = .ok (.if_icmp .lt 10, 3) := by decide +kernel
theorem dX5_areAlike_30 : decode cX5_areAlike 30 = .ok (.iload 4, 2) := by decide +kernel
theorem dX5_areAlike_32 : decode cX5_areAlike 32 = .ok (.bipush 16, 2) := by decide +kernel
theorem dX5_areAlike_34 : decode cX5_areAlike 34 = .ok (.if_icmp .ge 15, 3) := by decide +kernel
theorem dX5_areAlike_37 : decode cX5_areAlike 37 = .ok (.iload_n 3, 1) := by decide +kernel
theorem dX5_areAlike_38 : decode cX5_areAlike 38 = .ok (.iload 4, 2) := by decide +kernel
theorem dX5_areAlike_40 : decode cX5_areAlike 40 = .ok (.if_icmp .ne 7, 3) := by decide +kernel
theorem dX5_areAlike_43 : decode cX5_areAlike 43 = .ok (.iconst 1, 1) := by decide +kernel
theorem dX5_areAlike_44 : decode cX5_areAlike 44 = .ok (.goto 4, 3) := by decide +kernel
theorem dX5_areAlike_47 : decode cX5_areAlike 47 = .ok (.iconst 0, 1) := by decide +kernel
theorem dX5_areAlike_48 : decode cX5_areAlike 48 = .ok (.ireturn, 1) := by decide +kernel
theorem dX5_areAlike_49 : decode cX5_areAlike 49 = .ok (.iload_n 3, 1) := by decide +kernel
theorem dX5_areAlike_50 : decode cX5_areAlike 50 = .ok (.bipush 16, 2) := by decide +kernel
theorem dX5_areAlike_52 : decode cX5_areAlike 52 = .ok (.isub, 1) := by decide +kernel
theorem dX5_areAlike_53 : decode cX5_areAlike 53 = .ok (.istore 5, 2) := by decide +kernel
theorem dX5_areAlike_55 : decode cX5_areAlike 55 = .ok (.bipush 30, 2) := by decide +kernel
theorem dX5_areAlike_57 : decode cX5_areAlike 57 = .ok (.iload 4, 2) := by decide +kernel
theorem dX5_areAlike_59 : decode cX5_areAlike 59 = .ok (.iadd, 1) := by decide +kernel
theorem dX5_areAlike_60 : decode cX5_areAlike 60 = .ok (.bipush 16, 2) := by decide +kernel
theorem dX5_areAlike_62 : decode cX5_areAlike 62 = .ok (.isub, 1) := by decide +kernel
theorem dX5_areAlike_63 : decode cX5_areAlike 63 = .ok (.istore 6, 2) := by decide +kernel
theorem dX5_areAlike_65 : decode cX5_areAlike 65 = .ok (.aload_n 0, 1) := by decide +kernel
theorem dX5_areAlike_66 : decode cX5_areAlike 66 = .ok (.getfield 38, 3) := by decide +kernel
theorem dX5_areAlike_69 : decode cX5_areAlike 69 = .ok (.iload 5, 2) := by decide +kernel
theorem dX5_areAlike_71 : decode cX5_areAlike 71 = .ok (.iaload, 1) := by decide +kernel
theorem dX5_areAlike_72 : decode cX5_areAlike 72 = .ok (.aload_n 0, 1) := by decide +kernel
theorem dX5_areAlike_73 : decode cX5_areAlike 73 = .ok (.getfield 38, 3) := by decide +kernel
theorem dX5_areAlike_76 : decode cX5_areAlike 76 = .ok (.iload 6, 2) := by decide +kernel
theorem dX5_areAlike_78 : decode cX5_areAlike 78 = .ok (.iaload, 1) := by decide +kernel
theorem dX5_areAlike_79 : decode cX5_areAlike 79 = .ok (.if_icmp .ne 41, 3) := by decide +kernel
theorem dX5_areAlike_82 : decode cX5_areAlike 82 = .ok (.aload_n 0, 1) := by decide +kernel
theorem dX5_areAlike_83 : decode cX5_areAlike 83 = .ok (.getfield 29, 3) := by decide +kernel
theorem dX5_areAlike_86 : decode cX5_areAlike 86 = .ok (.iload 5, 2) := by decide +kernel
theorem dX5_areAlike_88 : decode cX5_areAlike 88 = .ok (.baload, 1) := by decide +kernel
theorem dX5_areAlike_89 : decode cX5_areAlike 89 = .ok (.aload_n 0, 1) := by decide +kernel
theorem dX5_areAlike_90 : decode cX5_areAlike 90 = .ok (.getfield 29, 3) := by decide +kernel
theorem dX5_areAlike_93 : decode cX5_areAlike 93 = .ok (.iload 6, 2) := by decide +kernel
theorem dX5_areAlike_95 : decode cX5_areAlike 95 = .ok (.baload, 1) := by decide +kernel
theorem dX5_areAlike_96 : decode cX5_areAlike 96 = .ok (.if_icmp .ne 24, 3) := by decide +kernel
theorem dX5_areAlike_99 : decode cX5_areAlike 99 = .ok (.aload_n 0, 1) := by decide +kernel
theorem dX5_areAlike_100 : decode cX5_areAlike 100 = .ok (.getfield 41, 3) := by decide +kernel
theorem dX5_areAlike_103 : decode cX5_areAlike 103 = .ok (.iload 5, 2) := by decide +kernel
theorem dX5_areAlike_105 : decode cX5_areAlike 105 = .ok (.iaload, 1) := by decide +kernel
theorem dX5_areAlike_106 : decode cX5_areAlike 106 = .ok (.aload_n 0, 1) := by decide +kernel
theorem dX5_areAlike_107 : decode cX5_areAlike 107 = .ok (.getfield 41, 3) := by decide +kernel
theorem dX5_areAlike_110 : decode cX5_areAlike 110 = .ok (.iload 6, 2) := by decide +kernel
theorem dX5_areAlike_112 : decode cX5_areAlike 112 = .ok (.iaload, 1) := by decide +kernel
theorem dX5_areAlike_113 : decode cX5_areAlike 113 = .ok (.if_icmp .ne 7, 3) := by decide +kernel
theorem dX5_areAlike_116 : decode cX5_areAlike 116 = .ok (.iconst 1, 1) := by decide +kernel
theorem dX5_areAlike_117 : decode cX5_areAlike 117 = .ok (.goto 4, 3) := by decide +kernel
theorem dX5_areAlike_120 : decode cX5_areAlike 120 = .ok (.iconst 0, 1) := by decide +kernel
theorem dX5_areAlike_121 : decode cX5_areAlike 121 = .ok (.ireturn, 1) := by decide +kernel
set_option maxRecDepth 20000 in
theorem ggX5_compare_X5_in : GoodIn wsX5_compare wsX5_in := goodIn_r _ [5] (by decide +kernel) (by decide +kernel)
set_option maxRecDepth 20000 in
theorem gX5_compare_X5_in : GoodIn wsX5_compare (va_wsS RX5 72 yX5_in wsX5_in) := goodIn_app (goodIn_of _ (by decide +kernel)) ggX5_compare_X5_in
set_option maxRecDepth 20000 in
theorem ggX5_compare_X5_resolved : GoodIn wsX5_compare wsX5_resolved := goodIn_r _ [9, 10, 11, 12, 13, 14, 15, 16, 17, 18, 19, 20, 4, 21, 22, 23, 24, 25, 26, 27, 28, 29, 30, 31, 32, 33, 34, 35, 36, 37, 38, 39, 40, 41, 42, 43, 44, 45, 46, 47, 48, 49, 50, 51, 52, 53, 54, 55, 56, 57, 58, 59, 60, 61, 62, 63, 64, 65, 66, 67, 68, 69, 70, 71, 72, 73, 74, 75, 76, 77, 78, 79, 80, 81, 82, 83, 84, 85, 86, 87, 88, 89, 90, 95, 96, 97, 98, 99, 100, 101, 102, 103, 104, 105, 106, 107, 108, 109, 110, 111, 112, 113, 114, 115] (by decide +kernel) (by decide +kernel)
set_option maxRecDepth 20000 in
theorem gX5_compare_X5_resolved : GoodIn wsX5_compare (wsV RX5 143 RX5 yX5_resolved wsX5_resolved) := goodIn_app (goodIn_of _ (by decide +kernel)) ggX5_compare_X5_resolved
set_option maxRecDepth 20000 in
theorem ggX5_compare_X5_areAlike : GoodIn wsX5_compare wsX5_areAlike := goodIn_r _ [94, 17, 47, 48, 95, 96, 97, 98, 99, 100, 101, 102, 103, 104, 105, 106, 107, 108, 109, 110, 111, 112, 113, 114, 115] (by decide +kernel) (by decide +kernel)
set_option maxRecDepth 20000 in
theorem gX5_compare_X5_areAlike : GoodIn wsX5_compare (wsV RX5 161 RX5 yX5_areAlike wsX5_areAlike) := goodIn_app (goodIn_of _ (by decide +kernel)) ggX5_compare_X5_areAlike
theorem dX5_compare_0 : decode cX5_compare 0 = .ok (.iload_n 1, 1) := by decide +kernel
theorem dX5_compare_1 : decode cX5_compare 1 = .ok (.aload_n 0, 1) := by decide +kernel
theorem dX5_compare_2 : decode cX5_compare 2 = .ok (.getfield 91, 3) := by decide +kernel
theorem dX5_compare_5 : decode cX5_compare 5 = .ok (.invokestatic 72, 3) := by decide +kernel
theorem dX5_compare_8 : decode cX5_compare 8 = .ok (.ifCond .ne 5, 3) := by decide +kernel
theorem dX5_compare_11 : decode cX5_compare 11 = .ok (.iconst (-1), 1) := by decide +kernel
theorem dX5_compare_12 : decode cX5_compare 12 = .ok (.ireturn, 1) := by decide +kernel
theorem dX5_compare_13 : decode cX5_compare 13 = .ok (.aload_n 0, 1) := by decide +kernel
theorem dX5_compare_14 : decode cX5_compare 14 = .ok (.iconst 0, 1) := by decide +kernel
theorem dX5_compare_15 : decode cX5_compare 15 = .ok (.iload_n 1, 1) := by decide +kernel
theorem dX5_compare_16 : decode cX5_compare 16 = .ok (.invokevirtual 143, 3) := by decide +kernel
theorem dX5_compare_19 : decode cX5_compare 19 = .ok (.istore_n 2, 1) := by decide +kernel
theorem dX5_compare_20 : decode cX5_compare 20 = .ok (.aload_n 0, 1) := by decide +kernel
theorem dX5_compare_21 : decode cX5_compare 21 = .ok (.iconst 1, 1) := by decide +kernel
theorem dX5_compare_22 : decode cX5_compare 22 = .ok (.iload_n 1, 1) := by decide +kernel
theorem dX5_compare_23 : decode cX5_compare 23 = .ok (.invokevirtual 143, 3) := by decide +kernel
theorem dX5_compare_26 : decode cX5_compare 26 = .ok (.istore_n 3, 1) := by decide +kernel
theorem dX5_compare_27 : decode cX5_compare 27 = .ok (.aload_n 0, 1) := by decide +kernel
theorem dX5_compare_28 : decode cX5_compare 28 = .ok (.iload_n 2, 1) := by decide +kernel
theorem dX5_compare_29 : decode cX5_compare 29 = .ok (.iload_n 3, 1) := by decide +kernel
theorem dX5_compare_30 : decode cX5_compare 30 = .ok (.invokevirtual 161, 3) := by decide +kernel
theorem dX5_compare_33 : decode cX5_compare 33 = .ok (.ifCond .eq 5, 3) := by decide +kernel
theorem dX5_compare_36 : decode cX5_compare 36 = .ok (.iconst 0, 1) := by decide +kernel
theorem dX5_compare_37 : decode cX5_compare 37 = .ok (.ireturn, 1) := by decide +kernel
theorem dX5_compare_38 : decode cX5_compare 38 = .ok (.iload_n 2, 1) := by decide +kernel
theorem dX5_compare_39 : decode cX5_compare 39 = .ok (.bipush 64, 2) := by decide +kernel
theorem dX5_compare_41 : decode cX5_compare 41 = .ok (.if_icmp .ge 17, 3) := by decide +kernel
theorem dX5_compare_44 : decode cX5_compare 44 = .ok (.iload_n 3, 1) := by decide +kernel
theorem dX5_compare_45 : decode cX5_compare 45 = .ok (.bipush 64, 2) := by decide +kernel
theorem dX5_compare_47 : decode cX5_compare 47 = .ok (.if_icmp .ge 7, 3) := by decide +kernel
theorem dX5_compare_50 : decode cX5_compare 50 = .ok (.iconst 3, 1) := by decide +kernel
theorem dX5_compare_51 : decode cX5_compare 51 = .ok (.goto 18, 3) := by decide +kernel
theorem dX5_compare_54 : decode cX5_compare 54 = .ok (.iconst 1, 1) := by decide +kernel
theorem dX5_compare_55 : decode cX5_compare 55 = .ok (.goto 14, 3) := by decide +kernel
theorem dX5_compare_58 : decode cX5_compare 58 = .ok (.iload_n 3, 1) := by decide +kernel
theorem dX5_compare_59 : decode cX5_compare 59 = .ok (.bipush 64, 2) := by decide +kernel
theorem dX5_compare_61 : decode cX5_compare 61 = .ok (.if_icmp .ge 7, 3) := by decide +kernel
theorem dX5_compare_64 : decode cX5_compare 64 = .ok (.iconst 2, 1) := by decide +kernel
theorem dX5_compare_65 : decode cX5_compare 65 = .ok (.goto 4, 3) := by decide +kernel
theorem dX5_compare_68 : decode cX5_compare 68 = .ok (.iconst 4, 1) := by decide +kernel
theorem dX5_compare_69 : decode cX5_compare 69 = .ok (.ireturn, 1) := by decide +kernel
set_option maxRecDepth 20000 in
theorem ggX5_receivers_X5_in : GoodIn wsX5_receivers wsX5_in := goodIn_r _ [6] (by decide +kernel) (by decide +kernel)
set_option maxRecDepth 20000 in
theorem gX5_receivers_X5_in : GoodIn wsX5_receivers (va_wsS RX5 72 yX5_in wsX5_in) := goodIn_app (goodIn_of _ (by decide +kernel)) ggX5_receivers_X5_in
set_option maxRecDepth 20000 in
theorem ggX5_receivers_X5_selects : GoodIn wsX5_receivers wsX5_selects := goodIn_r _ [10, 2, 11, 12, 13, 5, 14, 15, 16, 17, 18, 19, 20, 21, 22, 23, 24, 25, 26, 27, 28, 29, 30, 31, 32, 33, 34, 35, 36, 37, 38, 39, 40, 41, 42, 43, 44, 45, 46, 47, 48, 49, 50, 51, 52, 53, 54, 55, 56, 57, 58, 59, 60, 61, 62, 63, 64, 65, 66, 67, 68, 69, 70, 71, 72, 73, 74, 75, 76, 77, 78, 79, 80, 81, 82, 83, 84, 85, 86, 87, 88, 89, 90, 91, 92, 93, 94, 111, 112, 113, 114, 115, 116, 117, 118, 119, 120, 121, 122, 123, 124, 125, 126, 127, 128, 129, 130, 131] (by decide +kernel) (by decide +kernel)
set_option maxRecDepth 20000 in
theorem gX5_receivers_X5_selects : GoodIn wsX5_receivers (wsV RX5 155 RX5 yX5_selects wsX5_selects) := goodIn_app (goodIn_of _ (by decide +kernel)) ggX5_receivers_X5_selects
set_option maxRecDepth 20000 in
theorem ggX5_receivers_X5_selected : GoodIn wsX5_receivers wsX5_selected := goodIn_r _ [98, 19, 17, 16, 61, 29, 20, 2, 11, 12, 13, 5, 14, 15, 18, 21, 22, 23, 24, 25, 26, 27, 28, 30, 31, 32, 33, 34, 35, 36, 37, 38, 39, 40, 41, 42, 43, 44, 45, 46, 47, 48, 49, 50, 51, 52, 53, 54, 55, 56, 57, 58, 59, 60, 62, 63, 64, 65, 66, 67, 68, 69, 70, 71, 72, 73, 74, 75, 76, 77, 78, 79, 80, 81, 82, 83, 84, 85, 86, 87, 88, 89, 90, 91, 92, 93, 94, 99, 100, 101, 102, 103, 104, 105, 106, 111, 112, 113, 114, 115, 116, 117, 118, 119, 120, 121, 122, 123, 124, 125, 126, 127, 128, 129, 130, 131] (by decide +kernel) (by decide +kernel)
set_option maxRecDepth 20000 in
theorem gX5_receivers_X5_selected : GoodIn wsX5_receivers (wsV RX5 158 RX5 yX5_selected wsX5_selected) := goodIn_app (goodIn_of _ (by decide +kernel)) ggX5_receivers_X5_selected
set_option maxRecDepth 20000 in
theorem ggX5_receivers_X5_areAlike : GoodIn wsX5_receivers wsX5_areAlike := goodIn_r _ [110, 21, 51, 52, 111, 112, 113, 114, 115, 116, 117, 118, 119, 120, 121, 122, 123, 124, 125, 126, 127, 128, 129, 130, 131] (by decide +kernel) (by decide +kernel)
set_option maxRecDepth 20000 in
theorem gX5_receivers_X5_areAlike : GoodIn wsX5_receivers (wsV RX5 161 RX5 yX5_areAlike wsX5_areAlike) := goodIn_app (goodIn_of _ (by decide +kernel)) ggX5_receivers_X5_areAlike
theorem dX5_receivers_0 : decode cX5_receivers 0 = .ok (.iload_n 1, 1) := by decide +kernel
theorem dX5_receivers_1 : decode cX5_receivers 1 = .ok (.aload_n 0, 1) := by decide +kernel
theorem dX5_receivers_2 : decode cX5_receivers 2 = .ok (.getfield 91, 3) := by decide +kernel
theorem dX5_receivers_5 : decode cX5_receivers 5 = .ok (.invokestatic 72, 3) := by decide +kernel
theorem dX5_receivers_8 : decode cX5_receivers 8 = .ok (.ifCond .eq 11, 3) := by decide +kernel
theorem dX5_receivers_11 : decode cX5_receivers 11 = .ok (.iload_n 2, 1) := by decide +kernel
theorem dX5_receivers_12 : decode cX5_receivers 12 = .ok (.iconst 4, 1) := by decide +kernel
theorem dX5_receivers_13 : decode cX5_receivers 13 = .ok (.invokestatic 72, 3) := by decide +kernel
theorem dX5_receivers_16 : decode cX5_receivers 16 = .ok (.ifCond .ne 5, 3) := by decide +kernel
theorem dX5_receivers_19 : decode cX5_receivers 19 = .ok (.iconst (-1), 1) := by decide +kernel
theorem dX5_receivers_20 : decode cX5_receivers 20 = .ok (.ireturn, 1) := by decide +kernel
theorem dX5_receivers_21 : decode cX5_receivers 21 = .ok (.iconst 0, 1) := by decide +kernel
theorem dX5_receivers_22 : decode cX5_receivers 22 = .ok (.istore_n 3, 1) := by decide +kernel
theorem dX5_receivers_23 : decode cX5_receivers 23 = .ok (.iconst 0, 1) := by decide +kernel
theorem dX5_receivers_24 : decode cX5_receivers 24 = .ok (.istore 4, 2) := by decide +kernel
theorem dX5_receivers_26 : decode cX5_receivers 26 = .ok (.iload 4, 2) := by decide +kernel
theorem dX5_receivers_28 : decode cX5_receivers 28 = .ok (.bipush 12, 2) := by decide +kernel
theorem dX5_receivers_30 : decode cX5_receivers 30 = .ok (.if_icmp .ge 175, 3) := by decide +kernel
theorem dX5_receivers_33 : decode cX5_receivers 33 = .ok (.aload_n 0, 1) := by decide +kernel
theorem dX5_receivers_34 : decode cX5_receivers 34 = .ok (.getfield 50, 3) := by decide +kernel
theorem dX5_receivers_37 : decode cX5_receivers 37 = .ok (.iload_n 1, 1) := by decide +kernel
theorem dX5_receivers_38 : decode cX5_receivers 38 = .ok (.iaload, 1) := by decide +kernel
theorem dX5_receivers_39 : decode cX5_receivers 39 = .ok (.iconst 4, 1) := by decide +kernel
theorem dX5_receivers_40 : decode cX5_receivers 40 = .ok (.if_icmp .eq 14, 3) := by decide +kernel
theorem dX5_receivers_43 : decode cX5_receivers 43 = .ok (.aload_n 0, 1) := by decide +kernel
theorem dX5_receivers_44 : decode cX5_receivers 44 = .ok (.getfield 50, 3) := by decide +kernel
theorem dX5_receivers_47 : decode cX5_receivers 47 = .ok (.iload_n 1, 1) := by decide +kernel
theorem dX5_receivers_48 : decode cX5_receivers 48 = .ok (.iaload, 1) := by decide +kernel
theorem dX5_receivers_49 : decode cX5_receivers 49 = .ok (.bipush 7, 2) := by decide +kernel
theorem dX5_receivers_51 : decode cX5_receivers 51 = .ok (.if_icmp .ne 154, 3) := by decide +kernel
theorem dX5_receivers_54 : decode cX5_receivers 54 = .ok (.aload_n 0, 1) := by decide +kernel
theorem dX5_receivers_55 : decode cX5_receivers 55 = .ok (.iconst 0, 1) := by decide +kernel
theorem dX5_receivers_56 : decode cX5_receivers 56 = .ok (.iload_n 1, 1) := by decide +kernel
theorem dX5_receivers_57 : decode cX5_receivers 57 = .ok (.invokevirtual 155, 3) := by decide +kernel
theorem dX5_receivers_60 : decode cX5_receivers 60 = .ok (.ifCond .eq 14, 3) := by decide +kernel
theorem dX5_receivers_63 : decode cX5_receivers 63 = .ok (.aload_n 0, 1) := by decide +kernel
theorem dX5_receivers_64 : decode cX5_receivers 64 = .ok (.iconst 0, 1) := by decide +kernel
theorem dX5_receivers_65 : decode cX5_receivers 65 = .ok (.iload_n 1, 1) := by decide +kernel
theorem dX5_receivers_66 : decode cX5_receivers 66 = .ok (.iload 4, 2) := by decide +kernel
theorem dX5_receivers_68 : decode cX5_receivers 68 = .ok (.invokevirtual 158, 3) := by decide +kernel
theorem dX5_receivers_71 : decode cX5_receivers 71 = .ok (.goto 6, 3) := by decide +kernel
theorem dX5_receivers_74 : decode cX5_receivers 74 = .ok (.sipush 512, 3) := by decide +kernel
theorem dX5_receivers_77 : decode cX5_receivers 77 = .ok (.istore 5, 2) := by decide +kernel
theorem dX5_receivers_79 : decode cX5_receivers 79 = .ok (.aload_n 0, 1) := by decide +kernel
theorem dX5_receivers_80 : decode cX5_receivers 80 = .ok (.iconst 1, 1) := by decide +kernel
theorem dX5_receivers_81 : decode cX5_receivers 81 = .ok (.iload_n 1, 1) := by decide +kernel
theorem dX5_receivers_82 : decode cX5_receivers 82 = .ok (.invokevirtual 155, 3) := by decide +kernel
theorem dX5_receivers_85 : decode cX5_receivers 85 = .ok (.ifCond .eq 14, 3) := by decide +kernel
theorem dX5_receivers_88 : decode cX5_receivers 88 = .ok (.aload_n 0, 1) := by decide +kernel
theorem dX5_receivers_89 : decode cX5_receivers 89 = .ok (.iconst 1, 1) := by decide +kernel
theorem dX5_receivers_90 : decode cX5_receivers 90 = .ok (.iload_n 1, 1) := by decide +kernel
theorem dX5_receivers_91 : decode cX5_receivers 91 = .ok (.iload 4, 2) := by decide +kernel
theorem dX5_receivers_93 : decode cX5_receivers 93 = .ok (.invokevirtual 158, 3) := by decide +kernel
theorem dX5_receivers_96 : decode cX5_receivers 96 = .ok (.goto 6, 3) := by decide +kernel
theorem dX5_receivers_99 : decode cX5_receivers 99 = .ok (.sipush 512, 3) := by decide +kernel
theorem dX5_receivers_102 : decode cX5_receivers 102 = .ok (.istore 6, 2) := by decide +kernel
theorem dX5_receivers_104 : decode cX5_receivers 104 = .ok (.iload 5, 2) := by decide +kernel
theorem dX5_receivers_106 : decode cX5_receivers 106 = .ok (.bipush 64, 2) := by decide +kernel
theorem dX5_receivers_108 : decode cX5_receivers 108 = .ok (.if_icmp .ge 7, 3) := by decide +kernel
theorem dX5_receivers_111 : decode cX5_receivers 111 = .ok (.iconst 1, 1) := by decide +kernel
theorem dX5_receivers_112 : decode cX5_receivers 112 = .ok (.goto 4, 3) := by decide +kernel
theorem dX5_receivers_115 : decode cX5_receivers 115 = .ok (.iconst 0, 1) := by decide +kernel
theorem dX5_receivers_116 : decode cX5_receivers 116 = .ok (.istore 7, 2) := by decide +kernel
theorem dX5_receivers_118 : decode cX5_receivers 118 = .ok (.iload 6, 2) := by decide +kernel
theorem dX5_receivers_120 : decode cX5_receivers 120 = .ok (.bipush 64, 2) := by decide +kernel
theorem dX5_receivers_122 : decode cX5_receivers 122 = .ok (.if_icmp .ge 7, 3) := by decide +kernel
theorem dX5_receivers_125 : decode cX5_receivers 125 = .ok (.iconst 1, 1) := by decide +kernel
theorem dX5_receivers_126 : decode cX5_receivers 126 = .ok (.goto 4, 3) := by decide +kernel
theorem dX5_receivers_129 : decode cX5_receivers 129 = .ok (.iconst 0, 1) := by decide +kernel
theorem dX5_receivers_130 : decode cX5_receivers 130 = .ok (.istore 8, 2) := by decide +kernel
theorem dX5_receivers_132 : decode cX5_receivers 132 = .ok (.iload_n 2, 1) := by decide +kernel
theorem dX5_receivers_133 : decode cX5_receivers 133 = .ok (.ifCond .ne 11, 3) := by decide +kernel
theorem dX5_receivers_136 : decode cX5_receivers 136 = .ok (.iload 7, 2) := by decide +kernel
theorem dX5_receivers_138 : decode cX5_receivers 138 = .ok (.ifCond .eq 61, 3) := by decide +kernel
theorem dX5_receivers_141 : decode cX5_receivers 141 = .ok (.goto 55, 3) := by decide +kernel
theorem dX5_receivers_144 : decode cX5_receivers 144 = .ok (.iload_n 2, 1) := by decide +kernel
theorem dX5_receivers_145 : decode cX5_receivers 145 = .ok (.iconst 1, 1) := by decide +kernel
theorem dX5_receivers_146 : decode cX5_receivers 146 = .ok (.if_icmp .ne 11, 3) := by decide +kernel
theorem dX5_receivers_149 : decode cX5_receivers 149 = .ok (.iload 8, 2) := by decide +kernel
theorem dX5_receivers_151 : decode cX5_receivers 151 = .ok (.ifCond .eq 48, 3) := by decide +kernel
theorem dX5_receivers_154 : decode cX5_receivers 154 = .ok (.goto 42, 3) := by decide +kernel
theorem dX5_receivers_157 : decode cX5_receivers 157 = .ok (.iload_n 2, 1) := by decide +kernel
theorem dX5_receivers_158 : decode cX5_receivers 158 = .ok (.iconst 2, 1) := by decide +kernel
theorem dX5_receivers_159 : decode cX5_receivers 159 = .ok (.if_icmp .ne 16, 3) := by decide +kernel
theorem dX5_receivers_162 : decode cX5_receivers 162 = .ok (.iload 7, 2) := by decide +kernel
theorem dX5_receivers_164 : decode cX5_receivers 164 = .ok (.ifCond .eq 35, 3) := by decide +kernel
theorem dX5_receivers_167 : decode cX5_receivers 167 = .ok (.iload 8, 2) := by decide +kernel
theorem dX5_receivers_169 : decode cX5_receivers 169 = .ok (.ifCond .ne 30, 3) := by decide +kernel
theorem dX5_receivers_172 : decode cX5_receivers 172 = .ok (.goto 24, 3) := by decide +kernel
theorem dX5_receivers_175 : decode cX5_receivers 175 = .ok (.iload 7, 2) := by decide +kernel
theorem dX5_receivers_177 : decode cX5_receivers 177 = .ok (.ifCond .eq 22, 3) := by decide +kernel
theorem dX5_receivers_180 : decode cX5_receivers 180 = .ok (.iload 8, 2) := by decide +kernel
theorem dX5_receivers_182 : decode cX5_receivers 182 = .ok (.ifCond .eq 17, 3) := by decide +kernel
theorem dX5_receivers_185 : decode cX5_receivers 185 = .ok (.aload_n 0, 1) := by decide +kernel
theorem dX5_receivers_186 : decode cX5_receivers 186 = .ok (.iload 5, 2) := by decide +kernel
theorem dX5_receivers_188 : decode cX5_receivers 188 = .ok (.iload 6, 2) := by decide +kernel
theorem dX5_receivers_190 : decode cX5_receivers 190 = .ok (.invokevirtual 161, 3) := by decide +kernel
theorem dX5_receivers_193 : decode cX5_receivers 193 = .ok (.ifCond .ne 6, 3) := by decide +kernel
theorem dX5_receivers_196 : decode cX5_receivers 196 = .ok (.iinc 3 1, 3) := by decide +kernel
theorem dX5_receivers_199 : decode cX5_receivers 199 = .ok (.iinc 4 1, 3) := by decide +kernel
theorem dX5_receivers_202 : decode cX5_receivers 202 = .ok (.goto (-176), 3) := by decide +kernel
theorem dX5_receivers_205 : decode cX5_receivers 205 = .ok (.iload_n 3, 1) := by decide +kernel
theorem dX5_receivers_206 : decode cX5_receivers 206 = .ok (.ireturn, 1) := by decide +kernel
set_option maxRecDepth 20000 in
theorem ggX5_isUnder_X5_in : GoodIn wsX5_isUnder wsX5_in := goodIn_r _ [4] (by decide +kernel) (by decide +kernel)
set_option maxRecDepth 20000 in
theorem gX5_isUnder_X5_in : GoodIn wsX5_isUnder (va_wsS RX5 72 yX5_in wsX5_in) := goodIn_app (goodIn_of _ (by decide +kernel)) ggX5_isUnder_X5_in
set_option maxRecDepth 20000 in
theorem ggX5_isUnder_X5_isLoaded : GoodIn wsX5_isUnder wsX5_isLoaded := goodIn_r _ [8, 9, 10, 11, 3, 12, 13, 14, 15, 16, 17, 18, 19, 20, 21, 22, 23, 24, 25, 26, 27, 28, 41, 42, 43, 44, 45, 46, 47, 48, 49, 50, 51, 52, 53, 54, 55, 56, 57, 58, 59, 60, 61] (by decide +kernel) (by decide +kernel)
set_option maxRecDepth 20000 in
theorem gX5_isUnder_X5_isLoaded : GoodIn wsX5_isUnder (wsV RX5 146 RX5 yX5_isLoaded wsX5_isLoaded) := goodIn_app (goodIn_of _ (by decide +kernel)) ggX5_isUnder_X5_isLoaded
set_option maxRecDepth 20000 in
theorem ggX5_isUnder_X5_under : GoodIn wsX5_isUnder wsX5_under := goodIn_r _ [32, 33, 34, 35, 3, 36, 16, 37, 38, 39, 40, 17, 21, 22, 23, 41, 42, 43, 44, 45, 46, 47, 48, 49, 50, 51, 52, 53, 54, 55, 56, 57, 58, 59, 60, 61] (by decide +kernel) (by decide +kernel)
set_option maxRecDepth 20000 in
theorem gX5_isUnder_X5_under : GoodIn wsX5_isUnder (wsV RX5 116 RX5 yX5_under wsX5_under) := goodIn_app (goodIn_of _ (by decide +kernel)) ggX5_isUnder_X5_under
theorem dX5_isUnder_0 : decode cX5_isUnder 0 = .ok (.iload_n 1, 1) := by decide +kernel
theorem dX5_isUnder_1 : decode cX5_isUnder 1 = .ok (.iconst 2, 1) := by decide +kernel
theorem dX5_isUnder_2 : decode cX5_isUnder 2 = .ok (.invokestatic 72, 3) := by decide +kernel
theorem dX5_isUnder_5 : decode cX5_isUnder 5 = .ok (.ifCond .eq 53, 3) := by decide +kernel
theorem dX5_isUnder_8 : decode cX5_isUnder 8 = .ok (.iload_n 2, 1) := by decide +kernel
theorem dX5_isUnder_9 : decode cX5_isUnder 9 = .ok (.bipush 12, 2) := by decide +kernel
theorem dX5_isUnder_11 : decode cX5_isUnder 11 = .ok (.invokestatic 72, 3) := by decide +kernel
theorem dX5_isUnder_14 : decode cX5_isUnder 14 = .ok (.ifCond .eq 44, 3) := by decide +kernel
theorem dX5_isUnder_17 : decode cX5_isUnder 17 = .ok (.iload_n 3, 1) := by decide +kernel
theorem dX5_isUnder_18 : decode cX5_isUnder 18 = .ok (.bipush 12, 2) := by decide +kernel
theorem dX5_isUnder_20 : decode cX5_isUnder 20 = .ok (.invokestatic 72, 3) := by decide +kernel
theorem dX5_isUnder_23 : decode cX5_isUnder 23 = .ok (.ifCond .eq 35, 3) := by decide +kernel
theorem dX5_isUnder_26 : decode cX5_isUnder 26 = .ok (.aload_n 0, 1) := by decide +kernel
theorem dX5_isUnder_27 : decode cX5_isUnder 27 = .ok (.iload_n 1, 1) := by decide +kernel
theorem dX5_isUnder_28 : decode cX5_isUnder 28 = .ok (.iload_n 2, 1) := by decide +kernel
theorem dX5_isUnder_29 : decode cX5_isUnder 29 = .ok (.invokevirtual 146, 3) := by decide +kernel
theorem dX5_isUnder_32 : decode cX5_isUnder 32 = .ok (.ifCond .eq 26, 3) := by decide +kernel
theorem dX5_isUnder_35 : decode cX5_isUnder 35 = .ok (.aload_n 0, 1) := by decide +kernel
theorem dX5_isUnder_36 : decode cX5_isUnder 36 = .ok (.iload_n 1, 1) := by decide +kernel
theorem dX5_isUnder_37 : decode cX5_isUnder 37 = .ok (.iload_n 3, 1) := by decide +kernel
theorem dX5_isUnder_38 : decode cX5_isUnder 38 = .ok (.invokevirtual 146, 3) := by decide +kernel
theorem dX5_isUnder_41 : decode cX5_isUnder 41 = .ok (.ifCond .eq 17, 3) := by decide +kernel
theorem dX5_isUnder_44 : decode cX5_isUnder 44 = .ok (.aload_n 0, 1) := by decide +kernel
theorem dX5_isUnder_45 : decode cX5_isUnder 45 = .ok (.iload_n 1, 1) := by decide +kernel
theorem dX5_isUnder_46 : decode cX5_isUnder 46 = .ok (.iload_n 2, 1) := by decide +kernel
theorem dX5_isUnder_47 : decode cX5_isUnder 47 = .ok (.iload_n 3, 1) := by decide +kernel
theorem dX5_isUnder_48 : decode cX5_isUnder 48 = .ok (.invokevirtual 116, 3) := by decide +kernel
theorem dX5_isUnder_51 : decode cX5_isUnder 51 = .ok (.ifCond .eq 7, 3) := by decide +kernel
theorem dX5_isUnder_54 : decode cX5_isUnder 54 = .ok (.iconst 1, 1) := by decide +kernel
theorem dX5_isUnder_55 : decode cX5_isUnder 55 = .ok (.goto 4, 3) := by decide +kernel
theorem dX5_isUnder_58 : decode cX5_isUnder 58 = .ok (.iconst 0, 1) := by decide +kernel
theorem dX5_isUnder_59 : decode cX5_isUnder 59 = .ok (.ireturn, 1) := by decide +kernel
set_option maxRecDepth 20000 in
theorem ggX5_neighbours_X5_nestOf : GoodIn wsX5_neighbours wsX5_nestOf := goodIn_r _ [6, 7, 1, 8, 9, 10, 11, 12, 13, 14, 15, 16, 17, 18, 19, 20, 21, 22, 23, 24, 25, 26, 27, 28, 29] (by decide +kernel) (by decide +kernel)
set_option maxRecDepth 20000 in
theorem gX5_neighbours_X5_nestOf : GoodIn wsX5_neighbours (wsV RX5 113 RX5 yX5_nestOf wsX5_nestOf) := goodIn_app (goodIn_of _ (by decide +kernel)) ggX5_neighbours_X5_nestOf
theorem dX5_neighbours_0 : decode cX5_neighbours 0 = .ok (.iconst 0, 1) := by decide +kernel
theorem dX5_neighbours_1 : decode cX5_neighbours 1 = .ok (.istore_n 2, 1) := by decide +kernel
theorem dX5_neighbours_2 : decode cX5_neighbours 2 = .ok (.iconst 0, 1) := by decide +kernel
theorem dX5_neighbours_3 : decode cX5_neighbours 3 = .ok (.istore_n 3, 1) := by decide +kernel
theorem dX5_neighbours_4 : decode cX5_neighbours 4 = .ok (.iload_n 3, 1) := by decide +kernel
theorem dX5_neighbours_5 : decode cX5_neighbours 5 = .ok (.bipush 12, 2) := by decide +kernel
theorem dX5_neighbours_7 : decode cX5_neighbours 7 = .ok (.if_icmp .ge 82, 3) := by decide +kernel
theorem dX5_neighbours_10 : decode cX5_neighbours 10 = .ok (.iconst 0, 1) := by decide +kernel
theorem dX5_neighbours_11 : decode cX5_neighbours 11 = .ok (.istore 4, 2) := by decide +kernel
theorem dX5_neighbours_13 : decode cX5_neighbours 13 = .ok (.iload 4, 2) := by decide +kernel
theorem dX5_neighbours_15 : decode cX5_neighbours 15 = .ok (.bipush 12, 2) := by decide +kernel
theorem dX5_neighbours_17 : decode cX5_neighbours 17 = .ok (.if_icmp .ge 66, 3) := by decide +kernel
theorem dX5_neighbours_20 : decode cX5_neighbours 20 = .ok (.iload_n 3, 1) := by decide +kernel
theorem dX5_neighbours_21 : decode cX5_neighbours 21 = .ok (.iload 4, 2) := by decide +kernel
theorem dX5_neighbours_23 : decode cX5_neighbours 23 = .ok (.if_icmp .eq 54, 3) := by decide +kernel
theorem dX5_neighbours_26 : decode cX5_neighbours 26 = .ok (.aload_n 0, 1) := by decide +kernel
theorem dX5_neighbours_27 : decode cX5_neighbours 27 = .ok (.getfield 7, 3) := by decide +kernel
theorem dX5_neighbours_30 : decode cX5_neighbours 30 = .ok (.bipush 12, 2) := by decide +kernel
theorem dX5_neighbours_32 : decode cX5_neighbours 32 = .ok (.iload_n 1, 1) := by decide +kernel
theorem dX5_neighbours_33 : decode cX5_neighbours 33 = .ok (.imul, 1) := by decide +kernel
theorem dX5_neighbours_34 : decode cX5_neighbours 34 = .ok (.iload_n 3, 1) := by decide +kernel
theorem dX5_neighbours_35 : decode cX5_neighbours 35 = .ok (.iadd, 1) := by decide +kernel
theorem dX5_neighbours_36 : decode cX5_neighbours 36 = .ok (.baload, 1) := by decide +kernel
theorem dX5_neighbours_37 : decode cX5_neighbours 37 = .ok (.ifCond .eq 40, 3) := by decide +kernel
theorem dX5_neighbours_40 : decode cX5_neighbours 40 = .ok (.aload_n 0, 1) := by decide +kernel
theorem dX5_neighbours_41 : decode cX5_neighbours 41 = .ok (.getfield 7, 3) := by decide +kernel
theorem dX5_neighbours_44 : decode cX5_neighbours 44 = .ok (.bipush 12, 2) := by decide +kernel
theorem dX5_neighbours_46 : decode cX5_neighbours 46 = .ok (.iload_n 1, 1) := by decide +kernel
theorem dX5_neighbours_47 : decode cX5_neighbours 47 = .ok (.imul, 1) := by decide +kernel
theorem dX5_neighbours_48 : decode cX5_neighbours 48 = .ok (.iload 4, 2) := by decide +kernel
theorem dX5_neighbours_50 : decode cX5_neighbours 50 = .ok (.iadd, 1) := by decide +kernel
theorem dX5_neighbours_51 : decode cX5_neighbours 51 = .ok (.baload, 1) := by decide +kernel
theorem dX5_neighbours_52 : decode cX5_neighbours 52 = .ok (.ifCond .eq 25, 3) := by decide +kernel
theorem dX5_neighbours_55 : decode cX5_neighbours 55 = .ok (.aload_n 0, 1) := by decide +kernel
theorem dX5_neighbours_56 : decode cX5_neighbours 56 = .ok (.iload_n 1, 1) := by decide +kernel
theorem dX5_neighbours_57 : decode cX5_neighbours 57 = .ok (.iload_n 3, 1) := by decide +kernel
theorem dX5_neighbours_58 : decode cX5_neighbours 58 = .ok (.invokevirtual 113, 3) := by decide +kernel
theorem dX5_neighbours_61 : decode cX5_neighbours 61 = .ok (.aload_n 0, 1) := by decide +kernel
theorem dX5_neighbours_62 : decode cX5_neighbours 62 = .ok (.iload_n 1, 1) := by decide +kernel
theorem dX5_neighbours_63 : decode cX5_neighbours 63 = .ok (.iload 4, 2) := by decide +kernel
theorem dX5_neighbours_65 : decode cX5_neighbours 65 = .ok (.invokevirtual 113, 3) := by decide +kernel
theorem dX5_neighbours_68 : decode cX5_neighbours 68 = .ok (.if_icmp .ne 9, 3) := by decide +kernel
theorem dX5_neighbours_71 : decode cX5_neighbours 71 = .ok (.iload_n 2, 1) := by decide +kernel
theorem dX5_neighbours_72 : decode cX5_neighbours 72 = .ok (.iconst 1, 1) := by decide +kernel
theorem dX5_neighbours_73 : decode cX5_neighbours 73 = .ok (.iload_n 3, 1) := by decide +kernel
theorem dX5_neighbours_74 : decode cX5_neighbours 74 = .ok (.ishl, 1) := by decide +kernel
theorem dX5_neighbours_75 : decode cX5_neighbours 75 = .ok (.ior, 1) := by decide +kernel
theorem dX5_neighbours_76 : decode cX5_neighbours 76 = .ok (.istore_n 2, 1) := by decide +kernel
theorem dX5_neighbours_77 : decode cX5_neighbours 77 = .ok (.iinc 4 1, 3) := by decide +kernel
theorem dX5_neighbours_80 : decode cX5_neighbours 80 = .ok (.goto (-67), 3) := by decide +kernel
theorem dX5_neighbours_83 : decode cX5_neighbours 83 = .ok (.iinc 3 1, 3) := by decide +kernel
theorem dX5_neighbours_86 : decode cX5_neighbours 86 = .ok (.goto (-82), 3) := by decide +kernel
theorem dX5_neighbours_89 : decode cX5_neighbours 89 = .ok (.iload_n 2, 1) := by decide +kernel
theorem dX5_neighbours_90 : decode cX5_neighbours 90 = .ok (.ireturn, 1) := by decide +kernel
set_option maxRecDepth 20000 in
theorem ggX5_count_X5_in : GoodIn wsX5_count wsX5_in := goodIn_r _ [10] (by decide +kernel) (by decide +kernel)
set_option maxRecDepth 20000 in
theorem gX5_count_X5_in : GoodIn wsX5_count (va_wsS RX5 72 yX5_in wsX5_in) := goodIn_app (goodIn_of _ (by decide +kernel)) ggX5_count_X5_in
set_option maxRecDepth 20000 in
theorem ggX5_count_X5_isLoaded : GoodIn wsX5_count wsX5_isLoaded := goodIn_r _ [14, 15, 16, 17, 9, 18, 19, 20, 1, 21, 22, 23, 24, 25, 26, 27, 28, 29, 30, 31, 32, 33, 99, 100, 101, 102, 103, 104, 105, 106, 107, 108, 109, 110, 111, 112, 113, 114, 115, 116, 117, 118, 119] (by decide +kernel) (by decide +kernel)
set_option maxRecDepth 20000 in
theorem gX5_count_X5_isLoaded : GoodIn wsX5_count (wsV RX5 146 RX5 yX5_isLoaded wsX5_isLoaded) := goodIn_app (goodIn_of _ (by decide +kernel)) ggX5_count_X5_isLoaded
set_option maxRecDepth 20000 in
theorem ggX5_count_X5_resolved : GoodIn wsX5_count wsX5_resolved := goodIn_r _ [37, 38, 39, 40, 33, 41, 42, 5, 43, 15, 16, 17, 9, 18, 19, 20, 1, 21, 22, 23, 24, 25, 26, 27, 28, 29, 30, 31, 32, 44, 45, 46, 47, 48, 49, 50, 51, 2, 3, 4, 52, 53, 54, 55, 56, 57, 58, 59, 60, 61, 62, 63, 64, 65, 66, 67, 68, 69, 70, 71, 72, 73, 74, 75, 76, 77, 78, 79, 80, 81, 82, 83, 84, 85, 86, 87, 88, 89, 90, 91, 92, 93, 94, 99, 100, 101, 102, 103, 104, 105, 106, 107, 108, 109, 110, 111, 112, 113, 114, 115, 116, 117, 118, 119] (by decide +kernel) (by decide +kernel)
set_option maxRecDepth 20000 in
theorem gX5_count_X5_resolved : GoodIn wsX5_count (wsV RX5 143 RX5 yX5_resolved wsX5_resolved) := goodIn_app (goodIn_of _ (by decide +kernel)) ggX5_count_X5_resolved
set_option maxRecDepth 20000 in
theorem ggX5_count_X5_neighbours : GoodIn wsX5_count wsX5_neighbours := goodIn_r _ [98, 1, 90, 91, 92, 9, 93, 94, 41, 99, 100, 101, 102, 103, 104, 105, 106, 107, 108, 109, 110, 111, 112, 113, 114, 115, 116, 117, 118, 119] (by decide +kernel) (by decide +kernel)
set_option maxRecDepth 20000 in
theorem gX5_count_X5_neighbours : GoodIn wsX5_count (wsV RX5 164 RX5 yX5_neighbours wsX5_neighbours) := goodIn_app (goodIn_of _ (by decide +kernel)) ggX5_count_X5_neighbours
theorem dX5_count_0 : decode cX5_count 0 = .ok (.iload_n 1, 1) := by decide +kernel
theorem dX5_count_1 : decode cX5_count 1 = .ok (.iconst 2, 1) := by decide +kernel
theorem dX5_count_2 : decode cX5_count 2 = .ok (.invokestatic 72, 3) := by decide +kernel
theorem dX5_count_5 : decode cX5_count 5 = .ok (.ifCond .eq 12, 3) := by decide +kernel
theorem dX5_count_8 : decode cX5_count 8 = .ok (.iload_n 2, 1) := by decide +kernel
theorem dX5_count_9 : decode cX5_count 9 = .ok (.bipush 7, 2) := by decide +kernel
theorem dX5_count_11 : decode cX5_count 11 = .ok (.invokestatic 72, 3) := by decide +kernel
theorem dX5_count_14 : decode cX5_count 14 = .ok (.ifCond .ne 5, 3) := by decide +kernel
theorem dX5_count_17 : decode cX5_count 17 = .ok (.iconst (-1), 1) := by decide +kernel
theorem dX5_count_18 : decode cX5_count 18 = .ok (.ireturn, 1) := by decide +kernel
theorem dX5_count_19 : decode cX5_count 19 = .ok (.iconst 0, 1) := by decide +kernel
theorem dX5_count_20 : decode cX5_count 20 = .ok (.istore_n 3, 1) := by decide +kernel
theorem dX5_count_21 : decode cX5_count 21 = .ok (.iconst 0, 1) := by decide +kernel
theorem dX5_count_22 : decode cX5_count 22 = .ok (.istore 4, 2) := by decide +kernel
theorem dX5_count_24 : decode cX5_count 24 = .ok (.iload 4, 2) := by decide +kernel
theorem dX5_count_26 : decode cX5_count 26 = .ok (.bipush 12, 2) := by decide +kernel
theorem dX5_count_28 : decode cX5_count 28 = .ok (.if_icmp .ge 46, 3) := by decide +kernel
theorem dX5_count_31 : decode cX5_count 31 = .ok (.aload_n 0, 1) := by decide +kernel
theorem dX5_count_32 : decode cX5_count 32 = .ok (.getfield 7, 3) := by decide +kernel
theorem dX5_count_35 : decode cX5_count 35 = .ok (.bipush 12, 2) := by decide +kernel
theorem dX5_count_37 : decode cX5_count 37 = .ok (.iload_n 1, 1) := by decide +kernel
theorem dX5_count_38 : decode cX5_count 38 = .ok (.imul, 1) := by decide +kernel
theorem dX5_count_39 : decode cX5_count 39 = .ok (.iload 4, 2) := by decide +kernel
theorem dX5_count_41 : decode cX5_count 41 = .ok (.iadd, 1) := by decide +kernel
theorem dX5_count_42 : decode cX5_count 42 = .ok (.baload, 1) := by decide +kernel
theorem dX5_count_43 : decode cX5_count 43 = .ok (.ifCond .eq 25, 3) := by decide +kernel
theorem dX5_count_46 : decode cX5_count 46 = .ok (.iload_n 2, 1) := by decide +kernel
theorem dX5_count_47 : decode cX5_count 47 = .ok (.ifCond .eq 18, 3) := by decide +kernel
theorem dX5_count_50 : decode cX5_count 50 = .ok (.iload_n 2, 1) := by decide +kernel
theorem dX5_count_51 : decode cX5_count 51 = .ok (.iconst 4, 1) := by decide +kernel
theorem dX5_count_52 : decode cX5_count 52 = .ok (.if_icmp .ne 16, 3) := by decide +kernel
theorem dX5_count_55 : decode cX5_count 55 = .ok (.aload_n 0, 1) := by decide +kernel
theorem dX5_count_56 : decode cX5_count 56 = .ok (.iload_n 1, 1) := by decide +kernel
theorem dX5_count_57 : decode cX5_count 57 = .ok (.iload 4, 2) := by decide +kernel
theorem dX5_count_59 : decode cX5_count 59 = .ok (.invokevirtual 146, 3) := by decide +kernel
theorem dX5_count_62 : decode cX5_count 62 = .ok (.ifCond .eq 6, 3) := by decide +kernel
theorem dX5_count_65 : decode cX5_count 65 = .ok (.iinc 3 1, 3) := by decide +kernel
theorem dX5_count_68 : decode cX5_count 68 = .ok (.iinc 4 1, 3) := by decide +kernel
theorem dX5_count_71 : decode cX5_count 71 = .ok (.goto (-47), 3) := by decide +kernel
theorem dX5_count_74 : decode cX5_count 74 = .ok (.bipush 30, 2) := by decide +kernel
theorem dX5_count_76 : decode cX5_count 76 = .ok (.iload_n 1, 1) := by decide +kernel
theorem dX5_count_77 : decode cX5_count 77 = .ok (.imul, 1) := by decide +kernel
theorem dX5_count_78 : decode cX5_count 78 = .ok (.istore 4, 2) := by decide +kernel
theorem dX5_count_80 : decode cX5_count 80 = .ok (.iload 4, 2) := by decide +kernel
theorem dX5_count_82 : decode cX5_count 82 = .ok (.bipush 30, 2) := by decide +kernel
theorem dX5_count_84 : decode cX5_count 84 = .ok (.iload_n 1, 1) := by decide +kernel
theorem dX5_count_85 : decode cX5_count 85 = .ok (.imul, 1) := by decide +kernel
theorem dX5_count_86 : decode cX5_count 86 = .ok (.aload_n 0, 1) := by decide +kernel
theorem dX5_count_87 : decode cX5_count 87 = .ok (.getfield 35, 3) := by decide +kernel
theorem dX5_count_90 : decode cX5_count 90 = .ok (.iload_n 1, 1) := by decide +kernel
theorem dX5_count_91 : decode cX5_count 91 = .ok (.iaload, 1) := by decide +kernel
theorem dX5_count_92 : decode cX5_count 92 = .ok (.iadd, 1) := by decide +kernel
theorem dX5_count_93 : decode cX5_count 93 = .ok (.if_icmp .ge 54, 3) := by decide +kernel
theorem dX5_count_96 : decode cX5_count 96 = .ok (.aload_n 0, 1) := by decide +kernel
theorem dX5_count_97 : decode cX5_count 97 = .ok (.getfield 32, 3) := by decide +kernel
theorem dX5_count_100 : decode cX5_count 100 = .ok (.iload 4, 2) := by decide +kernel
theorem dX5_count_102 : decode cX5_count 102 = .ok (.baload, 1) := by decide +kernel
theorem dX5_count_103 : decode cX5_count 103 = .ok (.ifCond .ne 38, 3) := by decide +kernel
theorem dX5_count_106 : decode cX5_count 106 = .ok (.iload_n 2, 1) := by decide +kernel
theorem dX5_count_107 : decode cX5_count 107 = .ok (.iconst 1, 1) := by decide +kernel
theorem dX5_count_108 : decode cX5_count 108 = .ok (.if_icmp .eq 30, 3) := by decide +kernel
theorem dX5_count_111 : decode cX5_count 111 = .ok (.iload_n 2, 1) := by decide +kernel
theorem dX5_count_112 : decode cX5_count 112 = .ok (.iconst 5, 1) := by decide +kernel
theorem dX5_count_113 : decode cX5_count 113 = .ok (.if_icmp .ne 28, 3) := by decide +kernel
theorem dX5_count_116 : decode cX5_count 116 = .ok (.aload_n 0, 1) := by decide +kernel
theorem dX5_count_117 : decode cX5_count 117 = .ok (.getfield 29, 3) := by decide +kernel
theorem dX5_count_120 : decode cX5_count 120 = .ok (.iload 4, 2) := by decide +kernel
theorem dX5_count_122 : decode cX5_count 122 = .ok (.baload, 1) := by decide +kernel
theorem dX5_count_123 : decode cX5_count 123 = .ok (.ifCond .eq 18, 3) := by decide +kernel
theorem dX5_count_126 : decode cX5_count 126 = .ok (.aload_n 0, 1) := by decide +kernel
theorem dX5_count_127 : decode cX5_count 127 = .ok (.getfield 47, 3) := by decide +kernel
theorem dX5_count_130 : decode cX5_count 130 = .ok (.iload 4, 2) := by decide +kernel
theorem dX5_count_132 : decode cX5_count 132 = .ok (.iaload, 1) := by decide +kernel
theorem dX5_count_133 : decode cX5_count 133 = .ok (.iconst 2, 1) := by decide +kernel
theorem dX5_count_134 : decode cX5_count 134 = .ok (.iand, 1) := by decide +kernel
theorem dX5_count_135 : decode cX5_count 135 = .ok (.ifCond .eq 6, 3) := by decide +kernel
theorem dX5_count_138 : decode cX5_count 138 = .ok (.iinc 3 1, 3) := by decide +kernel
theorem dX5_count_141 : decode cX5_count 141 = .ok (.iinc 4 1, 3) := by decide +kernel
theorem dX5_count_144 : decode cX5_count 144 = .ok (.goto (-64), 3) := by decide +kernel
theorem dX5_count_147 : decode cX5_count 147 = .ok (.iconst 0, 1) := by decide +kernel
theorem dX5_count_148 : decode cX5_count 148 = .ok (.istore 4, 2) := by decide +kernel
theorem dX5_count_150 : decode cX5_count 150 = .ok (.iload 4, 2) := by decide +kernel
theorem dX5_count_152 : decode cX5_count 152 = .ok (.aload_n 0, 1) := by decide +kernel
theorem dX5_count_153 : decode cX5_count 153 = .ok (.getfield 91, 3) := by decide +kernel
theorem dX5_count_156 : decode cX5_count 156 = .ok (.if_icmp .ge 29, 3) := by decide +kernel
theorem dX5_count_159 : decode cX5_count 159 = .ok (.iload_n 2, 1) := by decide +kernel
theorem dX5_count_160 : decode cX5_count 160 = .ok (.iconst 3, 1) := by decide +kernel
theorem dX5_count_161 : decode cX5_count 161 = .ok (.if_icmp .ne 18, 3) := by decide +kernel
theorem dX5_count_164 : decode cX5_count 164 = .ok (.aload_n 0, 1) := by decide +kernel
theorem dX5_count_165 : decode cX5_count 165 = .ok (.iload_n 1, 1) := by decide +kernel
theorem dX5_count_166 : decode cX5_count 166 = .ok (.iload 4, 2) := by decide +kernel
theorem dX5_count_168 : decode cX5_count 168 = .ok (.invokevirtual 143, 3) := by decide +kernel
theorem dX5_count_171 : decode cX5_count 171 = .ok (.bipush 64, 2) := by decide +kernel
theorem dX5_count_173 : decode cX5_count 173 = .ok (.if_icmp .ge 6, 3) := by decide +kernel
theorem dX5_count_176 : decode cX5_count 176 = .ok (.iinc 3 1, 3) := by decide +kernel
theorem dX5_count_179 : decode cX5_count 179 = .ok (.iinc 4 1, 3) := by decide +kernel
theorem dX5_count_182 : decode cX5_count 182 = .ok (.goto (-32), 3) := by decide +kernel
theorem dX5_count_185 : decode cX5_count 185 = .ok (.iload_n 2, 1) := by decide +kernel
theorem dX5_count_186 : decode cX5_count 186 = .ok (.iconst 2, 1) := by decide +kernel
theorem dX5_count_187 : decode cX5_count 187 = .ok (.if_icmp .ne 12, 3) := by decide +kernel
theorem dX5_count_190 : decode cX5_count 190 = .ok (.aload_n 0, 1) := by decide +kernel
theorem dX5_count_191 : decode cX5_count 191 = .ok (.getfield 35, 3) := by decide +kernel
theorem dX5_count_194 : decode cX5_count 194 = .ok (.iload_n 1, 1) := by decide +kernel
theorem dX5_count_195 : decode cX5_count 195 = .ok (.iaload, 1) := by decide +kernel
theorem dX5_count_196 : decode cX5_count 196 = .ok (.goto 18, 3) := by decide +kernel
theorem dX5_count_199 : decode cX5_count 199 = .ok (.iload_n 2, 1) := by decide +kernel
theorem dX5_count_200 : decode cX5_count 200 = .ok (.bipush 6, 2) := by decide +kernel
theorem dX5_count_202 : decode cX5_count 202 = .ok (.if_icmp .ne 11, 3) := by decide +kernel
theorem dX5_count_205 : decode cX5_count 205 = .ok (.aload_n 0, 1) := by decide +kernel
theorem dX5_count_206 : decode cX5_count 206 = .ok (.iload_n 1, 1) := by decide +kernel
theorem dX5_count_207 : decode cX5_count 207 = .ok (.invokevirtual 164, 3) := by decide +kernel
theorem dX5_count_210 : decode cX5_count 210 = .ok (.goto 4, 3) := by decide +kernel
theorem dX5_count_213 : decode cX5_count 213 = .ok (.iload_n 3, 1) := by decide +kernel
theorem dX5_count_214 : decode cX5_count 214 = .ok (.ireturn, 1) := by decide +kernel
theorem dJ6_bitCount_0f7a4_0 : decode cJ6_bitCount_0f7a4 0 = .ok (.iload_n 0, 1) := by decide +kernel
theorem dJ6_bitCount_0f7a4_1 : decode cJ6_bitCount_0f7a4 1 = .ok (.iload_n 0, 1) := by decide +kernel
theorem dJ6_bitCount_0f7a4_2 : decode cJ6_bitCount_0f7a4 2 = .ok (.iconst 1, 1) := by decide +kernel
theorem dJ6_bitCount_0f7a4_3 : decode cJ6_bitCount_0f7a4 3 = .ok (.iushr, 1) := by decide +kernel
theorem dJ6_bitCount_0f7a4_4 : decode cJ6_bitCount_0f7a4 4 = .ok (.ldc_w 265, 3) := by decide +kernel
theorem dJ6_bitCount_0f7a4_7 : decode cJ6_bitCount_0f7a4 7 = .ok (.iand, 1) := by decide +kernel
theorem dJ6_bitCount_0f7a4_8 : decode cJ6_bitCount_0f7a4 8 = .ok (.isub, 1) := by decide +kernel
theorem dJ6_bitCount_0f7a4_9 : decode cJ6_bitCount_0f7a4 9 = .ok (.istore_n 0, 1) := by decide +kernel
theorem dJ6_bitCount_0f7a4_10 : decode cJ6_bitCount_0f7a4 10 = .ok (.iload_n 0, 1) := by decide +kernel
theorem dJ6_bitCount_0f7a4_11 : decode cJ6_bitCount_0f7a4 11 = .ok (.ldc_w 266, 3) := by decide +kernel
theorem dJ6_bitCount_0f7a4_14 : decode cJ6_bitCount_0f7a4 14 = .ok (.iand, 1) := by decide +kernel
theorem dJ6_bitCount_0f7a4_15 : decode cJ6_bitCount_0f7a4 15 = .ok (.iload_n 0, 1) := by decide +kernel
theorem dJ6_bitCount_0f7a4_16 : decode cJ6_bitCount_0f7a4 16 = .ok (.iconst 2, 1) := by decide +kernel
theorem dJ6_bitCount_0f7a4_17 : decode cJ6_bitCount_0f7a4 17 = .ok (.iushr, 1) := by decide +kernel
theorem dJ6_bitCount_0f7a4_18 : decode cJ6_bitCount_0f7a4 18 = .ok (.ldc_w 266, 3) := by decide +kernel
theorem dJ6_bitCount_0f7a4_21 : decode cJ6_bitCount_0f7a4 21 = .ok (.iand, 1) := by decide +kernel
theorem dJ6_bitCount_0f7a4_22 : decode cJ6_bitCount_0f7a4 22 = .ok (.iadd, 1) := by decide +kernel
theorem dJ6_bitCount_0f7a4_23 : decode cJ6_bitCount_0f7a4 23 = .ok (.istore_n 0, 1) := by decide +kernel
theorem dJ6_bitCount_0f7a4_24 : decode cJ6_bitCount_0f7a4 24 = .ok (.iload_n 0, 1) := by decide +kernel
theorem dJ6_bitCount_0f7a4_25 : decode cJ6_bitCount_0f7a4 25 = .ok (.iload_n 0, 1) := by decide +kernel
theorem dJ6_bitCount_0f7a4_26 : decode cJ6_bitCount_0f7a4 26 = .ok (.iconst 4, 1) := by decide +kernel
theorem dJ6_bitCount_0f7a4_27 : decode cJ6_bitCount_0f7a4 27 = .ok (.iushr, 1) := by decide +kernel
theorem dJ6_bitCount_0f7a4_28 : decode cJ6_bitCount_0f7a4 28 = .ok (.iadd, 1) := by decide +kernel
theorem dJ6_bitCount_0f7a4_29 : decode cJ6_bitCount_0f7a4 29 = .ok (.ldc_w 267, 3) := by decide +kernel
theorem dJ6_bitCount_0f7a4_32 : decode cJ6_bitCount_0f7a4 32 = .ok (.iand, 1) := by decide +kernel
theorem dJ6_bitCount_0f7a4_33 : decode cJ6_bitCount_0f7a4 33 = .ok (.istore_n 0, 1) := by decide +kernel
theorem dJ6_bitCount_0f7a4_34 : decode cJ6_bitCount_0f7a4 34 = .ok (.iload_n 0, 1) := by decide +kernel
theorem dJ6_bitCount_0f7a4_35 : decode cJ6_bitCount_0f7a4 35 = .ok (.iload_n 0, 1) := by decide +kernel
theorem dJ6_bitCount_0f7a4_36 : decode cJ6_bitCount_0f7a4 36 = .ok (.bipush 8, 2) := by decide +kernel
theorem dJ6_bitCount_0f7a4_38 : decode cJ6_bitCount_0f7a4 38 = .ok (.iushr, 1) := by decide +kernel
theorem dJ6_bitCount_0f7a4_39 : decode cJ6_bitCount_0f7a4 39 = .ok (.iadd, 1) := by decide +kernel
theorem dJ6_bitCount_0f7a4_40 : decode cJ6_bitCount_0f7a4 40 = .ok (.istore_n 0, 1) := by decide +kernel
theorem dJ6_bitCount_0f7a4_41 : decode cJ6_bitCount_0f7a4 41 = .ok (.iload_n 0, 1) := by decide +kernel
theorem dJ6_bitCount_0f7a4_42 : decode cJ6_bitCount_0f7a4 42 = .ok (.iload_n 0, 1) := by decide +kernel
theorem dJ6_bitCount_0f7a4_43 : decode cJ6_bitCount_0f7a4 43 = .ok (.bipush 16, 2) := by decide +kernel
theorem dJ6_bitCount_0f7a4_45 : decode cJ6_bitCount_0f7a4 45 = .ok (.iushr, 1) := by decide +kernel
theorem dJ6_bitCount_0f7a4_46 : decode cJ6_bitCount_0f7a4 46 = .ok (.iadd, 1) := by decide +kernel
theorem dJ6_bitCount_0f7a4_47 : decode cJ6_bitCount_0f7a4 47 = .ok (.istore_n 0, 1) := by decide +kernel
theorem dJ6_bitCount_0f7a4_48 : decode cJ6_bitCount_0f7a4 48 = .ok (.iload_n 0, 1) := by decide +kernel
theorem dJ6_bitCount_0f7a4_49 : decode cJ6_bitCount_0f7a4 49 = .ok (.bipush 63, 2) := by decide +kernel
theorem dJ6_bitCount_0f7a4_51 : decode cJ6_bitCount_0f7a4 51 = .ok (.iand, 1) := by decide +kernel
theorem dJ6_bitCount_0f7a4_52 : decode cJ6_bitCount_0f7a4 52 = .ok (.ireturn, 1) := by decide +kernel
theorem dJ9_min_7cf53_0 : decode cJ9_min_7cf53 0 = .ok (.iload_n 0, 1) := by decide +kernel
theorem dJ9_min_7cf53_1 : decode cJ9_min_7cf53 1 = .ok (.iload_n 1, 1) := by decide +kernel
theorem dJ9_min_7cf53_2 : decode cJ9_min_7cf53 2 = .ok (.if_icmp .gt 7, 3) := by decide +kernel
theorem dJ9_min_7cf53_5 : decode cJ9_min_7cf53 5 = .ok (.iload_n 0, 1) := by decide +kernel
theorem dJ9_min_7cf53_6 : decode cJ9_min_7cf53 6 = .ok (.goto 4, 3) := by decide +kernel
theorem dJ9_min_7cf53_9 : decode cJ9_min_7cf53 9 = .ok (.iload_n 1, 1) := by decide +kernel
theorem dJ9_min_7cf53_10 : decode cJ9_min_7cf53 10 = .ok (.ireturn, 1) := by decide +kernel
set_option maxRecDepth 20000 in
theorem ggL_law_X4_init : GoodIn wsL_law wsX4_init := goodIn_r _ [8, 9, 10, 11, 12, 13, 14, 15, 16, 17, 18, 19, 20, 21, 22, 23, 24, 25, 26, 27, 28, 29, 30, 31, 32, 33, 34, 35, 36, 37, 38, 39, 40, 41, 42, 43, 44, 45, 46, 47, 2, 48, 49, 50, 51, 52, 53, 54, 55, 56, 57, 58, 59, 60, 61, 62, 63, 64, 65, 66, 67, 68, 69, 70, 71, 72, 73, 74, 75, 76, 77, 78, 79, 80, 81, 82, 83, 84, 85, 86, 87, 88, 89, 90, 91, 92, 93, 94, 690, 691, 692, 665, 666, 667, 668, 693, 694, 695, 696, 697, 698, 699, 700, 701, 702, 703, 704, 705, 706, 707, 708, 709, 710, 711, 712] (by decide +kernel) (by decide +kernel)
set_option maxRecDepth 20000 in
theorem gL_law_X4_init : GoodIn wsL_law (wsX4_init) := ggL_law_X4_init
set_option maxRecDepth 20000 in
theorem ggL_law_X5_init : GoodIn wsL_law wsX5_init := goodIn_r _ [97, 98, 10, 11, 99, 100, 37, 101, 102, 103, 104, 105, 106, 107, 108, 109, 110, 111, 112, 113, 114, 115, 116, 117, 118, 669, 670, 671, 672, 673, 674, 675, 676, 677, 678, 679, 680, 681, 682, 683, 684, 685, 686, 687, 688, 689] (by decide +kernel) (by decide +kernel)
set_option maxRecDepth 20000 in
theorem gL_law_X5_init : GoodIn wsL_law (wsX5_init) := ggL_law_X5_init
set_option maxRecDepth 20000 in
theorem ggL_law_X4_type : GoodIn wsL_law wsX4_type := goodIn_r _ [122, 15, 21, 123, 124, 2, 125, 69, 70, 71, 126, 127, 128, 27, 129, 46, 38, 39, 40, 41, 42, 47, 48, 49, 50, 51, 52, 53, 43, 54, 55, 56, 57, 58, 59, 60, 61, 62, 63, 64, 65, 66, 67, 68, 72, 73, 74, 75, 76, 77, 78, 79, 80, 81, 82, 83, 44, 45, 84, 665, 666, 667, 668, 690, 691, 692, 697, 698, 699, 700, 701, 702, 703, 704, 705, 706] (by decide +kernel) (by decide +kernel)
set_option maxRecDepth 20000 in
theorem gL_law_X4_type : GoodIn wsL_law (wsV RL 13 RX4 yX4_type wsX4_type) := goodIn_app (goodIn_of _ (by decide +kernel)) ggL_law_X4_type
set_option maxRecDepth 20000 in
theorem ggL_law_X5_type : GoodIn wsL_law wsX5_type := goodIn_r _ [133, 100, 101, 102, 103, 104, 105, 134, 135, 5, 136, 137, 138, 139, 140, 141, 669, 670, 671, 672, 673, 674, 675, 676, 677, 678, 679, 680, 681, 682, 683, 684, 685, 686, 687, 688, 689] (by decide +kernel) (by decide +kernel)
set_option maxRecDepth 20000 in
theorem gL_law_X5_type : GoodIn wsL_law (wsV RL 17 RX5 yX5_type wsX5_type) := goodIn_app (goodIn_of _ (by decide +kernel)) ggL_law_X5_type
set_option maxRecDepth 20000 in
theorem ggL_law_X4_nest : GoodIn wsL_law wsX4_nest := goodIn_r _ [145, 15, 21, 123, 124, 2, 125, 69, 70, 71, 146, 147, 148, 27, 149, 42, 58, 59, 60, 61, 46, 62, 63, 665, 666, 667, 668, 690, 691, 692, 697, 698, 699, 700, 701, 702, 703, 704, 705, 706] (by decide +kernel) (by decide +kernel)
set_option maxRecDepth 20000 in
theorem gL_law_X4_nest : GoodIn wsL_law (wsV RL 18 RX4 yX4_nest wsX4_nest) := goodIn_app (goodIn_of _ (by decide +kernel)) ggL_law_X4_nest
set_option maxRecDepth 20000 in
theorem ggL_law_X5_nest : GoodIn wsL_law wsX5_nest := goodIn_r _ [153, 105, 154, 155, 156, 5, 157, 100, 134, 135, 136, 137, 138, 139, 140, 141, 669, 670, 671, 672, 673, 674, 675, 676, 677, 678, 679, 680, 681, 682, 683, 684, 685, 686, 687, 688, 689] (by decide +kernel) (by decide +kernel)
set_option maxRecDepth 20000 in
theorem gL_law_X5_nest : GoodIn wsL_law (wsV RL 22 RX5 yX5_nest wsX5_nest) := goodIn_app (goodIn_of _ (by decide +kernel)) ggL_law_X5_nest
set_option maxRecDepth 20000 in
theorem ggL_law_X4_drop : GoodIn wsL_law wsX4_drop := goodIn_r _ [161, 15, 21, 123, 124, 2, 125, 69, 70, 71, 162, 163, 164, 14, 165, 28, 32, 166, 167, 168, 27, 169, 46, 58, 59, 60, 61, 62, 63, 47, 48, 49, 50, 51, 52, 53, 43, 54, 55, 56, 57, 64, 65, 66, 67, 68, 72, 73, 74, 75, 40, 38, 41, 76, 77, 78, 79, 80, 81, 82, 83, 44, 45, 84, 170, 171, 172, 31, 173, 174, 88, 175, 665, 666, 667, 668, 690, 691, 692, 697, 698, 699, 700, 701, 702, 703, 704, 705, 706, 707, 708, 709, 710, 711, 712] (by decide +kernel) (by decide +kernel)
set_option maxRecDepth 20000 in
theorem gL_law_X4_drop : GoodIn wsL_law (wsV RL 23 RX4 yX4_drop wsX4_drop) := goodIn_app (goodIn_of _ (by decide +kernel)) ggL_law_X4_drop
set_option maxRecDepth 20000 in
theorem ggL_law_X5_drop : GoodIn wsL_law wsX5_drop := goodIn_r _ [179, 100, 141, 108, 109, 107, 154, 155, 156, 5, 157, 134, 135, 136, 137, 138, 139, 140, 669, 670, 671, 672, 673, 674, 675, 676, 677, 678, 679, 680, 681, 682, 683, 684, 685, 686, 687, 688, 689] (by decide +kernel) (by decide +kernel)
set_option maxRecDepth 20000 in
theorem gL_law_X5_drop : GoodIn wsL_law (wsV RL 27 RX5 yX5_drop wsX5_drop) := goodIn_app (goodIn_of _ (by decide +kernel)) ggL_law_X5_drop
set_option maxRecDepth 20000 in
theorem ggL_law_X4_member : GoodIn wsL_law wsX4_member := goodIn_r _ [183, 15, 21, 69, 70, 2, 71, 184, 185, 186, 14, 187, 28, 32, 188, 59, 60, 27, 61, 46, 62, 63, 189, 190, 191, 31, 192, 174, 89, 88, 175, 193, 194, 195, 196, 197, 198, 199, 90, 91, 665, 666, 667, 668, 690, 691, 692, 697, 698, 699, 700, 701, 702, 703, 704, 705, 706, 707, 708, 709, 710, 711, 712] (by decide +kernel) (by decide +kernel)
set_option maxRecDepth 20000 in
theorem gL_law_X4_member : GoodIn wsL_law (wsV RL 28 RX4 yX4_member wsX4_member) := goodIn_app (goodIn_of _ (by decide +kernel)) ggL_law_X4_member
set_option maxRecDepth 20000 in
theorem ggL_law_X5_member : GoodIn wsL_law wsX5_member := goodIn_r _ [203, 141, 108, 107, 109, 106, 110, 111, 112, 154, 155, 156, 5, 157, 100, 134, 135, 136, 137, 138, 139, 140, 204, 205, 206, 207, 669, 670, 671, 672, 673, 674, 675, 676, 677, 678, 679, 680, 681, 682, 683, 684, 685, 686, 687, 688, 689] (by decide +kernel) (by decide +kernel)
set_option maxRecDepth 20000 in
theorem gL_law_X5_member : GoodIn wsL_law (wsV RL 32 RX5 yX5_member wsX5_member) := goodIn_app (goodIn_of _ (by decide +kernel)) ggL_law_X5_member
set_option maxRecDepth 20000 in
theorem ggL_law_X4_remake : GoodIn wsL_law wsX4_remake := goodIn_r _ [211, 15, 21, 69, 70, 2, 71, 212, 213, 214, 31, 215, 90, 91, 216, 217, 218, 219, 174, 175, 62, 63, 665, 666, 667, 668, 690, 691, 692, 707, 708, 709, 710, 711, 712] (by decide +kernel) (by decide +kernel)
set_option maxRecDepth 20000 in
theorem gL_law_X4_remake : GoodIn wsL_law (wsV RL 33 RX4 yX4_remake wsX4_remake) := goodIn_app (goodIn_of _ (by decide +kernel)) ggL_law_X4_remake
set_option maxRecDepth 20000 in
theorem ggL_law_X5_remake : GoodIn wsL_law wsX5_remake := goodIn_r _ [223, 111, 141, 112, 224, 225, 226, 5, 227, 108, 107, 134, 135, 136, 669, 670, 671, 672, 673, 674, 675, 676, 677, 678, 679, 680, 681, 682, 683, 684, 685, 686, 687, 688, 689] (by decide +kernel) (by decide +kernel)
set_option maxRecDepth 20000 in
theorem gL_law_X5_remake : GoodIn wsL_law (wsV RL 37 RX5 yX5_remake wsX5_remake) := goodIn_app (goodIn_of _ (by decide +kernel)) ggL_law_X5_remake
set_option maxRecDepth 20000 in
theorem ggL_law_X4_remove : GoodIn wsL_law wsX4_remove := goodIn_r _ [231, 15, 21, 232, 233, 234, 31, 235, 175, 216, 217, 218, 219, 174, 70, 2, 71, 62, 63, 47, 48, 665, 666, 667, 668, 690, 691, 692, 707, 708, 709, 710, 711, 712] (by decide +kernel) (by decide +kernel)
set_option maxRecDepth 20000 in
theorem gL_law_X4_remove : GoodIn wsL_law (wsV RL 38 RX4 yX4_remove wsX4_remove) := goodIn_app (goodIn_of _ (by decide +kernel)) ggL_law_X4_remove
set_option maxRecDepth 20000 in
theorem ggL_law_X5_remove : GoodIn wsL_law wsX5_remove := goodIn_r _ [239, 107, 141, 224, 225, 226, 5, 227, 108, 134, 135, 136, 669, 670, 671, 672, 673, 674, 675, 676, 677, 678, 679, 680, 681, 682, 683, 684, 685, 686, 687, 688, 689] (by decide +kernel) (by decide +kernel)
set_option maxRecDepth 20000 in
theorem gL_law_X5_remove : GoodIn wsL_law (wsV RL 41 RX5 yX5_remove wsX5_remove) := goodIn_app (goodIn_of _ (by decide +kernel)) ggL_law_X5_remove
set_option maxRecDepth 20000 in
theorem ggL_law_X4_branch : GoodIn wsL_law wsX4_branch := goodIn_r _ [243, 15, 21, 244, 245, 246, 14, 247, 28, 32, 248, 249, 250, 27, 251, 46, 38, 252, 253, 254, 255, 39, 40, 41, 42, 49, 50, 51, 52, 53, 43, 54, 55, 56, 57, 58, 59, 60, 61, 62, 2, 63, 47, 48, 64, 65, 66, 67, 68, 69, 70, 71, 72, 73, 74, 75, 76, 77, 78, 79, 80, 81, 82, 83, 44, 45, 84, 256, 257, 258, 31, 259, 174, 175, 88, 260, 89, 90, 91, 261, 262, 263, 264, 265, 266, 267, 268, 269, 270, 271, 665, 666, 667, 668, 690, 691, 692, 697, 698, 699, 700, 701, 702, 703, 704, 705, 706, 707, 708, 709, 710, 711, 712] (by decide +kernel) (by decide +kernel)
set_option maxRecDepth 20000 in
theorem gL_law_X4_branch : GoodIn wsL_law (wsV RL 42 RX4 yX4_branch wsX4_branch) := goodIn_app (goodIn_of _ (by decide +kernel)) ggL_law_X4_branch
set_option maxRecDepth 20000 in
theorem ggL_law_X5_branch : GoodIn wsL_law wsX5_branch := goodIn_r _ [275, 100, 101, 102, 103, 104, 105, 108, 107, 109, 106, 110, 111, 112, 141, 669, 670, 671, 672, 673, 674, 675, 676, 677, 678, 679, 680, 681, 682, 683, 684, 685, 686, 687, 688, 689] (by decide +kernel) (by decide +kernel)
set_option maxRecDepth 20000 in
theorem gL_law_X5_branch : GoodIn wsL_law (wsV RL 46 RX5 yX5_branch wsX5_branch) := goodIn_app (goodIn_of _ (by decide +kernel)) ggL_law_X5_branch
set_option maxRecDepth 20000 in
theorem ggL_law_X4_write : GoodIn wsL_law wsX4_write := goodIn_r _ [279, 21, 69, 70, 2, 71, 665, 666, 667, 668] (by decide +kernel) (by decide +kernel)
set_option maxRecDepth 20000 in
theorem gL_law_X4_write : GoodIn wsL_law (wsV RL 47 RX4 yX4_write wsX4_write) := goodIn_app (goodIn_of _ (by decide +kernel)) ggL_law_X4_write
set_option maxRecDepth 20000 in
theorem ggL_law_X5_write : GoodIn wsL_law wsX5_write := goodIn_r _ [283, 141, 134, 135, 5, 136, 669, 670, 671, 672, 673, 674, 675, 676, 677, 678, 679, 680, 681, 682, 683, 684, 685, 686, 687, 688, 689] (by decide +kernel) (by decide +kernel)
set_option maxRecDepth 20000 in
theorem gL_law_X5_write : GoodIn wsL_law (wsV RL 50 RX5 yX5_write wsX5_write) := goodIn_app (goodIn_of _ (by decide +kernel)) ggL_law_X5_write
set_option maxRecDepth 20000 in
theorem ggL_law_X4_refer : GoodIn wsL_law wsX4_refer := goodIn_r _ [287, 20, 17, 69, 70, 2, 71, 288, 289, 290, 19, 291, 292, 293, 294, 295, 665, 666, 667, 668, 693, 694, 695, 696] (by decide +kernel) (by decide +kernel)
set_option maxRecDepth 20000 in
theorem gL_law_X4_refer : GoodIn wsL_law (wsV RL 51 RX4 yX4_refer wsX4_refer) := goodIn_app (goodIn_of _ (by decide +kernel)) ggL_law_X4_refer
set_option maxRecDepth 20000 in
theorem ggL_law_X5_refer : GoodIn wsL_law wsX5_refer := goodIn_r _ [299, 300, 113, 114, 115, 116, 134, 135, 5, 136, 669, 670, 671, 672, 673, 674, 675, 676, 677, 678, 679, 680, 681, 682, 683, 684, 685, 686, 687, 688, 689] (by decide +kernel) (by decide +kernel)
set_option maxRecDepth 20000 in
theorem gL_law_X5_refer : GoodIn wsL_law (wsV RL 55 RX5 yX5_refer wsX5_refer) := goodIn_app (goodIn_of _ (by decide +kernel)) ggL_law_X5_refer
set_option maxRecDepth 20000 in
theorem ggL_law_X4_forget : GoodIn wsL_law wsX4_forget := goodIn_r _ [304, 20, 665, 666, 667, 668] (by decide +kernel) (by decide +kernel)
set_option maxRecDepth 20000 in
theorem gL_law_X4_forget : GoodIn wsL_law (wsV RL 56 RX4 yX4_forget wsX4_forget) := goodIn_app (goodIn_of _ (by decide +kernel)) ggL_law_X4_forget
set_option maxRecDepth 20000 in
theorem ggL_law_X5_forget : GoodIn wsL_law wsX5_forget := goodIn_r _ [308, 300, 669, 670, 671, 672, 673, 674, 675, 676, 677, 678, 679, 680, 681, 682, 683, 684, 685, 686, 687, 688, 689] (by decide +kernel) (by decide +kernel)
set_option maxRecDepth 20000 in
theorem gL_law_X5_forget : GoodIn wsL_law (wsV RL 59 RX5 yX5_forget wsX5_forget) := goodIn_app (goodIn_of _ (by decide +kernel)) ggL_law_X5_forget
set_option maxRecDepth 20000 in
theorem ggL_law_X4_load : GoodIn wsL_law wsX4_load := goodIn_r _ [312, 15, 69, 70, 2, 71, 313, 314, 315, 27, 316, 43, 665, 666, 667, 668, 690, 691, 692, 697, 698, 699, 700, 701, 702, 703, 704, 705, 706] (by decide +kernel) (by decide +kernel)
set_option maxRecDepth 20000 in
theorem gL_law_X4_load : GoodIn wsL_law (wsV RL 60 RX4 yX4_load wsX4_load) := goodIn_app (goodIn_of _ (by decide +kernel)) ggL_law_X4_load
set_option maxRecDepth 20000 in
theorem ggL_law_X5_load : GoodIn wsL_law wsX5_load := goodIn_r _ [320, 134, 135, 5, 136, 321, 322, 323, 324, 117, 118, 100, 103, 104, 325, 326, 327, 328, 329, 330, 331, 332, 333, 334, 101, 669, 670, 671, 672, 673, 674, 675, 676, 677, 678, 679, 680, 681, 682, 683, 684, 685, 686, 687, 688, 689] (by decide +kernel) (by decide +kernel)
set_option maxRecDepth 20000 in
theorem gL_law_X5_load : GoodIn wsL_law (wsV RL 64 RX5 yX5_load wsX5_load) := goodIn_app (goodIn_of _ (by decide +kernel)) ggL_law_X5_load
set_option maxRecDepth 20000 in
theorem ggL_law_X4_resolve : GoodIn wsL_law wsX4_resolve := goodIn_r _ [338, 20, 15, 17, 69, 70, 2, 71, 339, 340, 341, 14, 342, 28, 343, 314, 315, 27, 316, 43, 67, 68, 344, 345, 346, 347, 38, 348, 349, 350, 351, 39, 352, 353, 354, 19, 355, 292, 356, 357, 358, 359, 360, 361, 362, 363, 364, 32, 62, 63, 47, 48, 189, 190, 191, 31, 192, 174, 89, 88, 175, 193, 194, 195, 365, 366, 367, 368, 41, 369, 370, 371, 372, 40, 373, 374, 375, 376, 377, 77, 78, 79, 378, 379, 380, 381, 382, 383, 384, 385, 90, 386, 387, 388, 389, 91, 390, 391, 392, 393, 394, 395, 396, 397, 398, 399, 400, 401, 45, 402, 403, 404, 405, 406, 407, 408, 409, 410, 411, 412, 413, 414, 415, 416, 417, 418, 419, 420, 421, 422, 423, 424, 425, 426, 427, 428, 429, 430, 431, 432, 433, 434, 435, 436, 437, 438, 439, 440, 441, 442, 443, 444, 445, 446, 447, 448, 449, 450, 44, 451, 452, 453, 454, 455, 456, 457, 458, 42, 58, 59, 60, 61, 46, 459, 460, 461, 462, 463, 464, 465, 466, 467, 468, 469, 470, 665, 666, 667, 668, 690, 691, 692, 693, 694, 695, 696, 697, 698, 699, 700, 701, 702, 703, 704, 705, 706, 707, 708, 709, 710, 711, 712] (by decide +kernel) (by decide +kernel)
set_option maxRecDepth 20000 in
theorem gL_law_X4_resolve : GoodIn wsL_law (wsV RL 65 RX4 yX4_resolve wsX4_resolve) := goodIn_app (goodIn_of _ (by decide +kernel)) ggL_law_X4_resolve
set_option maxRecDepth 20000 in
theorem ggL_law_X5_resolve : GoodIn wsL_law wsX5_resolve := goodIn_r _ [474, 475, 476, 477, 5, 478, 300, 134, 135, 136, 479, 480, 481, 482, 113, 114, 115, 101, 102, 116, 112, 109, 321, 322, 323, 324, 117, 118, 100, 103, 104, 325, 326, 327, 328, 329, 330, 331, 332, 333, 334, 483, 484, 485, 486, 204, 205, 206, 207, 108, 107, 106, 110, 487, 488, 489, 490, 491, 492, 493, 494, 111, 495, 496, 497, 498, 499, 500, 501, 502, 503, 504, 505, 506, 507, 508, 509, 510, 511, 512, 513, 514, 515, 516, 517, 518, 519, 520, 521, 522, 523, 524, 525, 526, 105, 669, 670, 671, 672, 673, 674, 675, 676, 677, 678, 679, 680, 681, 682, 683, 684, 685, 686, 687, 688, 689] (by decide +kernel) (by decide +kernel)
set_option maxRecDepth 20000 in
theorem gL_law_X5_resolve : GoodIn wsL_law (wsV RL 68 RX5 yX5_resolve wsX5_resolve) := goodIn_app (goodIn_of _ (by decide +kernel)) ggL_law_X5_resolve
set_option maxRecDepth 20000 in
theorem ggL_law_X4_select : GoodIn wsL_law wsX4_select := goodIn_r _ [530, 20, 17, 15, 69, 70, 2, 71, 339, 340, 341, 14, 342, 28, 343, 314, 315, 27, 316, 43, 67, 68, 344, 345, 346, 347, 38, 348, 349, 350, 351, 39, 352, 353, 354, 19, 355, 292, 356, 357, 358, 359, 360, 361, 362, 363, 364, 32, 62, 63, 47, 48, 189, 190, 191, 31, 192, 174, 89, 88, 175, 193, 194, 195, 365, 366, 367, 368, 41, 369, 370, 371, 372, 40, 373, 374, 375, 376, 377, 77, 78, 79, 378, 379, 380, 381, 382, 383, 384, 385, 90, 386, 387, 388, 389, 91, 390, 391, 392, 393, 394, 395, 396, 397, 398, 399, 400, 401, 45, 402, 403, 404, 405, 406, 407, 408, 409, 410, 411, 412, 413, 414, 415, 416, 417, 418, 419, 420, 421, 422, 423, 424, 425, 426, 427, 428, 429, 430, 431, 432, 433, 434, 435, 436, 437, 438, 439, 440, 441, 442, 443, 444, 445, 446, 447, 448, 449, 450, 44, 451, 452, 453, 454, 455, 456, 457, 458, 42, 58, 59, 60, 61, 46, 459, 460, 461, 462, 463, 464, 465, 466, 467, 468, 469, 470, 531, 532, 533, 534, 535, 536, 537, 538, 539, 540, 541, 542, 543, 544, 545, 546, 547, 548, 549, 550, 551, 552, 553, 554, 555, 556, 557, 558, 559, 560, 561, 562, 563, 665, 666, 667, 668, 690, 691, 692, 693, 694, 695, 696, 697, 698, 699, 700, 701, 702, 703, 704, 705, 706, 707, 708, 709, 710, 711, 712] (by decide +kernel) (by decide +kernel)
set_option maxRecDepth 20000 in
theorem gL_law_X4_select : GoodIn wsL_law (wsV RL 69 RX4 yX4_select wsX4_select) := goodIn_app (goodIn_of _ (by decide +kernel)) ggL_law_X4_select
set_option maxRecDepth 20000 in
theorem ggL_law_X5_select : GoodIn wsL_law wsX5_select := goodIn_r _ [567, 475, 476, 477, 5, 478, 300, 134, 135, 136, 568, 569, 570, 571, 113, 479, 480, 481, 482, 114, 115, 101, 102, 116, 112, 109, 321, 322, 323, 324, 117, 118, 100, 103, 104, 325, 326, 327, 328, 329, 330, 331, 332, 333, 334, 483, 484, 485, 486, 204, 205, 206, 207, 108, 107, 106, 110, 487, 488, 489, 490, 491, 492, 493, 494, 111, 495, 496, 497, 498, 499, 500, 501, 502, 503, 504, 505, 506, 507, 508, 509, 510, 511, 512, 513, 514, 515, 516, 517, 518, 519, 520, 521, 522, 523, 524, 525, 526, 105, 572, 573, 574, 575, 576, 577, 578, 579, 580, 581, 582, 583, 669, 670, 671, 672, 673, 674, 675, 676, 677, 678, 679, 680, 681, 682, 683, 684, 685, 686, 687, 688, 689] (by decide +kernel) (by decide +kernel)
set_option maxRecDepth 20000 in
theorem gL_law_X5_select : GoodIn wsL_law (wsV RL 73 RX5 yX5_select wsX5_select) := goodIn_app (goodIn_of _ (by decide +kernel)) ggL_law_X5_select
set_option maxRecDepth 20000 in
theorem ggL_law_X4_compare : GoodIn wsL_law wsX4_compare := goodIn_r _ [587, 20, 15, 17, 69, 70, 2, 71, 339, 340, 341, 14, 342, 28, 343, 314, 315, 27, 316, 43, 67, 68, 344, 345, 346, 347, 38, 348, 349, 350, 351, 39, 352, 353, 354, 19, 355, 292, 356, 357, 358, 359, 360, 361, 362, 363, 364, 32, 62, 63, 47, 48, 189, 190, 191, 31, 192, 174, 89, 88, 175, 193, 194, 195, 365, 366, 367, 368, 41, 369, 370, 371, 372, 40, 373, 374, 375, 376, 377, 77, 78, 79, 378, 379, 380, 381, 382, 383, 384, 385, 90, 386, 387, 388, 389, 91, 390, 391, 392, 393, 394, 395, 396, 397, 398, 399, 400, 401, 45, 402, 403, 404, 405, 406, 407, 408, 409, 410, 411, 412, 413, 414, 415, 416, 417, 418, 419, 420, 421, 422, 423, 424, 425, 426, 427, 428, 429, 430, 431, 432, 433, 434, 435, 436, 437, 438, 439, 440, 441, 442, 443, 444, 445, 446, 447, 448, 449, 450, 44, 451, 452, 453, 454, 455, 456, 457, 458, 42, 58, 59, 60, 61, 46, 459, 460, 461, 462, 463, 464, 465, 466, 467, 468, 469, 470, 588, 589, 590, 591, 592, 593, 594, 595, 596, 665, 666, 667, 668, 690, 691, 692, 693, 694, 695, 696, 697, 698, 699, 700, 701, 702, 703, 704, 705, 706, 707, 708, 709, 710, 711, 712] (by decide +kernel) (by decide +kernel)
set_option maxRecDepth 20000 in
theorem gL_law_X4_compare : GoodIn wsL_law (wsV RL 74 RX4 yX4_compare wsX4_compare) := goodIn_app (goodIn_of _ (by decide +kernel)) ggL_law_X4_compare
set_option maxRecDepth 20000 in
theorem ggL_law_X5_compare : GoodIn wsL_law wsX5_compare := goodIn_r _ [600, 300, 134, 135, 5, 136, 479, 480, 481, 482, 113, 114, 115, 101, 102, 116, 112, 109, 321, 322, 323, 324, 117, 118, 100, 103, 104, 325, 326, 327, 328, 329, 330, 331, 332, 333, 334, 483, 484, 485, 486, 204, 205, 206, 207, 108, 107, 106, 110, 487, 488, 489, 490, 491, 492, 493, 494, 111, 495, 496, 497, 498, 499, 500, 501, 502, 503, 504, 505, 506, 507, 508, 509, 510, 511, 512, 513, 514, 515, 516, 517, 518, 519, 520, 521, 522, 523, 524, 525, 526, 105, 601, 602, 603, 604, 669, 670, 671, 672, 673, 674, 675, 676, 677, 678, 679, 680, 681, 682, 683, 684, 685, 686, 687, 688, 689] (by decide +kernel) (by decide +kernel)
set_option maxRecDepth 20000 in
theorem gL_law_X5_compare : GoodIn wsL_law (wsV RL 78 RX5 yX5_compare wsX5_compare) := goodIn_app (goodIn_of _ (by decide +kernel)) ggL_law_X5_compare
set_option maxRecDepth 20000 in
theorem ggL_law_X4_receivers : GoodIn wsL_law wsX4_receivers := goodIn_r _ [608, 20, 17, 15, 69, 70, 2, 71, 339, 340, 341, 14, 342, 28, 343, 314, 315, 27, 316, 43, 67, 68, 344, 345, 346, 347, 38, 348, 349, 350, 351, 39, 352, 353, 354, 19, 355, 292, 356, 357, 358, 359, 360, 361, 362, 363, 364, 32, 62, 63, 47, 48, 189, 190, 191, 31, 192, 174, 89, 88, 175, 193, 194, 195, 365, 366, 367, 368, 41, 369, 370, 371, 372, 40, 373, 374, 375, 376, 377, 77, 78, 79, 378, 379, 380, 381, 382, 383, 384, 385, 90, 386, 387, 388, 389, 91, 390, 391, 392, 393, 394, 395, 396, 397, 398, 399, 400, 401, 45, 402, 403, 404, 405, 406, 407, 408, 409, 410, 411, 412, 413, 414, 415, 416, 417, 418, 419, 420, 421, 422, 423, 424, 425, 426, 427, 428, 429, 430, 431, 432, 433, 434, 435, 436, 437, 438, 439, 440, 441, 442, 443, 444, 445, 446, 447, 448, 449, 450, 44, 451, 452, 453, 454, 455, 456, 457, 458, 42, 58, 59, 60, 61, 46, 459, 460, 461, 462, 463, 464, 465, 466, 467, 468, 469, 470, 531, 532, 533, 534, 535, 536, 537, 538, 539, 540, 541, 542, 543, 544, 545, 546, 547, 548, 549, 550, 551, 552, 553, 554, 555, 556, 557, 558, 559, 560, 561, 562, 563, 609, 610, 611, 612, 596, 588, 589, 590, 591, 592, 593, 594, 595, 665, 666, 667, 668, 690, 691, 692, 693, 694, 695, 696, 697, 698, 699, 700, 701, 702, 703, 704, 705, 706, 707, 708, 709, 710, 711, 712] (by decide +kernel) (by decide +kernel)
set_option maxRecDepth 20000 in
theorem gL_law_X4_receivers : GoodIn wsL_law (wsV RL 79 RX4 yX4_receivers wsX4_receivers) := goodIn_app (goodIn_of _ (by decide +kernel)) ggL_law_X4_receivers
set_option maxRecDepth 20000 in
theorem ggL_law_X5_receivers : GoodIn wsL_law wsX5_receivers := goodIn_r _ [616, 300, 113, 134, 135, 5, 136, 568, 569, 570, 571, 479, 480, 481, 482, 114, 115, 101, 102, 116, 112, 109, 321, 322, 323, 324, 117, 118, 100, 103, 104, 325, 326, 327, 328, 329, 330, 331, 332, 333, 334, 483, 484, 485, 486, 204, 205, 206, 207, 108, 107, 106, 110, 487, 488, 489, 490, 491, 492, 493, 494, 111, 495, 496, 497, 498, 499, 500, 501, 502, 503, 504, 505, 506, 507, 508, 509, 510, 511, 512, 513, 514, 515, 516, 517, 518, 519, 520, 521, 522, 523, 524, 525, 526, 105, 572, 573, 574, 575, 576, 577, 578, 579, 580, 581, 582, 583, 601, 602, 603, 604, 669, 670, 671, 672, 673, 674, 675, 676, 677, 678, 679, 680, 681, 682, 683, 684, 685, 686, 687, 688, 689] (by decide +kernel) (by decide +kernel)
set_option maxRecDepth 20000 in
theorem gL_law_X5_receivers : GoodIn wsL_law (wsV RL 82 RX5 yX5_receivers wsX5_receivers) := goodIn_app (goodIn_of _ (by decide +kernel)) ggL_law_X5_receivers
set_option maxRecDepth 20000 in
theorem ggL_law_X4_isUnder : GoodIn wsL_law wsX4_isUnder := goodIn_r _ [620, 15, 69, 70, 2, 71, 313, 314, 315, 27, 316, 43, 596, 67, 68, 621, 452, 453, 454, 44, 45, 62, 63, 665, 666, 667, 668, 690, 691, 692, 697, 698, 699, 700, 701, 702, 703, 704, 705, 706] (by decide +kernel) (by decide +kernel)
set_option maxRecDepth 20000 in
theorem gL_law_X4_isUnder : GoodIn wsL_law (wsV RL 83 RX4 yX4_isUnder wsX4_isUnder) := goodIn_app (goodIn_of _ (by decide +kernel)) ggL_law_X4_isUnder
set_option maxRecDepth 20000 in
theorem ggL_law_X5_isUnder : GoodIn wsL_law wsX5_isUnder := goodIn_r _ [625, 134, 135, 5, 136, 576, 577, 578, 579, 321, 322, 323, 324, 117, 118, 100, 103, 104, 325, 326, 327, 328, 329, 330, 331, 332, 333, 334, 101, 511, 512, 513, 514, 503, 504, 505, 506, 499, 500, 501, 502, 669, 670, 671, 672, 673, 674, 675, 676, 677, 678, 679, 680, 681, 682, 683, 684, 685, 686, 687, 688, 689] (by decide +kernel) (by decide +kernel)
set_option maxRecDepth 20000 in
theorem gL_law_X5_isUnder : GoodIn wsL_law (wsV RL 86 RX5 yX5_isUnder wsX5_isUnder) := goodIn_app (goodIn_of _ (by decide +kernel)) ggL_law_X5_isUnder
set_option maxRecDepth 20000 in
theorem ggL_law_X4_count : GoodIn wsL_law wsX4_count := goodIn_r _ [629, 15, 69, 70, 2, 71, 261, 262, 263, 27, 264, 46, 265, 266, 267, 268, 269, 270, 271, 630, 631, 632, 31, 633, 174, 175, 634, 635, 636, 637, 638, 639, 640, 641, 642, 20, 17, 339, 340, 341, 14, 342, 28, 343, 314, 315, 316, 43, 67, 68, 344, 345, 346, 347, 38, 348, 349, 350, 351, 39, 352, 353, 354, 19, 355, 292, 356, 357, 358, 359, 360, 361, 362, 363, 364, 32, 62, 63, 47, 48, 189, 190, 191, 192, 89, 88, 193, 194, 195, 365, 366, 367, 368, 41, 369, 370, 371, 372, 40, 373, 374, 375, 376, 377, 77, 78, 79, 378, 379, 380, 381, 382, 383, 384, 385, 90, 386, 387, 388, 389, 91, 390, 391, 392, 393, 394, 395, 396, 397, 398, 399, 400, 401, 45, 402, 403, 404, 405, 406, 407, 408, 409, 410, 411, 412, 413, 414, 415, 416, 417, 418, 419, 420, 421, 422, 423, 424, 425, 426, 427, 428, 429, 430, 431, 432, 433, 434, 435, 436, 437, 438, 439, 440, 441, 442, 443, 444, 445, 446, 447, 448, 449, 450, 44, 451, 452, 453, 454, 455, 456, 457, 458, 42, 58, 59, 60, 61, 459, 460, 461, 462, 463, 464, 465, 466, 467, 468, 469, 470, 596, 643, 644, 645, 646, 53, 647, 648, 649, 650, 651, 652, 653, 654, 655, 656, 665, 666, 667, 668, 690, 691, 692, 697, 698, 699, 700, 701, 702, 703, 704, 705, 706, 707, 708, 709, 710, 711, 712, 693, 694, 695, 696] (by decide +kernel) (by decide +kernel)
set_option maxRecDepth 20000 in
theorem gL_law_X4_count : GoodIn wsL_law (wsV RL 87 RX4 yX4_count wsX4_count) := goodIn_app (goodIn_of _ (by decide +kernel)) ggL_law_X4_count
set_option maxRecDepth 20000 in
theorem ggL_law_X5_count : GoodIn wsL_law wsX5_count := goodIn_r _ [660, 100, 108, 107, 106, 112, 300, 134, 135, 5, 136, 576, 577, 578, 579, 321, 322, 323, 324, 117, 118, 103, 104, 325, 326, 327, 328, 329, 330, 331, 332, 333, 334, 101, 479, 480, 481, 482, 113, 114, 115, 102, 116, 109, 483, 484, 485, 486, 204, 205, 206, 207, 110, 487, 488, 489, 490, 491, 492, 493, 494, 111, 495, 496, 497, 498, 499, 500, 501, 502, 503, 504, 505, 506, 507, 508, 509, 510, 511, 512, 513, 514, 515, 516, 517, 518, 519, 520, 521, 522, 523, 524, 525, 526, 105, 661, 662, 663, 664, 669, 670, 671, 672, 673, 674, 675, 676, 677, 678, 679, 680, 681, 682, 683, 684, 685, 686, 687, 688, 689] (by decide +kernel) (by decide +kernel)
set_option maxRecDepth 20000 in
theorem gL_law_X5_count : GoodIn wsL_law (wsV RL 90 RX5 yX5_count wsX5_count) := goodIn_app (goodIn_of _ (by decide +kernel)) ggL_law_X5_count
theorem dL_law_0 : decode cL_law 0 = .ok (.new 7, 3) := by decide +kernel
theorem dL_law_3 : decode cL_law 3 = .ok (.dup, 1) := by decide +kernel
theorem dL_law_4 : decode cL_law 4 = .ok (.invokespecial 9, 3) := by decide +kernel
theorem dL_law_7 : decode cL_law 7 = .ok (.astore_n 1, 1) := by decide +kernel
theorem dL_law_8 : decode cL_law 8 = .ok (.new 10, 3) := by decide +kernel
theorem dL_law_11 : decode cL_law 11 = .ok (.dup, 1) := by decide +kernel
theorem dL_law_12 : decode cL_law 12 = .ok (.invokespecial 12, 3) := by decide +kernel
theorem dL_law_15 : decode cL_law 15 = .ok (.astore_n 2, 1) := by decide +kernel
theorem dL_law_16 : decode cL_law 16 = .ok (.iconst 0, 1) := by decide +kernel
theorem dL_law_17 : decode cL_law 17 = .ok (.istore_n 3, 1) := by decide +kernel
theorem dL_law_18 : decode cL_law 18 = .ok (.iload_n 3, 1) := by decide +kernel
theorem dL_law_19 : decode cL_law 19 = .ok (.aload_n 0, 1) := by decide +kernel
theorem dL_law_20 : decode cL_law 20 = .ok (.arraylength, 1) := by decide +kernel
theorem dL_law_21 : decode cL_law 21 = .ok (.bipush 6, 2) := by decide +kernel
theorem dL_law_23 : decode cL_law 23 = .ok (.isub, 1) := by decide +kernel
theorem dL_law_24 : decode cL_law 24 = .ok (.if_icmp .gt 705, 3) := by decide +kernel
theorem dL_law_27 : decode cL_law 27 = .ok (.aload_n 0, 1) := by decide +kernel
theorem dL_law_28 : decode cL_law 28 = .ok (.iload_n 3, 1) := by decide +kernel
theorem dL_law_29 : decode cL_law 29 = .ok (.iaload, 1) := by decide +kernel
theorem dL_law_30 : decode cL_law 30 = .ok (.bipush 31, 2) := by decide +kernel
theorem dL_law_32 : decode cL_law 32 = .ok (.iand, 1) := by decide +kernel
theorem dL_law_33 : decode cL_law 33 = .ok (.tableswitch 690 0 16 #[83, 146, 179, 202, 281, 324, 347, 360, 383, 436, 449, 482, 515, 558, 581, 614, 657], 83) := by decide +kernel
theorem dL_law_116 : decode cL_law 116 = .ok (.aload_n 1, 1) := by decide +kernel
theorem dL_law_117 : decode cL_law 117 = .ok (.aload_n 0, 1) := by decide +kernel
theorem dL_law_118 : decode cL_law 118 = .ok (.iload_n 3, 1) := by decide +kernel
theorem dL_law_119 : decode cL_law 119 = .ok (.iconst 1, 1) := by decide +kernel
theorem dL_law_120 : decode cL_law 120 = .ok (.iadd, 1) := by decide +kernel
theorem dL_law_121 : decode cL_law 121 = .ok (.iaload, 1) := by decide +kernel
theorem dL_law_122 : decode cL_law 122 = .ok (.aload_n 0, 1) := by decide +kernel
theorem dL_law_123 : decode cL_law 123 = .ok (.iload_n 3, 1) := by decide +kernel
theorem dL_law_124 : decode cL_law 124 = .ok (.iconst 2, 1) := by decide +kernel
theorem dL_law_125 : decode cL_law 125 = .ok (.iadd, 1) := by decide +kernel
theorem dL_law_126 : decode cL_law 126 = .ok (.iaload, 1) := by decide +kernel
theorem dL_law_127 : decode cL_law 127 = .ok (.aload_n 0, 1) := by decide +kernel
theorem dL_law_128 : decode cL_law 128 = .ok (.iload_n 3, 1) := by decide +kernel
theorem dL_law_129 : decode cL_law 129 = .ok (.iconst 3, 1) := by decide +kernel
theorem dL_law_130 : decode cL_law 130 = .ok (.iadd, 1) := by decide +kernel
theorem dL_law_131 : decode cL_law 131 = .ok (.iaload, 1) := by decide +kernel
theorem dL_law_132 : decode cL_law 132 = .ok (.aload_n 0, 1) := by decide +kernel
theorem dL_law_133 : decode cL_law 133 = .ok (.iload_n 3, 1) := by decide +kernel
theorem dL_law_134 : decode cL_law 134 = .ok (.iconst 4, 1) := by decide +kernel
theorem dL_law_135 : decode cL_law 135 = .ok (.iadd, 1) := by decide +kernel
theorem dL_law_136 : decode cL_law 136 = .ok (.iaload, 1) := by decide +kernel
theorem dL_law_137 : decode cL_law 137 = .ok (.aload_n 0, 1) := by decide +kernel
theorem dL_law_138 : decode cL_law 138 = .ok (.iload_n 3, 1) := by decide +kernel
theorem dL_law_139 : decode cL_law 139 = .ok (.iconst 5, 1) := by decide +kernel
theorem dL_law_140 : decode cL_law 140 = .ok (.iadd, 1) := by decide +kernel
theorem dL_law_141 : decode cL_law 141 = .ok (.iaload, 1) := by decide +kernel
theorem dL_law_142 : decode cL_law 142 = .ok (.invokevirtual 13, 3) := by decide +kernel
theorem dL_law_145 : decode cL_law 145 = .ok (.aload_n 2, 1) := by decide +kernel
theorem dL_law_146 : decode cL_law 146 = .ok (.aload_n 0, 1) := by decide +kernel
theorem dL_law_147 : decode cL_law 147 = .ok (.iload_n 3, 1) := by decide +kernel
theorem dL_law_148 : decode cL_law 148 = .ok (.iconst 1, 1) := by decide +kernel
theorem dL_law_149 : decode cL_law 149 = .ok (.iadd, 1) := by decide +kernel
theorem dL_law_150 : decode cL_law 150 = .ok (.iaload, 1) := by decide +kernel
theorem dL_law_151 : decode cL_law 151 = .ok (.aload_n 0, 1) := by decide +kernel
theorem dL_law_152 : decode cL_law 152 = .ok (.iload_n 3, 1) := by decide +kernel
theorem dL_law_153 : decode cL_law 153 = .ok (.iconst 2, 1) := by decide +kernel
theorem dL_law_154 : decode cL_law 154 = .ok (.iadd, 1) := by decide +kernel
theorem dL_law_155 : decode cL_law 155 = .ok (.iaload, 1) := by decide +kernel
theorem dL_law_156 : decode cL_law 156 = .ok (.aload_n 0, 1) := by decide +kernel
theorem dL_law_157 : decode cL_law 157 = .ok (.iload_n 3, 1) := by decide +kernel
theorem dL_law_158 : decode cL_law 158 = .ok (.iconst 3, 1) := by decide +kernel
theorem dL_law_159 : decode cL_law 159 = .ok (.iadd, 1) := by decide +kernel
theorem dL_law_160 : decode cL_law 160 = .ok (.iaload, 1) := by decide +kernel
theorem dL_law_161 : decode cL_law 161 = .ok (.aload_n 0, 1) := by decide +kernel
theorem dL_law_162 : decode cL_law 162 = .ok (.iload_n 3, 1) := by decide +kernel
theorem dL_law_163 : decode cL_law 163 = .ok (.iconst 4, 1) := by decide +kernel
theorem dL_law_164 : decode cL_law 164 = .ok (.iadd, 1) := by decide +kernel
theorem dL_law_165 : decode cL_law 165 = .ok (.iaload, 1) := by decide +kernel
theorem dL_law_166 : decode cL_law 166 = .ok (.aload_n 0, 1) := by decide +kernel
theorem dL_law_167 : decode cL_law 167 = .ok (.iload_n 3, 1) := by decide +kernel
theorem dL_law_168 : decode cL_law 168 = .ok (.iconst 5, 1) := by decide +kernel
theorem dL_law_169 : decode cL_law 169 = .ok (.iadd, 1) := by decide +kernel
theorem dL_law_170 : decode cL_law 170 = .ok (.iaload, 1) := by decide +kernel
theorem dL_law_171 : decode cL_law 171 = .ok (.invokevirtual 17, 3) := by decide +kernel
theorem dL_law_174 : decode cL_law 174 = .ok (.if_icmp .eq 549, 3) := by decide +kernel
theorem dL_law_177 : decode cL_law 177 = .ok (.iconst 0, 1) := by decide +kernel
theorem dL_law_178 : decode cL_law 178 = .ok (.ireturn, 1) := by decide +kernel
theorem dL_law_179 : decode cL_law 179 = .ok (.aload_n 1, 1) := by decide +kernel
theorem dL_law_180 : decode cL_law 180 = .ok (.aload_n 0, 1) := by decide +kernel
theorem dL_law_181 : decode cL_law 181 = .ok (.iload_n 3, 1) := by decide +kernel
theorem dL_law_182 : decode cL_law 182 = .ok (.iconst 1, 1) := by decide +kernel
theorem dL_law_183 : decode cL_law 183 = .ok (.iadd, 1) := by decide +kernel
theorem dL_law_184 : decode cL_law 184 = .ok (.iaload, 1) := by decide +kernel
theorem dL_law_185 : decode cL_law 185 = .ok (.aload_n 0, 1) := by decide +kernel
theorem dL_law_186 : decode cL_law 186 = .ok (.iload_n 3, 1) := by decide +kernel
theorem dL_law_187 : decode cL_law 187 = .ok (.iconst 2, 1) := by decide +kernel
theorem dL_law_188 : decode cL_law 188 = .ok (.iadd, 1) := by decide +kernel
theorem dL_law_189 : decode cL_law 189 = .ok (.iaload, 1) := by decide +kernel
theorem dL_law_190 : decode cL_law 190 = .ok (.invokevirtual 18, 3) := by decide +kernel
theorem dL_law_193 : decode cL_law 193 = .ok (.aload_n 2, 1) := by decide +kernel
theorem dL_law_194 : decode cL_law 194 = .ok (.aload_n 0, 1) := by decide +kernel
theorem dL_law_195 : decode cL_law 195 = .ok (.iload_n 3, 1) := by decide +kernel
theorem dL_law_196 : decode cL_law 196 = .ok (.iconst 1, 1) := by decide +kernel
theorem dL_law_197 : decode cL_law 197 = .ok (.iadd, 1) := by decide +kernel
theorem dL_law_198 : decode cL_law 198 = .ok (.iaload, 1) := by decide +kernel
theorem dL_law_199 : decode cL_law 199 = .ok (.aload_n 0, 1) := by decide +kernel
theorem dL_law_200 : decode cL_law 200 = .ok (.iload_n 3, 1) := by decide +kernel
theorem dL_law_201 : decode cL_law 201 = .ok (.iconst 2, 1) := by decide +kernel
theorem dL_law_202 : decode cL_law 202 = .ok (.iadd, 1) := by decide +kernel
theorem dL_law_203 : decode cL_law 203 = .ok (.iaload, 1) := by decide +kernel
theorem dL_law_204 : decode cL_law 204 = .ok (.invokevirtual 22, 3) := by decide +kernel
theorem dL_law_207 : decode cL_law 207 = .ok (.if_icmp .eq 516, 3) := by decide +kernel
theorem dL_law_210 : decode cL_law 210 = .ok (.iconst 0, 1) := by decide +kernel
theorem dL_law_211 : decode cL_law 211 = .ok (.ireturn, 1) := by decide +kernel
theorem dL_law_212 : decode cL_law 212 = .ok (.aload_n 1, 1) := by decide +kernel
theorem dL_law_213 : decode cL_law 213 = .ok (.aload_n 0, 1) := by decide +kernel
theorem dL_law_214 : decode cL_law 214 = .ok (.iload_n 3, 1) := by decide +kernel
theorem dL_law_215 : decode cL_law 215 = .ok (.iconst 1, 1) := by decide +kernel
theorem dL_law_216 : decode cL_law 216 = .ok (.iadd, 1) := by decide +kernel
theorem dL_law_217 : decode cL_law 217 = .ok (.iaload, 1) := by decide +kernel
theorem dL_law_218 : decode cL_law 218 = .ok (.invokevirtual 23, 3) := by decide +kernel
theorem dL_law_221 : decode cL_law 221 = .ok (.aload_n 2, 1) := by decide +kernel
theorem dL_law_222 : decode cL_law 222 = .ok (.aload_n 0, 1) := by decide +kernel
theorem dL_law_223 : decode cL_law 223 = .ok (.iload_n 3, 1) := by decide +kernel
theorem dL_law_224 : decode cL_law 224 = .ok (.iconst 1, 1) := by decide +kernel
theorem dL_law_225 : decode cL_law 225 = .ok (.iadd, 1) := by decide +kernel
theorem dL_law_226 : decode cL_law 226 = .ok (.iaload, 1) := by decide +kernel
theorem dL_law_227 : decode cL_law 227 = .ok (.invokevirtual 27, 3) := by decide +kernel
theorem dL_law_230 : decode cL_law 230 = .ok (.if_icmp .eq 493, 3) := by decide +kernel
theorem dL_law_233 : decode cL_law 233 = .ok (.iconst 0, 1) := by decide +kernel
theorem dL_law_234 : decode cL_law 234 = .ok (.ireturn, 1) := by decide +kernel
theorem dL_law_235 : decode cL_law 235 = .ok (.aload_n 1, 1) := by decide +kernel
theorem dL_law_236 : decode cL_law 236 = .ok (.aload_n 0, 1) := by decide +kernel
theorem dL_law_237 : decode cL_law 237 = .ok (.iload_n 3, 1) := by decide +kernel
theorem dL_law_238 : decode cL_law 238 = .ok (.iconst 1, 1) := by decide +kernel
theorem dL_law_239 : decode cL_law 239 = .ok (.iadd, 1) := by decide +kernel
theorem dL_law_240 : decode cL_law 240 = .ok (.iaload, 1) := by decide +kernel
theorem dL_law_241 : decode cL_law 241 = .ok (.aload_n 0, 1) := by decide +kernel
theorem dL_law_242 : decode cL_law 242 = .ok (.iload_n 3, 1) := by decide +kernel
theorem dL_law_243 : decode cL_law 243 = .ok (.iconst 2, 1) := by decide +kernel
theorem dL_law_244 : decode cL_law 244 = .ok (.iadd, 1) := by decide +kernel
theorem dL_law_245 : decode cL_law 245 = .ok (.iaload, 1) := by decide +kernel
theorem dL_law_246 : decode cL_law 246 = .ok (.ifCond .eq 7, 3) := by decide +kernel
theorem dL_law_249 : decode cL_law 249 = .ok (.iconst 1, 1) := by decide +kernel
theorem dL_law_250 : decode cL_law 250 = .ok (.goto 4, 3) := by decide +kernel
theorem dL_law_253 : decode cL_law 253 = .ok (.iconst 0, 1) := by decide +kernel
theorem dL_law_254 : decode cL_law 254 = .ok (.aload_n 0, 1) := by decide +kernel
theorem dL_law_255 : decode cL_law 255 = .ok (.iload_n 3, 1) := by decide +kernel
theorem dL_law_256 : decode cL_law 256 = .ok (.iconst 3, 1) := by decide +kernel
theorem dL_law_257 : decode cL_law 257 = .ok (.iadd, 1) := by decide +kernel
theorem dL_law_258 : decode cL_law 258 = .ok (.iaload, 1) := by decide +kernel
theorem dL_law_259 : decode cL_law 259 = .ok (.aload_n 0, 1) := by decide +kernel
theorem dL_law_260 : decode cL_law 260 = .ok (.iload_n 3, 1) := by decide +kernel
theorem dL_law_261 : decode cL_law 261 = .ok (.iconst 4, 1) := by decide +kernel
theorem dL_law_262 : decode cL_law 262 = .ok (.iadd, 1) := by decide +kernel
theorem dL_law_263 : decode cL_law 263 = .ok (.iaload, 1) := by decide +kernel
theorem dL_law_264 : decode cL_law 264 = .ok (.aload_n 0, 1) := by decide +kernel
theorem dL_law_265 : decode cL_law 265 = .ok (.iload_n 3, 1) := by decide +kernel
theorem dL_law_266 : decode cL_law 266 = .ok (.iconst 5, 1) := by decide +kernel
theorem dL_law_267 : decode cL_law 267 = .ok (.iadd, 1) := by decide +kernel
theorem dL_law_268 : decode cL_law 268 = .ok (.iaload, 1) := by decide +kernel
theorem dL_law_269 : decode cL_law 269 = .ok (.invokevirtual 28, 3) := by decide +kernel
theorem dL_law_272 : decode cL_law 272 = .ok (.aload_n 2, 1) := by decide +kernel
theorem dL_law_273 : decode cL_law 273 = .ok (.aload_n 0, 1) := by decide +kernel
theorem dL_law_274 : decode cL_law 274 = .ok (.iload_n 3, 1) := by decide +kernel
theorem dL_law_275 : decode cL_law 275 = .ok (.iconst 1, 1) := by decide +kernel
theorem dL_law_276 : decode cL_law 276 = .ok (.iadd, 1) := by decide +kernel
theorem dL_law_277 : decode cL_law 277 = .ok (.iaload, 1) := by decide +kernel
theorem dL_law_278 : decode cL_law 278 = .ok (.aload_n 0, 1) := by decide +kernel
theorem dL_law_279 : decode cL_law 279 = .ok (.iload_n 3, 1) := by decide +kernel
theorem dL_law_280 : decode cL_law 280 = .ok (.iconst 2, 1) := by decide +kernel
theorem dL_law_281 : decode cL_law 281 = .ok (.iadd, 1) := by decide +kernel
theorem dL_law_282 : decode cL_law 282 = .ok (.iaload, 1) := by decide +kernel
theorem dL_law_283 : decode cL_law 283 = .ok (.ifCond .eq 7, 3) := by decide +kernel
theorem dL_law_286 : decode cL_law 286 = .ok (.iconst 1, 1) := by decide +kernel
theorem dL_law_287 : decode cL_law 287 = .ok (.goto 4, 3) := by decide +kernel
theorem dL_law_290 : decode cL_law 290 = .ok (.iconst 0, 1) := by decide +kernel
theorem dL_law_291 : decode cL_law 291 = .ok (.aload_n 0, 1) := by decide +kernel
theorem dL_law_292 : decode cL_law 292 = .ok (.iload_n 3, 1) := by decide +kernel
theorem dL_law_293 : decode cL_law 293 = .ok (.iconst 3, 1) := by decide +kernel
theorem dL_law_294 : decode cL_law 294 = .ok (.iadd, 1) := by decide +kernel
theorem dL_law_295 : decode cL_law 295 = .ok (.iaload, 1) := by decide +kernel
theorem dL_law_296 : decode cL_law 296 = .ok (.aload_n 0, 1) := by decide +kernel
theorem dL_law_297 : decode cL_law 297 = .ok (.iload_n 3, 1) := by decide +kernel
theorem dL_law_298 : decode cL_law 298 = .ok (.iconst 4, 1) := by decide +kernel
theorem dL_law_299 : decode cL_law 299 = .ok (.iadd, 1) := by decide +kernel
theorem dL_law_300 : decode cL_law 300 = .ok (.iaload, 1) := by decide +kernel
theorem dL_law_301 : decode cL_law 301 = .ok (.aload_n 0, 1) := by decide +kernel
theorem dL_law_302 : decode cL_law 302 = .ok (.iload_n 3, 1) := by decide +kernel
theorem dL_law_303 : decode cL_law 303 = .ok (.iconst 5, 1) := by decide +kernel
theorem dL_law_304 : decode cL_law 304 = .ok (.iadd, 1) := by decide +kernel
theorem dL_law_305 : decode cL_law 305 = .ok (.iaload, 1) := by decide +kernel
theorem dL_law_306 : decode cL_law 306 = .ok (.invokevirtual 32, 3) := by decide +kernel
theorem dL_law_309 : decode cL_law 309 = .ok (.if_icmp .eq 414, 3) := by decide +kernel
theorem dL_law_312 : decode cL_law 312 = .ok (.iconst 0, 1) := by decide +kernel
theorem dL_law_313 : decode cL_law 313 = .ok (.ireturn, 1) := by decide +kernel
theorem dL_law_314 : decode cL_law 314 = .ok (.aload_n 1, 1) := by decide +kernel
theorem dL_law_315 : decode cL_law 315 = .ok (.aload_n 0, 1) := by decide +kernel
theorem dL_law_316 : decode cL_law 316 = .ok (.iload_n 3, 1) := by decide +kernel
theorem dL_law_317 : decode cL_law 317 = .ok (.iconst 1, 1) := by decide +kernel
theorem dL_law_318 : decode cL_law 318 = .ok (.iadd, 1) := by decide +kernel
theorem dL_law_319 : decode cL_law 319 = .ok (.iaload, 1) := by decide +kernel
theorem dL_law_320 : decode cL_law 320 = .ok (.aload_n 0, 1) := by decide +kernel
theorem dL_law_321 : decode cL_law 321 = .ok (.iload_n 3, 1) := by decide +kernel
theorem dL_law_322 : decode cL_law 322 = .ok (.iconst 2, 1) := by decide +kernel
theorem dL_law_323 : decode cL_law 323 = .ok (.iadd, 1) := by decide +kernel
theorem dL_law_324 : decode cL_law 324 = .ok (.iaload, 1) := by decide +kernel
theorem dL_law_325 : decode cL_law 325 = .ok (.aload_n 0, 1) := by decide +kernel
theorem dL_law_326 : decode cL_law 326 = .ok (.iload_n 3, 1) := by decide +kernel
theorem dL_law_327 : decode cL_law 327 = .ok (.iconst 3, 1) := by decide +kernel
theorem dL_law_328 : decode cL_law 328 = .ok (.iadd, 1) := by decide +kernel
theorem dL_law_329 : decode cL_law 329 = .ok (.iaload, 1) := by decide +kernel
theorem dL_law_330 : decode cL_law 330 = .ok (.invokevirtual 33, 3) := by decide +kernel
theorem dL_law_333 : decode cL_law 333 = .ok (.aload_n 2, 1) := by decide +kernel
theorem dL_law_334 : decode cL_law 334 = .ok (.aload_n 0, 1) := by decide +kernel
theorem dL_law_335 : decode cL_law 335 = .ok (.iload_n 3, 1) := by decide +kernel
theorem dL_law_336 : decode cL_law 336 = .ok (.iconst 1, 1) := by decide +kernel
theorem dL_law_337 : decode cL_law 337 = .ok (.iadd, 1) := by decide +kernel
theorem dL_law_338 : decode cL_law 338 = .ok (.iaload, 1) := by decide +kernel
theorem dL_law_339 : decode cL_law 339 = .ok (.aload_n 0, 1) := by decide +kernel
theorem dL_law_340 : decode cL_law 340 = .ok (.iload_n 3, 1) := by decide +kernel
theorem dL_law_341 : decode cL_law 341 = .ok (.iconst 2, 1) := by decide +kernel
theorem dL_law_342 : decode cL_law 342 = .ok (.iadd, 1) := by decide +kernel
theorem dL_law_343 : decode cL_law 343 = .ok (.iaload, 1) := by decide +kernel
theorem dL_law_344 : decode cL_law 344 = .ok (.aload_n 0, 1) := by decide +kernel
theorem dL_law_345 : decode cL_law 345 = .ok (.iload_n 3, 1) := by decide +kernel
theorem dL_law_346 : decode cL_law 346 = .ok (.iconst 3, 1) := by decide +kernel
theorem dL_law_347 : decode cL_law 347 = .ok (.iadd, 1) := by decide +kernel
theorem dL_law_348 : decode cL_law 348 = .ok (.iaload, 1) := by decide +kernel
theorem dL_law_349 : decode cL_law 349 = .ok (.invokevirtual 37, 3) := by decide +kernel
theorem dL_law_352 : decode cL_law 352 = .ok (.if_icmp .eq 371, 3) := by decide +kernel
theorem dL_law_355 : decode cL_law 355 = .ok (.iconst 0, 1) := by decide +kernel
theorem dL_law_356 : decode cL_law 356 = .ok (.ireturn, 1) := by decide +kernel
theorem dL_law_357 : decode cL_law 357 = .ok (.aload_n 1, 1) := by decide +kernel
theorem dL_law_358 : decode cL_law 358 = .ok (.aload_n 0, 1) := by decide +kernel
theorem dL_law_359 : decode cL_law 359 = .ok (.iload_n 3, 1) := by decide +kernel
theorem dL_law_360 : decode cL_law 360 = .ok (.iconst 1, 1) := by decide +kernel
theorem dL_law_361 : decode cL_law 361 = .ok (.iadd, 1) := by decide +kernel
theorem dL_law_362 : decode cL_law 362 = .ok (.iaload, 1) := by decide +kernel
theorem dL_law_363 : decode cL_law 363 = .ok (.invokevirtual 38, 3) := by decide +kernel
theorem dL_law_366 : decode cL_law 366 = .ok (.aload_n 2, 1) := by decide +kernel
theorem dL_law_367 : decode cL_law 367 = .ok (.aload_n 0, 1) := by decide +kernel
theorem dL_law_368 : decode cL_law 368 = .ok (.iload_n 3, 1) := by decide +kernel
theorem dL_law_369 : decode cL_law 369 = .ok (.iconst 1, 1) := by decide +kernel
theorem dL_law_370 : decode cL_law 370 = .ok (.iadd, 1) := by decide +kernel
theorem dL_law_371 : decode cL_law 371 = .ok (.iaload, 1) := by decide +kernel
theorem dL_law_372 : decode cL_law 372 = .ok (.invokevirtual 41, 3) := by decide +kernel
theorem dL_law_375 : decode cL_law 375 = .ok (.if_icmp .eq 348, 3) := by decide +kernel
theorem dL_law_378 : decode cL_law 378 = .ok (.iconst 0, 1) := by decide +kernel
theorem dL_law_379 : decode cL_law 379 = .ok (.ireturn, 1) := by decide +kernel
theorem dL_law_380 : decode cL_law 380 = .ok (.aload_n 1, 1) := by decide +kernel
theorem dL_law_381 : decode cL_law 381 = .ok (.invokevirtual 42, 3) := by decide +kernel
theorem dL_law_384 : decode cL_law 384 = .ok (.aload_n 2, 1) := by decide +kernel
theorem dL_law_385 : decode cL_law 385 = .ok (.invokevirtual 46, 3) := by decide +kernel
theorem dL_law_388 : decode cL_law 388 = .ok (.if_icmp .eq 335, 3) := by decide +kernel
theorem dL_law_391 : decode cL_law 391 = .ok (.iconst 0, 1) := by decide +kernel
theorem dL_law_392 : decode cL_law 392 = .ok (.ireturn, 1) := by decide +kernel
theorem dL_law_393 : decode cL_law 393 = .ok (.aload_n 1, 1) := by decide +kernel
theorem dL_law_394 : decode cL_law 394 = .ok (.aload_n 0, 1) := by decide +kernel
theorem dL_law_395 : decode cL_law 395 = .ok (.iload_n 3, 1) := by decide +kernel
theorem dL_law_396 : decode cL_law 396 = .ok (.iconst 1, 1) := by decide +kernel
theorem dL_law_397 : decode cL_law 397 = .ok (.iadd, 1) := by decide +kernel
theorem dL_law_398 : decode cL_law 398 = .ok (.iaload, 1) := by decide +kernel
theorem dL_law_399 : decode cL_law 399 = .ok (.invokevirtual 47, 3) := by decide +kernel
theorem dL_law_402 : decode cL_law 402 = .ok (.aload_n 2, 1) := by decide +kernel
theorem dL_law_403 : decode cL_law 403 = .ok (.aload_n 0, 1) := by decide +kernel
theorem dL_law_404 : decode cL_law 404 = .ok (.iload_n 3, 1) := by decide +kernel
theorem dL_law_405 : decode cL_law 405 = .ok (.iconst 1, 1) := by decide +kernel
theorem dL_law_406 : decode cL_law 406 = .ok (.iadd, 1) := by decide +kernel
theorem dL_law_407 : decode cL_law 407 = .ok (.iaload, 1) := by decide +kernel
theorem dL_law_408 : decode cL_law 408 = .ok (.invokevirtual 50, 3) := by decide +kernel
theorem dL_law_411 : decode cL_law 411 = .ok (.if_icmp .eq 312, 3) := by decide +kernel
theorem dL_law_414 : decode cL_law 414 = .ok (.iconst 0, 1) := by decide +kernel
theorem dL_law_415 : decode cL_law 415 = .ok (.ireturn, 1) := by decide +kernel
theorem dL_law_416 : decode cL_law 416 = .ok (.aload_n 1, 1) := by decide +kernel
theorem dL_law_417 : decode cL_law 417 = .ok (.aload_n 0, 1) := by decide +kernel
theorem dL_law_418 : decode cL_law 418 = .ok (.iload_n 3, 1) := by decide +kernel
theorem dL_law_419 : decode cL_law 419 = .ok (.iconst 1, 1) := by decide +kernel
theorem dL_law_420 : decode cL_law 420 = .ok (.iadd, 1) := by decide +kernel
theorem dL_law_421 : decode cL_law 421 = .ok (.iaload, 1) := by decide +kernel
theorem dL_law_422 : decode cL_law 422 = .ok (.aload_n 0, 1) := by decide +kernel
theorem dL_law_423 : decode cL_law 423 = .ok (.iload_n 3, 1) := by decide +kernel
theorem dL_law_424 : decode cL_law 424 = .ok (.iconst 2, 1) := by decide +kernel
theorem dL_law_425 : decode cL_law 425 = .ok (.iadd, 1) := by decide +kernel
theorem dL_law_426 : decode cL_law 426 = .ok (.iaload, 1) := by decide +kernel
theorem dL_law_427 : decode cL_law 427 = .ok (.aload_n 0, 1) := by decide +kernel
theorem dL_law_428 : decode cL_law 428 = .ok (.iload_n 3, 1) := by decide +kernel
theorem dL_law_429 : decode cL_law 429 = .ok (.iconst 3, 1) := by decide +kernel
theorem dL_law_430 : decode cL_law 430 = .ok (.iadd, 1) := by decide +kernel
theorem dL_law_431 : decode cL_law 431 = .ok (.iaload, 1) := by decide +kernel
theorem dL_law_432 : decode cL_law 432 = .ok (.aload_n 0, 1) := by decide +kernel
theorem dL_law_433 : decode cL_law 433 = .ok (.iload_n 3, 1) := by decide +kernel
theorem dL_law_434 : decode cL_law 434 = .ok (.iconst 4, 1) := by decide +kernel
theorem dL_law_435 : decode cL_law 435 = .ok (.iadd, 1) := by decide +kernel
theorem dL_law_436 : decode cL_law 436 = .ok (.iaload, 1) := by decide +kernel
theorem dL_law_437 : decode cL_law 437 = .ok (.invokevirtual 51, 3) := by decide +kernel
theorem dL_law_440 : decode cL_law 440 = .ok (.aload_n 2, 1) := by decide +kernel
theorem dL_law_441 : decode cL_law 441 = .ok (.aload_n 0, 1) := by decide +kernel
theorem dL_law_442 : decode cL_law 442 = .ok (.iload_n 3, 1) := by decide +kernel
theorem dL_law_443 : decode cL_law 443 = .ok (.iconst 1, 1) := by decide +kernel
theorem dL_law_444 : decode cL_law 444 = .ok (.iadd, 1) := by decide +kernel
theorem dL_law_445 : decode cL_law 445 = .ok (.iaload, 1) := by decide +kernel
theorem dL_law_446 : decode cL_law 446 = .ok (.aload_n 0, 1) := by decide +kernel
theorem dL_law_447 : decode cL_law 447 = .ok (.iload_n 3, 1) := by decide +kernel
theorem dL_law_448 : decode cL_law 448 = .ok (.iconst 2, 1) := by decide +kernel
theorem dL_law_449 : decode cL_law 449 = .ok (.iadd, 1) := by decide +kernel
theorem dL_law_450 : decode cL_law 450 = .ok (.iaload, 1) := by decide +kernel
theorem dL_law_451 : decode cL_law 451 = .ok (.aload_n 0, 1) := by decide +kernel
theorem dL_law_452 : decode cL_law 452 = .ok (.iload_n 3, 1) := by decide +kernel
theorem dL_law_453 : decode cL_law 453 = .ok (.iconst 3, 1) := by decide +kernel
theorem dL_law_454 : decode cL_law 454 = .ok (.iadd, 1) := by decide +kernel
theorem dL_law_455 : decode cL_law 455 = .ok (.iaload, 1) := by decide +kernel
theorem dL_law_456 : decode cL_law 456 = .ok (.aload_n 0, 1) := by decide +kernel
theorem dL_law_457 : decode cL_law 457 = .ok (.iload_n 3, 1) := by decide +kernel
theorem dL_law_458 : decode cL_law 458 = .ok (.iconst 4, 1) := by decide +kernel
theorem dL_law_459 : decode cL_law 459 = .ok (.iadd, 1) := by decide +kernel
theorem dL_law_460 : decode cL_law 460 = .ok (.iaload, 1) := by decide +kernel
theorem dL_law_461 : decode cL_law 461 = .ok (.invokevirtual 55, 3) := by decide +kernel
theorem dL_law_464 : decode cL_law 464 = .ok (.if_icmp .eq 259, 3) := by decide +kernel
theorem dL_law_467 : decode cL_law 467 = .ok (.iconst 0, 1) := by decide +kernel
theorem dL_law_468 : decode cL_law 468 = .ok (.ireturn, 1) := by decide +kernel
theorem dL_law_469 : decode cL_law 469 = .ok (.aload_n 1, 1) := by decide +kernel
theorem dL_law_470 : decode cL_law 470 = .ok (.invokevirtual 56, 3) := by decide +kernel
theorem dL_law_473 : decode cL_law 473 = .ok (.aload_n 2, 1) := by decide +kernel
theorem dL_law_474 : decode cL_law 474 = .ok (.invokevirtual 59, 3) := by decide +kernel
theorem dL_law_477 : decode cL_law 477 = .ok (.if_icmp .eq 246, 3) := by decide +kernel
theorem dL_law_480 : decode cL_law 480 = .ok (.iconst 0, 1) := by decide +kernel
theorem dL_law_481 : decode cL_law 481 = .ok (.ireturn, 1) := by decide +kernel
theorem dL_law_482 : decode cL_law 482 = .ok (.aload_n 1, 1) := by decide +kernel
theorem dL_law_483 : decode cL_law 483 = .ok (.aload_n 0, 1) := by decide +kernel
theorem dL_law_484 : decode cL_law 484 = .ok (.iload_n 3, 1) := by decide +kernel
theorem dL_law_485 : decode cL_law 485 = .ok (.iconst 1, 1) := by decide +kernel
theorem dL_law_486 : decode cL_law 486 = .ok (.iadd, 1) := by decide +kernel
theorem dL_law_487 : decode cL_law 487 = .ok (.iaload, 1) := by decide +kernel
theorem dL_law_488 : decode cL_law 488 = .ok (.aload_n 0, 1) := by decide +kernel
theorem dL_law_489 : decode cL_law 489 = .ok (.iload_n 3, 1) := by decide +kernel
theorem dL_law_490 : decode cL_law 490 = .ok (.iconst 2, 1) := by decide +kernel
theorem dL_law_491 : decode cL_law 491 = .ok (.iadd, 1) := by decide +kernel
theorem dL_law_492 : decode cL_law 492 = .ok (.iaload, 1) := by decide +kernel
theorem dL_law_493 : decode cL_law 493 = .ok (.invokevirtual 60, 3) := by decide +kernel
theorem dL_law_496 : decode cL_law 496 = .ok (.aload_n 2, 1) := by decide +kernel
theorem dL_law_497 : decode cL_law 497 = .ok (.aload_n 0, 1) := by decide +kernel
theorem dL_law_498 : decode cL_law 498 = .ok (.iload_n 3, 1) := by decide +kernel
theorem dL_law_499 : decode cL_law 499 = .ok (.iconst 1, 1) := by decide +kernel
theorem dL_law_500 : decode cL_law 500 = .ok (.iadd, 1) := by decide +kernel
theorem dL_law_501 : decode cL_law 501 = .ok (.iaload, 1) := by decide +kernel
theorem dL_law_502 : decode cL_law 502 = .ok (.aload_n 0, 1) := by decide +kernel
theorem dL_law_503 : decode cL_law 503 = .ok (.iload_n 3, 1) := by decide +kernel
theorem dL_law_504 : decode cL_law 504 = .ok (.iconst 2, 1) := by decide +kernel
theorem dL_law_505 : decode cL_law 505 = .ok (.iadd, 1) := by decide +kernel
theorem dL_law_506 : decode cL_law 506 = .ok (.iaload, 1) := by decide +kernel
theorem dL_law_507 : decode cL_law 507 = .ok (.invokevirtual 64, 3) := by decide +kernel
theorem dL_law_510 : decode cL_law 510 = .ok (.if_icmp .eq 213, 3) := by decide +kernel
theorem dL_law_513 : decode cL_law 513 = .ok (.iconst 0, 1) := by decide +kernel
theorem dL_law_514 : decode cL_law 514 = .ok (.ireturn, 1) := by decide +kernel
theorem dL_law_515 : decode cL_law 515 = .ok (.aload_n 1, 1) := by decide +kernel
theorem dL_law_516 : decode cL_law 516 = .ok (.aload_n 0, 1) := by decide +kernel
theorem dL_law_517 : decode cL_law 517 = .ok (.iload_n 3, 1) := by decide +kernel
theorem dL_law_518 : decode cL_law 518 = .ok (.iconst 1, 1) := by decide +kernel
theorem dL_law_519 : decode cL_law 519 = .ok (.iadd, 1) := by decide +kernel
theorem dL_law_520 : decode cL_law 520 = .ok (.iaload, 1) := by decide +kernel
theorem dL_law_521 : decode cL_law 521 = .ok (.aload_n 0, 1) := by decide +kernel
theorem dL_law_522 : decode cL_law 522 = .ok (.iload_n 3, 1) := by decide +kernel
theorem dL_law_523 : decode cL_law 523 = .ok (.iconst 2, 1) := by decide +kernel
theorem dL_law_524 : decode cL_law 524 = .ok (.iadd, 1) := by decide +kernel
theorem dL_law_525 : decode cL_law 525 = .ok (.iaload, 1) := by decide +kernel
theorem dL_law_526 : decode cL_law 526 = .ok (.invokevirtual 65, 3) := by decide +kernel
theorem dL_law_529 : decode cL_law 529 = .ok (.aload_n 2, 1) := by decide +kernel
theorem dL_law_530 : decode cL_law 530 = .ok (.aload_n 0, 1) := by decide +kernel
theorem dL_law_531 : decode cL_law 531 = .ok (.iload_n 3, 1) := by decide +kernel
theorem dL_law_532 : decode cL_law 532 = .ok (.iconst 1, 1) := by decide +kernel
theorem dL_law_533 : decode cL_law 533 = .ok (.iadd, 1) := by decide +kernel
theorem dL_law_534 : decode cL_law 534 = .ok (.iaload, 1) := by decide +kernel
theorem dL_law_535 : decode cL_law 535 = .ok (.aload_n 0, 1) := by decide +kernel
theorem dL_law_536 : decode cL_law 536 = .ok (.iload_n 3, 1) := by decide +kernel
theorem dL_law_537 : decode cL_law 537 = .ok (.iconst 2, 1) := by decide +kernel
theorem dL_law_538 : decode cL_law 538 = .ok (.iadd, 1) := by decide +kernel
theorem dL_law_539 : decode cL_law 539 = .ok (.iaload, 1) := by decide +kernel
theorem dL_law_540 : decode cL_law 540 = .ok (.invokevirtual 68, 3) := by decide +kernel
theorem dL_law_543 : decode cL_law 543 = .ok (.if_icmp .eq 180, 3) := by decide +kernel
theorem dL_law_546 : decode cL_law 546 = .ok (.iconst 0, 1) := by decide +kernel
theorem dL_law_547 : decode cL_law 547 = .ok (.ireturn, 1) := by decide +kernel
theorem dL_law_548 : decode cL_law 548 = .ok (.aload_n 1, 1) := by decide +kernel
theorem dL_law_549 : decode cL_law 549 = .ok (.aload_n 0, 1) := by decide +kernel
theorem dL_law_550 : decode cL_law 550 = .ok (.iload_n 3, 1) := by decide +kernel
theorem dL_law_551 : decode cL_law 551 = .ok (.iconst 1, 1) := by decide +kernel
theorem dL_law_552 : decode cL_law 552 = .ok (.iadd, 1) := by decide +kernel
theorem dL_law_553 : decode cL_law 553 = .ok (.iaload, 1) := by decide +kernel
theorem dL_law_554 : decode cL_law 554 = .ok (.aload_n 0, 1) := by decide +kernel
theorem dL_law_555 : decode cL_law 555 = .ok (.iload_n 3, 1) := by decide +kernel
theorem dL_law_556 : decode cL_law 556 = .ok (.iconst 2, 1) := by decide +kernel
theorem dL_law_557 : decode cL_law 557 = .ok (.iadd, 1) := by decide +kernel
theorem dL_law_558 : decode cL_law 558 = .ok (.iaload, 1) := by decide +kernel
theorem dL_law_559 : decode cL_law 559 = .ok (.aload_n 0, 1) := by decide +kernel
theorem dL_law_560 : decode cL_law 560 = .ok (.iload_n 3, 1) := by decide +kernel
theorem dL_law_561 : decode cL_law 561 = .ok (.iconst 3, 1) := by decide +kernel
theorem dL_law_562 : decode cL_law 562 = .ok (.iadd, 1) := by decide +kernel
theorem dL_law_563 : decode cL_law 563 = .ok (.iaload, 1) := by decide +kernel
theorem dL_law_564 : decode cL_law 564 = .ok (.invokevirtual 69, 3) := by decide +kernel
theorem dL_law_567 : decode cL_law 567 = .ok (.aload_n 2, 1) := by decide +kernel
theorem dL_law_568 : decode cL_law 568 = .ok (.aload_n 0, 1) := by decide +kernel
theorem dL_law_569 : decode cL_law 569 = .ok (.iload_n 3, 1) := by decide +kernel
theorem dL_law_570 : decode cL_law 570 = .ok (.iconst 1, 1) := by decide +kernel
theorem dL_law_571 : decode cL_law 571 = .ok (.iadd, 1) := by decide +kernel
theorem dL_law_572 : decode cL_law 572 = .ok (.iaload, 1) := by decide +kernel
theorem dL_law_573 : decode cL_law 573 = .ok (.aload_n 0, 1) := by decide +kernel
theorem dL_law_574 : decode cL_law 574 = .ok (.iload_n 3, 1) := by decide +kernel
theorem dL_law_575 : decode cL_law 575 = .ok (.iconst 2, 1) := by decide +kernel
theorem dL_law_576 : decode cL_law 576 = .ok (.iadd, 1) := by decide +kernel
theorem dL_law_577 : decode cL_law 577 = .ok (.iaload, 1) := by decide +kernel
theorem dL_law_578 : decode cL_law 578 = .ok (.aload_n 0, 1) := by decide +kernel
theorem dL_law_579 : decode cL_law 579 = .ok (.iload_n 3, 1) := by decide +kernel
theorem dL_law_580 : decode cL_law 580 = .ok (.iconst 3, 1) := by decide +kernel
theorem dL_law_581 : decode cL_law 581 = .ok (.iadd, 1) := by decide +kernel
theorem dL_law_582 : decode cL_law 582 = .ok (.iaload, 1) := by decide +kernel
theorem dL_law_583 : decode cL_law 583 = .ok (.invokevirtual 73, 3) := by decide +kernel
theorem dL_law_586 : decode cL_law 586 = .ok (.if_icmp .eq 137, 3) := by decide +kernel
theorem dL_law_589 : decode cL_law 589 = .ok (.iconst 0, 1) := by decide +kernel
theorem dL_law_590 : decode cL_law 590 = .ok (.ireturn, 1) := by decide +kernel
theorem dL_law_591 : decode cL_law 591 = .ok (.aload_n 1, 1) := by decide +kernel
theorem dL_law_592 : decode cL_law 592 = .ok (.aload_n 0, 1) := by decide +kernel
theorem dL_law_593 : decode cL_law 593 = .ok (.iload_n 3, 1) := by decide +kernel
theorem dL_law_594 : decode cL_law 594 = .ok (.iconst 1, 1) := by decide +kernel
theorem dL_law_595 : decode cL_law 595 = .ok (.iadd, 1) := by decide +kernel
theorem dL_law_596 : decode cL_law 596 = .ok (.iaload, 1) := by decide +kernel
theorem dL_law_597 : decode cL_law 597 = .ok (.invokevirtual 74, 3) := by decide +kernel
theorem dL_law_600 : decode cL_law 600 = .ok (.aload_n 2, 1) := by decide +kernel
theorem dL_law_601 : decode cL_law 601 = .ok (.aload_n 0, 1) := by decide +kernel
theorem dL_law_602 : decode cL_law 602 = .ok (.iload_n 3, 1) := by decide +kernel
theorem dL_law_603 : decode cL_law 603 = .ok (.iconst 1, 1) := by decide +kernel
theorem dL_law_604 : decode cL_law 604 = .ok (.iadd, 1) := by decide +kernel
theorem dL_law_605 : decode cL_law 605 = .ok (.iaload, 1) := by decide +kernel
theorem dL_law_606 : decode cL_law 606 = .ok (.invokevirtual 78, 3) := by decide +kernel
theorem dL_law_609 : decode cL_law 609 = .ok (.if_icmp .eq 114, 3) := by decide +kernel
theorem dL_law_612 : decode cL_law 612 = .ok (.iconst 0, 1) := by decide +kernel
theorem dL_law_613 : decode cL_law 613 = .ok (.ireturn, 1) := by decide +kernel
theorem dL_law_614 : decode cL_law 614 = .ok (.aload_n 1, 1) := by decide +kernel
theorem dL_law_615 : decode cL_law 615 = .ok (.aload_n 0, 1) := by decide +kernel
theorem dL_law_616 : decode cL_law 616 = .ok (.iload_n 3, 1) := by decide +kernel
theorem dL_law_617 : decode cL_law 617 = .ok (.iconst 1, 1) := by decide +kernel
theorem dL_law_618 : decode cL_law 618 = .ok (.iadd, 1) := by decide +kernel
theorem dL_law_619 : decode cL_law 619 = .ok (.iaload, 1) := by decide +kernel
theorem dL_law_620 : decode cL_law 620 = .ok (.aload_n 0, 1) := by decide +kernel
theorem dL_law_621 : decode cL_law 621 = .ok (.iload_n 3, 1) := by decide +kernel
theorem dL_law_622 : decode cL_law 622 = .ok (.iconst 2, 1) := by decide +kernel
theorem dL_law_623 : decode cL_law 623 = .ok (.iadd, 1) := by decide +kernel
theorem dL_law_624 : decode cL_law 624 = .ok (.iaload, 1) := by decide +kernel
theorem dL_law_625 : decode cL_law 625 = .ok (.invokevirtual 79, 3) := by decide +kernel
theorem dL_law_628 : decode cL_law 628 = .ok (.aload_n 2, 1) := by decide +kernel
theorem dL_law_629 : decode cL_law 629 = .ok (.aload_n 0, 1) := by decide +kernel
theorem dL_law_630 : decode cL_law 630 = .ok (.iload_n 3, 1) := by decide +kernel
theorem dL_law_631 : decode cL_law 631 = .ok (.iconst 1, 1) := by decide +kernel
theorem dL_law_632 : decode cL_law 632 = .ok (.iadd, 1) := by decide +kernel
theorem dL_law_633 : decode cL_law 633 = .ok (.iaload, 1) := by decide +kernel
theorem dL_law_634 : decode cL_law 634 = .ok (.aload_n 0, 1) := by decide +kernel
theorem dL_law_635 : decode cL_law 635 = .ok (.iload_n 3, 1) := by decide +kernel
theorem dL_law_636 : decode cL_law 636 = .ok (.iconst 2, 1) := by decide +kernel
theorem dL_law_637 : decode cL_law 637 = .ok (.iadd, 1) := by decide +kernel
theorem dL_law_638 : decode cL_law 638 = .ok (.iaload, 1) := by decide +kernel
theorem dL_law_639 : decode cL_law 639 = .ok (.invokevirtual 82, 3) := by decide +kernel
theorem dL_law_642 : decode cL_law 642 = .ok (.if_icmp .eq 81, 3) := by decide +kernel
theorem dL_law_645 : decode cL_law 645 = .ok (.iconst 0, 1) := by decide +kernel
theorem dL_law_646 : decode cL_law 646 = .ok (.ireturn, 1) := by decide +kernel
theorem dL_law_647 : decode cL_law 647 = .ok (.aload_n 1, 1) := by decide +kernel
theorem dL_law_648 : decode cL_law 648 = .ok (.aload_n 0, 1) := by decide +kernel
theorem dL_law_649 : decode cL_law 649 = .ok (.iload_n 3, 1) := by decide +kernel
theorem dL_law_650 : decode cL_law 650 = .ok (.iconst 1, 1) := by decide +kernel
theorem dL_law_651 : decode cL_law 651 = .ok (.iadd, 1) := by decide +kernel
theorem dL_law_652 : decode cL_law 652 = .ok (.iaload, 1) := by decide +kernel
theorem dL_law_653 : decode cL_law 653 = .ok (.aload_n 0, 1) := by decide +kernel
theorem dL_law_654 : decode cL_law 654 = .ok (.iload_n 3, 1) := by decide +kernel
theorem dL_law_655 : decode cL_law 655 = .ok (.iconst 2, 1) := by decide +kernel
theorem dL_law_656 : decode cL_law 656 = .ok (.iadd, 1) := by decide +kernel
theorem dL_law_657 : decode cL_law 657 = .ok (.iaload, 1) := by decide +kernel
theorem dL_law_658 : decode cL_law 658 = .ok (.aload_n 0, 1) := by decide +kernel
theorem dL_law_659 : decode cL_law 659 = .ok (.iload_n 3, 1) := by decide +kernel
theorem dL_law_660 : decode cL_law 660 = .ok (.iconst 3, 1) := by decide +kernel
theorem dL_law_661 : decode cL_law 661 = .ok (.iadd, 1) := by decide +kernel
theorem dL_law_662 : decode cL_law 662 = .ok (.iaload, 1) := by decide +kernel
theorem dL_law_663 : decode cL_law 663 = .ok (.invokevirtual 83, 3) := by decide +kernel
theorem dL_law_666 : decode cL_law 666 = .ok (.aload_n 2, 1) := by decide +kernel
theorem dL_law_667 : decode cL_law 667 = .ok (.aload_n 0, 1) := by decide +kernel
theorem dL_law_668 : decode cL_law 668 = .ok (.iload_n 3, 1) := by decide +kernel
theorem dL_law_669 : decode cL_law 669 = .ok (.iconst 1, 1) := by decide +kernel
theorem dL_law_670 : decode cL_law 670 = .ok (.iadd, 1) := by decide +kernel
theorem dL_law_671 : decode cL_law 671 = .ok (.iaload, 1) := by decide +kernel
theorem dL_law_672 : decode cL_law 672 = .ok (.aload_n 0, 1) := by decide +kernel
theorem dL_law_673 : decode cL_law 673 = .ok (.iload_n 3, 1) := by decide +kernel
theorem dL_law_674 : decode cL_law 674 = .ok (.iconst 2, 1) := by decide +kernel
theorem dL_law_675 : decode cL_law 675 = .ok (.iadd, 1) := by decide +kernel
theorem dL_law_676 : decode cL_law 676 = .ok (.iaload, 1) := by decide +kernel
theorem dL_law_677 : decode cL_law 677 = .ok (.aload_n 0, 1) := by decide +kernel
theorem dL_law_678 : decode cL_law 678 = .ok (.iload_n 3, 1) := by decide +kernel
theorem dL_law_679 : decode cL_law 679 = .ok (.iconst 3, 1) := by decide +kernel
theorem dL_law_680 : decode cL_law 680 = .ok (.iadd, 1) := by decide +kernel
theorem dL_law_681 : decode cL_law 681 = .ok (.iaload, 1) := by decide +kernel
theorem dL_law_682 : decode cL_law 682 = .ok (.invokevirtual 86, 3) := by decide +kernel
theorem dL_law_685 : decode cL_law 685 = .ok (.if_icmp .eq 38, 3) := by decide +kernel
theorem dL_law_688 : decode cL_law 688 = .ok (.iconst 0, 1) := by decide +kernel
theorem dL_law_689 : decode cL_law 689 = .ok (.ireturn, 1) := by decide +kernel
theorem dL_law_690 : decode cL_law 690 = .ok (.aload_n 1, 1) := by decide +kernel
theorem dL_law_691 : decode cL_law 691 = .ok (.aload_n 0, 1) := by decide +kernel
theorem dL_law_692 : decode cL_law 692 = .ok (.iload_n 3, 1) := by decide +kernel
theorem dL_law_693 : decode cL_law 693 = .ok (.iconst 1, 1) := by decide +kernel
theorem dL_law_694 : decode cL_law 694 = .ok (.iadd, 1) := by decide +kernel
theorem dL_law_695 : decode cL_law 695 = .ok (.iaload, 1) := by decide +kernel
theorem dL_law_696 : decode cL_law 696 = .ok (.aload_n 0, 1) := by decide +kernel
theorem dL_law_697 : decode cL_law 697 = .ok (.iload_n 3, 1) := by decide +kernel
theorem dL_law_698 : decode cL_law 698 = .ok (.iconst 2, 1) := by decide +kernel
theorem dL_law_699 : decode cL_law 699 = .ok (.iadd, 1) := by decide +kernel
theorem dL_law_700 : decode cL_law 700 = .ok (.iaload, 1) := by decide +kernel
theorem dL_law_701 : decode cL_law 701 = .ok (.invokevirtual 87, 3) := by decide +kernel
theorem dL_law_704 : decode cL_law 704 = .ok (.aload_n 2, 1) := by decide +kernel
theorem dL_law_705 : decode cL_law 705 = .ok (.aload_n 0, 1) := by decide +kernel
theorem dL_law_706 : decode cL_law 706 = .ok (.iload_n 3, 1) := by decide +kernel
theorem dL_law_707 : decode cL_law 707 = .ok (.iconst 1, 1) := by decide +kernel
theorem dL_law_708 : decode cL_law 708 = .ok (.iadd, 1) := by decide +kernel
theorem dL_law_709 : decode cL_law 709 = .ok (.iaload, 1) := by decide +kernel
theorem dL_law_710 : decode cL_law 710 = .ok (.aload_n 0, 1) := by decide +kernel
theorem dL_law_711 : decode cL_law 711 = .ok (.iload_n 3, 1) := by decide +kernel
theorem dL_law_712 : decode cL_law 712 = .ok (.iconst 2, 1) := by decide +kernel
theorem dL_law_713 : decode cL_law 713 = .ok (.iadd, 1) := by decide +kernel
theorem dL_law_714 : decode cL_law 714 = .ok (.iaload, 1) := by decide +kernel
theorem dL_law_715 : decode cL_law 715 = .ok (.invokevirtual 90, 3) := by decide +kernel
theorem dL_law_718 : decode cL_law 718 = .ok (.if_icmp .eq 5, 3) := by decide +kernel
theorem dL_law_721 : decode cL_law 721 = .ok (.iconst 0, 1) := by decide +kernel
theorem dL_law_722 : decode cL_law 722 = .ok (.ireturn, 1) := by decide +kernel
theorem dL_law_723 : decode cL_law 723 = .ok (.iinc 3 6, 3) := by decide +kernel
theorem dL_law_726 : decode cL_law 726 = .ok (.goto (-708), 3) := by decide +kernel
theorem dL_law_729 : decode cL_law 729 = .ok (.iconst 1, 1) := by decide +kernel
theorem dL_law_730 : decode cL_law 730 = .ok (.ireturn, 1) := by decide +kernel
abbrev vwCl : List vw_C := [(RX0, TX0, 3), (RX1, TX1, 10), (RX2, TX2, 6), (RX3, TX3, 4), (RX4, TX4, 4), (RX5, TX5, 21)]
end
section
/-! ===== the ground: booleans, environment, read-only contracts, call rows ===== -/
def b2i (b : Bool) : Int32 := if b then 1 else 0
theorem b2i_f {b : Bool} (h : b2i b = 0) : ¬ (b = true) := fun e => by rw [e] at h; exact absurd h (by decide)
theorem b2i_t {b : Bool} (h : ¬ b2i b = 0) : b = true := by cases b with | true => rfl | false => exact absurd rfl h
theorem b2i_nar (b : Bool) : narrow .boolean (.int (b2i b)) = .int (b2i b) := by cases b <;> rfl
theorem b2i_dec {c : Prop} {i : Decidable c} : b2i (decide c) = if c then 1 else 0 := by by_cases h : c <;> simp [b2i, h]
def nwl : List Cond := [.fieldLinkNest RX4 38 "LinkPredictor$Build" "types" "LLinkPredictor$Hierarchy;" "LinkPredictor", .fieldLinkNest RX4 58 "LinkPredictor$Build" "members" "LLinkPredictor$Members;" "LinkPredictor", .fieldLinkNest RX0 71 "LinkPredictor$Reference" "kind" "I" "LinkPredictor", .fieldLinkNest RX0 51 "LinkPredictor$Reference" "holder" "I" "LinkPredictor", .fieldLinkNest RX0 64 "LinkPredictor$Reference" "way" "I" "LinkPredictor", .fieldLinkNest RX0 99 "LinkPredictor$Reference" "sign" "I" "LinkPredictor", .methodLinkNest RX4 11 yX0_init "LinkPredictor", .methodLinkNest RX1 36 yX4_bit "LinkPredictor", .methodLinkNest RX1 57 yX4_contains "LinkPredictor", .methodLinkNest RX1 61 yX4_isGood "LinkPredictor", .methodLinkNest RX0 20 yX2_init "LinkPredictor", .methodLinkNest RX4 22 yX3_init "LinkPredictor", .methodLinkNest RX2 39 yX4_bit "LinkPredictor", .methodLinkNest RX2 49 yX4_contains "LinkPredictor", .methodLinkNest RX2 64 yX4_isWithin "LinkPredictor", .methodLinkNest RX0 61 yX4_isGood "LinkPredictor", .methodLinkNest RX0 115 yX4_contains "LinkPredictor", .methodLinkNest RX0 118 yX4_bit "LinkPredictor"]
def NW (U : State) : Prop := ∀ w ∈ nwl, va_Nw w U
theorem NW.warm {s U : State} (hW : s.WarmedH U.vm) (h : NW s) : NW U := List.forall_mem_cons.mpr ⟨va_Nw.warmF hW (h _ (List.mem_of_getElem? (i := 0) rfl)), List.forall_mem_cons.mpr ⟨va_Nw.warmF hW (h _ (List.mem_of_getElem? (i := 1) rfl)), List.forall_mem_cons.mpr ⟨va_Nw.warmF hW (h _ (List.mem_of_getElem? (i := 2) rfl)), List.forall_mem_cons.mpr ⟨va_Nw.warmF hW (h _ (List.mem_of_getElem? (i := 3) rfl)), List.forall_mem_cons.mpr ⟨va_Nw.warmF hW (h _ (List.mem_of_getElem? (i := 4) rfl)), List.forall_mem_cons.mpr ⟨va_Nw.warmF hW (h _ (List.mem_of_getElem? (i := 5) rfl)), List.forall_mem_cons.mpr ⟨va_Nw.warmM hW (h _ (List.mem_of_getElem? (i := 6) rfl)), List.forall_mem_cons.mpr ⟨va_Nw.warmM hW (h _ (List.mem_of_getElem? (i := 7) rfl)), List.forall_mem_cons.mpr ⟨va_Nw.warmM hW (h _ (List.mem_of_getElem? (i := 8) rfl)), List.forall_mem_cons.mpr ⟨va_Nw.warmM hW (h _ (List.mem_of_getElem? (i := 9) rfl)), List.forall_mem_cons.mpr ⟨va_Nw.warmM hW (h _ (List.mem_of_getElem? (i := 10) rfl)), List.forall_mem_cons.mpr ⟨va_Nw.warmM hW (h _ (List.mem_of_getElem? (i := 11) rfl)), List.forall_mem_cons.mpr ⟨va_Nw.warmM hW (h _ (List.mem_of_getElem? (i := 12) rfl)), List.forall_mem_cons.mpr ⟨va_Nw.warmM hW (h _ (List.mem_of_getElem? (i := 13) rfl)), List.forall_mem_cons.mpr ⟨va_Nw.warmM hW (h _ (List.mem_of_getElem? (i := 14) rfl)), List.forall_mem_cons.mpr ⟨va_Nw.warmM hW (h _ (List.mem_of_getElem? (i := 15) rfl)), List.forall_mem_cons.mpr ⟨va_Nw.warmM hW (h _ (List.mem_of_getElem? (i := 16) rfl)), List.forall_mem_cons.mpr ⟨va_Nw.warmM hW (h _ (List.mem_of_getElem? (i := 17) rfl)), fun _ h => absurd h List.not_mem_nil⟩⟩⟩⟩⟩⟩⟩⟩⟩⟩⟩⟩⟩⟩⟩⟩⟩⟩
theorem NW.same {s U : State} (hv : s.vm = U.vm) (h : NW s) : NW U := List.forall_mem_cons.mpr ⟨va_Nw.same rfl hv (h _ (List.mem_of_getElem? (i := 0) rfl)), List.forall_mem_cons.mpr ⟨va_Nw.same rfl hv (h _ (List.mem_of_getElem? (i := 1) rfl)), List.forall_mem_cons.mpr ⟨va_Nw.same rfl hv (h _ (List.mem_of_getElem? (i := 2) rfl)), List.forall_mem_cons.mpr ⟨va_Nw.same rfl hv (h _ (List.mem_of_getElem? (i := 3) rfl)), List.forall_mem_cons.mpr ⟨va_Nw.same rfl hv (h _ (List.mem_of_getElem? (i := 4) rfl)), List.forall_mem_cons.mpr ⟨va_Nw.same rfl hv (h _ (List.mem_of_getElem? (i := 5) rfl)), List.forall_mem_cons.mpr ⟨va_Nw.same rfl hv (h _ (List.mem_of_getElem? (i := 6) rfl)), List.forall_mem_cons.mpr ⟨va_Nw.same rfl hv (h _ (List.mem_of_getElem? (i := 7) rfl)), List.forall_mem_cons.mpr ⟨va_Nw.same rfl hv (h _ (List.mem_of_getElem? (i := 8) rfl)), List.forall_mem_cons.mpr ⟨va_Nw.same rfl hv (h _ (List.mem_of_getElem? (i := 9) rfl)), List.forall_mem_cons.mpr ⟨va_Nw.same rfl hv (h _ (List.mem_of_getElem? (i := 10) rfl)), List.forall_mem_cons.mpr ⟨va_Nw.same rfl hv (h _ (List.mem_of_getElem? (i := 11) rfl)), List.forall_mem_cons.mpr ⟨va_Nw.same rfl hv (h _ (List.mem_of_getElem? (i := 12) rfl)), List.forall_mem_cons.mpr ⟨va_Nw.same rfl hv (h _ (List.mem_of_getElem? (i := 13) rfl)), List.forall_mem_cons.mpr ⟨va_Nw.same rfl hv (h _ (List.mem_of_getElem? (i := 14) rfl)), List.forall_mem_cons.mpr ⟨va_Nw.same rfl hv (h _ (List.mem_of_getElem? (i := 15) rfl)), List.forall_mem_cons.mpr ⟨va_Nw.same rfl hv (h _ (List.mem_of_getElem? (i := 16) rfl)), List.forall_mem_cons.mpr ⟨va_Nw.same rfl hv (h _ (List.mem_of_getElem? (i := 17) rfl)), fun _ h => absurd h List.not_mem_nil⟩⟩⟩⟩⟩⟩⟩⟩⟩⟩⟩⟩⟩⟩⟩⟩⟩⟩
/-- the environment: what the tables say of the classes and arrays, and of the nest mates -/
def tysA (cI cZ cB cR : ClassId) : List (ClassId × FieldType) := [(cI, .int), (cZ, .boolean), (cB, .object RX0), (cR, .object RX3)]
def EV (D : va_G) (cI cZ cB cR : ClassId) (U : State) : Prop := va_K D vwCl (tysA cI cZ cB cR) U ∧ NW U
theorem EV.warm {D : va_G} {cI cZ cB cR : ClassId} {s U : State} (hW : s.WarmedH U.vm) (h : EV D cI cZ cB cR s) : EV D cI cZ cB cR U := ⟨va_K.moved hW.alike h.1, h.2.warm hW⟩
theorem EV.calling {D : va_G} {cI cZ cB cR : ClassId} {U : State} {g : JFrame} {mk : MethodId} {a : Array Value} (h : EV D cI cZ cB cR U) : EV D cI cZ cB cR (U.calling g mk a) := ⟨va_K.moved (u := U) (U := U.calling g mk a) (Vm.Alike.refl U.vm) h.1, h.2.same rfl⟩
/-- the start of a contract that only reads the cells w -/
def PcR (D : va_G) (cI cZ cB cR : ClassId) (w : va_W) (av : List Value) : Array Value → State → Prop := va_Pc av (fun U => va_P D vwCl w U.heap ∧ EV D cI cZ cB cR U)
theorem PcR_blind {D : va_G} {cI cZ cB cR : ClassId} {w : va_W} {av : List Value} : FrameBlind (PcR D cI cZ cB cR w av) := fun _ _ _ _ q => ⟨q.1, q.2.1, q.2.2.calling⟩
/-- a read-only method: nothing changes, the answer is v -/
abbrev RO (l : Launch) (y : MethodName) (ws : List Cond) (rm : Room) (D : va_G) (cI cZ cB cR : ClassId) (w : va_W) (av : List Value) (v : Int32) : Prop := Met l y ws rm (PcR D cI cZ cB cR w av) (vp_Si (fun r => r = v)) 0 0 (fun _ => False)
section ROC
variable {p : Program} {l : Launch} {e : Env} {R : Room} {s : State} {m : MethodId} {args : Array Value} {below : List Frame} {meth : Method} {c : Code} {H : Heap} {locs : List Loc} {cells slots : Nat} {Q : State → Prop}
  {Ts ws : List Cond} {cc bytes : ByteArray} {nL maxL index n : Nat} {own C host : String} {y : MethodName} {ret : Option FieldType} {rm : Room}
  {b : Addr} {pc : Nat} {ls : Array Slot} {st : List Value} {D : va_G} {cI cZ cB cR : ClassId} {w : va_W} {v : Int32} {T : u_T} {N ci : Nat} {fs : List Value}
theorem ro_V (As rest : List Value) (S : CallFix p m c cc nL s args Ts own) (hM : RO l y ws rm D cI cZ cB cR w (.ref b :: As) v) (cw : CallW R s args own C index y bytes maxL ret ws rm 0 0 n) (hEV : EV D cI cZ cB cR s) (hP : va_P D vwCl w H) (q0 : Nat) (he : w[q0]? = some (b, .inr (ci, fs))) (hc : vwCl[ci]? = some (C, T, N))
    (hn : As.length = n) (hls : ls.size = nL) (hst : st = As.reverse ++ .ref b :: rest) (hroom : (rest.map fun v => v.category).sum ≤ 8) (hdg : decode cc pc = .ok (.invokevirtual index, 3)) (hcap : cells ≤ R.cells ∧ slots ≤ R.slots)
    (kk : W p l e R s m args below meth c H locs cells slots Q (F0 m (pc + 3) ls (.int v :: rest))) : W p l e R s m args below meth c H locs cells slots Q (F0 m pc ls st) := by
  refine vp_callSi (va_Run.run (va_runV (As := As) (rest := rest) S hM cw ⟨PcR_blind, va_recv hEV.1 hP (ci := ci) (q0 := q0) he hc, fun U hU hW => ⟨rfl, by rw [hU]; exact hP, hEV.warm hW⟩⟩ rfl hn hls hst (lv_room hroom) hdg hcap)) (fun r hr => ?_)
  rw [hr]
  exact kk
theorem ro_S (As rest : List Value) (S : CallFix p m c cc nL s args Ts own) (hM : RO l y ws rm D cI cZ cB cR w As v) (cw : CallB R s args own index y bytes maxL ret ws rm 0 0 n ∧ (Cond.static y).before args s = true) (hEV : EV D cI cZ cB cR s) (hP : va_P D vwCl w H)
    (hn : As.length = n) (hls : ls.size = nL) (hst : st = As.reverse ++ rest) (hroom : (rest.map fun v => v.category).sum ≤ 8) (hdg : decode cc pc = .ok (.invokestatic index, 3)) (hcap : cells ≤ R.cells ∧ slots ≤ R.slots)
    (kk : W p l e R s m args below meth c H locs cells slots Q (F0 m (pc + 3) ls (.int v :: rest))) : W p l e R s m args below meth c H locs cells slots Q (F0 m pc ls st) := by
  refine vp_callSi (va_Run.run (va_runS (As := As) (rest := rest) S hM cw ⟨PcR_blind, fun U hU hW => ⟨rfl, by rw [hU]; exact hP, hEV.warm hW⟩⟩ rfl hn hls hst (lv_room hroom) hdg hcap)) (fun r hr => ?_)
  rw [hr]
  exact kk
theorem ro_SN (As rest : List Value) (S : CallFix p m c cc nL s args Ts own) (hM : RO l y ws rm D cI cZ cB cR w As v) (cw : va_CN R s args own index y host bytes maxL ret ws rm 0 0 n) (hstat : (Cond.static y).before args s = true) (hEV : EV D cI cZ cB cR s) (hP : va_P D vwCl w H)
    (hn : As.length = n) (hls : ls.size = nL) (hst : st = As.reverse ++ rest) (hroom : (rest.map fun v => v.category).sum ≤ 8) (hdg : decode cc pc = .ok (.invokestatic index, 3)) (hcap : cells ≤ R.cells ∧ slots ≤ R.slots)
    (kk : W p l e R s m args below meth c H locs cells slots Q (F0 m (pc + 3) ls (.int v :: rest))) : W p l e R s m args below meth c H locs cells slots Q (F0 m pc ls st) := by
  refine vp_callSi (va_Run.run (va_runSN (As := As) (rest := rest) S hM ⟨cw, hstat, trivial⟩ ⟨PcR_blind, fun U hU hW => ⟨rfl, by rw [hU]; exact hP, hEV.warm hW⟩⟩ rfl hn hls hst (lv_room hroom) hdg hcap)) (fun r hr => ?_)
  rw [hr]
  exact kk
end ROC
theorem va_P0 {D : va_G} {H : Heap} : va_P D vwCl [] H := fun _ _ h => by simp at h
section ALD
variable {p : Program} {l : Launch} {e : Env} {R : Room} {s : State} {m : MethodId} {args : Array Value} {below : List Frame} {meth : Method} {c : Code} {H : Heap} {locs : List Loc} {cells slots : Nat} {Q : State → Prop}
  {cc : ByteArray} {pc : Nat} {ls : Array Slot} {rest : List Value} {D : va_G} {cI cZ cB cR : ClassId} {w : va_W} {a : Nat}
/-- int[] read at a place that is a number -/
theorem ro_ald (hx : p.tables.exec = Jvm.exec) (hb : c.code = cc) (hEV : EV D cI cZ cB cR s) (hP : va_P D vwCl w H) (q0 : Nat) {n j : Nat} {f : Nat → Int32} (ha : w[q0]? = some (a, .inl (cI, n, .inl f))) (hj : j < n) (hn : n < 2 ^ 31) (hdg : decode cc pc = .ok (.iaload, 1))
    (kk : W p l e R s m args below meth c H locs cells slots Q (F0 m (pc + 1) ls (.int (f j) :: rest))) : W p l e R s m args below meth c H locs cells slots Q (F0 m pc ls (.int (nI j) :: .ref a :: rest)) := by
  refine va_iald hx hb hEV.1 hP q0 0 ha rfl (vp_in_nI hj hn) hdg ?_
  rw [nI_clamp (by omega)]
  exact kk
/-- int[] read at any place -/
theorem ro_aldI (hx : p.tables.exec = Jvm.exec) (hb : c.code = cc) (hEV : EV D cI cZ cB cR s) (hP : va_P D vwCl w H) (q0 : Nat) {n : Nat} {i : Int32} {f : Nat → Int32} (ha : w[q0]? = some (a, .inl (cI, n, .inl f))) (hi : vp_in i n) (hdg : decode cc pc = .ok (.iaload, 1))
    (kk : W p l e R s m args below meth c H locs cells slots Q (F0 m (pc + 1) ls (.int (f i.toNatClampNeg) :: rest))) : W p l e R s m args below meth c H locs cells slots Q (F0 m pc ls (.int i :: .ref a :: rest)) :=
  va_iald hx hb hEV.1 hP q0 0 ha rfl hi hdg kk
/-- boolean[] read at a place that is a number -/
theorem ro_zld (hx : p.tables.exec = Jvm.exec) (hb : c.code = cc) (hEV : EV D cI cZ cB cR s) (hP : va_P D vwCl w H) (q0 : Nat) {n j : Nat} {f : Nat → Int32} (ha : w[q0]? = some (a, .inl (cZ, n, .inl f))) (hj : j < n) (hn : n < 2 ^ 31) (hdg : decode cc pc = .ok (.baload, 1))
    (kk : W p l e R s m args below meth c H locs cells slots Q (F0 m (pc + 1) ls (.int (f j) :: rest))) : W p l e R s m args below meth c H locs cells slots Q (F0 m pc ls (.int (nI j) :: .ref a :: rest)) := by
  refine va_zald hx hb hEV.1 hP q0 1 ha rfl (vp_in_nI hj hn) hdg ?_
  rw [nI_clamp (by omega)]
  exact kk
/-- a value on top under another name -/
theorem top_eq {x y : Int32} (h : x = y) (k : W p l e R s m args below meth c H locs cells slots Q (F0 m pc ls (.int y :: rest))) : W p l e R s m args below meth c H locs cells slots Q (F0 m pc ls (.int x :: rest)) := by rw [h]; exact k
end ALD
/-! ===== the worlds ===== -/
/-- Hierarchy at a: h 0 flags, 1 packs, 2 supers, 3 directFaces, 4 hosts, 5 verdicts, 6 aboves, 7 allFaces; h 8 0 there, h 8 1 settled -/
def wH (cI : ClassId) (a : Nat → Nat) (h : Nat → Nat → Int32) : va_W := [(a 0, .inr (1, [.int (h 8 0), .ref (a 1), .ref (a 2), .ref (a 3), .ref (a 4), .ref (a 5), .ref (a 6), .int (h 8 1), .ref (a 7), .ref (a 8)])), (a 1, .inl (cI, 12, .inl (h 0))), (a 2, .inl (cI, 12, .inl (h 1))), (a 3, .inl (cI, 12, .inl (h 2))), (a 4, .inl (cI, 12, .inl (h 3))), (a 5, .inl (cI, 12, .inl (h 4))), (a 6, .inl (cI, 12, .inl (h 5))), (a 7, .inl (cI, 12, .inl (h 6))), (a 8, .inl (cI, 12, .inl (h 7)))]
/-- Members at a: g 0 owners, 1 keys, 2 accesses, 3 flags; g 4 0 size, g 4 1 gone -/
def wM (cI : ClassId) (a : Nat → Nat) (g : Nat → Nat → Int32) : va_W := [(a 0, .inr (2, [.int (g 4 0), .int (g 4 1), .ref (a 1), .ref (a 2), .ref (a 3), .ref (a 4)])), (a 1, .inl (cI, 30, .inl (g 0))), (a 2, .inl (cI, 30, .inl (g 1))), (a 3, .inl (cI, 30, .inl (g 2))), (a 4, .inl (cI, 30, .inl (g 3)))]
/-- Build at b -/
def wB (cI : ClassId) (b : Nat) (aH aM : Nat → Nat) (h g : Nat → Nat → Int32) (se : Int32) : va_W := (b, .inr (0, [.ref (aH 0), .ref (aM 0), .int se])) :: (wH cI aH h ++ wM cI aM g)
/-- Reference at r: f 0 kind, 1 holder, 2 way, 3 sign -/
def wR (r : Nat) (f : Nat → Int32) : va_W := [(r, .inr (3, [.int (f 0), .int (f 1), .int (f 2), .int (f 3)]))]
/-- the reference at a: x 0 there, x 1 flags, x 2 pack, x 3 above, x 4 faces, x 5 host, x 6 method, x 7 gone, x 8 many, x 9 owner, x 10 sign, x 11 access, x 12 marks, x 13 kind, x 14 holder, x 15 way, x 16 asked, x 17 row, x 18 stage; x 19 0 references, x 19 1 written -/
def wX (cI cZ : ClassId) (a : Nat → Nat) (x : Nat → Nat → Int32) : va_W := [(a 0, .inr (5, [.ref (a 1), .ref (a 2), .ref (a 3), .ref (a 4), .ref (a 5), .ref (a 6), .ref (a 7), .ref (a 8), .ref (a 9), .ref (a 10), .ref (a 11), .ref (a 12), .ref (a 13), .ref (a 14), .ref (a 15), .ref (a 16), .ref (a 17), .int (x 19 0), .int (x 19 1), .ref (a 18), .ref (a 19)])), (a 1, .inl (cZ, 24, .inl (x 0))), (a 2, .inl (cI, 24, .inl (x 1))), (a 3, .inl (cI, 24, .inl (x 2))), (a 4, .inl (cI, 24, .inl (x 3))), (a 5, .inl (cI, 24, .inl (x 4))), (a 6, .inl (cI, 24, .inl (x 5))), (a 7, .inl (cZ, 60, .inl (x 6))), (a 8, .inl (cZ, 60, .inl (x 7))), (a 9, .inl (cI, 2, .inl (x 8))), (a 10, .inl (cI, 60, .inl (x 9))), (a 11, .inl (cI, 60, .inl (x 10))), (a 12, .inl (cI, 60, .inl (x 11))), (a 13, .inl (cI, 60, .inl (x 12))), (a 14, .inl (cI, 16, .inl (x 13))), (a 15, .inl (cI, 16, .inl (x 14))), (a 16, .inl (cI, 16, .inl (x 15))), (a 17, .inl (cI, 16, .inl (x 16))), (a 18, .inl (cI, 40, .inl (x 17))), (a 19, .inl (cI, 14, .inl (x 18)))]
/-- a state with one place changed -/
def st2 (h : Nat → Nat → Int32) (k j : Nat) (v : Int32) : Nat → Nat → Int32 := fun q => if q = k then upd (h k) j v else h q
theorem st2_k {h : Nat → Nat → Int32} {k j : Nat} {v : Int32} : st2 h k j v k = upd (h k) j v := by simp [st2]
theorem st2_n {h : Nat → Nat → Int32} {k j q : Nat} {v : Int32} (hq : q ≠ k) : st2 h k j v q = h q := by simp [st2, hq]
end
