section
-- ===== PART A: goes FIRST, ahead of the names: the tables' words, and 'selects' of the private methods out of them =====
/-- a private method of a class that the tables say can be made, by its rows of tables_1 -/
def lw_okq (q : MethodName × Nat) : Prop := (q.1.cls ≠ "java/lang/invoke/MethodHandle" ∧ q.1.cls ≠ "java/lang/invoke/VarHandle") ∧ Cond.instantiable q.1.cls q.2 ∈ tables_1 ∧ Cond.privateMethod q.1 ∈ tables_1 ∧ Cond.instanceMethod q.1 ∈ tables_1
theorem lw_p0 : lw_okq (⟨"LinkPredictor$Hierarchy", "settle", "()V"⟩, 10) := ⟨⟨by decide +kernel, by decide +kernel⟩, List.mem_of_getElem? (i := 26) (by decide +kernel), List.mem_of_getElem? (i := 35) (by decide +kernel), List.mem_of_getElem? (i := 36) (by decide +kernel)⟩
theorem lw_p1 : lw_okq (⟨"LinkPredictor$Hierarchy", "loadInside", "(II)I"⟩, 10) := ⟨⟨by decide +kernel, by decide +kernel⟩, List.mem_of_getElem? (i := 26) (by decide +kernel), List.mem_of_getElem? (i := 39) (by decide +kernel), List.mem_of_getElem? (i := 40) (by decide +kernel)⟩
theorem lw_p2 : lw_okq (⟨"LinkPredictor$Hierarchy", "loadParents", "(II)I"⟩, 10) := ⟨⟨by decide +kernel, by decide +kernel⟩, List.mem_of_getElem? (i := 26) (by decide +kernel), List.mem_of_getElem? (i := 50) (by decide +kernel), List.mem_of_getElem? (i := 51) (by decide +kernel)⟩
theorem lw_p3 : lw_okq (⟨"LinkPredictor$Hierarchy", "hasWrongParents", "(I)Z"⟩, 10) := ⟨⟨by decide +kernel, by decide +kernel⟩, List.mem_of_getElem? (i := 26) (by decide +kernel), List.mem_of_getElem? (i := 60) (by decide +kernel), List.mem_of_getElem? (i := 61) (by decide +kernel)⟩
theorem lw_p4 : lw_okq (⟨"LinkPredictor$Hierarchy", "gatherSets", "(I)V"⟩, 10) := ⟨⟨by decide +kernel, by decide +kernel⟩, List.mem_of_getElem? (i := 26) (by decide +kernel), List.mem_of_getElem? (i := 68) (by decide +kernel), List.mem_of_getElem? (i := 69) (by decide +kernel)⟩
theorem lw_p5 : lw_okq (⟨"LinkPredictor$Members", "isPresent", "(I)Z"⟩, 6) := ⟨⟨by decide +kernel, by decide +kernel⟩, List.mem_of_getElem? (i := 104) (by decide +kernel), List.mem_of_getElem? (i := 243) (by decide +kernel), List.mem_of_getElem? (i := 244) (by decide +kernel)⟩
theorem lw_p6 : lw_okq (⟨"LinkPredictor$Build", "lookUpField", "(LLinkPredictor$Reference;)I"⟩, 3) := ⟨⟨by decide +kernel, by decide +kernel⟩, List.mem_of_getElem? (i := 20) (by decide +kernel), List.mem_of_getElem? (i := 332) (by decide +kernel), List.mem_of_getElem? (i := 333) (by decide +kernel)⟩
theorem lw_p7 : lw_okq (⟨"LinkPredictor$Build", "findField", "(II)I"⟩, 3) := ⟨⟨by decide +kernel, by decide +kernel⟩, List.mem_of_getElem? (i := 20) (by decide +kernel), List.mem_of_getElem? (i := 336) (by decide +kernel), List.mem_of_getElem? (i := 337) (by decide +kernel)⟩
theorem lw_p8 : lw_okq (⟨"LinkPredictor$Build", "lookUpMethod", "(LLinkPredictor$Reference;)I"⟩, 3) := ⟨⟨by decide +kernel, by decide +kernel⟩, List.mem_of_getElem? (i := 20) (by decide +kernel), List.mem_of_getElem? (i := 350) (by decide +kernel), List.mem_of_getElem? (i := 351) (by decide +kernel)⟩
theorem lw_p9 : lw_okq (⟨"LinkPredictor$Build", "findInInterface", "(II)I"⟩, 3) := ⟨⟨by decide +kernel, by decide +kernel⟩, List.mem_of_getElem? (i := 20) (by decide +kernel), List.mem_of_getElem? (i := 355) (by decide +kernel), List.mem_of_getElem? (i := 356) (by decide +kernel)⟩
theorem lw_p10 : lw_okq (⟨"LinkPredictor$Build", "findInAbove", "(II)I"⟩, 3) := ⟨⟨by decide +kernel, by decide +kernel⟩, List.mem_of_getElem? (i := 20) (by decide +kernel), List.mem_of_getElem? (i := 367) (by decide +kernel), List.mem_of_getElem? (i := 368) (by decide +kernel)⟩
theorem lw_p11 : lw_okq (⟨"LinkPredictor$Build", "findBest", "(II)I"⟩, 3) := ⟨⟨by decide +kernel, by decide +kernel⟩, List.mem_of_getElem? (i := 20) (by decide +kernel), List.mem_of_getElem? (i := 371) (by decide +kernel), List.mem_of_getElem? (i := 372) (by decide +kernel)⟩
theorem lw_p12 : lw_okq (⟨"LinkPredictor$Build", "findOnlyWithBody", "(II)I"⟩, 3) := ⟨⟨by decide +kernel, by decide +kernel⟩, List.mem_of_getElem? (i := 20) (by decide +kernel), List.mem_of_getElem? (i := 391) (by decide +kernel), List.mem_of_getElem? (i := 392) (by decide +kernel)⟩
theorem lw_p13 : lw_okq (⟨"LinkPredictor$Build", "findLeast", "(II)I"⟩, 3) := ⟨⟨by decide +kernel, by decide +kernel⟩, List.mem_of_getElem? (i := 20) (by decide +kernel), List.mem_of_getElem? (i := 399) (by decide +kernel), List.mem_of_getElem? (i := 400) (by decide +kernel)⟩
theorem lw_p14 : lw_okq (⟨"LinkPredictor$Build", "checkMember", "(LLinkPredictor$Reference;I)I"⟩, 3) := ⟨⟨by decide +kernel, by decide +kernel⟩, List.mem_of_getElem? (i := 20) (by decide +kernel), List.mem_of_getElem? (i := 406) (by decide +kernel), List.mem_of_getElem? (i := 407) (by decide +kernel)⟩
theorem lw_p15 : lw_okq (⟨"LinkPredictor$Build", "isAccessible", "(III)Z"⟩, 3) := ⟨⟨by decide +kernel, by decide +kernel⟩, List.mem_of_getElem? (i := 20) (by decide +kernel), List.mem_of_getElem? (i := 410) (by decide +kernel), List.mem_of_getElem? (i := 411) (by decide +kernel)⟩
def lw_privs_1 : List (MethodName × Nat) := [(⟨"LinkPredictor$Hierarchy", "settle", "()V"⟩, 10), (⟨"LinkPredictor$Hierarchy", "loadInside", "(II)I"⟩, 10), (⟨"LinkPredictor$Hierarchy", "loadParents", "(II)I"⟩, 10), (⟨"LinkPredictor$Hierarchy", "hasWrongParents", "(I)Z"⟩, 10), (⟨"LinkPredictor$Hierarchy", "gatherSets", "(I)V"⟩, 10), (⟨"LinkPredictor$Members", "isPresent", "(I)Z"⟩, 6), (⟨"LinkPredictor$Build", "lookUpField", "(LLinkPredictor$Reference;)I"⟩, 3), (⟨"LinkPredictor$Build", "findField", "(II)I"⟩, 3), (⟨"LinkPredictor$Build", "lookUpMethod", "(LLinkPredictor$Reference;)I"⟩, 3), (⟨"LinkPredictor$Build", "findInInterface", "(II)I"⟩, 3), (⟨"LinkPredictor$Build", "findInAbove", "(II)I"⟩, 3), (⟨"LinkPredictor$Build", "findBest", "(II)I"⟩, 3), (⟨"LinkPredictor$Build", "findOnlyWithBody", "(II)I"⟩, 3), (⟨"LinkPredictor$Build", "findLeast", "(II)I"⟩, 3), (⟨"LinkPredictor$Build", "checkMember", "(LLinkPredictor$Reference;I)I"⟩, 3), (⟨"LinkPredictor$Build", "isAccessible", "(III)Z"⟩, 3)]
theorem lw_r1 : ∀ q ∈ lw_privs_1, lw_okq q := List.forall_mem_cons.mpr ⟨lw_p0, List.forall_mem_cons.mpr ⟨lw_p1, List.forall_mem_cons.mpr ⟨lw_p2, List.forall_mem_cons.mpr ⟨lw_p3, List.forall_mem_cons.mpr ⟨lw_p4, List.forall_mem_cons.mpr ⟨lw_p5, List.forall_mem_cons.mpr ⟨lw_p6, List.forall_mem_cons.mpr ⟨lw_p7, List.forall_mem_cons.mpr ⟨lw_p8, List.forall_mem_cons.mpr ⟨lw_p9, List.forall_mem_cons.mpr ⟨lw_p10, List.forall_mem_cons.mpr ⟨lw_p11, List.forall_mem_cons.mpr ⟨lw_p12, List.forall_mem_cons.mpr ⟨lw_p13, List.forall_mem_cons.mpr ⟨lw_p14, List.forall_mem_cons.mpr ⟨lw_p15, fun _ h => absurd h List.not_mem_nil⟩⟩⟩⟩⟩⟩⟩⟩⟩⟩⟩⟩⟩⟩⟩⟩
theorem lw_p16 : lw_okq (⟨"LinkPredictor$Build", "isInherited", "(III)Z"⟩, 3) := ⟨⟨by decide +kernel, by decide +kernel⟩, List.mem_of_getElem? (i := 20) (by decide +kernel), List.mem_of_getElem? (i := 419) (by decide +kernel), List.mem_of_getElem? (i := 420) (by decide +kernel)⟩
theorem lw_p17 : lw_okq (⟨"LinkPredictor$Build", "isFit", "(II)Z"⟩, 3) := ⟨⟨by decide +kernel, by decide +kernel⟩, List.mem_of_getElem? (i := 20) (by decide +kernel), List.mem_of_getElem? (i := 459) (by decide +kernel), List.mem_of_getElem? (i := 460) (by decide +kernel)⟩
theorem lw_p18 : lw_okq (⟨"LinkPredictor$Build", "selectFor", "(III)I"⟩, 3) := ⟨⟨by decide +kernel, by decide +kernel⟩, List.mem_of_getElem? (i := 20) (by decide +kernel), List.mem_of_getElem? (i := 467) (by decide +kernel), List.mem_of_getElem? (i := 468) (by decide +kernel)⟩
theorem lw_p19 : lw_okq (⟨"LinkPredictor$Build", "overrides", "(II)Z"⟩, 3) := ⟨⟨by decide +kernel, by decide +kernel⟩, List.mem_of_getElem? (i := 20) (by decide +kernel), List.mem_of_getElem? (i := 471) (by decide +kernel), List.mem_of_getElem? (i := 472) (by decide +kernel)⟩
theorem lw_p20 : lw_okq (⟨"LinkPredictor$Build", "selectFromFaces", "(II)I"⟩, 3) := ⟨⟨by decide +kernel, by decide +kernel⟩, List.mem_of_getElem? (i := 20) (by decide +kernel), List.mem_of_getElem? (i := 476) (by decide +kernel), List.mem_of_getElem? (i := 477) (by decide +kernel)⟩
theorem lw_p21 : lw_okq (⟨"LinkPredictor$Build", "checkSelected", "(LLinkPredictor$Reference;I)I"⟩, 3) := ⟨⟨by decide +kernel, by decide +kernel⟩, List.mem_of_getElem? (i := 20) (by decide +kernel), List.mem_of_getElem? (i := 480) (by decide +kernel), List.mem_of_getElem? (i := 481) (by decide +kernel)⟩
theorem lw_p22 : lw_okq (⟨"LinkPredictor", "areAlike", "(II)Z"⟩, 4) := ⟨⟨by decide +kernel, by decide +kernel⟩, List.mem_of_getElem? (i := 11) (by decide +kernel), List.mem_of_getElem? (i := 488) (by decide +kernel), List.mem_of_getElem? (i := 489) (by decide +kernel)⟩
theorem lw_p23 : lw_okq (⟨"LinkPredictor", "isSuchReceiver", "(III)Z"⟩, 4) := ⟨⟨by decide +kernel, by decide +kernel⟩, List.mem_of_getElem? (i := 11) (by decide +kernel), List.mem_of_getElem? (i := 501) (by decide +kernel), List.mem_of_getElem? (i := 502) (by decide +kernel)⟩
theorem lw_p24 : lw_okq (⟨"LinkPredictor", "countGoodReferences", "(LLinkPredictor$Build;)I"⟩, 4) := ⟨⟨by decide +kernel, by decide +kernel⟩, List.mem_of_getElem? (i := 11) (by decide +kernel), List.mem_of_getElem? (i := 523) (by decide +kernel), List.mem_of_getElem? (i := 524) (by decide +kernel)⟩
theorem lw_p25 : lw_okq (⟨"LinkPredictorModel", "at", "(I)I"⟩, 21) := ⟨⟨by decide +kernel, by decide +kernel⟩, List.mem_of_getElem? (i := 541) (by decide +kernel), List.mem_of_getElem? (i := 619) (by decide +kernel), List.mem_of_getElem? (i := 620) (by decide +kernel)⟩
theorem lw_p26 : lw_okq (⟨"LinkPredictorModel", "isThere", "(I)Z"⟩, 21) := ⟨⟨by decide +kernel, by decide +kernel⟩, List.mem_of_getElem? (i := 541) (by decide +kernel), List.mem_of_getElem? (i := 627) (by decide +kernel), List.mem_of_getElem? (i := 628) (by decide +kernel)⟩
theorem lw_p27 : lw_okq (⟨"LinkPredictorModel", "own", "(IIZI)I"⟩, 21) := ⟨⟨by decide +kernel, by decide +kernel⟩, List.mem_of_getElem? (i := 541) (by decide +kernel), List.mem_of_getElem? (i := 639) (by decide +kernel), List.mem_of_getElem? (i := 640) (by decide +kernel)⟩
theorem lw_p28 : lw_okq (⟨"LinkPredictorModel", "isMember", "(I)Z"⟩, 21) := ⟨⟨by decide +kernel, by decide +kernel⟩, List.mem_of_getElem? (i := 541) (by decide +kernel), List.mem_of_getElem? (i := 647) (by decide +kernel), List.mem_of_getElem? (i := 648) (by decide +kernel)⟩
theorem lw_p29 : lw_okq (⟨"LinkPredictorModel", "loaded", "(II)I"⟩, 21) := ⟨⟨by decide +kernel, by decide +kernel⟩, List.mem_of_getElem? (i := 541) (by decide +kernel), List.mem_of_getElem? (i := 675) (by decide +kernel), List.mem_of_getElem? (i := 676) (by decide +kernel)⟩
theorem lw_p30 : lw_okq (⟨"LinkPredictorModel", "isChanged", "(II)Z"⟩, 21) := ⟨⟨by decide +kernel, by decide +kernel⟩, List.mem_of_getElem? (i := 541) (by decide +kernel), List.mem_of_getElem? (i := 685) (by decide +kernel), List.mem_of_getElem? (i := 686) (by decide +kernel)⟩
theorem lw_p31 : lw_okq (⟨"LinkPredictorModel", "isAsk", "(II)Z"⟩, 21) := ⟨⟨by decide +kernel, by decide +kernel⟩, List.mem_of_getElem? (i := 541) (by decide +kernel), List.mem_of_getElem? (i := 693) (by decide +kernel), List.mem_of_getElem? (i := 694) (by decide +kernel)⟩
def lw_privs_2 : List (MethodName × Nat) := [(⟨"LinkPredictor$Build", "isInherited", "(III)Z"⟩, 3), (⟨"LinkPredictor$Build", "isFit", "(II)Z"⟩, 3), (⟨"LinkPredictor$Build", "selectFor", "(III)I"⟩, 3), (⟨"LinkPredictor$Build", "overrides", "(II)Z"⟩, 3), (⟨"LinkPredictor$Build", "selectFromFaces", "(II)I"⟩, 3), (⟨"LinkPredictor$Build", "checkSelected", "(LLinkPredictor$Reference;I)I"⟩, 3), (⟨"LinkPredictor", "areAlike", "(II)Z"⟩, 4), (⟨"LinkPredictor", "isSuchReceiver", "(III)Z"⟩, 4), (⟨"LinkPredictor", "countGoodReferences", "(LLinkPredictor$Build;)I"⟩, 4), (⟨"LinkPredictorModel", "at", "(I)I"⟩, 21), (⟨"LinkPredictorModel", "isThere", "(I)Z"⟩, 21), (⟨"LinkPredictorModel", "own", "(IIZI)I"⟩, 21), (⟨"LinkPredictorModel", "isMember", "(I)Z"⟩, 21), (⟨"LinkPredictorModel", "loaded", "(II)I"⟩, 21), (⟨"LinkPredictorModel", "isChanged", "(II)Z"⟩, 21), (⟨"LinkPredictorModel", "isAsk", "(II)Z"⟩, 21)]
theorem lw_r2 : ∀ q ∈ lw_privs_2, lw_okq q := List.forall_mem_cons.mpr ⟨lw_p16, List.forall_mem_cons.mpr ⟨lw_p17, List.forall_mem_cons.mpr ⟨lw_p18, List.forall_mem_cons.mpr ⟨lw_p19, List.forall_mem_cons.mpr ⟨lw_p20, List.forall_mem_cons.mpr ⟨lw_p21, List.forall_mem_cons.mpr ⟨lw_p22, List.forall_mem_cons.mpr ⟨lw_p23, List.forall_mem_cons.mpr ⟨lw_p24, List.forall_mem_cons.mpr ⟨lw_p25, List.forall_mem_cons.mpr ⟨lw_p26, List.forall_mem_cons.mpr ⟨lw_p27, List.forall_mem_cons.mpr ⟨lw_p28, List.forall_mem_cons.mpr ⟨lw_p29, List.forall_mem_cons.mpr ⟨lw_p30, List.forall_mem_cons.mpr ⟨lw_p31, fun _ h => absurd h List.not_mem_nil⟩⟩⟩⟩⟩⟩⟩⟩⟩⟩⟩⟩⟩⟩⟩⟩
theorem lw_p32 : lw_okq (⟨"LinkPredictorModel", "resolved", "(II)I"⟩, 21) := ⟨⟨by decide +kernel, by decide +kernel⟩, List.mem_of_getElem? (i := 541) (by decide +kernel), List.mem_of_getElem? (i := 697) (by decide +kernel), List.mem_of_getElem? (i := 698) (by decide +kernel)⟩
theorem lw_p33 : lw_okq (⟨"LinkPredictorModel", "field", "(III)I"⟩, 21) := ⟨⟨by decide +kernel, by decide +kernel⟩, List.mem_of_getElem? (i := 541) (by decide +kernel), List.mem_of_getElem? (i := 701) (by decide +kernel), List.mem_of_getElem? (i := 702) (by decide +kernel)⟩
theorem lw_p34 : lw_okq (⟨"LinkPredictorModel", "lay", "(II)I"⟩, 21) := ⟨⟨by decide +kernel, by decide +kernel⟩, List.mem_of_getElem? (i := 541) (by decide +kernel), List.mem_of_getElem? (i := 705) (by decide +kernel), List.mem_of_getElem? (i := 706) (by decide +kernel)⟩
theorem lw_p35 : lw_okq (⟨"LinkPredictorModel", "find", "(III)I"⟩, 21) := ⟨⟨by decide +kernel, by decide +kernel⟩, List.mem_of_getElem? (i := 541) (by decide +kernel), List.mem_of_getElem? (i := 709) (by decide +kernel), List.mem_of_getElem? (i := 710) (by decide +kernel)⟩
theorem lw_p36 : lw_okq (⟨"LinkPredictorModel", "specific", "(III)I"⟩, 21) := ⟨⟨by decide +kernel, by decide +kernel⟩, List.mem_of_getElem? (i := 541) (by decide +kernel), List.mem_of_getElem? (i := 713) (by decide +kernel), List.mem_of_getElem? (i := 714) (by decide +kernel)⟩
theorem lw_p37 : lw_okq (⟨"LinkPredictorModel", "facesOf", "(II)I"⟩, 21) := ⟨⟨by decide +kernel, by decide +kernel⟩, List.mem_of_getElem? (i := 541) (by decide +kernel), List.mem_of_getElem? (i := 717) (by decide +kernel), List.mem_of_getElem? (i := 718) (by decide +kernel)⟩
theorem lw_p38 : lw_okq (⟨"LinkPredictorModel", "aboveOf", "(II)I"⟩, 21) := ⟨⟨by decide +kernel, by decide +kernel⟩, List.mem_of_getElem? (i := 541) (by decide +kernel), List.mem_of_getElem? (i := 721) (by decide +kernel), List.mem_of_getElem? (i := 722) (by decide +kernel)⟩
theorem lw_p39 : lw_okq (⟨"LinkPredictorModel", "offers", "(III)Z"⟩, 21) := ⟨⟨by decide +kernel, by decide +kernel⟩, List.mem_of_getElem? (i := 541) (by decide +kernel), List.mem_of_getElem? (i := 725) (by decide +kernel), List.mem_of_getElem? (i := 726) (by decide +kernel)⟩
theorem lw_p40 : lw_okq (⟨"LinkPredictorModel", "under", "(III)Z"⟩, 21) := ⟨⟨by decide +kernel, by decide +kernel⟩, List.mem_of_getElem? (i := 541) (by decide +kernel), List.mem_of_getElem? (i := 729) (by decide +kernel), List.mem_of_getElem? (i := 730) (by decide +kernel)⟩
theorem lw_p41 : lw_okq (⟨"LinkPredictorModel", "bodied", "(III)I"⟩, 21) := ⟨⟨by decide +kernel, by decide +kernel⟩, List.mem_of_getElem? (i := 541) (by decide +kernel), List.mem_of_getElem? (i := 733) (by decide +kernel), List.mem_of_getElem? (i := 734) (by decide +kernel)⟩
theorem lw_p42 : lw_okq (⟨"LinkPredictorModel", "isOpen", "(IIII)Z"⟩, 21) := ⟨⟨by decide +kernel, by decide +kernel⟩, List.mem_of_getElem? (i := 541) (by decide +kernel), List.mem_of_getElem? (i := 737) (by decide +kernel), List.mem_of_getElem? (i := 738) (by decide +kernel)⟩
theorem lw_p43 : lw_okq (⟨"LinkPredictorModel", "nestOf", "(II)I"⟩, 21) := ⟨⟨by decide +kernel, by decide +kernel⟩, List.mem_of_getElem? (i := 541) (by decide +kernel), List.mem_of_getElem? (i := 741) (by decide +kernel), List.mem_of_getElem? (i := 742) (by decide +kernel)⟩
theorem lw_p44 : lw_okq (⟨"LinkPredictorModel", "selects", "(II)Z"⟩, 21) := ⟨⟨by decide +kernel, by decide +kernel⟩, List.mem_of_getElem? (i := 541) (by decide +kernel), List.mem_of_getElem? (i := 749) (by decide +kernel), List.mem_of_getElem? (i := 750) (by decide +kernel)⟩
theorem lw_p45 : lw_okq (⟨"LinkPredictorModel", "selected", "(III)I"⟩, 21) := ⟨⟨by decide +kernel, by decide +kernel⟩, List.mem_of_getElem? (i := 541) (by decide +kernel), List.mem_of_getElem? (i := 753) (by decide +kernel), List.mem_of_getElem? (i := 754) (by decide +kernel)⟩
theorem lw_p46 : lw_okq (⟨"LinkPredictorModel", "isLoaded", "(II)Z"⟩, 21) := ⟨⟨by decide +kernel, by decide +kernel⟩, List.mem_of_getElem? (i := 541) (by decide +kernel), List.mem_of_getElem? (i := 757) (by decide +kernel), List.mem_of_getElem? (i := 758) (by decide +kernel)⟩
theorem lw_p47 : lw_okq (⟨"LinkPredictorModel", "overrides", "(III)Z"⟩, 21) := ⟨⟨by decide +kernel, by decide +kernel⟩, List.mem_of_getElem? (i := 541) (by decide +kernel), List.mem_of_getElem? (i := 761) (by decide +kernel), List.mem_of_getElem? (i := 762) (by decide +kernel)⟩
def lw_privs_3 : List (MethodName × Nat) := [(⟨"LinkPredictorModel", "resolved", "(II)I"⟩, 21), (⟨"LinkPredictorModel", "field", "(III)I"⟩, 21), (⟨"LinkPredictorModel", "lay", "(II)I"⟩, 21), (⟨"LinkPredictorModel", "find", "(III)I"⟩, 21), (⟨"LinkPredictorModel", "specific", "(III)I"⟩, 21), (⟨"LinkPredictorModel", "facesOf", "(II)I"⟩, 21), (⟨"LinkPredictorModel", "aboveOf", "(II)I"⟩, 21), (⟨"LinkPredictorModel", "offers", "(III)Z"⟩, 21), (⟨"LinkPredictorModel", "under", "(III)Z"⟩, 21), (⟨"LinkPredictorModel", "bodied", "(III)I"⟩, 21), (⟨"LinkPredictorModel", "isOpen", "(IIII)Z"⟩, 21), (⟨"LinkPredictorModel", "nestOf", "(II)I"⟩, 21), (⟨"LinkPredictorModel", "selects", "(II)Z"⟩, 21), (⟨"LinkPredictorModel", "selected", "(III)I"⟩, 21), (⟨"LinkPredictorModel", "isLoaded", "(II)Z"⟩, 21), (⟨"LinkPredictorModel", "overrides", "(III)Z"⟩, 21)]
theorem lw_r3 : ∀ q ∈ lw_privs_3, lw_okq q := List.forall_mem_cons.mpr ⟨lw_p32, List.forall_mem_cons.mpr ⟨lw_p33, List.forall_mem_cons.mpr ⟨lw_p34, List.forall_mem_cons.mpr ⟨lw_p35, List.forall_mem_cons.mpr ⟨lw_p36, List.forall_mem_cons.mpr ⟨lw_p37, List.forall_mem_cons.mpr ⟨lw_p38, List.forall_mem_cons.mpr ⟨lw_p39, List.forall_mem_cons.mpr ⟨lw_p40, List.forall_mem_cons.mpr ⟨lw_p41, List.forall_mem_cons.mpr ⟨lw_p42, List.forall_mem_cons.mpr ⟨lw_p43, List.forall_mem_cons.mpr ⟨lw_p44, List.forall_mem_cons.mpr ⟨lw_p45, List.forall_mem_cons.mpr ⟨lw_p46, List.forall_mem_cons.mpr ⟨lw_p47, fun _ h => absurd h List.not_mem_nil⟩⟩⟩⟩⟩⟩⟩⟩⟩⟩⟩⟩⟩⟩⟩⟩
theorem lw_p48 : lw_okq (⟨"LinkPredictorModel", "areAlike", "(II)Z"⟩, 21) := ⟨⟨by decide +kernel, by decide +kernel⟩, List.mem_of_getElem? (i := 541) (by decide +kernel), List.mem_of_getElem? (i := 769) (by decide +kernel), List.mem_of_getElem? (i := 770) (by decide +kernel)⟩
theorem lw_p49 : lw_okq (⟨"LinkPredictorModel", "neighbours", "(I)I"⟩, 21) := ⟨⟨by decide +kernel, by decide +kernel⟩, List.mem_of_getElem? (i := 541) (by decide +kernel), List.mem_of_getElem? (i := 785) (by decide +kernel), List.mem_of_getElem? (i := 786) (by decide +kernel)⟩
def lw_privs_4 : List (MethodName × Nat) := [(⟨"LinkPredictorModel", "areAlike", "(II)Z"⟩, 21), (⟨"LinkPredictorModel", "neighbours", "(I)I"⟩, 21)]
theorem lw_r4 : ∀ q ∈ lw_privs_4, lw_okq q := List.forall_mem_cons.mpr ⟨lw_p48, List.forall_mem_cons.mpr ⟨lw_p49, fun _ h => absurd h List.not_mem_nil⟩⟩
def lw_privs : List (MethodName × Nat) := lw_privs_1 ++ (lw_privs_2 ++ (lw_privs_3 ++ (lw_privs_4)))
def lw_tbl : List Cond := k2_sels lw_privs ++ tables_1
theorem lw_privs_ok : ∀ q ∈ lw_privs, lw_okq q := by
  show ∀ q ∈ lw_privs_1 ++ (lw_privs_2 ++ (lw_privs_3 ++ (lw_privs_4))), lw_okq q
  exact List.forall_mem_append.mpr ⟨lw_r1, List.forall_mem_append.mpr ⟨lw_r2, List.forall_mem_append.mpr ⟨lw_r3, lw_r4⟩⟩⟩
end
section
def RX0 : String := "LinkPredictor$Build"
def TX0 : u_T := fun k => match k with
  | 0 => ("LinkPredictor$Build", "types", "LLinkPredictor$Hierarchy;", true)
  | 1 => ("LinkPredictor$Build", "members", "LLinkPredictor$Members;", true)
  | _ => ("LinkPredictor$Build", "searched", "I", false)
def tyX0 : Nat → FieldType := fun k => match k with
  | 0 => .object "LinkPredictor$Hierarchy"
  | 1 => .object "LinkPredictor$Members"
  | _ => .int
abbrev wsX00 : List Cond := u_ws RX0 TX0 3
theorem nmX0 : ∀ a, a < 3 → ∀ b, b < 3 → a ≠ b → (TX0 a).2.1 ≠ (TX0 b).2.1 := by decide +kernel
theorem tyX0_ok : ∀ k, k < 3 → parseFieldDescriptor (TX0 k).2.2.1 = some (tyX0 k) := by decide +kernel
abbrev cX0_init : ByteArray := prog_2_method_1_code
def yX0_init : MethodName := ⟨RX0, "<init>", "()V"⟩
abbrev cX0_discardType : ByteArray := prog_2_method_2_code
def yX0_discardType : MethodName := ⟨RX0, "discardType", "(I)Z"⟩
abbrev cX0_addMember : ByteArray := prog_2_method_3_code
def yX0_addMember : MethodName := ⟨RX0, "addMember", "(IZIII)I"⟩
abbrev cX0_becomeAs : ByteArray := prog_2_method_4_code
def yX0_becomeAs : MethodName := ⟨RX0, "becomeAs", "(LLinkPredictor$Build;)V"⟩
abbrev cX0_resolution : ByteArray := prog_2_method_5_code
def yX0_resolution : MethodName := ⟨RX0, "resolution", "(LLinkPredictor$Reference;)I"⟩
abbrev cX0_selection : ByteArray := prog_2_method_6_code
def yX0_selection : MethodName := ⟨RX0, "selection", "(LLinkPredictor$Reference;II)I"⟩
abbrev cX0_lookUpField : ByteArray := prog_2_method_7_code
def yX0_lookUpField : MethodName := ⟨RX0, "lookUpField", "(LLinkPredictor$Reference;)I"⟩
abbrev cX0_findField : ByteArray := prog_2_method_8_code
def yX0_findField : MethodName := ⟨RX0, "findField", "(II)I"⟩
abbrev cX0_lookUpMethod : ByteArray := prog_2_method_9_code
def yX0_lookUpMethod : MethodName := ⟨RX0, "lookUpMethod", "(LLinkPredictor$Reference;)I"⟩
abbrev cX0_findInInterface : ByteArray := prog_2_method_10_code
def yX0_findInInterface : MethodName := ⟨RX0, "findInInterface", "(II)I"⟩
abbrev cX0_findInAbove : ByteArray := prog_2_method_11_code
def yX0_findInAbove : MethodName := ⟨RX0, "findInAbove", "(II)I"⟩
abbrev cX0_findBest : ByteArray := prog_2_method_12_code
def yX0_findBest : MethodName := ⟨RX0, "findBest", "(II)I"⟩
abbrev cX0_findLeast : ByteArray := prog_2_method_13_code
def yX0_findLeast : MethodName := ⟨RX0, "findLeast", "(II)I"⟩
abbrev cX0_findOnlyWithBody : ByteArray := prog_2_method_14_code
def yX0_findOnlyWithBody : MethodName := ⟨RX0, "findOnlyWithBody", "(II)I"⟩
abbrev cX0_checkMember : ByteArray := prog_2_method_15_code
def yX0_checkMember : MethodName := ⟨RX0, "checkMember", "(LLinkPredictor$Reference;I)I"⟩
abbrev cX0_isAccessible : ByteArray := prog_2_method_16_code
def yX0_isAccessible : MethodName := ⟨RX0, "isAccessible", "(III)Z"⟩
abbrev cX0_isInherited : ByteArray := prog_2_method_17_code
def yX0_isInherited : MethodName := ⟨RX0, "isInherited", "(III)Z"⟩
abbrev cX0_isFit : ByteArray := prog_2_method_18_code
def yX0_isFit : MethodName := ⟨RX0, "isFit", "(II)Z"⟩
abbrev cX0_selectFor : ByteArray := prog_2_method_19_code
def yX0_selectFor : MethodName := ⟨RX0, "selectFor", "(III)I"⟩
abbrev cX0_selectFromFaces : ByteArray := prog_2_method_20_code
def yX0_selectFromFaces : MethodName := ⟨RX0, "selectFromFaces", "(II)I"⟩
abbrev cX0_overrides : ByteArray := prog_2_method_21_code
def yX0_overrides : MethodName := ⟨RX0, "overrides", "(II)Z"⟩
abbrev cX0_checkSelected : ByteArray := prog_2_method_22_code
def yX0_checkSelected : MethodName := ⟨RX0, "checkSelected", "(LLinkPredictor$Reference;I)I"⟩
def RX1 : String := "LinkPredictor$Hierarchy"
def TX1 : u_T := fun k => match k with
  | 0 => ("LinkPredictor$Hierarchy", "there", "I", false)
  | 1 => ("LinkPredictor$Hierarchy", "flags", "[I", true)
  | 2 => ("LinkPredictor$Hierarchy", "packs", "[I", true)
  | 3 => ("LinkPredictor$Hierarchy", "supers", "[I", true)
  | 4 => ("LinkPredictor$Hierarchy", "directFaces", "[I", true)
  | 5 => ("LinkPredictor$Hierarchy", "hosts", "[I", true)
  | 6 => ("LinkPredictor$Hierarchy", "verdicts", "[I", true)
  | 7 => ("LinkPredictor$Hierarchy", "settled", "I", false)
  | 8 => ("LinkPredictor$Hierarchy", "aboves", "[I", true)
  | _ => ("LinkPredictor$Hierarchy", "allFaces", "[I", true)
def tyX1 : Nat → FieldType := fun k => match k with
  | 0 => .int
  | 1 => .array .int
  | 2 => .array .int
  | 3 => .array .int
  | 4 => .array .int
  | 5 => .array .int
  | 6 => .array .int
  | 7 => .int
  | 8 => .array .int
  | _ => .array .int
abbrev wsX10 : List Cond := u_ws RX1 TX1 10
theorem nmX1 : ∀ a, a < 10 → ∀ b, b < 10 → a ≠ b → (TX1 a).2.1 ≠ (TX1 b).2.1 := by decide +kernel
theorem tyX1_ok : ∀ k, k < 10 → parseFieldDescriptor (TX1 k).2.2.1 = some (tyX1 k) := by decide +kernel
abbrev cX1_init : ByteArray := prog_3_method_1_code
def yX1_init : MethodName := ⟨RX1, "<init>", "()V"⟩
abbrev cX1_define : ByteArray := prog_3_method_2_code
def yX1_define : MethodName := ⟨RX1, "define", "(IIIII)V"⟩
abbrev cX1_putHost : ByteArray := prog_3_method_3_code
def yX1_putHost : MethodName := ⟨RX1, "putHost", "(II)Z"⟩
abbrev cX1_takeAway : ByteArray := prog_3_method_4_code
def yX1_takeAway : MethodName := ⟨RX1, "takeAway", "(I)Z"⟩
abbrev cX1_becomeAs : ByteArray := prog_3_method_5_code
def yX1_becomeAs : MethodName := ⟨RX1, "becomeAs", "(LLinkPredictor$Hierarchy;)V"⟩
abbrev cX1_isThere : ByteArray := prog_3_method_6_code
def yX1_isThere : MethodName := ⟨RX1, "isThere", "(I)Z"⟩
abbrev cX1_isInterface : ByteArray := prog_3_method_7_code
def yX1_isInterface : MethodName := ⟨RX1, "isInterface", "(I)Z"⟩
abbrev cX1_canBeMade : ByteArray := prog_3_method_8_code
def yX1_canBeMade : MethodName := ⟨RX1, "canBeMade", "(I)Z"⟩
abbrev cX1_superOf : ByteArray := prog_3_method_9_code
def yX1_superOf : MethodName := ⟨RX1, "superOf", "(I)I"⟩
abbrev cX1_directFacesOf : ByteArray := prog_3_method_10_code
def yX1_directFacesOf : MethodName := ⟨RX1, "directFacesOf", "(I)I"⟩
abbrev cX1_facesOf : ByteArray := prog_3_method_11_code
def yX1_facesOf : MethodName := ⟨RX1, "facesOf", "(I)I"⟩
abbrev cX1_loading : ByteArray := prog_3_method_12_code
def yX1_loading : MethodName := ⟨RX1, "loading", "(I)I"⟩
abbrev cX1_reaching : ByteArray := prog_3_method_13_code
def yX1_reaching : MethodName := ⟨RX1, "reaching", "(II)I"⟩
abbrev cX1_isSamePackage : ByteArray := prog_3_method_14_code
def yX1_isSamePackage : MethodName := ⟨RX1, "isSamePackage", "(II)Z"⟩
abbrev cX1_hasAbove : ByteArray := prog_3_method_15_code
def yX1_hasAbove : MethodName := ⟨RX1, "hasAbove", "(II)Z"⟩
abbrev cX1_liesUnder : ByteArray := prog_3_method_16_code
def yX1_liesUnder : MethodName := ⟨RX1, "liesUnder", "(II)Z"⟩
abbrev cX1_mostSpecificOf : ByteArray := prog_3_method_17_code
def yX1_mostSpecificOf : MethodName := ⟨RX1, "mostSpecificOf", "(I)I"⟩
abbrev cX1_nestOf : ByteArray := prog_3_method_18_code
def yX1_nestOf : MethodName := ⟨RX1, "nestOf", "(I)I"⟩
abbrev cX1_countThere : ByteArray := prog_3_method_19_code
def yX1_countThere : MethodName := ⟨RX1, "countThere", "()I"⟩
abbrev cX1_countLoaded : ByteArray := prog_3_method_20_code
def yX1_countLoaded : MethodName := ⟨RX1, "countLoaded", "()I"⟩
abbrev cX1_nestSharers : ByteArray := prog_3_method_21_code
def yX1_nestSharers : MethodName := ⟨RX1, "nestSharers", "()I"⟩
abbrev cX1_settle : ByteArray := prog_3_method_22_code
def yX1_settle : MethodName := ⟨RX1, "settle", "()V"⟩
abbrev cX1_loadInside : ByteArray := prog_3_method_23_code
def yX1_loadInside : MethodName := ⟨RX1, "loadInside", "(II)I"⟩
abbrev cX1_loadParents : ByteArray := prog_3_method_24_code
def yX1_loadParents : MethodName := ⟨RX1, "loadParents", "(II)I"⟩
abbrev cX1_hasWrongParents : ByteArray := prog_3_method_25_code
def yX1_hasWrongParents : MethodName := ⟨RX1, "hasWrongParents", "(I)Z"⟩
abbrev cX1_gatherSets : ByteArray := prog_3_method_26_code
def yX1_gatherSets : MethodName := ⟨RX1, "gatherSets", "(I)V"⟩
def RX2 : String := "LinkPredictor$Members"
def TX2 : u_T := fun k => match k with
  | 0 => ("LinkPredictor$Members", "size", "I", false)
  | 1 => ("LinkPredictor$Members", "gone", "I", false)
  | 2 => ("LinkPredictor$Members", "owners", "[I", true)
  | 3 => ("LinkPredictor$Members", "keys", "[I", true)
  | 4 => ("LinkPredictor$Members", "accesses", "[I", true)
  | _ => ("LinkPredictor$Members", "flags", "[I", true)
def tyX2 : Nat → FieldType := fun k => match k with
  | 0 => .int
  | 1 => .int
  | 2 => .array .int
  | 3 => .array .int
  | 4 => .array .int
  | _ => .array .int
abbrev wsX20 : List Cond := u_ws RX2 TX2 6
theorem nmX2 : ∀ a, a < 6 → ∀ b, b < 6 → a ≠ b → (TX2 a).2.1 ≠ (TX2 b).2.1 := by decide +kernel
theorem tyX2_ok : ∀ k, k < 6 → parseFieldDescriptor (TX2 k).2.2.1 = some (tyX2 k) := by decide +kernel
abbrev cX2_init : ByteArray := prog_4_method_1_code
def yX2_init : MethodName := ⟨RX2, "<init>", "()V"⟩
abbrev cX2_append : ByteArray := prog_4_method_2_code
def yX2_append : MethodName := ⟨RX2, "append", "(IZIII)I"⟩
abbrev cX2_change : ByteArray := prog_4_method_3_code
def yX2_change : MethodName := ⟨RX2, "change", "(III)Z"⟩
abbrev cX2_discard : ByteArray := prog_4_method_4_code
def yX2_discard : MethodName := ⟨RX2, "discard", "(I)Z"⟩
abbrev cX2_discardAllOf : ByteArray := prog_4_method_5_code
def yX2_discardAllOf : MethodName := ⟨RX2, "discardAllOf", "(I)V"⟩
abbrev cX2_becomeAs : ByteArray := prog_4_method_6_code
def yX2_becomeAs : MethodName := ⟨RX2, "becomeAs", "(LLinkPredictor$Members;)V"⟩
abbrev cX2_find : ByteArray := prog_4_method_7_code
def yX2_find : MethodName := ⟨RX2, "find", "(IZI)I"⟩
abbrev cX2_ownersOfInheritable : ByteArray := prog_4_method_8_code
def yX2_ownersOfInheritable : MethodName := ⟨RX2, "ownersOfInheritable", "(I)I"⟩
abbrev cX2_isInheritable : ByteArray := prog_4_method_9_code
def yX2_isInheritable : MethodName := ⟨RX2, "isInheritable", "(I)Z"⟩
abbrev cX2_isSameThing : ByteArray := prog_4_method_10_code
def yX2_isSameThing : MethodName := ⟨RX2, "isSameThing", "(ILLinkPredictor$Members;I)Z"⟩
abbrev cX2_isStatic : ByteArray := prog_4_method_11_code
def yX2_isStatic : MethodName := ⟨RX2, "isStatic", "(I)Z"⟩
abbrev cX2_isAbstract : ByteArray := prog_4_method_12_code
def yX2_isAbstract : MethodName := ⟨RX2, "isAbstract", "(I)Z"⟩
abbrev cX2_isFinal : ByteArray := prog_4_method_13_code
def yX2_isFinal : MethodName := ⟨RX2, "isFinal", "(I)Z"⟩
abbrev cX2_ownerOf : ByteArray := prog_4_method_14_code
def yX2_ownerOf : MethodName := ⟨RX2, "ownerOf", "(I)I"⟩
abbrev cX2_accessOf : ByteArray := prog_4_method_15_code
def yX2_accessOf : MethodName := ⟨RX2, "accessOf", "(I)I"⟩
abbrev cX2_countAll : ByteArray := prog_4_method_16_code
def yX2_countAll : MethodName := ⟨RX2, "countAll", "()I"⟩
abbrev cX2_countPresent : ByteArray := prog_4_method_17_code
def yX2_countPresent : MethodName := ⟨RX2, "countPresent", "()I"⟩
abbrev cX2_countAbstractMethods : ByteArray := prog_4_method_18_code
def yX2_countAbstractMethods : MethodName := ⟨RX2, "countAbstractMethods", "()I"⟩
abbrev cX2_isPresent : ByteArray := prog_4_method_19_code
def yX2_isPresent : MethodName := ⟨RX2, "isPresent", "(I)Z"⟩
abbrev cX2_keyOf : ByteArray := prog_4_method_20_code
def yX2_keyOf : MethodName := ⟨RX2, "keyOf", "(ZI)I"⟩
def RX3 : String := "LinkPredictor$Reference"
def TX3 : u_T := fun k => match k with
  | 0 => ("LinkPredictor$Reference", "kind", "I", false)
  | 1 => ("LinkPredictor$Reference", "holder", "I", false)
  | 2 => ("LinkPredictor$Reference", "way", "I", false)
  | _ => ("LinkPredictor$Reference", "sign", "I", false)
def tyX3 : Nat → FieldType := fun k => match k with
  | 0 => .int
  | 1 => .int
  | 2 => .int
  | _ => .int
abbrev wsX30 : List Cond := u_ws RX3 TX3 4
theorem nmX3 : ∀ a, a < 4 → ∀ b, b < 4 → a ≠ b → (TX3 a).2.1 ≠ (TX3 b).2.1 := by decide +kernel
theorem tyX3_ok : ∀ k, k < 4 → parseFieldDescriptor (TX3 k).2.2.1 = some (tyX3 k) := by decide +kernel
abbrev cX3_init : ByteArray := prog_5_method_1_code
def yX3_init : MethodName := ⟨RX3, "<init>", "()V"⟩
abbrev cX3_put : ByteArray := prog_5_method_2_code
def yX3_put : MethodName := ⟨RX3, "put", "(IIII)V"⟩
abbrev cX3_isOfField : ByteArray := prog_5_method_3_code
def yX3_isOfField : MethodName := ⟨RX3, "isOfField", "()Z"⟩
abbrev cX3_isPut : ByteArray := prog_5_method_4_code
def yX3_isPut : MethodName := ⟨RX3, "isPut", "()Z"⟩
abbrev cX3_needsStatic : ByteArray := prog_5_method_5_code
def yX3_needsStatic : MethodName := ⟨RX3, "needsStatic", "()Z"⟩
abbrev cX3_hasReceiver : ByteArray := prog_5_method_6_code
def yX3_hasReceiver : MethodName := ⟨RX3, "hasReceiver", "()Z"⟩
def RX4 : String := "LinkPredictor"
def TX4 : u_T := fun k => match k with
  | 0 => ("LinkPredictor", "builds", "[LLinkPredictor$Build;", true)
  | 1 => ("LinkPredictor", "references", "[LLinkPredictor$Reference;", true)
  | 2 => ("LinkPredictor", "referenceCount", "I", false)
  | _ => ("LinkPredictor", "written", "I", false)
def tyX4 : Nat → FieldType := fun k => match k with
  | 0 => .array (.object "LinkPredictor$Build")
  | 1 => .array (.object "LinkPredictor$Reference")
  | 2 => .int
  | _ => .int
abbrev wsX40 : List Cond := u_ws RX4 TX4 4
theorem nmX4 : ∀ a, a < 4 → ∀ b, b < 4 → a ≠ b → (TX4 a).2.1 ≠ (TX4 b).2.1 := by decide +kernel
theorem tyX4_ok : ∀ k, k < 4 → parseFieldDescriptor (TX4 k).2.2.1 = some (tyX4 k) := by decide +kernel
abbrev cX4_init : ByteArray := prog_1_method_1_code
def yX4_init : MethodName := ⟨RX4, "<init>", "()V"⟩
abbrev cX4_type : ByteArray := prog_1_method_2_code
def yX4_type : MethodName := ⟨RX4, "type", "(IIIII)Z"⟩
abbrev cX4_nest : ByteArray := prog_1_method_3_code
def yX4_nest : MethodName := ⟨RX4, "nest", "(II)Z"⟩
abbrev cX4_drop : ByteArray := prog_1_method_4_code
def yX4_drop : MethodName := ⟨RX4, "drop", "(I)Z"⟩
abbrev cX4_member : ByteArray := prog_1_method_5_code
def yX4_member : MethodName := ⟨RX4, "member", "(IZIII)I"⟩
abbrev cX4_remake : ByteArray := prog_1_method_6_code
def yX4_remake : MethodName := ⟨RX4, "remake", "(III)Z"⟩
abbrev cX4_remove : ByteArray := prog_1_method_7_code
def yX4_remove : MethodName := ⟨RX4, "remove", "(I)Z"⟩
abbrev cX4_branch : ByteArray := prog_1_method_8_code
def yX4_branch : MethodName := ⟨RX4, "branch", "()I"⟩
abbrev cX4_write : ByteArray := prog_1_method_9_code
def yX4_write : MethodName := ⟨RX4, "write", "(I)Z"⟩
abbrev cX4_refer : ByteArray := prog_1_method_10_code
def yX4_refer : MethodName := ⟨RX4, "refer", "(IIII)I"⟩
abbrev cX4_forget : ByteArray := prog_1_method_11_code
def yX4_forget : MethodName := ⟨RX4, "forget", "()I"⟩
abbrev cX4_load : ByteArray := prog_1_method_12_code
def yX4_load : MethodName := ⟨RX4, "load", "(II)I"⟩
abbrev cX4_resolve : ByteArray := prog_1_method_13_code
def yX4_resolve : MethodName := ⟨RX4, "resolve", "(II)I"⟩
abbrev cX4_select : ByteArray := prog_1_method_14_code
def yX4_select : MethodName := ⟨RX4, "select", "(III)I"⟩
abbrev cX4_compare : ByteArray := prog_1_method_15_code
def yX4_compare : MethodName := ⟨RX4, "compare", "(I)I"⟩
abbrev cX4_receivers : ByteArray := prog_1_method_16_code
def yX4_receivers : MethodName := ⟨RX4, "receivers", "(II)I"⟩
abbrev cX4_isUnder : ByteArray := prog_1_method_17_code
def yX4_isUnder : MethodName := ⟨RX4, "isUnder", "(III)Z"⟩
abbrev cX4_count : ByteArray := prog_1_method_18_code
def yX4_count : MethodName := ⟨RX4, "count", "(II)I"⟩
abbrev cX4_countGoodReferences : ByteArray := prog_1_method_19_code
def yX4_countGoodReferences : MethodName := ⟨RX4, "countGoodReferences", "(LLinkPredictor$Build;)I"⟩
abbrev cX4_isSuchReceiver : ByteArray := prog_1_method_20_code
def yX4_isSuchReceiver : MethodName := ⟨RX4, "isSuchReceiver", "(III)Z"⟩
abbrev cX4_areAlike : ByteArray := prog_1_method_21_code
def yX4_areAlike : MethodName := ⟨RX4, "areAlike", "(II)Z"⟩
abbrev cX4_isWithin : ByteArray := prog_1_method_22_code
def yX4_isWithin : MethodName := ⟨RX4, "isWithin", "(II)Z"⟩
abbrev cX4_isOrdinaryType : ByteArray := prog_1_method_23_code
def yX4_isOrdinaryType : MethodName := ⟨RX4, "isOrdinaryType", "(I)Z"⟩
abbrev cX4_isGood : ByteArray := prog_1_method_24_code
def yX4_isGood : MethodName := ⟨RX4, "isGood", "(I)Z"⟩
abbrev cX4_bit : ByteArray := prog_1_method_25_code
def yX4_bit : MethodName := ⟨RX4, "bit", "(I)I"⟩
abbrev cX4_contains : ByteArray := prog_1_method_26_code
def yX4_contains : MethodName := ⟨RX4, "contains", "(II)Z"⟩
def RX5 : String := "LinkPredictorModel"
def TX5 : u_T := fun k => match k with
  | 0 => ("LinkPredictorModel", "there", "[Z", true)
  | 1 => ("LinkPredictorModel", "flags", "[I", true)
  | 2 => ("LinkPredictorModel", "pack", "[I", true)
  | 3 => ("LinkPredictorModel", "above", "[I", true)
  | 4 => ("LinkPredictorModel", "faces", "[I", true)
  | 5 => ("LinkPredictorModel", "host", "[I", true)
  | 6 => ("LinkPredictorModel", "method", "[Z", true)
  | 7 => ("LinkPredictorModel", "gone", "[Z", true)
  | 8 => ("LinkPredictorModel", "many", "[I", true)
  | 9 => ("LinkPredictorModel", "owner", "[I", true)
  | 10 => ("LinkPredictorModel", "sign", "[I", true)
  | 11 => ("LinkPredictorModel", "access", "[I", true)
  | 12 => ("LinkPredictorModel", "marks", "[I", true)
  | 13 => ("LinkPredictorModel", "kind", "[I", true)
  | 14 => ("LinkPredictorModel", "holder", "[I", true)
  | 15 => ("LinkPredictorModel", "way", "[I", true)
  | 16 => ("LinkPredictorModel", "asked", "[I", true)
  | 17 => ("LinkPredictorModel", "references", "I", false)
  | 18 => ("LinkPredictorModel", "written", "I", false)
  | 19 => ("LinkPredictorModel", "row", "[I", true)
  | _ => ("LinkPredictorModel", "stage", "[I", true)
def tyX5 : Nat → FieldType := fun k => match k with
  | 0 => .array .boolean
  | 1 => .array .int
  | 2 => .array .int
  | 3 => .array .int
  | 4 => .array .int
  | 5 => .array .int
  | 6 => .array .boolean
  | 7 => .array .boolean
  | 8 => .array .int
  | 9 => .array .int
  | 10 => .array .int
  | 11 => .array .int
  | 12 => .array .int
  | 13 => .array .int
  | 14 => .array .int
  | 15 => .array .int
  | 16 => .array .int
  | 17 => .int
  | 18 => .int
  | 19 => .array .int
  | _ => .array .int
abbrev wsX50 : List Cond := u_ws RX5 TX5 21
theorem nmX5 : ∀ a, a < 21 → ∀ b, b < 21 → a ≠ b → (TX5 a).2.1 ≠ (TX5 b).2.1 := by decide +kernel
theorem tyX5_ok : ∀ k, k < 21 → parseFieldDescriptor (TX5 k).2.2.1 = some (tyX5 k) := by decide +kernel
abbrev cX5_init : ByteArray := prog_7_method_1_code
def yX5_init : MethodName := ⟨RX5, "<init>", "()V"⟩
abbrev cX5_in : ByteArray := prog_7_method_2_code
def yX5_in : MethodName := ⟨RX5, "in", "(II)Z"⟩
abbrev cX5_has : ByteArray := prog_7_method_3_code
def yX5_has : MethodName := ⟨RX5, "has", "(II)Z"⟩
abbrev cX5_at : ByteArray := prog_7_method_4_code
def yX5_at : MethodName := ⟨RX5, "at", "(I)I"⟩
abbrev cX5_isThere : ByteArray := prog_7_method_5_code
def yX5_isThere : MethodName := ⟨RX5, "isThere", "(I)Z"⟩
abbrev cX5_type : ByteArray := prog_7_method_6_code
def yX5_type : MethodName := ⟨RX5, "type", "(IIIII)Z"⟩
abbrev cX5_nest : ByteArray := prog_7_method_7_code
def yX5_nest : MethodName := ⟨RX5, "nest", "(II)Z"⟩
abbrev cX5_drop : ByteArray := prog_7_method_8_code
def yX5_drop : MethodName := ⟨RX5, "drop", "(I)Z"⟩
abbrev cX5_own : ByteArray := prog_7_method_9_code
def yX5_own : MethodName := ⟨RX5, "own", "(IIZI)I"⟩
abbrev cX5_member : ByteArray := prog_7_method_10_code
def yX5_member : MethodName := ⟨RX5, "member", "(IZIII)I"⟩
abbrev cX5_isMember : ByteArray := prog_7_method_11_code
def yX5_isMember : MethodName := ⟨RX5, "isMember", "(I)Z"⟩
abbrev cX5_remake : ByteArray := prog_7_method_12_code
def yX5_remake : MethodName := ⟨RX5, "remake", "(III)Z"⟩
abbrev cX5_remove : ByteArray := prog_7_method_13_code
def yX5_remove : MethodName := ⟨RX5, "remove", "(I)Z"⟩
abbrev cX5_branch : ByteArray := prog_7_method_14_code
def yX5_branch : MethodName := ⟨RX5, "branch", "()I"⟩
abbrev cX5_write : ByteArray := prog_7_method_15_code
def yX5_write : MethodName := ⟨RX5, "write", "(I)Z"⟩
abbrev cX5_refer : ByteArray := prog_7_method_16_code
def yX5_refer : MethodName := ⟨RX5, "refer", "(IIII)I"⟩
abbrev cX5_forget : ByteArray := prog_7_method_17_code
def yX5_forget : MethodName := ⟨RX5, "forget", "()I"⟩
abbrev cX5_verdict : ByteArray := prog_7_method_18_code
def yX5_verdict : MethodName := ⟨RX5, "verdict", "(II)I"⟩
abbrev cX5_isChanged : ByteArray := prog_7_method_19_code
def yX5_isChanged : MethodName := ⟨RX5, "isChanged", "(II)Z"⟩
abbrev cX5_loaded : ByteArray := prog_7_method_20_code
def yX5_loaded : MethodName := ⟨RX5, "loaded", "(II)I"⟩
abbrev cX5_isLoaded : ByteArray := prog_7_method_21_code
def yX5_isLoaded : MethodName := ⟨RX5, "isLoaded", "(II)Z"⟩
abbrev cX5_aboveOf : ByteArray := prog_7_method_22_code
def yX5_aboveOf : MethodName := ⟨RX5, "aboveOf", "(II)I"⟩
abbrev cX5_facesOf : ByteArray := prog_7_method_23_code
def yX5_facesOf : MethodName := ⟨RX5, "facesOf", "(II)I"⟩
abbrev cX5_under : ByteArray := prog_7_method_24_code
def yX5_under : MethodName := ⟨RX5, "under", "(III)Z"⟩
abbrev cX5_nestOf : ByteArray := prog_7_method_25_code
def yX5_nestOf : MethodName := ⟨RX5, "nestOf", "(II)I"⟩
abbrev cX5_isOpen : ByteArray := prog_7_method_26_code
def yX5_isOpen : MethodName := ⟨RX5, "isOpen", "(IIII)Z"⟩
abbrev cX5_field : ByteArray := prog_7_method_27_code
def yX5_field : MethodName := ⟨RX5, "field", "(III)I"⟩
abbrev cX5_lay : ByteArray := prog_7_method_28_code
def yX5_lay : MethodName := ⟨RX5, "lay", "(II)I"⟩
abbrev cX5_offers : ByteArray := prog_7_method_29_code
def yX5_offers : MethodName := ⟨RX5, "offers", "(III)Z"⟩
abbrev cX5_specific : ByteArray := prog_7_method_30_code
def yX5_specific : MethodName := ⟨RX5, "specific", "(III)I"⟩
abbrev cX5_bodied : ByteArray := prog_7_method_31_code
def yX5_bodied : MethodName := ⟨RX5, "bodied", "(III)I"⟩
abbrev cX5_find : ByteArray := prog_7_method_32_code
def yX5_find : MethodName := ⟨RX5, "find", "(III)I"⟩
abbrev cX5_resolved : ByteArray := prog_7_method_33_code
def yX5_resolved : MethodName := ⟨RX5, "resolved", "(II)I"⟩
abbrev cX5_overrides : ByteArray := prog_7_method_34_code
def yX5_overrides : MethodName := ⟨RX5, "overrides", "(III)Z"⟩
abbrev cX5_selected : ByteArray := prog_7_method_35_code
def yX5_selected : MethodName := ⟨RX5, "selected", "(III)I"⟩
abbrev cX5_isAsk : ByteArray := prog_7_method_36_code
def yX5_isAsk : MethodName := ⟨RX5, "isAsk", "(II)Z"⟩
abbrev cX5_load : ByteArray := prog_7_method_37_code
def yX5_load : MethodName := ⟨RX5, "load", "(II)I"⟩
abbrev cX5_resolve : ByteArray := prog_7_method_38_code
def yX5_resolve : MethodName := ⟨RX5, "resolve", "(II)I"⟩
abbrev cX5_selects : ByteArray := prog_7_method_39_code
def yX5_selects : MethodName := ⟨RX5, "selects", "(II)Z"⟩
abbrev cX5_select : ByteArray := prog_7_method_40_code
def yX5_select : MethodName := ⟨RX5, "select", "(III)I"⟩
abbrev cX5_areAlike : ByteArray := prog_7_method_41_code
def yX5_areAlike : MethodName := ⟨RX5, "areAlike", "(II)Z"⟩
abbrev cX5_compare : ByteArray := prog_7_method_42_code
def yX5_compare : MethodName := ⟨RX5, "compare", "(I)I"⟩
abbrev cX5_receivers : ByteArray := prog_7_method_43_code
def yX5_receivers : MethodName := ⟨RX5, "receivers", "(II)I"⟩
abbrev cX5_isUnder : ByteArray := prog_7_method_44_code
def yX5_isUnder : MethodName := ⟨RX5, "isUnder", "(III)Z"⟩
abbrev cX5_neighbours : ByteArray := prog_7_method_45_code
def yX5_neighbours : MethodName := ⟨RX5, "neighbours", "(I)I"⟩
abbrev cX5_count : ByteArray := prog_7_method_46_code
def yX5_count : MethodName := ⟨RX5, "count", "(II)I"⟩
def RJ6 : String := "java/lang/Integer"
def TJ6 : u_T := fun k => match k with
  | _ => ("", "", "", false)
def tyJ6 : Nat → FieldType := fun k => match k with
  | _ => .int
abbrev wsJ60 : List Cond := u_ws RJ6 TJ6 0
theorem nmJ6 : ∀ a, a < 0 → ∀ b, b < 0 → a ≠ b → (TJ6 a).2.1 ≠ (TJ6 b).2.1 := by decide +kernel
theorem tyJ6_ok : ∀ k, k < 0 → parseFieldDescriptor (TJ6 k).2.2.1 = some (tyJ6 k) := by decide +kernel
abbrev cJ6_bitCount_0f7a4 : ByteArray := prog_8_method_49_code
def yJ6_bitCount_0f7a4 : MethodName := ⟨RJ6, "bitCount", "(I)I"⟩
def RJ9 : String := "java/lang/Math"
def TJ9 : u_T := fun k => match k with
  | _ => ("", "", "", false)
def tyJ9 : Nat → FieldType := fun k => match k with
  | _ => .int
abbrev wsJ90 : List Cond := u_ws RJ9 TJ9 0
theorem nmJ9 : ∀ a, a < 0 → ∀ b, b < 0 → a ≠ b → (TJ9 a).2.1 ≠ (TJ9 b).2.1 := by decide +kernel
theorem tyJ9_ok : ∀ k, k < 0 → parseFieldDescriptor (TJ9 k).2.2.1 = some (tyJ9 k) := by decide +kernel
abbrev cJ9_min_7cf53 : ByteArray := prog_9_method_69_code
def yJ9_min_7cf53 : MethodName := ⟨RJ9, "min", "(II)I"⟩
def RJ10 : String := "java/lang/System"
def TJ10 : u_T := fun k => match k with
  | _ => ("", "", "", false)
def tyJ10 : Nat → FieldType := fun k => match k with
  | _ => .int
abbrev wsJ100 : List Cond := u_ws RJ10 TJ10 0
theorem nmJ10 : ∀ a, a < 0 → ∀ b, b < 0 → a ≠ b → (TJ10 a).2.1 ≠ (TJ10 b).2.1 := by decide +kernel
theorem tyJ10_ok : ∀ k, k < 0 → parseFieldDescriptor (TJ10 k).2.2.1 = some (tyJ10 k) := by decide +kernel
def RL : String := "LinkPredictorLaw"
abbrev cL_law : ByteArray := code
def yL_law : MethodName := ⟨RL, "law", "([I)Z"⟩
abbrev vwCl : List vw_C := [(RX0, TX0, 3), (RX1, TX1, 10), (RX2, TX2, 6), (RX3, TX3, 4), (RX4, TX4, 4), (RX5, TX5, 21)]
end
section
/-! ===== the words of the tables that every method may rest on, by their places ===== -/
def TT : List Cond := lw_tbl.filter goodWord
theorem TT_in {w : Cond} (h : w ∈ TT) : w ∈ lw_tbl := (List.mem_filter.mp h).1
theorem TT_good {w : Cond} (h : w ∈ TT) : goodWord w = true := (List.mem_filter.mp h).2
theorem mTs {w : Cond} (h : w ∈ k2_sels lw_privs) (g : goodWord w = true) : w ∈ TT := List.mem_filter.mpr ⟨List.mem_append_left _ h, g⟩
theorem mL1 {w : Cond} (h : w ∈ tables_1_1) : w ∈ lw_tbl := List.mem_append_right _ (List.mem_append_left _ h)
theorem mL2 {w : Cond} (h : w ∈ tables_1_2) : w ∈ lw_tbl := List.mem_append_right _ (List.mem_append_right _ (List.mem_append_left _ h))
theorem mL3 {w : Cond} (h : w ∈ tables_1_3) : w ∈ lw_tbl := List.mem_append_right _ (List.mem_append_right _ (List.mem_append_right _ (List.mem_append_left _ h)))
theorem mL4 {w : Cond} (h : w ∈ tables_1_4) : w ∈ lw_tbl := List.mem_append_right _ (List.mem_append_right _ (List.mem_append_right _ (List.mem_append_right _ h)))
theorem mT {w : Cond} (h : w ∈ lw_tbl) (g : goodWord w = true) : w ∈ TT := List.mem_filter.mpr ⟨h, g⟩
theorem goodC {c c' : Cond} (h : c' ∈ TT) : GoodIn (c :: TT) (c' :: TT) := fun w hw => by
  rcases List.mem_cons.mp hw with e | e
  · rw [e]; exact ⟨List.mem_cons_of_mem _ h, good_of_word (TT_good h)⟩
  · exact ⟨List.mem_cons_of_mem _ e, good_of_word (TT_good e)⟩
theorem goodP {c c' : Cond} {ps : List Cond} (hp : ∀ w ∈ ps, w ∈ TT) (h : c' ∈ TT) : GoodIn (c :: TT) (ps ++ (c' :: TT)) := fun w hw => by
  rcases List.mem_append.mp hw with e | e
  · exact ⟨List.mem_cons_of_mem _ (hp w e), good_of_word (TT_good (hp w e))⟩
  · exact goodC h w e
theorem goodPL {c' : Cond} {ps : List Cond} (hp : ∀ w ∈ ps, w ∈ TT) (h : c' ∈ TT) : GoodIn lw_tbl (ps ++ (c' :: TT)) := fun w hw => by
  rcases List.mem_append.mp hw with e | e
  · exact ⟨TT_in (hp w e), good_of_word (TT_good (hp w e))⟩
  · rcases List.mem_cons.mp e with e | e
    · rw [e]; exact ⟨TT_in h, good_of_word (TT_good h)⟩
    · exact ⟨TT_in e, good_of_word (TT_good e)⟩
theorem all4 {a b c d : Cond} (h1 : a ∈ TT) (h2 : b ∈ TT) (h3 : c ∈ TT) (h4 : d ∈ TT) : ∀ w ∈ [a, b, c, d], w ∈ TT := List.forall_mem_cons.mpr ⟨h1, List.forall_mem_cons.mpr ⟨h2, List.forall_mem_cons.mpr ⟨h3, List.forall_mem_cons.mpr ⟨h4, fun _ h => absurd h List.not_mem_nil⟩⟩⟩⟩
theorem all3 {a b c : Cond} (h1 : a ∈ TT) (h2 : b ∈ TT) (h3 : c ∈ TT) : ∀ w ∈ [a, b, c], w ∈ TT := List.forall_mem_cons.mpr ⟨h1, List.forall_mem_cons.mpr ⟨h2, List.forall_mem_cons.mpr ⟨h3, fun _ h => absurd h List.not_mem_nil⟩⟩⟩
theorem mw_1_0 : (Jvm.Cond.initialized "LinkPredictorLaw") ∈ TT := mT (mL1 (List.mem_of_getElem? (i := 0) rfl)) rfl
theorem mw_1_1 : (Jvm.Cond.initialized "LinkPredictor") ∈ TT := mT (mL1 (List.mem_of_getElem? (i := 1) rfl)) rfl
theorem mw_1_2 : (Jvm.Cond.initialized "LinkPredictor$Build") ∈ TT := mT (mL1 (List.mem_of_getElem? (i := 2) rfl)) rfl
theorem mw_1_3 : (Jvm.Cond.initialized "LinkPredictor$Hierarchy") ∈ TT := mT (mL1 (List.mem_of_getElem? (i := 3) rfl)) rfl
theorem mw_1_4 : (Jvm.Cond.initialized "LinkPredictor$Members") ∈ TT := mT (mL1 (List.mem_of_getElem? (i := 4) rfl)) rfl
theorem mw_1_5 : (Jvm.Cond.initialized "LinkPredictor$Reference") ∈ TT := mT (mL1 (List.mem_of_getElem? (i := 5) rfl)) rfl
theorem mw_1_6 : (Jvm.Cond.initialized "LinkPredictorModel") ∈ TT := mT (mL1 (List.mem_of_getElem? (i := 6) rfl)) rfl
theorem mw_1_7 : (Jvm.Cond.initialized "java/lang/System") ∈ TT := mT (mL1 (List.mem_of_getElem? (i := 7) rfl)) rfl
theorem mw_1_8 : (Jvm.Cond.initialized "java/lang/Integer") ∈ TT := mT (mL1 (List.mem_of_getElem? (i := 8) rfl)) rfl
theorem mw_1_9 : (Jvm.Cond.initialized "java/lang/Math") ∈ TT := mT (mL1 (List.mem_of_getElem? (i := 9) rfl)) rfl
theorem mw_1_10 : (Jvm.Cond.classLink "LinkPredictorLaw" (7 : Nat) "LinkPredictor") ∈ TT := mT (mL1 (List.mem_of_getElem? (i := 10) rfl)) rfl
theorem mw_1_11 : (Jvm.Cond.instantiable "LinkPredictor" (4 : Nat)) ∈ TT := mT (mL1 (List.mem_of_getElem? (i := 11) rfl)) rfl
theorem mw_1_12 : (Jvm.Cond.methodLink "LinkPredictorLaw" (9 : Nat) ({ cls := "LinkPredictor", name := "<init>", desc := "()V" } : Jvm.MethodName)) ∈ TT := mT (mL1 (List.mem_of_getElem? (i := 12) rfl)) rfl
theorem mw_1_13 : (Jvm.Cond.instanceMethod ({ cls := "LinkPredictor", name := "<init>", desc := "()V" } : Jvm.MethodName)) ∈ TT := mT (mL1 (List.mem_of_getElem? (i := 13) rfl)) rfl
theorem mw_1_14 : (Jvm.Cond.code ({ cls := "LinkPredictor", name := "<init>", desc := "()V" } : Jvm.MethodName) prog_1_method_1_code (2 : Nat) (Option.none : Option Jvm.ClassFile.FieldType)) ∈ TT := mT (mL1 (List.mem_of_getElem? (i := 14) rfl)) rfl
theorem mw_1_15 : (Jvm.Cond.methodLink "LinkPredictor" (3 : Nat) ({ cls := "java/lang/Object", name := "<init>", desc := "()V" } : Jvm.MethodName)) ∈ TT := mT (mL1 (List.mem_of_getElem? (i := 15) rfl)) rfl
theorem mw_1_16 : (Jvm.Cond.instanceMethod ({ cls := "java/lang/Object", name := "<init>", desc := "()V" } : Jvm.MethodName)) ∈ TT := mT (mL1 (List.mem_of_getElem? (i := 16) rfl)) rfl
theorem mw_1_17 : (Jvm.Cond.code ({ cls := "java/lang/Object", name := "<init>", desc := "()V" } : Jvm.MethodName) object_method_1_code (1 : Nat) (Option.none : Option Jvm.ClassFile.FieldType)) ∈ TT := mT (mL1 (List.mem_of_getElem? (i := 17) rfl)) rfl
theorem mw_1_18 : (Jvm.Cond.classLink "LinkPredictor" (9 : Nat) "LinkPredictor$Build") ∈ TT := mT (mL1 (List.mem_of_getElem? (i := 18) rfl)) rfl
theorem nw_1_19 : (Jvm.Cond.arrayOver (Jvm.ClassFile.FieldType.object "LinkPredictor$Build")) ∈ lw_tbl := mL1 (List.mem_of_getElem? (i := 19) rfl)
theorem mw_1_20 : (Jvm.Cond.instantiable "LinkPredictor$Build" (3 : Nat)) ∈ TT := mT (mL1 (List.mem_of_getElem? (i := 20) rfl)) rfl
theorem nw_1_21 : (Jvm.Cond.methodLinkNest "LinkPredictor" (11 : Nat) ({ cls := "LinkPredictor$Build", name := "<init>", desc := "()V" } : Jvm.MethodName) "LinkPredictor") ∈ lw_tbl := mL1 (List.mem_of_getElem? (i := 21) rfl)
theorem mw_1_22 : (Jvm.Cond.instanceMethod ({ cls := "LinkPredictor$Build", name := "<init>", desc := "()V" } : Jvm.MethodName)) ∈ TT := mT (mL1 (List.mem_of_getElem? (i := 22) rfl)) rfl
theorem mw_1_23 : (Jvm.Cond.code ({ cls := "LinkPredictor$Build", name := "<init>", desc := "()V" } : Jvm.MethodName) prog_2_method_1_code (1 : Nat) (Option.none : Option Jvm.ClassFile.FieldType)) ∈ TT := mT (mL1 (List.mem_of_getElem? (i := 23) rfl)) rfl
theorem mw_1_24 : (Jvm.Cond.methodLink "LinkPredictor$Build" (3 : Nat) ({ cls := "java/lang/Object", name := "<init>", desc := "()V" } : Jvm.MethodName)) ∈ TT := mT (mL1 (List.mem_of_getElem? (i := 24) rfl)) rfl
theorem mw_1_25 : (Jvm.Cond.classLink "LinkPredictor$Build" (9 : Nat) "LinkPredictor$Hierarchy") ∈ TT := mT (mL1 (List.mem_of_getElem? (i := 25) rfl)) rfl
theorem mw_1_26 : (Jvm.Cond.instantiable "LinkPredictor$Hierarchy" (10 : Nat)) ∈ TT := mT (mL1 (List.mem_of_getElem? (i := 26) rfl)) rfl
theorem mw_1_27 : (Jvm.Cond.methodLink "LinkPredictor$Build" (11 : Nat) ({ cls := "LinkPredictor$Hierarchy", name := "<init>", desc := "()V" } : Jvm.MethodName)) ∈ TT := mT (mL1 (List.mem_of_getElem? (i := 27) rfl)) rfl
theorem mw_1_28 : (Jvm.Cond.instanceMethod ({ cls := "LinkPredictor$Hierarchy", name := "<init>", desc := "()V" } : Jvm.MethodName)) ∈ TT := mT (mL1 (List.mem_of_getElem? (i := 28) rfl)) rfl
theorem mw_1_29 : (Jvm.Cond.code ({ cls := "LinkPredictor$Hierarchy", name := "<init>", desc := "()V" } : Jvm.MethodName) prog_3_method_1_code (1 : Nat) (Option.none : Option Jvm.ClassFile.FieldType)) ∈ TT := mT (mL1 (List.mem_of_getElem? (i := 29) rfl)) rfl
theorem mw_1_30 : (Jvm.Cond.methodLink "LinkPredictor$Hierarchy" (3 : Nat) ({ cls := "java/lang/Object", name := "<init>", desc := "()V" } : Jvm.MethodName)) ∈ TT := mT (mL1 (List.mem_of_getElem? (i := 30) rfl)) rfl
theorem nw_1_31 : (Jvm.Cond.methodLinkNest "LinkPredictor$Hierarchy" (36 : Nat) ({ cls := "LinkPredictor", name := "bit", desc := "(I)I" } : Jvm.MethodName) "LinkPredictor") ∈ lw_tbl := mL1 (List.mem_of_getElem? (i := 31) rfl)
theorem mw_1_32 : (Jvm.Cond.static ({ cls := "LinkPredictor", name := "bit", desc := "(I)I" } : Jvm.MethodName)) ∈ TT := mT (mL1 (List.mem_of_getElem? (i := 32) rfl)) rfl
theorem mw_1_33 : (Jvm.Cond.code ({ cls := "LinkPredictor", name := "bit", desc := "(I)I" } : Jvm.MethodName) prog_1_method_25_code (1 : Nat) (Option.some Jvm.ClassFile.FieldType.int)) ∈ TT := mT (mL1 (List.mem_of_getElem? (i := 33) rfl)) rfl
theorem mw_1_34 : (Jvm.Cond.methodLink "LinkPredictor$Hierarchy" (44 : Nat) ({ cls := "LinkPredictor$Hierarchy", name := "settle", desc := "()V" } : Jvm.MethodName)) ∈ TT := mT (mL1 (List.mem_of_getElem? (i := 34) rfl)) rfl
theorem nw_1_35 : (Jvm.Cond.privateMethod ({ cls := "LinkPredictor$Hierarchy", name := "settle", desc := "()V" } : Jvm.MethodName)) ∈ lw_tbl := mL1 (List.mem_of_getElem? (i := 35) rfl)
theorem mw_1_36 : (Jvm.Cond.instanceMethod ({ cls := "LinkPredictor$Hierarchy", name := "settle", desc := "()V" } : Jvm.MethodName)) ∈ TT := mT (mL1 (List.mem_of_getElem? (i := 36) rfl)) rfl
theorem mw_1_37 : (Jvm.Cond.code ({ cls := "LinkPredictor$Hierarchy", name := "settle", desc := "()V" } : Jvm.MethodName) prog_3_method_22_code (2 : Nat) (Option.none : Option Jvm.ClassFile.FieldType)) ∈ TT := mT (mL1 (List.mem_of_getElem? (i := 37) rfl)) rfl
theorem mw_1_38 : (Jvm.Cond.methodLink "LinkPredictor$Hierarchy" (78 : Nat) ({ cls := "LinkPredictor$Hierarchy", name := "loadInside", desc := "(II)I" } : Jvm.MethodName)) ∈ TT := mT (mL1 (List.mem_of_getElem? (i := 38) rfl)) rfl
theorem nw_1_39 : (Jvm.Cond.privateMethod ({ cls := "LinkPredictor$Hierarchy", name := "loadInside", desc := "(II)I" } : Jvm.MethodName)) ∈ lw_tbl := mL1 (List.mem_of_getElem? (i := 39) rfl)
theorem mw_1_40 : (Jvm.Cond.instanceMethod ({ cls := "LinkPredictor$Hierarchy", name := "loadInside", desc := "(II)I" } : Jvm.MethodName)) ∈ TT := mT (mL1 (List.mem_of_getElem? (i := 40) rfl)) rfl
theorem mw_1_41 : (Jvm.Cond.code ({ cls := "LinkPredictor$Hierarchy", name := "loadInside", desc := "(II)I" } : Jvm.MethodName) prog_3_method_23_code (4 : Nat) (Option.some Jvm.ClassFile.FieldType.int)) ∈ TT := mT (mL1 (List.mem_of_getElem? (i := 41) rfl)) rfl
theorem mw_1_42 : (Jvm.Cond.methodLink "LinkPredictor$Hierarchy" (47 : Nat) ({ cls := "LinkPredictor$Hierarchy", name := "isThere", desc := "(I)Z" } : Jvm.MethodName)) ∈ TT := mT (mL1 (List.mem_of_getElem? (i := 42) rfl)) rfl
theorem mw_1_43 : (Jvm.Cond.instanceMethod ({ cls := "LinkPredictor$Hierarchy", name := "isThere", desc := "(I)Z" } : Jvm.MethodName)) ∈ TT := mT (mL1 (List.mem_of_getElem? (i := 43) rfl)) rfl
theorem mw_1_44 : (Jvm.Cond.selects "LinkPredictor$Hierarchy" ({ cls := "LinkPredictor$Hierarchy", name := "isThere", desc := "(I)Z" } : Jvm.MethodName) ({ cls := "LinkPredictor$Hierarchy", name := "isThere", desc := "(I)Z" } : Jvm.MethodName)) ∈ TT := mT (mL1 (List.mem_of_getElem? (i := 44) rfl)) rfl
theorem mw_1_45 : (Jvm.Cond.code ({ cls := "LinkPredictor$Hierarchy", name := "isThere", desc := "(I)Z" } : Jvm.MethodName) prog_3_method_6_code (2 : Nat) (Option.some Jvm.ClassFile.FieldType.boolean)) ∈ TT := mT (mL1 (List.mem_of_getElem? (i := 45) rfl)) rfl
theorem nw_1_46 : (Jvm.Cond.methodLinkNest "LinkPredictor$Hierarchy" (57 : Nat) ({ cls := "LinkPredictor", name := "contains", desc := "(II)Z" } : Jvm.MethodName) "LinkPredictor") ∈ lw_tbl := mL1 (List.mem_of_getElem? (i := 46) rfl)
theorem mw_1_47 : (Jvm.Cond.static ({ cls := "LinkPredictor", name := "contains", desc := "(II)Z" } : Jvm.MethodName)) ∈ TT := mT (mL1 (List.mem_of_getElem? (i := 47) rfl)) rfl
theorem mw_1_48 : (Jvm.Cond.code ({ cls := "LinkPredictor", name := "contains", desc := "(II)Z" } : Jvm.MethodName) prog_1_method_26_code (2 : Nat) (Option.some Jvm.ClassFile.FieldType.boolean)) ∈ TT := mT (mL1 (List.mem_of_getElem? (i := 48) rfl)) rfl
theorem mw_1_49 : (Jvm.Cond.methodLink "LinkPredictor$Hierarchy" (82 : Nat) ({ cls := "LinkPredictor$Hierarchy", name := "loadParents", desc := "(II)I" } : Jvm.MethodName)) ∈ TT := mT (mL1 (List.mem_of_getElem? (i := 49) rfl)) rfl
theorem nw_1_50 : (Jvm.Cond.privateMethod ({ cls := "LinkPredictor$Hierarchy", name := "loadParents", desc := "(II)I" } : Jvm.MethodName)) ∈ lw_tbl := mL1 (List.mem_of_getElem? (i := 50) rfl)
theorem mw_1_51 : (Jvm.Cond.instanceMethod ({ cls := "LinkPredictor$Hierarchy", name := "loadParents", desc := "(II)I" } : Jvm.MethodName)) ∈ TT := mT (mL1 (List.mem_of_getElem? (i := 51) rfl)) rfl
theorem mw_1_52 : (Jvm.Cond.code ({ cls := "LinkPredictor$Hierarchy", name := "loadParents", desc := "(II)I" } : Jvm.MethodName) prog_3_method_24_code (5 : Nat) (Option.some Jvm.ClassFile.FieldType.int)) ∈ TT := mT (mL1 (List.mem_of_getElem? (i := 52) rfl)) rfl
theorem nw_1_53 : (Jvm.Cond.methodLinkNest "LinkPredictor$Hierarchy" (61 : Nat) ({ cls := "LinkPredictor", name := "isGood", desc := "(I)Z" } : Jvm.MethodName) "LinkPredictor") ∈ lw_tbl := mL1 (List.mem_of_getElem? (i := 53) rfl)
theorem mw_1_54 : (Jvm.Cond.static ({ cls := "LinkPredictor", name := "isGood", desc := "(I)Z" } : Jvm.MethodName)) ∈ TT := mT (mL1 (List.mem_of_getElem? (i := 54) rfl)) rfl
theorem mw_1_55 : (Jvm.Cond.code ({ cls := "LinkPredictor", name := "isGood", desc := "(I)Z" } : Jvm.MethodName) prog_1_method_24_code (1 : Nat) (Option.some Jvm.ClassFile.FieldType.boolean)) ∈ TT := mT (mL1 (List.mem_of_getElem? (i := 55) rfl)) rfl
theorem mw_1_56 : (Jvm.Cond.methodLink "LinkPredictor" (34 : Nat) ({ cls := "LinkPredictor", name := "isWithin", desc := "(II)Z" } : Jvm.MethodName)) ∈ TT := mT (mL1 (List.mem_of_getElem? (i := 56) rfl)) rfl
theorem mw_1_57 : (Jvm.Cond.static ({ cls := "LinkPredictor", name := "isWithin", desc := "(II)Z" } : Jvm.MethodName)) ∈ TT := mT (mL1 (List.mem_of_getElem? (i := 57) rfl)) rfl
theorem mw_1_58 : (Jvm.Cond.code ({ cls := "LinkPredictor", name := "isWithin", desc := "(II)Z" } : Jvm.MethodName) prog_1_method_22_code (2 : Nat) (Option.some Jvm.ClassFile.FieldType.boolean)) ∈ TT := mT (mL1 (List.mem_of_getElem? (i := 58) rfl)) rfl
theorem mw_1_59 : (Jvm.Cond.methodLink "LinkPredictor$Hierarchy" (85 : Nat) ({ cls := "LinkPredictor$Hierarchy", name := "hasWrongParents", desc := "(I)Z" } : Jvm.MethodName)) ∈ TT := mT (mL1 (List.mem_of_getElem? (i := 59) rfl)) rfl
theorem nw_1_60 : (Jvm.Cond.privateMethod ({ cls := "LinkPredictor$Hierarchy", name := "hasWrongParents", desc := "(I)Z" } : Jvm.MethodName)) ∈ lw_tbl := mL1 (List.mem_of_getElem? (i := 60) rfl)
theorem mw_1_61 : (Jvm.Cond.instanceMethod ({ cls := "LinkPredictor$Hierarchy", name := "hasWrongParents", desc := "(I)Z" } : Jvm.MethodName)) ∈ TT := mT (mL1 (List.mem_of_getElem? (i := 61) rfl)) rfl
theorem mw_1_62 : (Jvm.Cond.code ({ cls := "LinkPredictor$Hierarchy", name := "hasWrongParents", desc := "(I)Z" } : Jvm.MethodName) prog_3_method_25_code (4 : Nat) (Option.some Jvm.ClassFile.FieldType.boolean)) ∈ TT := mT (mL1 (List.mem_of_getElem? (i := 62) rfl)) rfl
theorem mw_1_63 : (Jvm.Cond.methodLink "LinkPredictor$Hierarchy" (92 : Nat) ({ cls := "LinkPredictor$Hierarchy", name := "isInterface", desc := "(I)Z" } : Jvm.MethodName)) ∈ TT := mT (mL1 (List.mem_of_getElem? (i := 63) rfl)) rfl
theorem mw_1_64 : (Jvm.Cond.instanceMethod ({ cls := "LinkPredictor$Hierarchy", name := "isInterface", desc := "(I)Z" } : Jvm.MethodName)) ∈ TT := mT (mL1 (List.mem_of_getElem? (i := 64) rfl)) rfl
theorem mw_1_65 : (Jvm.Cond.selects "LinkPredictor$Hierarchy" ({ cls := "LinkPredictor$Hierarchy", name := "isInterface", desc := "(I)Z" } : Jvm.MethodName) ({ cls := "LinkPredictor$Hierarchy", name := "isInterface", desc := "(I)Z" } : Jvm.MethodName)) ∈ TT := mT (mL1 (List.mem_of_getElem? (i := 65) rfl)) rfl
theorem mw_1_66 : (Jvm.Cond.code ({ cls := "LinkPredictor$Hierarchy", name := "isInterface", desc := "(I)Z" } : Jvm.MethodName) prog_3_method_7_code (2 : Nat) (Option.some Jvm.ClassFile.FieldType.boolean)) ∈ TT := mT (mL1 (List.mem_of_getElem? (i := 66) rfl)) rfl
theorem mw_1_67 : (Jvm.Cond.methodLink "LinkPredictor$Hierarchy" (88 : Nat) ({ cls := "LinkPredictor$Hierarchy", name := "gatherSets", desc := "(I)V" } : Jvm.MethodName)) ∈ TT := mT (mL1 (List.mem_of_getElem? (i := 67) rfl)) rfl
theorem nw_1_68 : (Jvm.Cond.privateMethod ({ cls := "LinkPredictor$Hierarchy", name := "gatherSets", desc := "(I)V" } : Jvm.MethodName)) ∈ lw_tbl := mL1 (List.mem_of_getElem? (i := 68) rfl)
theorem mw_1_69 : (Jvm.Cond.instanceMethod ({ cls := "LinkPredictor$Hierarchy", name := "gatherSets", desc := "(I)V" } : Jvm.MethodName)) ∈ TT := mT (mL1 (List.mem_of_getElem? (i := 69) rfl)) rfl
theorem mw_1_70 : (Jvm.Cond.code ({ cls := "LinkPredictor$Hierarchy", name := "gatherSets", desc := "(I)V" } : Jvm.MethodName) prog_3_method_26_code (5 : Nat) (Option.none : Option Jvm.ClassFile.FieldType)) ∈ TT := mT (mL1 (List.mem_of_getElem? (i := 70) rfl)) rfl
theorem mw_1_71 : (Jvm.Cond.fieldLink "LinkPredictor$Hierarchy" (40 : Nat) "LinkPredictor$Hierarchy" "there" "I") ∈ TT := mT (mL1 (List.mem_of_getElem? (i := 71) rfl)) rfl
theorem mw_1_72 : (Jvm.Cond.fieldLink "LinkPredictor$Hierarchy" (9 : Nat) "LinkPredictor$Hierarchy" "flags" "[I") ∈ TT := mT (mL1 (List.mem_of_getElem? (i := 72) rfl)) rfl
theorem mw_1_73 : (Jvm.Cond.fieldLink "LinkPredictor$Hierarchy" (15 : Nat) "LinkPredictor$Hierarchy" "packs" "[I") ∈ TT := mT (mL1 (List.mem_of_getElem? (i := 73) rfl)) rfl
theorem mw_1_74 : (Jvm.Cond.fieldLink "LinkPredictor$Hierarchy" (18 : Nat) "LinkPredictor$Hierarchy" "supers" "[I") ∈ TT := mT (mL1 (List.mem_of_getElem? (i := 74) rfl)) rfl
theorem mw_1_75 : (Jvm.Cond.fieldLink "LinkPredictor$Hierarchy" (21 : Nat) "LinkPredictor$Hierarchy" "directFaces" "[I") ∈ TT := mT (mL1 (List.mem_of_getElem? (i := 75) rfl)) rfl
theorem mw_1_76 : (Jvm.Cond.fieldLink "LinkPredictor$Hierarchy" (24 : Nat) "LinkPredictor$Hierarchy" "hosts" "[I") ∈ TT := mT (mL1 (List.mem_of_getElem? (i := 76) rfl)) rfl
theorem mw_1_77 : (Jvm.Cond.fieldLink "LinkPredictor$Hierarchy" (27 : Nat) "LinkPredictor$Hierarchy" "verdicts" "[I") ∈ TT := mT (mL1 (List.mem_of_getElem? (i := 77) rfl)) rfl
theorem mw_1_78 : (Jvm.Cond.fieldLink "LinkPredictor$Hierarchy" (72 : Nat) "LinkPredictor$Hierarchy" "settled" "I") ∈ TT := mT (mL1 (List.mem_of_getElem? (i := 78) rfl)) rfl
theorem mw_1_79 : (Jvm.Cond.fieldLink "LinkPredictor$Hierarchy" (30 : Nat) "LinkPredictor$Hierarchy" "aboves" "[I") ∈ TT := mT (mL1 (List.mem_of_getElem? (i := 79) rfl)) rfl
theorem mw_1_80 : (Jvm.Cond.fieldLink "LinkPredictor$Hierarchy" (33 : Nat) "LinkPredictor$Hierarchy" "allFaces" "[I") ∈ TT := mT (mL1 (List.mem_of_getElem? (i := 80) rfl)) rfl
theorem mw_1_81 : (Jvm.Cond.lays "LinkPredictor$Hierarchy" "LinkPredictor$Hierarchy" "there" "I") ∈ TT := mT (mL1 (List.mem_of_getElem? (i := 81) rfl)) rfl
theorem mw_1_82 : (Jvm.Cond.soleField "LinkPredictor$Hierarchy" "there") ∈ TT := mT (mL1 (List.mem_of_getElem? (i := 82) rfl)) rfl
theorem mw_1_83 : (Jvm.Cond.laysFinal "LinkPredictor$Hierarchy" "LinkPredictor$Hierarchy" "flags" "[I") ∈ TT := mT (mL1 (List.mem_of_getElem? (i := 83) rfl)) rfl
theorem mw_1_84 : (Jvm.Cond.soleField "LinkPredictor$Hierarchy" "flags") ∈ TT := mT (mL1 (List.mem_of_getElem? (i := 84) rfl)) rfl
theorem mw_1_85 : (Jvm.Cond.laysFinal "LinkPredictor$Hierarchy" "LinkPredictor$Hierarchy" "packs" "[I") ∈ TT := mT (mL1 (List.mem_of_getElem? (i := 85) rfl)) rfl
theorem mw_1_86 : (Jvm.Cond.soleField "LinkPredictor$Hierarchy" "packs") ∈ TT := mT (mL1 (List.mem_of_getElem? (i := 86) rfl)) rfl
theorem mw_1_87 : (Jvm.Cond.laysFinal "LinkPredictor$Hierarchy" "LinkPredictor$Hierarchy" "supers" "[I") ∈ TT := mT (mL1 (List.mem_of_getElem? (i := 87) rfl)) rfl
theorem mw_1_88 : (Jvm.Cond.soleField "LinkPredictor$Hierarchy" "supers") ∈ TT := mT (mL1 (List.mem_of_getElem? (i := 88) rfl)) rfl
theorem mw_1_89 : (Jvm.Cond.laysFinal "LinkPredictor$Hierarchy" "LinkPredictor$Hierarchy" "directFaces" "[I") ∈ TT := mT (mL1 (List.mem_of_getElem? (i := 89) rfl)) rfl
theorem mw_1_90 : (Jvm.Cond.soleField "LinkPredictor$Hierarchy" "directFaces") ∈ TT := mT (mL1 (List.mem_of_getElem? (i := 90) rfl)) rfl
theorem mw_1_91 : (Jvm.Cond.laysFinal "LinkPredictor$Hierarchy" "LinkPredictor$Hierarchy" "hosts" "[I") ∈ TT := mT (mL1 (List.mem_of_getElem? (i := 91) rfl)) rfl
theorem mw_1_92 : (Jvm.Cond.soleField "LinkPredictor$Hierarchy" "hosts") ∈ TT := mT (mL1 (List.mem_of_getElem? (i := 92) rfl)) rfl
theorem mw_1_93 : (Jvm.Cond.laysFinal "LinkPredictor$Hierarchy" "LinkPredictor$Hierarchy" "verdicts" "[I") ∈ TT := mT (mL1 (List.mem_of_getElem? (i := 93) rfl)) rfl
theorem mw_1_94 : (Jvm.Cond.soleField "LinkPredictor$Hierarchy" "verdicts") ∈ TT := mT (mL1 (List.mem_of_getElem? (i := 94) rfl)) rfl
theorem mw_1_95 : (Jvm.Cond.lays "LinkPredictor$Hierarchy" "LinkPredictor$Hierarchy" "settled" "I") ∈ TT := mT (mL1 (List.mem_of_getElem? (i := 95) rfl)) rfl
theorem mw_1_96 : (Jvm.Cond.soleField "LinkPredictor$Hierarchy" "settled") ∈ TT := mT (mL1 (List.mem_of_getElem? (i := 96) rfl)) rfl
theorem mw_1_97 : (Jvm.Cond.laysFinal "LinkPredictor$Hierarchy" "LinkPredictor$Hierarchy" "aboves" "[I") ∈ TT := mT (mL1 (List.mem_of_getElem? (i := 97) rfl)) rfl
theorem mw_1_98 : (Jvm.Cond.soleField "LinkPredictor$Hierarchy" "aboves") ∈ TT := mT (mL1 (List.mem_of_getElem? (i := 98) rfl)) rfl
theorem mw_1_99 : (Jvm.Cond.laysFinal "LinkPredictor$Hierarchy" "LinkPredictor$Hierarchy" "allFaces" "[I") ∈ TT := mT (mL1 (List.mem_of_getElem? (i := 99) rfl)) rfl
theorem mw_1_100 : (Jvm.Cond.soleField "LinkPredictor$Hierarchy" "allFaces") ∈ TT := mT (mL1 (List.mem_of_getElem? (i := 100) rfl)) rfl
theorem mw_1_101 : (Jvm.Cond.superclass "LinkPredictor$Hierarchy" "java/lang/Object") ∈ TT := mT (mL1 (List.mem_of_getElem? (i := 101) rfl)) rfl
theorem mw_1_102 : (Jvm.Cond.arrayClass Jvm.ClassFile.FieldType.int) ∈ TT := mT (mL1 (List.mem_of_getElem? (i := 102) rfl)) rfl
theorem mw_1_103 : (Jvm.Cond.classLink "LinkPredictor$Build" (18 : Nat) "LinkPredictor$Members") ∈ TT := mT (mL1 (List.mem_of_getElem? (i := 103) rfl)) rfl
theorem mw_1_104 : (Jvm.Cond.instantiable "LinkPredictor$Members" (6 : Nat)) ∈ TT := mT (mL1 (List.mem_of_getElem? (i := 104) rfl)) rfl
theorem nw_1_105 : (Jvm.Cond.methodLinkNest "LinkPredictor$Build" (20 : Nat) ({ cls := "LinkPredictor$Members", name := "<init>", desc := "()V" } : Jvm.MethodName) "LinkPredictor") ∈ lw_tbl := mL1 (List.mem_of_getElem? (i := 105) rfl)
theorem mw_1_106 : (Jvm.Cond.instanceMethod ({ cls := "LinkPredictor$Members", name := "<init>", desc := "()V" } : Jvm.MethodName)) ∈ TT := mT (mL1 (List.mem_of_getElem? (i := 106) rfl)) rfl
theorem mw_1_107 : (Jvm.Cond.code ({ cls := "LinkPredictor$Members", name := "<init>", desc := "()V" } : Jvm.MethodName) prog_4_method_1_code (1 : Nat) (Option.none : Option Jvm.ClassFile.FieldType)) ∈ TT := mT (mL1 (List.mem_of_getElem? (i := 107) rfl)) rfl
theorem mw_1_108 : (Jvm.Cond.methodLink "LinkPredictor$Members" (3 : Nat) ({ cls := "java/lang/Object", name := "<init>", desc := "()V" } : Jvm.MethodName)) ∈ TT := mT (mL1 (List.mem_of_getElem? (i := 108) rfl)) rfl
theorem mw_1_109 : (Jvm.Cond.fieldLink "LinkPredictor$Members" (24 : Nat) "LinkPredictor$Members" "size" "I") ∈ TT := mT (mL1 (List.mem_of_getElem? (i := 109) rfl)) rfl
theorem mw_1_110 : (Jvm.Cond.fieldLink "LinkPredictor$Members" (36 : Nat) "LinkPredictor$Members" "gone" "I") ∈ TT := mT (mL1 (List.mem_of_getElem? (i := 110) rfl)) rfl
theorem mw_1_111 : (Jvm.Cond.fieldLink "LinkPredictor$Members" (9 : Nat) "LinkPredictor$Members" "owners" "[I") ∈ TT := mT (mL1 (List.mem_of_getElem? (i := 111) rfl)) rfl
theorem mw_1_112 : (Jvm.Cond.fieldLink "LinkPredictor$Members" (15 : Nat) "LinkPredictor$Members" "keys" "[I") ∈ TT := mT (mL1 (List.mem_of_getElem? (i := 112) rfl)) rfl
theorem mw_1_113 : (Jvm.Cond.fieldLink "LinkPredictor$Members" (18 : Nat) "LinkPredictor$Members" "accesses" "[I") ∈ TT := mT (mL1 (List.mem_of_getElem? (i := 113) rfl)) rfl
theorem mw_1_114 : (Jvm.Cond.fieldLink "LinkPredictor$Members" (21 : Nat) "LinkPredictor$Members" "flags" "[I") ∈ TT := mT (mL1 (List.mem_of_getElem? (i := 114) rfl)) rfl
theorem mw_1_115 : (Jvm.Cond.lays "LinkPredictor$Members" "LinkPredictor$Members" "size" "I") ∈ TT := mT (mL1 (List.mem_of_getElem? (i := 115) rfl)) rfl
theorem mw_1_116 : (Jvm.Cond.soleField "LinkPredictor$Members" "size") ∈ TT := mT (mL1 (List.mem_of_getElem? (i := 116) rfl)) rfl
theorem mw_1_117 : (Jvm.Cond.lays "LinkPredictor$Members" "LinkPredictor$Members" "gone" "I") ∈ TT := mT (mL1 (List.mem_of_getElem? (i := 117) rfl)) rfl
theorem mw_1_118 : (Jvm.Cond.soleField "LinkPredictor$Members" "gone") ∈ TT := mT (mL1 (List.mem_of_getElem? (i := 118) rfl)) rfl
theorem mw_1_119 : (Jvm.Cond.laysFinal "LinkPredictor$Members" "LinkPredictor$Members" "owners" "[I") ∈ TT := mT (mL1 (List.mem_of_getElem? (i := 119) rfl)) rfl
theorem mw_1_120 : (Jvm.Cond.soleField "LinkPredictor$Members" "owners") ∈ TT := mT (mL1 (List.mem_of_getElem? (i := 120) rfl)) rfl
theorem mw_1_121 : (Jvm.Cond.laysFinal "LinkPredictor$Members" "LinkPredictor$Members" "keys" "[I") ∈ TT := mT (mL1 (List.mem_of_getElem? (i := 121) rfl)) rfl
theorem mw_1_122 : (Jvm.Cond.soleField "LinkPredictor$Members" "keys") ∈ TT := mT (mL1 (List.mem_of_getElem? (i := 122) rfl)) rfl
theorem mw_1_123 : (Jvm.Cond.laysFinal "LinkPredictor$Members" "LinkPredictor$Members" "accesses" "[I") ∈ TT := mT (mL1 (List.mem_of_getElem? (i := 123) rfl)) rfl
theorem mw_1_124 : (Jvm.Cond.soleField "LinkPredictor$Members" "accesses") ∈ TT := mT (mL1 (List.mem_of_getElem? (i := 124) rfl)) rfl
theorem mw_1_125 : (Jvm.Cond.laysFinal "LinkPredictor$Members" "LinkPredictor$Members" "flags" "[I") ∈ TT := mT (mL1 (List.mem_of_getElem? (i := 125) rfl)) rfl
theorem mw_1_126 : (Jvm.Cond.soleField "LinkPredictor$Members" "flags") ∈ TT := mT (mL1 (List.mem_of_getElem? (i := 126) rfl)) rfl
theorem mw_1_127 : (Jvm.Cond.superclass "LinkPredictor$Members" "java/lang/Object") ∈ TT := mT (mL1 (List.mem_of_getElem? (i := 127) rfl)) rfl
theorem mw_1_128 : (Jvm.Cond.fieldLink "LinkPredictor$Build" (12 : Nat) "LinkPredictor$Build" "types" "LLinkPredictor$Hierarchy;") ∈ TT := mT (mL1 (List.mem_of_getElem? (i := 128) rfl)) rfl
theorem nw_1_129 : (Jvm.Cond.fieldLinkNest "LinkPredictor" (38 : Nat) "LinkPredictor$Build" "types" "LLinkPredictor$Hierarchy;" "LinkPredictor") ∈ lw_tbl := mL1 (List.mem_of_getElem? (i := 129) rfl)
theorem mw_1_130 : (Jvm.Cond.fieldLink "LinkPredictor$Build" (21 : Nat) "LinkPredictor$Build" "members" "LLinkPredictor$Members;") ∈ TT := mT (mL1 (List.mem_of_getElem? (i := 130) rfl)) rfl
theorem nw_1_131 : (Jvm.Cond.fieldLinkNest "LinkPredictor" (58 : Nat) "LinkPredictor$Build" "members" "LLinkPredictor$Members;" "LinkPredictor") ∈ lw_tbl := mL1 (List.mem_of_getElem? (i := 131) rfl)
theorem mw_1_132 : (Jvm.Cond.fieldLink "LinkPredictor$Build" (109 : Nat) "LinkPredictor$Build" "searched" "I") ∈ TT := mT (mL1 (List.mem_of_getElem? (i := 132) rfl)) rfl
theorem mw_1_133 : (Jvm.Cond.laysFinal "LinkPredictor$Build" "LinkPredictor$Build" "types" "LLinkPredictor$Hierarchy;") ∈ TT := mT (mL1 (List.mem_of_getElem? (i := 133) rfl)) rfl
theorem mw_1_134 : (Jvm.Cond.soleField "LinkPredictor$Build" "types") ∈ TT := mT (mL1 (List.mem_of_getElem? (i := 134) rfl)) rfl
theorem mw_1_135 : (Jvm.Cond.laysFinal "LinkPredictor$Build" "LinkPredictor$Build" "members" "LLinkPredictor$Members;") ∈ TT := mT (mL1 (List.mem_of_getElem? (i := 135) rfl)) rfl
theorem mw_1_136 : (Jvm.Cond.soleField "LinkPredictor$Build" "members") ∈ TT := mT (mL1 (List.mem_of_getElem? (i := 136) rfl)) rfl
theorem mw_1_137 : (Jvm.Cond.lays "LinkPredictor$Build" "LinkPredictor$Build" "searched" "I") ∈ TT := mT (mL1 (List.mem_of_getElem? (i := 137) rfl)) rfl
theorem mw_1_138 : (Jvm.Cond.soleField "LinkPredictor$Build" "searched") ∈ TT := mT (mL1 (List.mem_of_getElem? (i := 138) rfl)) rfl
theorem mw_1_139 : (Jvm.Cond.superclass "LinkPredictor$Build" "java/lang/Object") ∈ TT := mT (mL1 (List.mem_of_getElem? (i := 139) rfl)) rfl
theorem mw_1_140 : (Jvm.Cond.classLink "LinkPredictor" (16 : Nat) "LinkPredictor$Reference") ∈ TT := mT (mL1 (List.mem_of_getElem? (i := 140) rfl)) rfl
theorem nw_1_141 : (Jvm.Cond.arrayOver (Jvm.ClassFile.FieldType.object "LinkPredictor$Reference")) ∈ lw_tbl := mL1 (List.mem_of_getElem? (i := 141) rfl)
theorem mw_1_142 : (Jvm.Cond.instantiable "LinkPredictor$Reference" (4 : Nat)) ∈ TT := mT (mL1 (List.mem_of_getElem? (i := 142) rfl)) rfl
theorem nw_1_143 : (Jvm.Cond.methodLinkNest "LinkPredictor" (22 : Nat) ({ cls := "LinkPredictor$Reference", name := "<init>", desc := "()V" } : Jvm.MethodName) "LinkPredictor") ∈ lw_tbl := mL1 (List.mem_of_getElem? (i := 143) rfl)
theorem mw_1_144 : (Jvm.Cond.instanceMethod ({ cls := "LinkPredictor$Reference", name := "<init>", desc := "()V" } : Jvm.MethodName)) ∈ TT := mT (mL1 (List.mem_of_getElem? (i := 144) rfl)) rfl
theorem mw_1_145 : (Jvm.Cond.code ({ cls := "LinkPredictor$Reference", name := "<init>", desc := "()V" } : Jvm.MethodName) prog_5_method_1_code (1 : Nat) (Option.none : Option Jvm.ClassFile.FieldType)) ∈ TT := mT (mL1 (List.mem_of_getElem? (i := 145) rfl)) rfl
theorem mw_1_146 : (Jvm.Cond.methodLink "LinkPredictor$Reference" (3 : Nat) ({ cls := "java/lang/Object", name := "<init>", desc := "()V" } : Jvm.MethodName)) ∈ TT := mT (mL1 (List.mem_of_getElem? (i := 146) rfl)) rfl
theorem mw_1_147 : (Jvm.Cond.fieldLink "LinkPredictor$Reference" (9 : Nat) "LinkPredictor$Reference" "kind" "I") ∈ TT := mT (mL1 (List.mem_of_getElem? (i := 147) rfl)) rfl
theorem nw_1_148 : (Jvm.Cond.fieldLinkNest "LinkPredictor$Build" (71 : Nat) "LinkPredictor$Reference" "kind" "I" "LinkPredictor") ∈ lw_tbl := mL1 (List.mem_of_getElem? (i := 148) rfl)
theorem mw_1_149 : (Jvm.Cond.fieldLink "LinkPredictor$Reference" (15 : Nat) "LinkPredictor$Reference" "holder" "I") ∈ TT := mT (mL1 (List.mem_of_getElem? (i := 149) rfl)) rfl
theorem nw_1_150 : (Jvm.Cond.fieldLinkNest "LinkPredictor$Build" (51 : Nat) "LinkPredictor$Reference" "holder" "I" "LinkPredictor") ∈ lw_tbl := mL1 (List.mem_of_getElem? (i := 150) rfl)
theorem mw_1_151 : (Jvm.Cond.fieldLink "LinkPredictor$Reference" (18 : Nat) "LinkPredictor$Reference" "way" "I") ∈ TT := mT (mL1 (List.mem_of_getElem? (i := 151) rfl)) rfl
theorem nw_1_152 : (Jvm.Cond.fieldLinkNest "LinkPredictor$Build" (64 : Nat) "LinkPredictor$Reference" "way" "I" "LinkPredictor") ∈ lw_tbl := mL1 (List.mem_of_getElem? (i := 152) rfl)
theorem mw_1_153 : (Jvm.Cond.fieldLink "LinkPredictor$Reference" (21 : Nat) "LinkPredictor$Reference" "sign" "I") ∈ TT := mT (mL1 (List.mem_of_getElem? (i := 153) rfl)) rfl
theorem nw_1_154 : (Jvm.Cond.fieldLinkNest "LinkPredictor$Build" (99 : Nat) "LinkPredictor$Reference" "sign" "I" "LinkPredictor") ∈ lw_tbl := mL1 (List.mem_of_getElem? (i := 154) rfl)
theorem mw_1_155 : (Jvm.Cond.lays "LinkPredictor$Reference" "LinkPredictor$Reference" "kind" "I") ∈ TT := mT (mL1 (List.mem_of_getElem? (i := 155) rfl)) rfl
theorem mw_1_156 : (Jvm.Cond.soleField "LinkPredictor$Reference" "kind") ∈ TT := mT (mL1 (List.mem_of_getElem? (i := 156) rfl)) rfl
theorem mw_1_157 : (Jvm.Cond.lays "LinkPredictor$Reference" "LinkPredictor$Reference" "holder" "I") ∈ TT := mT (mL1 (List.mem_of_getElem? (i := 157) rfl)) rfl
theorem mw_1_158 : (Jvm.Cond.soleField "LinkPredictor$Reference" "holder") ∈ TT := mT (mL1 (List.mem_of_getElem? (i := 158) rfl)) rfl
theorem mw_1_159 : (Jvm.Cond.lays "LinkPredictor$Reference" "LinkPredictor$Reference" "way" "I") ∈ TT := mT (mL1 (List.mem_of_getElem? (i := 159) rfl)) rfl
theorem mw_1_160 : (Jvm.Cond.soleField "LinkPredictor$Reference" "way") ∈ TT := mT (mL1 (List.mem_of_getElem? (i := 160) rfl)) rfl
theorem mw_1_161 : (Jvm.Cond.lays "LinkPredictor$Reference" "LinkPredictor$Reference" "sign" "I") ∈ TT := mT (mL1 (List.mem_of_getElem? (i := 161) rfl)) rfl
theorem mw_1_162 : (Jvm.Cond.soleField "LinkPredictor$Reference" "sign") ∈ TT := mT (mL1 (List.mem_of_getElem? (i := 162) rfl)) rfl
theorem mw_1_163 : (Jvm.Cond.superclass "LinkPredictor$Reference" "java/lang/Object") ∈ TT := mT (mL1 (List.mem_of_getElem? (i := 163) rfl)) rfl
theorem mw_1_164 : (Jvm.Cond.fieldLink "LinkPredictor" (12 : Nat) "LinkPredictor" "builds" "[LLinkPredictor$Build;") ∈ TT := mT (mL1 (List.mem_of_getElem? (i := 164) rfl)) rfl
theorem mw_1_165 : (Jvm.Cond.fieldLink "LinkPredictor" (18 : Nat) "LinkPredictor" "references" "[LLinkPredictor$Reference;") ∈ TT := mT (mL1 (List.mem_of_getElem? (i := 165) rfl)) rfl
theorem mw_1_166 : (Jvm.Cond.fieldLink "LinkPredictor" (23 : Nat) "LinkPredictor" "referenceCount" "I") ∈ TT := mT (mL1 (List.mem_of_getElem? (i := 166) rfl)) rfl
theorem mw_1_167 : (Jvm.Cond.fieldLink "LinkPredictor" (27 : Nat) "LinkPredictor" "written" "I") ∈ TT := mT (mL1 (List.mem_of_getElem? (i := 167) rfl)) rfl
theorem mw_1_168 : (Jvm.Cond.laysFinal "LinkPredictor" "LinkPredictor" "builds" "[LLinkPredictor$Build;") ∈ TT := mT (mL1 (List.mem_of_getElem? (i := 168) rfl)) rfl
theorem mw_1_169 : (Jvm.Cond.soleField "LinkPredictor" "builds") ∈ TT := mT (mL1 (List.mem_of_getElem? (i := 169) rfl)) rfl
theorem mw_1_170 : (Jvm.Cond.laysFinal "LinkPredictor" "LinkPredictor" "references" "[LLinkPredictor$Reference;") ∈ TT := mT (mL1 (List.mem_of_getElem? (i := 170) rfl)) rfl
theorem mw_1_171 : (Jvm.Cond.soleField "LinkPredictor" "references") ∈ TT := mT (mL1 (List.mem_of_getElem? (i := 171) rfl)) rfl
theorem mw_1_172 : (Jvm.Cond.lays "LinkPredictor" "LinkPredictor" "referenceCount" "I") ∈ TT := mT (mL1 (List.mem_of_getElem? (i := 172) rfl)) rfl
theorem mw_1_173 : (Jvm.Cond.soleField "LinkPredictor" "referenceCount") ∈ TT := mT (mL1 (List.mem_of_getElem? (i := 173) rfl)) rfl
theorem mw_1_174 : (Jvm.Cond.lays "LinkPredictor" "LinkPredictor" "written" "I") ∈ TT := mT (mL1 (List.mem_of_getElem? (i := 174) rfl)) rfl
theorem mw_1_175 : (Jvm.Cond.soleField "LinkPredictor" "written") ∈ TT := mT (mL1 (List.mem_of_getElem? (i := 175) rfl)) rfl
theorem mw_1_176 : (Jvm.Cond.superclass "LinkPredictor" "java/lang/Object") ∈ TT := mT (mL1 (List.mem_of_getElem? (i := 176) rfl)) rfl
theorem mw_1_177 : (Jvm.Cond.methodLink "LinkPredictorLaw" (13 : Nat) ({ cls := "LinkPredictor", name := "type", desc := "(IIIII)Z" } : Jvm.MethodName)) ∈ TT := mT (mL1 (List.mem_of_getElem? (i := 177) rfl)) rfl
theorem mw_1_178 : (Jvm.Cond.instanceMethod ({ cls := "LinkPredictor", name := "type", desc := "(IIIII)Z" } : Jvm.MethodName)) ∈ TT := mT (mL1 (List.mem_of_getElem? (i := 178) rfl)) rfl
theorem mw_1_179 : (Jvm.Cond.selects "LinkPredictor" ({ cls := "LinkPredictor", name := "type", desc := "(IIIII)Z" } : Jvm.MethodName) ({ cls := "LinkPredictor", name := "type", desc := "(IIIII)Z" } : Jvm.MethodName)) ∈ TT := mT (mL1 (List.mem_of_getElem? (i := 179) rfl)) rfl
theorem mw_1_180 : (Jvm.Cond.code ({ cls := "LinkPredictor", name := "type", desc := "(IIIII)Z" } : Jvm.MethodName) prog_1_method_2_code (6 : Nat) (Option.some Jvm.ClassFile.FieldType.boolean)) ∈ TT := mT (mL1 (List.mem_of_getElem? (i := 180) rfl)) rfl
theorem mw_1_181 : (Jvm.Cond.methodLink "LinkPredictor" (30 : Nat) ({ cls := "LinkPredictor", name := "isOrdinaryType", desc := "(I)Z" } : Jvm.MethodName)) ∈ TT := mT (mL1 (List.mem_of_getElem? (i := 181) rfl)) rfl
theorem mw_1_182 : (Jvm.Cond.static ({ cls := "LinkPredictor", name := "isOrdinaryType", desc := "(I)Z" } : Jvm.MethodName)) ∈ TT := mT (mL1 (List.mem_of_getElem? (i := 182) rfl)) rfl
theorem mw_1_183 : (Jvm.Cond.code ({ cls := "LinkPredictor", name := "isOrdinaryType", desc := "(I)Z" } : Jvm.MethodName) prog_1_method_23_code (1 : Nat) (Option.some Jvm.ClassFile.FieldType.boolean)) ∈ TT := mT (mL1 (List.mem_of_getElem? (i := 183) rfl)) rfl
theorem mw_1_184 : (Jvm.Cond.methodLink "LinkPredictor" (42 : Nat) ({ cls := "LinkPredictor$Hierarchy", name := "define", desc := "(IIIII)V" } : Jvm.MethodName)) ∈ TT := mT (mL1 (List.mem_of_getElem? (i := 184) rfl)) rfl
theorem mw_1_185 : (Jvm.Cond.instanceMethod ({ cls := "LinkPredictor$Hierarchy", name := "define", desc := "(IIIII)V" } : Jvm.MethodName)) ∈ TT := mT (mL1 (List.mem_of_getElem? (i := 185) rfl)) rfl
theorem mw_1_186 : (Jvm.Cond.selects "LinkPredictor$Hierarchy" ({ cls := "LinkPredictor$Hierarchy", name := "define", desc := "(IIIII)V" } : Jvm.MethodName) ({ cls := "LinkPredictor$Hierarchy", name := "define", desc := "(IIIII)V" } : Jvm.MethodName)) ∈ TT := mT (mL1 (List.mem_of_getElem? (i := 186) rfl)) rfl
theorem mw_1_187 : (Jvm.Cond.code ({ cls := "LinkPredictor$Hierarchy", name := "define", desc := "(IIIII)V" } : Jvm.MethodName) prog_3_method_2_code (6 : Nat) (Option.none : Option Jvm.ClassFile.FieldType)) ∈ TT := mT (mL1 (List.mem_of_getElem? (i := 187) rfl)) rfl
theorem mw_1_188 : (Jvm.Cond.methodLink "LinkPredictorLaw" (18 : Nat) ({ cls := "LinkPredictor", name := "nest", desc := "(II)Z" } : Jvm.MethodName)) ∈ TT := mT (mL1 (List.mem_of_getElem? (i := 188) rfl)) rfl
theorem mw_1_189 : (Jvm.Cond.instanceMethod ({ cls := "LinkPredictor", name := "nest", desc := "(II)Z" } : Jvm.MethodName)) ∈ TT := mT (mL1 (List.mem_of_getElem? (i := 189) rfl)) rfl
theorem mw_1_190 : (Jvm.Cond.selects "LinkPredictor" ({ cls := "LinkPredictor", name := "nest", desc := "(II)Z" } : Jvm.MethodName) ({ cls := "LinkPredictor", name := "nest", desc := "(II)Z" } : Jvm.MethodName)) ∈ TT := mT (mL1 (List.mem_of_getElem? (i := 190) rfl)) rfl
theorem mw_1_191 : (Jvm.Cond.code ({ cls := "LinkPredictor", name := "nest", desc := "(II)Z" } : Jvm.MethodName) prog_1_method_3_code (3 : Nat) (Option.some Jvm.ClassFile.FieldType.boolean)) ∈ TT := mT (mL1 (List.mem_of_getElem? (i := 191) rfl)) rfl
theorem mw_1_192 : (Jvm.Cond.methodLink "LinkPredictor" (48 : Nat) ({ cls := "LinkPredictor$Hierarchy", name := "putHost", desc := "(II)Z" } : Jvm.MethodName)) ∈ TT := mT (mL1 (List.mem_of_getElem? (i := 192) rfl)) rfl
theorem mw_1_193 : (Jvm.Cond.instanceMethod ({ cls := "LinkPredictor$Hierarchy", name := "putHost", desc := "(II)Z" } : Jvm.MethodName)) ∈ TT := mT (mL1 (List.mem_of_getElem? (i := 193) rfl)) rfl
theorem mw_1_194 : (Jvm.Cond.selects "LinkPredictor$Hierarchy" ({ cls := "LinkPredictor$Hierarchy", name := "putHost", desc := "(II)Z" } : Jvm.MethodName) ({ cls := "LinkPredictor$Hierarchy", name := "putHost", desc := "(II)Z" } : Jvm.MethodName)) ∈ TT := mT (mL1 (List.mem_of_getElem? (i := 194) rfl)) rfl
theorem mw_1_195 : (Jvm.Cond.code ({ cls := "LinkPredictor$Hierarchy", name := "putHost", desc := "(II)Z" } : Jvm.MethodName) prog_3_method_3_code (3 : Nat) (Option.some Jvm.ClassFile.FieldType.boolean)) ∈ TT := mT (mL1 (List.mem_of_getElem? (i := 195) rfl)) rfl
theorem mw_1_196 : (Jvm.Cond.methodLink "LinkPredictorLaw" (23 : Nat) ({ cls := "LinkPredictor", name := "drop", desc := "(I)Z" } : Jvm.MethodName)) ∈ TT := mT (mL1 (List.mem_of_getElem? (i := 196) rfl)) rfl
theorem mw_1_197 : (Jvm.Cond.instanceMethod ({ cls := "LinkPredictor", name := "drop", desc := "(I)Z" } : Jvm.MethodName)) ∈ TT := mT (mL1 (List.mem_of_getElem? (i := 197) rfl)) rfl
theorem mw_1_198 : (Jvm.Cond.selects "LinkPredictor" ({ cls := "LinkPredictor", name := "drop", desc := "(I)Z" } : Jvm.MethodName) ({ cls := "LinkPredictor", name := "drop", desc := "(I)Z" } : Jvm.MethodName)) ∈ TT := mT (mL1 (List.mem_of_getElem? (i := 198) rfl)) rfl
theorem mw_1_199 : (Jvm.Cond.code ({ cls := "LinkPredictor", name := "drop", desc := "(I)Z" } : Jvm.MethodName) prog_1_method_4_code (2 : Nat) (Option.some Jvm.ClassFile.FieldType.boolean)) ∈ TT := mT (mL1 (List.mem_of_getElem? (i := 199) rfl)) rfl
theorem mw_1_200 : (Jvm.Cond.methodLink "LinkPredictor" (51 : Nat) ({ cls := "LinkPredictor$Build", name := "discardType", desc := "(I)Z" } : Jvm.MethodName)) ∈ TT := mT (mL1 (List.mem_of_getElem? (i := 200) rfl)) rfl
theorem mw_1_201 : (Jvm.Cond.instanceMethod ({ cls := "LinkPredictor$Build", name := "discardType", desc := "(I)Z" } : Jvm.MethodName)) ∈ TT := mT (mL1 (List.mem_of_getElem? (i := 201) rfl)) rfl
theorem mw_1_202 : (Jvm.Cond.selects "LinkPredictor$Build" ({ cls := "LinkPredictor$Build", name := "discardType", desc := "(I)Z" } : Jvm.MethodName) ({ cls := "LinkPredictor$Build", name := "discardType", desc := "(I)Z" } : Jvm.MethodName)) ∈ TT := mT (mL1 (List.mem_of_getElem? (i := 202) rfl)) rfl
theorem mw_1_203 : (Jvm.Cond.code ({ cls := "LinkPredictor$Build", name := "discardType", desc := "(I)Z" } : Jvm.MethodName) prog_2_method_2_code (2 : Nat) (Option.some Jvm.ClassFile.FieldType.boolean)) ∈ TT := mT (mL1 (List.mem_of_getElem? (i := 203) rfl)) rfl
theorem mw_1_204 : (Jvm.Cond.methodLink "LinkPredictor$Build" (25 : Nat) ({ cls := "LinkPredictor$Hierarchy", name := "takeAway", desc := "(I)Z" } : Jvm.MethodName)) ∈ TT := mT (mL1 (List.mem_of_getElem? (i := 204) rfl)) rfl
theorem mw_1_205 : (Jvm.Cond.instanceMethod ({ cls := "LinkPredictor$Hierarchy", name := "takeAway", desc := "(I)Z" } : Jvm.MethodName)) ∈ TT := mT (mL1 (List.mem_of_getElem? (i := 205) rfl)) rfl
theorem mw_1_206 : (Jvm.Cond.selects "LinkPredictor$Hierarchy" ({ cls := "LinkPredictor$Hierarchy", name := "takeAway", desc := "(I)Z" } : Jvm.MethodName) ({ cls := "LinkPredictor$Hierarchy", name := "takeAway", desc := "(I)Z" } : Jvm.MethodName)) ∈ TT := mT (mL1 (List.mem_of_getElem? (i := 206) rfl)) rfl
theorem mw_1_207 : (Jvm.Cond.code ({ cls := "LinkPredictor$Hierarchy", name := "takeAway", desc := "(I)Z" } : Jvm.MethodName) prog_3_method_4_code (2 : Nat) (Option.some Jvm.ClassFile.FieldType.boolean)) ∈ TT := mT (mL1 (List.mem_of_getElem? (i := 207) rfl)) rfl
theorem mw_1_208 : (Jvm.Cond.methodLink "LinkPredictor$Build" (29 : Nat) ({ cls := "LinkPredictor$Members", name := "discardAllOf", desc := "(I)V" } : Jvm.MethodName)) ∈ TT := mT (mL1 (List.mem_of_getElem? (i := 208) rfl)) rfl
theorem mw_1_209 : (Jvm.Cond.instanceMethod ({ cls := "LinkPredictor$Members", name := "discardAllOf", desc := "(I)V" } : Jvm.MethodName)) ∈ TT := mT (mL1 (List.mem_of_getElem? (i := 209) rfl)) rfl
theorem mw_1_210 : (Jvm.Cond.selects "LinkPredictor$Members" ({ cls := "LinkPredictor$Members", name := "discardAllOf", desc := "(I)V" } : Jvm.MethodName) ({ cls := "LinkPredictor$Members", name := "discardAllOf", desc := "(I)V" } : Jvm.MethodName)) ∈ TT := mT (mL1 (List.mem_of_getElem? (i := 210) rfl)) rfl
theorem mw_1_211 : (Jvm.Cond.code ({ cls := "LinkPredictor$Members", name := "discardAllOf", desc := "(I)V" } : Jvm.MethodName) prog_4_method_5_code (3 : Nat) (Option.none : Option Jvm.ClassFile.FieldType)) ∈ TT := mT (mL1 (List.mem_of_getElem? (i := 211) rfl)) rfl
theorem nw_1_212 : (Jvm.Cond.methodLinkNest "LinkPredictor$Members" (39 : Nat) ({ cls := "LinkPredictor", name := "bit", desc := "(I)I" } : Jvm.MethodName) "LinkPredictor") ∈ lw_tbl := mL1 (List.mem_of_getElem? (i := 212) rfl)
theorem mw_1_213 : (Jvm.Cond.methodLink "LinkPredictorLaw" (28 : Nat) ({ cls := "LinkPredictor", name := "member", desc := "(IZIII)I" } : Jvm.MethodName)) ∈ TT := mT (mL1 (List.mem_of_getElem? (i := 213) rfl)) rfl
theorem mw_1_214 : (Jvm.Cond.instanceMethod ({ cls := "LinkPredictor", name := "member", desc := "(IZIII)I" } : Jvm.MethodName)) ∈ TT := mT (mL1 (List.mem_of_getElem? (i := 214) rfl)) rfl
theorem mw_1_215 : (Jvm.Cond.selects "LinkPredictor" ({ cls := "LinkPredictor", name := "member", desc := "(IZIII)I" } : Jvm.MethodName) ({ cls := "LinkPredictor", name := "member", desc := "(IZIII)I" } : Jvm.MethodName)) ∈ TT := mT (mL1 (List.mem_of_getElem? (i := 215) rfl)) rfl
theorem mw_1_216 : (Jvm.Cond.code ({ cls := "LinkPredictor", name := "member", desc := "(IZIII)I" } : Jvm.MethodName) prog_1_method_5_code (6 : Nat) (Option.some Jvm.ClassFile.FieldType.int)) ∈ TT := mT (mL1 (List.mem_of_getElem? (i := 216) rfl)) rfl
theorem mw_1_217 : (Jvm.Cond.methodLink "LinkPredictor" (54 : Nat) ({ cls := "LinkPredictor$Build", name := "addMember", desc := "(IZIII)I" } : Jvm.MethodName)) ∈ TT := mT (mL1 (List.mem_of_getElem? (i := 217) rfl)) rfl
theorem mw_1_218 : (Jvm.Cond.instanceMethod ({ cls := "LinkPredictor$Build", name := "addMember", desc := "(IZIII)I" } : Jvm.MethodName)) ∈ TT := mT (mL1 (List.mem_of_getElem? (i := 218) rfl)) rfl
theorem mw_1_219 : (Jvm.Cond.selects "LinkPredictor$Build" ({ cls := "LinkPredictor$Build", name := "addMember", desc := "(IZIII)I" } : Jvm.MethodName) ({ cls := "LinkPredictor$Build", name := "addMember", desc := "(IZIII)I" } : Jvm.MethodName)) ∈ TT := mT (mL1 (List.mem_of_getElem? (i := 219) rfl)) rfl
theorem mw_1_220 : (Jvm.Cond.code ({ cls := "LinkPredictor$Build", name := "addMember", desc := "(IZIII)I" } : Jvm.MethodName) prog_2_method_3_code (6 : Nat) (Option.some Jvm.ClassFile.FieldType.int)) ∈ TT := mT (mL1 (List.mem_of_getElem? (i := 220) rfl)) rfl
theorem mw_1_221 : (Jvm.Cond.methodLink "LinkPredictor$Build" (33 : Nat) ({ cls := "LinkPredictor$Hierarchy", name := "isThere", desc := "(I)Z" } : Jvm.MethodName)) ∈ TT := mT (mL1 (List.mem_of_getElem? (i := 221) rfl)) rfl
theorem mw_1_222 : (Jvm.Cond.methodLink "LinkPredictor$Build" (36 : Nat) ({ cls := "LinkPredictor$Members", name := "find", desc := "(IZI)I" } : Jvm.MethodName)) ∈ TT := mT (mL1 (List.mem_of_getElem? (i := 222) rfl)) rfl
theorem mw_1_223 : (Jvm.Cond.instanceMethod ({ cls := "LinkPredictor$Members", name := "find", desc := "(IZI)I" } : Jvm.MethodName)) ∈ TT := mT (mL1 (List.mem_of_getElem? (i := 223) rfl)) rfl
theorem mw_1_224 : (Jvm.Cond.selects "LinkPredictor$Members" ({ cls := "LinkPredictor$Members", name := "find", desc := "(IZI)I" } : Jvm.MethodName) ({ cls := "LinkPredictor$Members", name := "find", desc := "(IZI)I" } : Jvm.MethodName)) ∈ TT := mT (mL1 (List.mem_of_getElem? (i := 224) rfl)) rfl
theorem mw_1_225 : (Jvm.Cond.code ({ cls := "LinkPredictor$Members", name := "find", desc := "(IZI)I" } : Jvm.MethodName) prog_4_method_7_code (6 : Nat) (Option.some Jvm.ClassFile.FieldType.int)) ∈ TT := mT (mL1 (List.mem_of_getElem? (i := 225) rfl)) rfl
theorem mw_1_226 : (Jvm.Cond.methodLink "LinkPredictor$Members" (28 : Nat) ({ cls := "LinkPredictor$Members", name := "keyOf", desc := "(ZI)I" } : Jvm.MethodName)) ∈ TT := mT (mL1 (List.mem_of_getElem? (i := 226) rfl)) rfl
theorem mw_1_227 : (Jvm.Cond.static ({ cls := "LinkPredictor$Members", name := "keyOf", desc := "(ZI)I" } : Jvm.MethodName)) ∈ TT := mT (mL1 (List.mem_of_getElem? (i := 227) rfl)) rfl
theorem mw_1_228 : (Jvm.Cond.code ({ cls := "LinkPredictor$Members", name := "keyOf", desc := "(ZI)I" } : Jvm.MethodName) prog_4_method_20_code (2 : Nat) (Option.some Jvm.ClassFile.FieldType.int)) ∈ TT := mT (mL1 (List.mem_of_getElem? (i := 228) rfl)) rfl
theorem nw_1_229 : (Jvm.Cond.methodLinkNest "LinkPredictor$Members" (49 : Nat) ({ cls := "LinkPredictor", name := "contains", desc := "(II)Z" } : Jvm.MethodName) "LinkPredictor") ∈ lw_tbl := mL1 (List.mem_of_getElem? (i := 229) rfl)
theorem mw_1_230 : (Jvm.Cond.methodLink "LinkPredictor$Build" (40 : Nat) ({ cls := "LinkPredictor$Members", name := "append", desc := "(IZIII)I" } : Jvm.MethodName)) ∈ TT := mT (mL1 (List.mem_of_getElem? (i := 230) rfl)) rfl
theorem mw_1_231 : (Jvm.Cond.instanceMethod ({ cls := "LinkPredictor$Members", name := "append", desc := "(IZIII)I" } : Jvm.MethodName)) ∈ TT := mT (mL1 (List.mem_of_getElem? (i := 231) rfl)) rfl
theorem mw_1_232 : (Jvm.Cond.selects "LinkPredictor$Members" ({ cls := "LinkPredictor$Members", name := "append", desc := "(IZIII)I" } : Jvm.MethodName) ({ cls := "LinkPredictor$Members", name := "append", desc := "(IZIII)I" } : Jvm.MethodName)) ∈ TT := mT (mL1 (List.mem_of_getElem? (i := 232) rfl)) rfl
theorem mw_1_233 : (Jvm.Cond.code ({ cls := "LinkPredictor$Members", name := "append", desc := "(IZIII)I" } : Jvm.MethodName) prog_4_method_2_code (7 : Nat) (Option.some Jvm.ClassFile.FieldType.int)) ∈ TT := mT (mL1 (List.mem_of_getElem? (i := 233) rfl)) rfl
theorem mw_1_234 : (Jvm.Cond.methodLink "LinkPredictorLaw" (33 : Nat) ({ cls := "LinkPredictor", name := "remake", desc := "(III)Z" } : Jvm.MethodName)) ∈ TT := mT (mL1 (List.mem_of_getElem? (i := 234) rfl)) rfl
theorem mw_1_235 : (Jvm.Cond.instanceMethod ({ cls := "LinkPredictor", name := "remake", desc := "(III)Z" } : Jvm.MethodName)) ∈ TT := mT (mL1 (List.mem_of_getElem? (i := 235) rfl)) rfl
theorem mw_1_236 : (Jvm.Cond.selects "LinkPredictor" ({ cls := "LinkPredictor", name := "remake", desc := "(III)Z" } : Jvm.MethodName) ({ cls := "LinkPredictor", name := "remake", desc := "(III)Z" } : Jvm.MethodName)) ∈ TT := mT (mL1 (List.mem_of_getElem? (i := 236) rfl)) rfl
theorem mw_1_237 : (Jvm.Cond.code ({ cls := "LinkPredictor", name := "remake", desc := "(III)Z" } : Jvm.MethodName) prog_1_method_6_code (4 : Nat) (Option.some Jvm.ClassFile.FieldType.boolean)) ∈ TT := mT (mL1 (List.mem_of_getElem? (i := 237) rfl)) rfl
theorem mw_1_238 : (Jvm.Cond.methodLink "LinkPredictor" (62 : Nat) ({ cls := "LinkPredictor$Members", name := "change", desc := "(III)Z" } : Jvm.MethodName)) ∈ TT := mT (mL1 (List.mem_of_getElem? (i := 238) rfl)) rfl
theorem mw_1_239 : (Jvm.Cond.instanceMethod ({ cls := "LinkPredictor$Members", name := "change", desc := "(III)Z" } : Jvm.MethodName)) ∈ TT := mT (mL1 (List.mem_of_getElem? (i := 239) rfl)) rfl
theorem mw_2_0 : (Jvm.Cond.selects "LinkPredictor$Members" ({ cls := "LinkPredictor$Members", name := "change", desc := "(III)Z" } : Jvm.MethodName) ({ cls := "LinkPredictor$Members", name := "change", desc := "(III)Z" } : Jvm.MethodName)) ∈ TT := mT (mL2 (List.mem_of_getElem? (i := 0) rfl)) rfl
theorem mw_2_1 : (Jvm.Cond.code ({ cls := "LinkPredictor$Members", name := "change", desc := "(III)Z" } : Jvm.MethodName) prog_4_method_3_code (4 : Nat) (Option.some Jvm.ClassFile.FieldType.boolean)) ∈ TT := mT (mL2 (List.mem_of_getElem? (i := 1) rfl)) rfl
theorem mw_2_2 : (Jvm.Cond.methodLink "LinkPredictor$Members" (32 : Nat) ({ cls := "LinkPredictor$Members", name := "isPresent", desc := "(I)Z" } : Jvm.MethodName)) ∈ TT := mT (mL2 (List.mem_of_getElem? (i := 2) rfl)) rfl
theorem nw_2_3 : (Jvm.Cond.privateMethod ({ cls := "LinkPredictor$Members", name := "isPresent", desc := "(I)Z" } : Jvm.MethodName)) ∈ lw_tbl := mL2 (List.mem_of_getElem? (i := 3) rfl)
theorem mw_2_4 : (Jvm.Cond.instanceMethod ({ cls := "LinkPredictor$Members", name := "isPresent", desc := "(I)Z" } : Jvm.MethodName)) ∈ TT := mT (mL2 (List.mem_of_getElem? (i := 4) rfl)) rfl
theorem mw_2_5 : (Jvm.Cond.code ({ cls := "LinkPredictor$Members", name := "isPresent", desc := "(I)Z" } : Jvm.MethodName) prog_4_method_19_code (2 : Nat) (Option.some Jvm.ClassFile.FieldType.boolean)) ∈ TT := mT (mL2 (List.mem_of_getElem? (i := 5) rfl)) rfl
theorem nw_2_6 : (Jvm.Cond.methodLinkNest "LinkPredictor$Members" (64 : Nat) ({ cls := "LinkPredictor", name := "isWithin", desc := "(II)Z" } : Jvm.MethodName) "LinkPredictor") ∈ lw_tbl := mL2 (List.mem_of_getElem? (i := 6) rfl)
theorem mw_2_7 : (Jvm.Cond.methodLink "LinkPredictorLaw" (38 : Nat) ({ cls := "LinkPredictor", name := "remove", desc := "(I)Z" } : Jvm.MethodName)) ∈ TT := mT (mL2 (List.mem_of_getElem? (i := 7) rfl)) rfl
theorem mw_2_8 : (Jvm.Cond.instanceMethod ({ cls := "LinkPredictor", name := "remove", desc := "(I)Z" } : Jvm.MethodName)) ∈ TT := mT (mL2 (List.mem_of_getElem? (i := 8) rfl)) rfl
theorem mw_2_9 : (Jvm.Cond.selects "LinkPredictor" ({ cls := "LinkPredictor", name := "remove", desc := "(I)Z" } : Jvm.MethodName) ({ cls := "LinkPredictor", name := "remove", desc := "(I)Z" } : Jvm.MethodName)) ∈ TT := mT (mL2 (List.mem_of_getElem? (i := 9) rfl)) rfl
theorem mw_2_10 : (Jvm.Cond.code ({ cls := "LinkPredictor", name := "remove", desc := "(I)Z" } : Jvm.MethodName) prog_1_method_7_code (2 : Nat) (Option.some Jvm.ClassFile.FieldType.boolean)) ∈ TT := mT (mL2 (List.mem_of_getElem? (i := 10) rfl)) rfl
theorem mw_2_11 : (Jvm.Cond.methodLink "LinkPredictor" (68 : Nat) ({ cls := "LinkPredictor$Members", name := "discard", desc := "(I)Z" } : Jvm.MethodName)) ∈ TT := mT (mL2 (List.mem_of_getElem? (i := 11) rfl)) rfl
theorem mw_2_12 : (Jvm.Cond.instanceMethod ({ cls := "LinkPredictor$Members", name := "discard", desc := "(I)Z" } : Jvm.MethodName)) ∈ TT := mT (mL2 (List.mem_of_getElem? (i := 12) rfl)) rfl
theorem mw_2_13 : (Jvm.Cond.selects "LinkPredictor$Members" ({ cls := "LinkPredictor$Members", name := "discard", desc := "(I)Z" } : Jvm.MethodName) ({ cls := "LinkPredictor$Members", name := "discard", desc := "(I)Z" } : Jvm.MethodName)) ∈ TT := mT (mL2 (List.mem_of_getElem? (i := 13) rfl)) rfl
theorem mw_2_14 : (Jvm.Cond.code ({ cls := "LinkPredictor$Members", name := "discard", desc := "(I)Z" } : Jvm.MethodName) prog_4_method_4_code (2 : Nat) (Option.some Jvm.ClassFile.FieldType.boolean)) ∈ TT := mT (mL2 (List.mem_of_getElem? (i := 14) rfl)) rfl
theorem mw_2_15 : (Jvm.Cond.methodLink "LinkPredictorLaw" (42 : Nat) ({ cls := "LinkPredictor", name := "branch", desc := "()I" } : Jvm.MethodName)) ∈ TT := mT (mL2 (List.mem_of_getElem? (i := 15) rfl)) rfl
theorem mw_2_16 : (Jvm.Cond.instanceMethod ({ cls := "LinkPredictor", name := "branch", desc := "()I" } : Jvm.MethodName)) ∈ TT := mT (mL2 (List.mem_of_getElem? (i := 16) rfl)) rfl
theorem mw_2_17 : (Jvm.Cond.selects "LinkPredictor" ({ cls := "LinkPredictor", name := "branch", desc := "()I" } : Jvm.MethodName) ({ cls := "LinkPredictor", name := "branch", desc := "()I" } : Jvm.MethodName)) ∈ TT := mT (mL2 (List.mem_of_getElem? (i := 17) rfl)) rfl
theorem mw_2_18 : (Jvm.Cond.code ({ cls := "LinkPredictor", name := "branch", desc := "()I" } : Jvm.MethodName) prog_1_method_8_code (1 : Nat) (Option.some Jvm.ClassFile.FieldType.int)) ∈ TT := mT (mL2 (List.mem_of_getElem? (i := 18) rfl)) rfl
theorem mw_2_19 : (Jvm.Cond.methodLink "LinkPredictor" (71 : Nat) ({ cls := "LinkPredictor$Build", name := "becomeAs", desc := "(LLinkPredictor$Build;)V" } : Jvm.MethodName)) ∈ TT := mT (mL2 (List.mem_of_getElem? (i := 19) rfl)) rfl
theorem mw_2_20 : (Jvm.Cond.instanceMethod ({ cls := "LinkPredictor$Build", name := "becomeAs", desc := "(LLinkPredictor$Build;)V" } : Jvm.MethodName)) ∈ TT := mT (mL2 (List.mem_of_getElem? (i := 20) rfl)) rfl
theorem mw_2_21 : (Jvm.Cond.selects "LinkPredictor$Build" ({ cls := "LinkPredictor$Build", name := "becomeAs", desc := "(LLinkPredictor$Build;)V" } : Jvm.MethodName) ({ cls := "LinkPredictor$Build", name := "becomeAs", desc := "(LLinkPredictor$Build;)V" } : Jvm.MethodName)) ∈ TT := mT (mL2 (List.mem_of_getElem? (i := 21) rfl)) rfl
theorem mw_2_22 : (Jvm.Cond.code ({ cls := "LinkPredictor$Build", name := "becomeAs", desc := "(LLinkPredictor$Build;)V" } : Jvm.MethodName) prog_2_method_4_code (2 : Nat) (Option.none : Option Jvm.ClassFile.FieldType)) ∈ TT := mT (mL2 (List.mem_of_getElem? (i := 22) rfl)) rfl
theorem mw_2_23 : (Jvm.Cond.methodLink "LinkPredictor$Build" (44 : Nat) ({ cls := "LinkPredictor$Hierarchy", name := "becomeAs", desc := "(LLinkPredictor$Hierarchy;)V" } : Jvm.MethodName)) ∈ TT := mT (mL2 (List.mem_of_getElem? (i := 23) rfl)) rfl
theorem mw_2_24 : (Jvm.Cond.instanceMethod ({ cls := "LinkPredictor$Hierarchy", name := "becomeAs", desc := "(LLinkPredictor$Hierarchy;)V" } : Jvm.MethodName)) ∈ TT := mT (mL2 (List.mem_of_getElem? (i := 24) rfl)) rfl
theorem mw_2_25 : (Jvm.Cond.selects "LinkPredictor$Hierarchy" ({ cls := "LinkPredictor$Hierarchy", name := "becomeAs", desc := "(LLinkPredictor$Hierarchy;)V" } : Jvm.MethodName) ({ cls := "LinkPredictor$Hierarchy", name := "becomeAs", desc := "(LLinkPredictor$Hierarchy;)V" } : Jvm.MethodName)) ∈ TT := mT (mL2 (List.mem_of_getElem? (i := 25) rfl)) rfl
theorem mw_2_26 : (Jvm.Cond.code ({ cls := "LinkPredictor$Hierarchy", name := "becomeAs", desc := "(LLinkPredictor$Hierarchy;)V" } : Jvm.MethodName) prog_3_method_5_code (2 : Nat) (Option.none : Option Jvm.ClassFile.FieldType)) ∈ TT := mT (mL2 (List.mem_of_getElem? (i := 26) rfl)) rfl
theorem mw_2_27 : (Jvm.Cond.methodLink "LinkPredictor$Hierarchy" (51 : Nat) ({ cls := "java/lang/System", name := "arraycopy", desc := "(Ljava/lang/Object;ILjava/lang/Object;II)V" } : Jvm.MethodName)) ∈ TT := mT (mL2 (List.mem_of_getElem? (i := 27) rfl)) rfl
theorem mw_2_28 : (Jvm.Cond.static ({ cls := "java/lang/System", name := "arraycopy", desc := "(Ljava/lang/Object;ILjava/lang/Object;II)V" } : Jvm.MethodName)) ∈ TT := mT (mL2 (List.mem_of_getElem? (i := 28) rfl)) rfl
theorem mw_2_29 : (Jvm.Cond.native ({ cls := "java/lang/System", name := "arraycopy", desc := "(Ljava/lang/Object;ILjava/lang/Object;II)V" } : Jvm.MethodName)) ∈ TT := mT (mL2 (List.mem_of_getElem? (i := 29) rfl)) rfl
theorem mw_2_30 : (Jvm.Cond.methodLink "LinkPredictor$Build" (48 : Nat) ({ cls := "LinkPredictor$Members", name := "becomeAs", desc := "(LLinkPredictor$Members;)V" } : Jvm.MethodName)) ∈ TT := mT (mL2 (List.mem_of_getElem? (i := 30) rfl)) rfl
theorem mw_2_31 : (Jvm.Cond.instanceMethod ({ cls := "LinkPredictor$Members", name := "becomeAs", desc := "(LLinkPredictor$Members;)V" } : Jvm.MethodName)) ∈ TT := mT (mL2 (List.mem_of_getElem? (i := 31) rfl)) rfl
theorem mw_2_32 : (Jvm.Cond.selects "LinkPredictor$Members" ({ cls := "LinkPredictor$Members", name := "becomeAs", desc := "(LLinkPredictor$Members;)V" } : Jvm.MethodName) ({ cls := "LinkPredictor$Members", name := "becomeAs", desc := "(LLinkPredictor$Members;)V" } : Jvm.MethodName)) ∈ TT := mT (mL2 (List.mem_of_getElem? (i := 32) rfl)) rfl
theorem mw_2_33 : (Jvm.Cond.code ({ cls := "LinkPredictor$Members", name := "becomeAs", desc := "(LLinkPredictor$Members;)V" } : Jvm.MethodName) prog_4_method_6_code (2 : Nat) (Option.none : Option Jvm.ClassFile.FieldType)) ∈ TT := mT (mL2 (List.mem_of_getElem? (i := 33) rfl)) rfl
theorem mw_2_34 : (Jvm.Cond.methodLink "LinkPredictor$Members" (43 : Nat) ({ cls := "java/lang/System", name := "arraycopy", desc := "(Ljava/lang/Object;ILjava/lang/Object;II)V" } : Jvm.MethodName)) ∈ TT := mT (mL2 (List.mem_of_getElem? (i := 34) rfl)) rfl
theorem mw_2_35 : (Jvm.Cond.methodLink "LinkPredictor" (75 : Nat) ({ cls := "LinkPredictor$Hierarchy", name := "countThere", desc := "()I" } : Jvm.MethodName)) ∈ TT := mT (mL2 (List.mem_of_getElem? (i := 35) rfl)) rfl
theorem mw_2_36 : (Jvm.Cond.instanceMethod ({ cls := "LinkPredictor$Hierarchy", name := "countThere", desc := "()I" } : Jvm.MethodName)) ∈ TT := mT (mL2 (List.mem_of_getElem? (i := 36) rfl)) rfl
theorem mw_2_37 : (Jvm.Cond.selects "LinkPredictor$Hierarchy" ({ cls := "LinkPredictor$Hierarchy", name := "countThere", desc := "()I" } : Jvm.MethodName) ({ cls := "LinkPredictor$Hierarchy", name := "countThere", desc := "()I" } : Jvm.MethodName)) ∈ TT := mT (mL2 (List.mem_of_getElem? (i := 37) rfl)) rfl
theorem mw_2_38 : (Jvm.Cond.code ({ cls := "LinkPredictor$Hierarchy", name := "countThere", desc := "()I" } : Jvm.MethodName) prog_3_method_19_code (1 : Nat) (Option.some Jvm.ClassFile.FieldType.int)) ∈ TT := mT (mL2 (List.mem_of_getElem? (i := 38) rfl)) rfl
theorem mw_2_39 : (Jvm.Cond.methodLink "LinkPredictor$Hierarchy" (67 : Nat) ({ cls := "java/lang/Integer", name := "bitCount", desc := "(I)I" } : Jvm.MethodName)) ∈ TT := mT (mL2 (List.mem_of_getElem? (i := 39) rfl)) rfl
theorem mw_2_40 : (Jvm.Cond.static ({ cls := "java/lang/Integer", name := "bitCount", desc := "(I)I" } : Jvm.MethodName)) ∈ TT := mT (mL2 (List.mem_of_getElem? (i := 40) rfl)) rfl
theorem mw_2_41 : (Jvm.Cond.code ({ cls := "java/lang/Integer", name := "bitCount", desc := "(I)I" } : Jvm.MethodName) prog_8_method_49_code (1 : Nat) (Option.some Jvm.ClassFile.FieldType.int)) ∈ TT := mT (mL2 (List.mem_of_getElem? (i := 41) rfl)) rfl
theorem mw_2_42 : (Jvm.Cond.constant "java/lang/Integer" (265 : Nat) (1431655765 : Int32)) ∈ TT := mT (mL2 (List.mem_of_getElem? (i := 42) rfl)) rfl
theorem mw_2_43 : (Jvm.Cond.constant "java/lang/Integer" (266 : Nat) (858993459 : Int32)) ∈ TT := mT (mL2 (List.mem_of_getElem? (i := 43) rfl)) rfl
theorem mw_2_44 : (Jvm.Cond.constant "java/lang/Integer" (267 : Nat) (252645135 : Int32)) ∈ TT := mT (mL2 (List.mem_of_getElem? (i := 44) rfl)) rfl
theorem mw_2_45 : (Jvm.Cond.methodLink "LinkPredictorLaw" (47 : Nat) ({ cls := "LinkPredictor", name := "write", desc := "(I)Z" } : Jvm.MethodName)) ∈ TT := mT (mL2 (List.mem_of_getElem? (i := 45) rfl)) rfl
theorem mw_2_46 : (Jvm.Cond.instanceMethod ({ cls := "LinkPredictor", name := "write", desc := "(I)Z" } : Jvm.MethodName)) ∈ TT := mT (mL2 (List.mem_of_getElem? (i := 46) rfl)) rfl
theorem mw_2_47 : (Jvm.Cond.selects "LinkPredictor" ({ cls := "LinkPredictor", name := "write", desc := "(I)Z" } : Jvm.MethodName) ({ cls := "LinkPredictor", name := "write", desc := "(I)Z" } : Jvm.MethodName)) ∈ TT := mT (mL2 (List.mem_of_getElem? (i := 47) rfl)) rfl
theorem mw_2_48 : (Jvm.Cond.code ({ cls := "LinkPredictor", name := "write", desc := "(I)Z" } : Jvm.MethodName) prog_1_method_9_code (2 : Nat) (Option.some Jvm.ClassFile.FieldType.boolean)) ∈ TT := mT (mL2 (List.mem_of_getElem? (i := 48) rfl)) rfl
theorem mw_2_49 : (Jvm.Cond.methodLink "LinkPredictorLaw" (51 : Nat) ({ cls := "LinkPredictor", name := "refer", desc := "(IIII)I" } : Jvm.MethodName)) ∈ TT := mT (mL2 (List.mem_of_getElem? (i := 49) rfl)) rfl
theorem mw_2_50 : (Jvm.Cond.instanceMethod ({ cls := "LinkPredictor", name := "refer", desc := "(IIII)I" } : Jvm.MethodName)) ∈ TT := mT (mL2 (List.mem_of_getElem? (i := 50) rfl)) rfl
theorem mw_2_51 : (Jvm.Cond.selects "LinkPredictor" ({ cls := "LinkPredictor", name := "refer", desc := "(IIII)I" } : Jvm.MethodName) ({ cls := "LinkPredictor", name := "refer", desc := "(IIII)I" } : Jvm.MethodName)) ∈ TT := mT (mL2 (List.mem_of_getElem? (i := 51) rfl)) rfl
theorem mw_2_52 : (Jvm.Cond.code ({ cls := "LinkPredictor", name := "refer", desc := "(IIII)I" } : Jvm.MethodName) prog_1_method_10_code (5 : Nat) (Option.some Jvm.ClassFile.FieldType.int)) ∈ TT := mT (mL2 (List.mem_of_getElem? (i := 52) rfl)) rfl
theorem mw_2_53 : (Jvm.Cond.methodLink "LinkPredictor" (79 : Nat) ({ cls := "LinkPredictor$Reference", name := "put", desc := "(IIII)V" } : Jvm.MethodName)) ∈ TT := mT (mL2 (List.mem_of_getElem? (i := 53) rfl)) rfl
theorem mw_2_54 : (Jvm.Cond.instanceMethod ({ cls := "LinkPredictor$Reference", name := "put", desc := "(IIII)V" } : Jvm.MethodName)) ∈ TT := mT (mL2 (List.mem_of_getElem? (i := 54) rfl)) rfl
theorem mw_2_55 : (Jvm.Cond.selects "LinkPredictor$Reference" ({ cls := "LinkPredictor$Reference", name := "put", desc := "(IIII)V" } : Jvm.MethodName) ({ cls := "LinkPredictor$Reference", name := "put", desc := "(IIII)V" } : Jvm.MethodName)) ∈ TT := mT (mL2 (List.mem_of_getElem? (i := 55) rfl)) rfl
theorem mw_2_56 : (Jvm.Cond.code ({ cls := "LinkPredictor$Reference", name := "put", desc := "(IIII)V" } : Jvm.MethodName) prog_5_method_2_code (5 : Nat) (Option.none : Option Jvm.ClassFile.FieldType)) ∈ TT := mT (mL2 (List.mem_of_getElem? (i := 56) rfl)) rfl
theorem mw_2_57 : (Jvm.Cond.methodLink "LinkPredictorLaw" (56 : Nat) ({ cls := "LinkPredictor", name := "forget", desc := "()I" } : Jvm.MethodName)) ∈ TT := mT (mL2 (List.mem_of_getElem? (i := 57) rfl)) rfl
theorem mw_2_58 : (Jvm.Cond.instanceMethod ({ cls := "LinkPredictor", name := "forget", desc := "()I" } : Jvm.MethodName)) ∈ TT := mT (mL2 (List.mem_of_getElem? (i := 58) rfl)) rfl
theorem mw_2_59 : (Jvm.Cond.selects "LinkPredictor" ({ cls := "LinkPredictor", name := "forget", desc := "()I" } : Jvm.MethodName) ({ cls := "LinkPredictor", name := "forget", desc := "()I" } : Jvm.MethodName)) ∈ TT := mT (mL2 (List.mem_of_getElem? (i := 59) rfl)) rfl
theorem mw_2_60 : (Jvm.Cond.code ({ cls := "LinkPredictor", name := "forget", desc := "()I" } : Jvm.MethodName) prog_1_method_11_code (2 : Nat) (Option.some Jvm.ClassFile.FieldType.int)) ∈ TT := mT (mL2 (List.mem_of_getElem? (i := 60) rfl)) rfl
theorem mw_2_61 : (Jvm.Cond.methodLink "LinkPredictorLaw" (60 : Nat) ({ cls := "LinkPredictor", name := "load", desc := "(II)I" } : Jvm.MethodName)) ∈ TT := mT (mL2 (List.mem_of_getElem? (i := 61) rfl)) rfl
theorem mw_2_62 : (Jvm.Cond.instanceMethod ({ cls := "LinkPredictor", name := "load", desc := "(II)I" } : Jvm.MethodName)) ∈ TT := mT (mL2 (List.mem_of_getElem? (i := 62) rfl)) rfl
theorem mw_2_63 : (Jvm.Cond.selects "LinkPredictor" ({ cls := "LinkPredictor", name := "load", desc := "(II)I" } : Jvm.MethodName) ({ cls := "LinkPredictor", name := "load", desc := "(II)I" } : Jvm.MethodName)) ∈ TT := mT (mL2 (List.mem_of_getElem? (i := 63) rfl)) rfl
theorem mw_2_64 : (Jvm.Cond.code ({ cls := "LinkPredictor", name := "load", desc := "(II)I" } : Jvm.MethodName) prog_1_method_12_code (3 : Nat) (Option.some Jvm.ClassFile.FieldType.int)) ∈ TT := mT (mL2 (List.mem_of_getElem? (i := 64) rfl)) rfl
theorem mw_2_65 : (Jvm.Cond.methodLink "LinkPredictor" (83 : Nat) ({ cls := "LinkPredictor$Hierarchy", name := "loading", desc := "(I)I" } : Jvm.MethodName)) ∈ TT := mT (mL2 (List.mem_of_getElem? (i := 65) rfl)) rfl
theorem mw_2_66 : (Jvm.Cond.instanceMethod ({ cls := "LinkPredictor$Hierarchy", name := "loading", desc := "(I)I" } : Jvm.MethodName)) ∈ TT := mT (mL2 (List.mem_of_getElem? (i := 66) rfl)) rfl
theorem mw_2_67 : (Jvm.Cond.selects "LinkPredictor$Hierarchy" ({ cls := "LinkPredictor$Hierarchy", name := "loading", desc := "(I)I" } : Jvm.MethodName) ({ cls := "LinkPredictor$Hierarchy", name := "loading", desc := "(I)I" } : Jvm.MethodName)) ∈ TT := mT (mL2 (List.mem_of_getElem? (i := 67) rfl)) rfl
theorem mw_2_68 : (Jvm.Cond.code ({ cls := "LinkPredictor$Hierarchy", name := "loading", desc := "(I)I" } : Jvm.MethodName) prog_3_method_12_code (2 : Nat) (Option.some Jvm.ClassFile.FieldType.int)) ∈ TT := mT (mL2 (List.mem_of_getElem? (i := 68) rfl)) rfl
theorem mw_2_69 : (Jvm.Cond.methodLink "LinkPredictorLaw" (65 : Nat) ({ cls := "LinkPredictor", name := "resolve", desc := "(II)I" } : Jvm.MethodName)) ∈ TT := mT (mL2 (List.mem_of_getElem? (i := 69) rfl)) rfl
theorem mw_2_70 : (Jvm.Cond.instanceMethod ({ cls := "LinkPredictor", name := "resolve", desc := "(II)I" } : Jvm.MethodName)) ∈ TT := mT (mL2 (List.mem_of_getElem? (i := 70) rfl)) rfl
theorem mw_2_71 : (Jvm.Cond.selects "LinkPredictor" ({ cls := "LinkPredictor", name := "resolve", desc := "(II)I" } : Jvm.MethodName) ({ cls := "LinkPredictor", name := "resolve", desc := "(II)I" } : Jvm.MethodName)) ∈ TT := mT (mL2 (List.mem_of_getElem? (i := 71) rfl)) rfl
theorem mw_2_72 : (Jvm.Cond.code ({ cls := "LinkPredictor", name := "resolve", desc := "(II)I" } : Jvm.MethodName) prog_1_method_13_code (3 : Nat) (Option.some Jvm.ClassFile.FieldType.int)) ∈ TT := mT (mL2 (List.mem_of_getElem? (i := 72) rfl)) rfl
theorem mw_2_73 : (Jvm.Cond.methodLink "LinkPredictor" (87 : Nat) ({ cls := "LinkPredictor$Build", name := "resolution", desc := "(LLinkPredictor$Reference;)I" } : Jvm.MethodName)) ∈ TT := mT (mL2 (List.mem_of_getElem? (i := 73) rfl)) rfl
theorem mw_2_74 : (Jvm.Cond.instanceMethod ({ cls := "LinkPredictor$Build", name := "resolution", desc := "(LLinkPredictor$Reference;)I" } : Jvm.MethodName)) ∈ TT := mT (mL2 (List.mem_of_getElem? (i := 74) rfl)) rfl
theorem mw_2_75 : (Jvm.Cond.selects "LinkPredictor$Build" ({ cls := "LinkPredictor$Build", name := "resolution", desc := "(LLinkPredictor$Reference;)I" } : Jvm.MethodName) ({ cls := "LinkPredictor$Build", name := "resolution", desc := "(LLinkPredictor$Reference;)I" } : Jvm.MethodName)) ∈ TT := mT (mL2 (List.mem_of_getElem? (i := 75) rfl)) rfl
theorem mw_2_76 : (Jvm.Cond.code ({ cls := "LinkPredictor$Build", name := "resolution", desc := "(LLinkPredictor$Reference;)I" } : Jvm.MethodName) prog_2_method_5_code (3 : Nat) (Option.some Jvm.ClassFile.FieldType.int)) ∈ TT := mT (mL2 (List.mem_of_getElem? (i := 76) rfl)) rfl
theorem mw_2_77 : (Jvm.Cond.methodLink "LinkPredictor$Build" (57 : Nat) ({ cls := "LinkPredictor$Hierarchy", name := "loading", desc := "(I)I" } : Jvm.MethodName)) ∈ TT := mT (mL2 (List.mem_of_getElem? (i := 77) rfl)) rfl
theorem nw_2_78 : (Jvm.Cond.methodLinkNest "LinkPredictor$Build" (61 : Nat) ({ cls := "LinkPredictor", name := "isGood", desc := "(I)Z" } : Jvm.MethodName) "LinkPredictor") ∈ lw_tbl := mL2 (List.mem_of_getElem? (i := 78) rfl)
theorem mw_2_79 : (Jvm.Cond.methodLink "LinkPredictor$Build" (67 : Nat) ({ cls := "LinkPredictor$Hierarchy", name := "reaching", desc := "(II)I" } : Jvm.MethodName)) ∈ TT := mT (mL2 (List.mem_of_getElem? (i := 79) rfl)) rfl
theorem mw_2_80 : (Jvm.Cond.instanceMethod ({ cls := "LinkPredictor$Hierarchy", name := "reaching", desc := "(II)I" } : Jvm.MethodName)) ∈ TT := mT (mL2 (List.mem_of_getElem? (i := 80) rfl)) rfl
theorem mw_2_81 : (Jvm.Cond.selects "LinkPredictor$Hierarchy" ({ cls := "LinkPredictor$Hierarchy", name := "reaching", desc := "(II)I" } : Jvm.MethodName) ({ cls := "LinkPredictor$Hierarchy", name := "reaching", desc := "(II)I" } : Jvm.MethodName)) ∈ TT := mT (mL2 (List.mem_of_getElem? (i := 81) rfl)) rfl
theorem mw_2_82 : (Jvm.Cond.code ({ cls := "LinkPredictor$Hierarchy", name := "reaching", desc := "(II)I" } : Jvm.MethodName) prog_3_method_13_code (4 : Nat) (Option.some Jvm.ClassFile.FieldType.int)) ∈ TT := mT (mL2 (List.mem_of_getElem? (i := 82) rfl)) rfl
theorem mw_2_83 : (Jvm.Cond.methodLink "LinkPredictor$Hierarchy" (64 : Nat) ({ cls := "LinkPredictor$Hierarchy", name := "isSamePackage", desc := "(II)Z" } : Jvm.MethodName)) ∈ TT := mT (mL2 (List.mem_of_getElem? (i := 83) rfl)) rfl
theorem mw_2_84 : (Jvm.Cond.instanceMethod ({ cls := "LinkPredictor$Hierarchy", name := "isSamePackage", desc := "(II)Z" } : Jvm.MethodName)) ∈ TT := mT (mL2 (List.mem_of_getElem? (i := 84) rfl)) rfl
theorem mw_2_85 : (Jvm.Cond.selects "LinkPredictor$Hierarchy" ({ cls := "LinkPredictor$Hierarchy", name := "isSamePackage", desc := "(II)Z" } : Jvm.MethodName) ({ cls := "LinkPredictor$Hierarchy", name := "isSamePackage", desc := "(II)Z" } : Jvm.MethodName)) ∈ TT := mT (mL2 (List.mem_of_getElem? (i := 85) rfl)) rfl
theorem mw_2_86 : (Jvm.Cond.code ({ cls := "LinkPredictor$Hierarchy", name := "isSamePackage", desc := "(II)Z" } : Jvm.MethodName) prog_3_method_14_code (3 : Nat) (Option.some Jvm.ClassFile.FieldType.boolean)) ∈ TT := mT (mL2 (List.mem_of_getElem? (i := 86) rfl)) rfl
theorem mw_2_87 : (Jvm.Cond.methodLink "LinkPredictor$Build" (74 : Nat) ({ cls := "LinkPredictor$Reference", name := "isOfField", desc := "()Z" } : Jvm.MethodName)) ∈ TT := mT (mL2 (List.mem_of_getElem? (i := 87) rfl)) rfl
theorem mw_2_88 : (Jvm.Cond.instanceMethod ({ cls := "LinkPredictor$Reference", name := "isOfField", desc := "()Z" } : Jvm.MethodName)) ∈ TT := mT (mL2 (List.mem_of_getElem? (i := 88) rfl)) rfl
theorem mw_2_89 : (Jvm.Cond.selects "LinkPredictor$Reference" ({ cls := "LinkPredictor$Reference", name := "isOfField", desc := "()Z" } : Jvm.MethodName) ({ cls := "LinkPredictor$Reference", name := "isOfField", desc := "()Z" } : Jvm.MethodName)) ∈ TT := mT (mL2 (List.mem_of_getElem? (i := 89) rfl)) rfl
theorem mw_2_90 : (Jvm.Cond.code ({ cls := "LinkPredictor$Reference", name := "isOfField", desc := "()Z" } : Jvm.MethodName) prog_5_method_3_code (1 : Nat) (Option.some Jvm.ClassFile.FieldType.boolean)) ∈ TT := mT (mL2 (List.mem_of_getElem? (i := 90) rfl)) rfl
theorem mw_2_91 : (Jvm.Cond.methodLink "LinkPredictor$Build" (78 : Nat) ({ cls := "LinkPredictor$Build", name := "lookUpField", desc := "(LLinkPredictor$Reference;)I" } : Jvm.MethodName)) ∈ TT := mT (mL2 (List.mem_of_getElem? (i := 91) rfl)) rfl
theorem nw_2_92 : (Jvm.Cond.privateMethod ({ cls := "LinkPredictor$Build", name := "lookUpField", desc := "(LLinkPredictor$Reference;)I" } : Jvm.MethodName)) ∈ lw_tbl := mL2 (List.mem_of_getElem? (i := 92) rfl)
theorem mw_2_93 : (Jvm.Cond.instanceMethod ({ cls := "LinkPredictor$Build", name := "lookUpField", desc := "(LLinkPredictor$Reference;)I" } : Jvm.MethodName)) ∈ TT := mT (mL2 (List.mem_of_getElem? (i := 93) rfl)) rfl
theorem mw_2_94 : (Jvm.Cond.code ({ cls := "LinkPredictor$Build", name := "lookUpField", desc := "(LLinkPredictor$Reference;)I" } : Jvm.MethodName) prog_2_method_7_code (3 : Nat) (Option.some Jvm.ClassFile.FieldType.int)) ∈ TT := mT (mL2 (List.mem_of_getElem? (i := 94) rfl)) rfl
theorem mw_2_95 : (Jvm.Cond.methodLink "LinkPredictor$Build" (112 : Nat) ({ cls := "LinkPredictor$Build", name := "findField", desc := "(II)I" } : Jvm.MethodName)) ∈ TT := mT (mL2 (List.mem_of_getElem? (i := 95) rfl)) rfl
theorem nw_2_96 : (Jvm.Cond.privateMethod ({ cls := "LinkPredictor$Build", name := "findField", desc := "(II)I" } : Jvm.MethodName)) ∈ lw_tbl := mL2 (List.mem_of_getElem? (i := 96) rfl)
theorem mw_2_97 : (Jvm.Cond.instanceMethod ({ cls := "LinkPredictor$Build", name := "findField", desc := "(II)I" } : Jvm.MethodName)) ∈ TT := mT (mL2 (List.mem_of_getElem? (i := 97) rfl)) rfl
theorem mw_2_98 : (Jvm.Cond.code ({ cls := "LinkPredictor$Build", name := "findField", desc := "(II)I" } : Jvm.MethodName) prog_2_method_8_code (5 : Nat) (Option.some Jvm.ClassFile.FieldType.int)) ∈ TT := mT (mL2 (List.mem_of_getElem? (i := 98) rfl)) rfl
theorem nw_2_99 : (Jvm.Cond.methodLinkNest "LinkPredictor$Build" (115 : Nat) ({ cls := "LinkPredictor", name := "contains", desc := "(II)Z" } : Jvm.MethodName) "LinkPredictor") ∈ lw_tbl := mL2 (List.mem_of_getElem? (i := 99) rfl)
theorem nw_2_100 : (Jvm.Cond.methodLinkNest "LinkPredictor$Build" (118 : Nat) ({ cls := "LinkPredictor", name := "bit", desc := "(I)I" } : Jvm.MethodName) "LinkPredictor") ∈ lw_tbl := mL2 (List.mem_of_getElem? (i := 100) rfl)
theorem mw_2_101 : (Jvm.Cond.methodLink "LinkPredictor$Build" (121 : Nat) ({ cls := "LinkPredictor$Hierarchy", name := "directFacesOf", desc := "(I)I" } : Jvm.MethodName)) ∈ TT := mT (mL2 (List.mem_of_getElem? (i := 101) rfl)) rfl
theorem mw_2_102 : (Jvm.Cond.instanceMethod ({ cls := "LinkPredictor$Hierarchy", name := "directFacesOf", desc := "(I)I" } : Jvm.MethodName)) ∈ TT := mT (mL2 (List.mem_of_getElem? (i := 102) rfl)) rfl
theorem mw_2_103 : (Jvm.Cond.selects "LinkPredictor$Hierarchy" ({ cls := "LinkPredictor$Hierarchy", name := "directFacesOf", desc := "(I)I" } : Jvm.MethodName) ({ cls := "LinkPredictor$Hierarchy", name := "directFacesOf", desc := "(I)I" } : Jvm.MethodName)) ∈ TT := mT (mL2 (List.mem_of_getElem? (i := 103) rfl)) rfl
theorem mw_2_104 : (Jvm.Cond.code ({ cls := "LinkPredictor$Hierarchy", name := "directFacesOf", desc := "(I)I" } : Jvm.MethodName) prog_3_method_10_code (2 : Nat) (Option.some Jvm.ClassFile.FieldType.int)) ∈ TT := mT (mL2 (List.mem_of_getElem? (i := 104) rfl)) rfl
theorem mw_2_105 : (Jvm.Cond.methodLink "LinkPredictor$Build" (124 : Nat) ({ cls := "LinkPredictor$Hierarchy", name := "superOf", desc := "(I)I" } : Jvm.MethodName)) ∈ TT := mT (mL2 (List.mem_of_getElem? (i := 105) rfl)) rfl
theorem mw_2_106 : (Jvm.Cond.instanceMethod ({ cls := "LinkPredictor$Hierarchy", name := "superOf", desc := "(I)I" } : Jvm.MethodName)) ∈ TT := mT (mL2 (List.mem_of_getElem? (i := 106) rfl)) rfl
theorem mw_2_107 : (Jvm.Cond.selects "LinkPredictor$Hierarchy" ({ cls := "LinkPredictor$Hierarchy", name := "superOf", desc := "(I)I" } : Jvm.MethodName) ({ cls := "LinkPredictor$Hierarchy", name := "superOf", desc := "(I)I" } : Jvm.MethodName)) ∈ TT := mT (mL2 (List.mem_of_getElem? (i := 107) rfl)) rfl
theorem mw_2_108 : (Jvm.Cond.code ({ cls := "LinkPredictor$Hierarchy", name := "superOf", desc := "(I)I" } : Jvm.MethodName) prog_3_method_9_code (2 : Nat) (Option.some Jvm.ClassFile.FieldType.int)) ∈ TT := mT (mL2 (List.mem_of_getElem? (i := 108) rfl)) rfl
theorem mw_2_109 : (Jvm.Cond.methodLink "LinkPredictor$Build" (82 : Nat) ({ cls := "LinkPredictor$Build", name := "lookUpMethod", desc := "(LLinkPredictor$Reference;)I" } : Jvm.MethodName)) ∈ TT := mT (mL2 (List.mem_of_getElem? (i := 109) rfl)) rfl
theorem nw_2_110 : (Jvm.Cond.privateMethod ({ cls := "LinkPredictor$Build", name := "lookUpMethod", desc := "(LLinkPredictor$Reference;)I" } : Jvm.MethodName)) ∈ lw_tbl := mL2 (List.mem_of_getElem? (i := 110) rfl)
theorem mw_2_111 : (Jvm.Cond.instanceMethod ({ cls := "LinkPredictor$Build", name := "lookUpMethod", desc := "(LLinkPredictor$Reference;)I" } : Jvm.MethodName)) ∈ TT := mT (mL2 (List.mem_of_getElem? (i := 111) rfl)) rfl
theorem mw_2_112 : (Jvm.Cond.code ({ cls := "LinkPredictor$Build", name := "lookUpMethod", desc := "(LLinkPredictor$Reference;)I" } : Jvm.MethodName) prog_2_method_9_code (4 : Nat) (Option.some Jvm.ClassFile.FieldType.int)) ∈ TT := mT (mL2 (List.mem_of_getElem? (i := 112) rfl)) rfl
theorem mw_2_113 : (Jvm.Cond.methodLink "LinkPredictor$Build" (127 : Nat) ({ cls := "LinkPredictor$Hierarchy", name := "isInterface", desc := "(I)Z" } : Jvm.MethodName)) ∈ TT := mT (mL2 (List.mem_of_getElem? (i := 113) rfl)) rfl
theorem mw_2_114 : (Jvm.Cond.methodLink "LinkPredictor$Build" (130 : Nat) ({ cls := "LinkPredictor$Build", name := "findInInterface", desc := "(II)I" } : Jvm.MethodName)) ∈ TT := mT (mL2 (List.mem_of_getElem? (i := 114) rfl)) rfl
theorem nw_2_115 : (Jvm.Cond.privateMethod ({ cls := "LinkPredictor$Build", name := "findInInterface", desc := "(II)I" } : Jvm.MethodName)) ∈ lw_tbl := mL2 (List.mem_of_getElem? (i := 115) rfl)
theorem mw_2_116 : (Jvm.Cond.instanceMethod ({ cls := "LinkPredictor$Build", name := "findInInterface", desc := "(II)I" } : Jvm.MethodName)) ∈ TT := mT (mL2 (List.mem_of_getElem? (i := 116) rfl)) rfl
theorem mw_2_117 : (Jvm.Cond.code ({ cls := "LinkPredictor$Build", name := "findInInterface", desc := "(II)I" } : Jvm.MethodName) prog_2_method_10_code (5 : Nat) (Option.some Jvm.ClassFile.FieldType.int)) ∈ TT := mT (mL2 (List.mem_of_getElem? (i := 117) rfl)) rfl
theorem mw_2_118 : (Jvm.Cond.methodLink "LinkPredictor$Build" (96 : Nat) ({ cls := "LinkPredictor$Members", name := "accessOf", desc := "(I)I" } : Jvm.MethodName)) ∈ TT := mT (mL2 (List.mem_of_getElem? (i := 118) rfl)) rfl
theorem mw_2_119 : (Jvm.Cond.instanceMethod ({ cls := "LinkPredictor$Members", name := "accessOf", desc := "(I)I" } : Jvm.MethodName)) ∈ TT := mT (mL2 (List.mem_of_getElem? (i := 119) rfl)) rfl
theorem mw_2_120 : (Jvm.Cond.selects "LinkPredictor$Members" ({ cls := "LinkPredictor$Members", name := "accessOf", desc := "(I)I" } : Jvm.MethodName) ({ cls := "LinkPredictor$Members", name := "accessOf", desc := "(I)I" } : Jvm.MethodName)) ∈ TT := mT (mL2 (List.mem_of_getElem? (i := 120) rfl)) rfl
theorem mw_2_121 : (Jvm.Cond.code ({ cls := "LinkPredictor$Members", name := "accessOf", desc := "(I)I" } : Jvm.MethodName) prog_4_method_15_code (2 : Nat) (Option.some Jvm.ClassFile.FieldType.int)) ∈ TT := mT (mL2 (List.mem_of_getElem? (i := 121) rfl)) rfl
theorem mw_2_122 : (Jvm.Cond.methodLink "LinkPredictor$Build" (139 : Nat) ({ cls := "LinkPredictor$Members", name := "isStatic", desc := "(I)Z" } : Jvm.MethodName)) ∈ TT := mT (mL2 (List.mem_of_getElem? (i := 122) rfl)) rfl
theorem mw_2_123 : (Jvm.Cond.instanceMethod ({ cls := "LinkPredictor$Members", name := "isStatic", desc := "(I)Z" } : Jvm.MethodName)) ∈ TT := mT (mL2 (List.mem_of_getElem? (i := 123) rfl)) rfl
theorem mw_2_124 : (Jvm.Cond.selects "LinkPredictor$Members" ({ cls := "LinkPredictor$Members", name := "isStatic", desc := "(I)Z" } : Jvm.MethodName) ({ cls := "LinkPredictor$Members", name := "isStatic", desc := "(I)Z" } : Jvm.MethodName)) ∈ TT := mT (mL2 (List.mem_of_getElem? (i := 124) rfl)) rfl
theorem mw_2_125 : (Jvm.Cond.code ({ cls := "LinkPredictor$Members", name := "isStatic", desc := "(I)Z" } : Jvm.MethodName) prog_4_method_11_code (2 : Nat) (Option.some Jvm.ClassFile.FieldType.boolean)) ∈ TT := mT (mL2 (List.mem_of_getElem? (i := 125) rfl)) rfl
theorem mw_2_126 : (Jvm.Cond.methodLink "LinkPredictor$Build" (133 : Nat) ({ cls := "LinkPredictor$Build", name := "findInAbove", desc := "(II)I" } : Jvm.MethodName)) ∈ TT := mT (mL2 (List.mem_of_getElem? (i := 126) rfl)) rfl
theorem nw_2_127 : (Jvm.Cond.privateMethod ({ cls := "LinkPredictor$Build", name := "findInAbove", desc := "(II)I" } : Jvm.MethodName)) ∈ lw_tbl := mL2 (List.mem_of_getElem? (i := 127) rfl)
theorem mw_2_128 : (Jvm.Cond.instanceMethod ({ cls := "LinkPredictor$Build", name := "findInAbove", desc := "(II)I" } : Jvm.MethodName)) ∈ TT := mT (mL2 (List.mem_of_getElem? (i := 128) rfl)) rfl
theorem mw_2_129 : (Jvm.Cond.code ({ cls := "LinkPredictor$Build", name := "findInAbove", desc := "(II)I" } : Jvm.MethodName) prog_2_method_11_code (6 : Nat) (Option.some Jvm.ClassFile.FieldType.int)) ∈ TT := mT (mL2 (List.mem_of_getElem? (i := 129) rfl)) rfl
theorem mw_2_130 : (Jvm.Cond.methodLink "LinkPredictor$Build" (136 : Nat) ({ cls := "LinkPredictor$Build", name := "findBest", desc := "(II)I" } : Jvm.MethodName)) ∈ TT := mT (mL2 (List.mem_of_getElem? (i := 130) rfl)) rfl
theorem nw_2_131 : (Jvm.Cond.privateMethod ({ cls := "LinkPredictor$Build", name := "findBest", desc := "(II)I" } : Jvm.MethodName)) ∈ lw_tbl := mL2 (List.mem_of_getElem? (i := 131) rfl)
theorem mw_2_132 : (Jvm.Cond.instanceMethod ({ cls := "LinkPredictor$Build", name := "findBest", desc := "(II)I" } : Jvm.MethodName)) ∈ TT := mT (mL2 (List.mem_of_getElem? (i := 132) rfl)) rfl
theorem mw_2_133 : (Jvm.Cond.code ({ cls := "LinkPredictor$Build", name := "findBest", desc := "(II)I" } : Jvm.MethodName) prog_2_method_12_code (5 : Nat) (Option.some Jvm.ClassFile.FieldType.int)) ∈ TT := mT (mL2 (List.mem_of_getElem? (i := 133) rfl)) rfl
theorem mw_2_134 : (Jvm.Cond.methodLink "LinkPredictor$Build" (142 : Nat) ({ cls := "LinkPredictor$Hierarchy", name := "facesOf", desc := "(I)I" } : Jvm.MethodName)) ∈ TT := mT (mL2 (List.mem_of_getElem? (i := 134) rfl)) rfl
theorem mw_2_135 : (Jvm.Cond.instanceMethod ({ cls := "LinkPredictor$Hierarchy", name := "facesOf", desc := "(I)I" } : Jvm.MethodName)) ∈ TT := mT (mL2 (List.mem_of_getElem? (i := 135) rfl)) rfl
theorem mw_2_136 : (Jvm.Cond.selects "LinkPredictor$Hierarchy" ({ cls := "LinkPredictor$Hierarchy", name := "facesOf", desc := "(I)I" } : Jvm.MethodName) ({ cls := "LinkPredictor$Hierarchy", name := "facesOf", desc := "(I)I" } : Jvm.MethodName)) ∈ TT := mT (mL2 (List.mem_of_getElem? (i := 136) rfl)) rfl
theorem mw_2_137 : (Jvm.Cond.code ({ cls := "LinkPredictor$Hierarchy", name := "facesOf", desc := "(I)I" } : Jvm.MethodName) prog_3_method_11_code (2 : Nat) (Option.some Jvm.ClassFile.FieldType.int)) ∈ TT := mT (mL2 (List.mem_of_getElem? (i := 137) rfl)) rfl
theorem mw_2_138 : (Jvm.Cond.methodLink "LinkPredictor$Build" (145 : Nat) ({ cls := "LinkPredictor$Members", name := "ownersOfInheritable", desc := "(I)I" } : Jvm.MethodName)) ∈ TT := mT (mL2 (List.mem_of_getElem? (i := 138) rfl)) rfl
theorem mw_2_139 : (Jvm.Cond.instanceMethod ({ cls := "LinkPredictor$Members", name := "ownersOfInheritable", desc := "(I)I" } : Jvm.MethodName)) ∈ TT := mT (mL2 (List.mem_of_getElem? (i := 139) rfl)) rfl
theorem mw_2_140 : (Jvm.Cond.selects "LinkPredictor$Members" ({ cls := "LinkPredictor$Members", name := "ownersOfInheritable", desc := "(I)I" } : Jvm.MethodName) ({ cls := "LinkPredictor$Members", name := "ownersOfInheritable", desc := "(I)I" } : Jvm.MethodName)) ∈ TT := mT (mL2 (List.mem_of_getElem? (i := 140) rfl)) rfl
theorem mw_2_141 : (Jvm.Cond.code ({ cls := "LinkPredictor$Members", name := "ownersOfInheritable", desc := "(I)I" } : Jvm.MethodName) prog_4_method_8_code (5 : Nat) (Option.some Jvm.ClassFile.FieldType.int)) ∈ TT := mT (mL2 (List.mem_of_getElem? (i := 141) rfl)) rfl
theorem mw_2_142 : (Jvm.Cond.methodLink "LinkPredictor$Members" (53 : Nat) ({ cls := "LinkPredictor$Members", name := "isInheritable", desc := "(I)Z" } : Jvm.MethodName)) ∈ TT := mT (mL2 (List.mem_of_getElem? (i := 142) rfl)) rfl
theorem mw_2_143 : (Jvm.Cond.instanceMethod ({ cls := "LinkPredictor$Members", name := "isInheritable", desc := "(I)Z" } : Jvm.MethodName)) ∈ TT := mT (mL2 (List.mem_of_getElem? (i := 143) rfl)) rfl
theorem mw_2_144 : (Jvm.Cond.selects "LinkPredictor$Members" ({ cls := "LinkPredictor$Members", name := "isInheritable", desc := "(I)Z" } : Jvm.MethodName) ({ cls := "LinkPredictor$Members", name := "isInheritable", desc := "(I)Z" } : Jvm.MethodName)) ∈ TT := mT (mL2 (List.mem_of_getElem? (i := 144) rfl)) rfl
theorem mw_2_145 : (Jvm.Cond.code ({ cls := "LinkPredictor$Members", name := "isInheritable", desc := "(I)Z" } : Jvm.MethodName) prog_4_method_9_code (2 : Nat) (Option.some Jvm.ClassFile.FieldType.boolean)) ∈ TT := mT (mL2 (List.mem_of_getElem? (i := 145) rfl)) rfl
theorem mw_2_146 : (Jvm.Cond.methodLink "LinkPredictor$Build" (148 : Nat) ({ cls := "LinkPredictor$Hierarchy", name := "mostSpecificOf", desc := "(I)I" } : Jvm.MethodName)) ∈ TT := mT (mL2 (List.mem_of_getElem? (i := 146) rfl)) rfl
theorem mw_2_147 : (Jvm.Cond.instanceMethod ({ cls := "LinkPredictor$Hierarchy", name := "mostSpecificOf", desc := "(I)I" } : Jvm.MethodName)) ∈ TT := mT (mL2 (List.mem_of_getElem? (i := 147) rfl)) rfl
theorem mw_2_148 : (Jvm.Cond.selects "LinkPredictor$Hierarchy" ({ cls := "LinkPredictor$Hierarchy", name := "mostSpecificOf", desc := "(I)I" } : Jvm.MethodName) ({ cls := "LinkPredictor$Hierarchy", name := "mostSpecificOf", desc := "(I)I" } : Jvm.MethodName)) ∈ TT := mT (mL2 (List.mem_of_getElem? (i := 148) rfl)) rfl
theorem mw_2_149 : (Jvm.Cond.code ({ cls := "LinkPredictor$Hierarchy", name := "mostSpecificOf", desc := "(I)I" } : Jvm.MethodName) prog_3_method_17_code (4 : Nat) (Option.some Jvm.ClassFile.FieldType.int)) ∈ TT := mT (mL2 (List.mem_of_getElem? (i := 149) rfl)) rfl
theorem mw_2_150 : (Jvm.Cond.methodLink "LinkPredictor$Build" (151 : Nat) ({ cls := "LinkPredictor$Build", name := "findOnlyWithBody", desc := "(II)I" } : Jvm.MethodName)) ∈ TT := mT (mL2 (List.mem_of_getElem? (i := 150) rfl)) rfl
theorem nw_2_151 : (Jvm.Cond.privateMethod ({ cls := "LinkPredictor$Build", name := "findOnlyWithBody", desc := "(II)I" } : Jvm.MethodName)) ∈ lw_tbl := mL2 (List.mem_of_getElem? (i := 151) rfl)
theorem mw_2_152 : (Jvm.Cond.instanceMethod ({ cls := "LinkPredictor$Build", name := "findOnlyWithBody", desc := "(II)I" } : Jvm.MethodName)) ∈ TT := mT (mL2 (List.mem_of_getElem? (i := 152) rfl)) rfl
theorem mw_2_153 : (Jvm.Cond.code ({ cls := "LinkPredictor$Build", name := "findOnlyWithBody", desc := "(II)I" } : Jvm.MethodName) prog_2_method_14_code (6 : Nat) (Option.some Jvm.ClassFile.FieldType.int)) ∈ TT := mT (mL2 (List.mem_of_getElem? (i := 153) rfl)) rfl
theorem mw_2_154 : (Jvm.Cond.methodLink "LinkPredictor$Build" (162 : Nat) ({ cls := "LinkPredictor$Members", name := "isAbstract", desc := "(I)Z" } : Jvm.MethodName)) ∈ TT := mT (mL2 (List.mem_of_getElem? (i := 154) rfl)) rfl
theorem mw_2_155 : (Jvm.Cond.instanceMethod ({ cls := "LinkPredictor$Members", name := "isAbstract", desc := "(I)Z" } : Jvm.MethodName)) ∈ TT := mT (mL2 (List.mem_of_getElem? (i := 155) rfl)) rfl
theorem mw_2_156 : (Jvm.Cond.selects "LinkPredictor$Members" ({ cls := "LinkPredictor$Members", name := "isAbstract", desc := "(I)Z" } : Jvm.MethodName) ({ cls := "LinkPredictor$Members", name := "isAbstract", desc := "(I)Z" } : Jvm.MethodName)) ∈ TT := mT (mL2 (List.mem_of_getElem? (i := 156) rfl)) rfl
theorem mw_2_157 : (Jvm.Cond.code ({ cls := "LinkPredictor$Members", name := "isAbstract", desc := "(I)Z" } : Jvm.MethodName) prog_4_method_12_code (2 : Nat) (Option.some Jvm.ClassFile.FieldType.boolean)) ∈ TT := mT (mL2 (List.mem_of_getElem? (i := 157) rfl)) rfl
theorem mw_2_158 : (Jvm.Cond.methodLink "LinkPredictor$Build" (154 : Nat) ({ cls := "LinkPredictor$Build", name := "findLeast", desc := "(II)I" } : Jvm.MethodName)) ∈ TT := mT (mL2 (List.mem_of_getElem? (i := 158) rfl)) rfl
theorem nw_2_159 : (Jvm.Cond.privateMethod ({ cls := "LinkPredictor$Build", name := "findLeast", desc := "(II)I" } : Jvm.MethodName)) ∈ lw_tbl := mL2 (List.mem_of_getElem? (i := 159) rfl)
theorem mw_2_160 : (Jvm.Cond.instanceMethod ({ cls := "LinkPredictor$Build", name := "findLeast", desc := "(II)I" } : Jvm.MethodName)) ∈ TT := mT (mL2 (List.mem_of_getElem? (i := 160) rfl)) rfl
theorem mw_2_161 : (Jvm.Cond.code ({ cls := "LinkPredictor$Build", name := "findLeast", desc := "(II)I" } : Jvm.MethodName) prog_2_method_13_code (6 : Nat) (Option.some Jvm.ClassFile.FieldType.int)) ∈ TT := mT (mL2 (List.mem_of_getElem? (i := 161) rfl)) rfl
theorem mw_2_162 : (Jvm.Cond.methodLink "LinkPredictor$Build" (157 : Nat) ({ cls := "java/lang/Math", name := "min", desc := "(II)I" } : Jvm.MethodName)) ∈ TT := mT (mL2 (List.mem_of_getElem? (i := 162) rfl)) rfl
theorem mw_2_163 : (Jvm.Cond.static ({ cls := "java/lang/Math", name := "min", desc := "(II)I" } : Jvm.MethodName)) ∈ TT := mT (mL2 (List.mem_of_getElem? (i := 163) rfl)) rfl
theorem mw_2_164 : (Jvm.Cond.code ({ cls := "java/lang/Math", name := "min", desc := "(II)I" } : Jvm.MethodName) prog_9_method_69_code (2 : Nat) (Option.some Jvm.ClassFile.FieldType.int)) ∈ TT := mT (mL2 (List.mem_of_getElem? (i := 164) rfl)) rfl
theorem mw_2_165 : (Jvm.Cond.methodLink "LinkPredictor$Build" (85 : Nat) ({ cls := "LinkPredictor$Build", name := "checkMember", desc := "(LLinkPredictor$Reference;I)I" } : Jvm.MethodName)) ∈ TT := mT (mL2 (List.mem_of_getElem? (i := 165) rfl)) rfl
theorem nw_2_166 : (Jvm.Cond.privateMethod ({ cls := "LinkPredictor$Build", name := "checkMember", desc := "(LLinkPredictor$Reference;I)I" } : Jvm.MethodName)) ∈ lw_tbl := mL2 (List.mem_of_getElem? (i := 166) rfl)
theorem mw_2_167 : (Jvm.Cond.instanceMethod ({ cls := "LinkPredictor$Build", name := "checkMember", desc := "(LLinkPredictor$Reference;I)I" } : Jvm.MethodName)) ∈ TT := mT (mL2 (List.mem_of_getElem? (i := 167) rfl)) rfl
theorem mw_2_168 : (Jvm.Cond.code ({ cls := "LinkPredictor$Build", name := "checkMember", desc := "(LLinkPredictor$Reference;I)I" } : Jvm.MethodName) prog_2_method_15_code (3 : Nat) (Option.some Jvm.ClassFile.FieldType.int)) ∈ TT := mT (mL2 (List.mem_of_getElem? (i := 168) rfl)) rfl
theorem mw_2_169 : (Jvm.Cond.methodLink "LinkPredictor$Build" (165 : Nat) ({ cls := "LinkPredictor$Build", name := "isAccessible", desc := "(III)Z" } : Jvm.MethodName)) ∈ TT := mT (mL2 (List.mem_of_getElem? (i := 169) rfl)) rfl
theorem nw_2_170 : (Jvm.Cond.privateMethod ({ cls := "LinkPredictor$Build", name := "isAccessible", desc := "(III)Z" } : Jvm.MethodName)) ∈ lw_tbl := mL2 (List.mem_of_getElem? (i := 170) rfl)
theorem mw_2_171 : (Jvm.Cond.instanceMethod ({ cls := "LinkPredictor$Build", name := "isAccessible", desc := "(III)Z" } : Jvm.MethodName)) ∈ TT := mT (mL2 (List.mem_of_getElem? (i := 171) rfl)) rfl
theorem mw_2_172 : (Jvm.Cond.code ({ cls := "LinkPredictor$Build", name := "isAccessible", desc := "(III)Z" } : Jvm.MethodName) prog_2_method_16_code (5 : Nat) (Option.some Jvm.ClassFile.FieldType.boolean)) ∈ TT := mT (mL2 (List.mem_of_getElem? (i := 172) rfl)) rfl
theorem mw_2_173 : (Jvm.Cond.methodLink "LinkPredictor$Build" (178 : Nat) ({ cls := "LinkPredictor$Members", name := "ownerOf", desc := "(I)I" } : Jvm.MethodName)) ∈ TT := mT (mL2 (List.mem_of_getElem? (i := 173) rfl)) rfl
theorem mw_2_174 : (Jvm.Cond.instanceMethod ({ cls := "LinkPredictor$Members", name := "ownerOf", desc := "(I)I" } : Jvm.MethodName)) ∈ TT := mT (mL2 (List.mem_of_getElem? (i := 174) rfl)) rfl
theorem mw_2_175 : (Jvm.Cond.selects "LinkPredictor$Members" ({ cls := "LinkPredictor$Members", name := "ownerOf", desc := "(I)I" } : Jvm.MethodName) ({ cls := "LinkPredictor$Members", name := "ownerOf", desc := "(I)I" } : Jvm.MethodName)) ∈ TT := mT (mL2 (List.mem_of_getElem? (i := 175) rfl)) rfl
theorem mw_2_176 : (Jvm.Cond.code ({ cls := "LinkPredictor$Members", name := "ownerOf", desc := "(I)I" } : Jvm.MethodName) prog_4_method_14_code (2 : Nat) (Option.some Jvm.ClassFile.FieldType.int)) ∈ TT := mT (mL2 (List.mem_of_getElem? (i := 176) rfl)) rfl
theorem mw_2_177 : (Jvm.Cond.methodLink "LinkPredictor$Build" (184 : Nat) ({ cls := "LinkPredictor$Hierarchy", name := "isSamePackage", desc := "(II)Z" } : Jvm.MethodName)) ∈ TT := mT (mL2 (List.mem_of_getElem? (i := 177) rfl)) rfl
theorem mw_2_178 : (Jvm.Cond.methodLink "LinkPredictor$Build" (187 : Nat) ({ cls := "LinkPredictor$Build", name := "isInherited", desc := "(III)Z" } : Jvm.MethodName)) ∈ TT := mT (mL2 (List.mem_of_getElem? (i := 178) rfl)) rfl
theorem nw_2_179 : (Jvm.Cond.privateMethod ({ cls := "LinkPredictor$Build", name := "isInherited", desc := "(III)Z" } : Jvm.MethodName)) ∈ lw_tbl := mL2 (List.mem_of_getElem? (i := 179) rfl)
theorem mw_2_180 : (Jvm.Cond.instanceMethod ({ cls := "LinkPredictor$Build", name := "isInherited", desc := "(III)Z" } : Jvm.MethodName)) ∈ TT := mT (mL2 (List.mem_of_getElem? (i := 180) rfl)) rfl
theorem mw_2_181 : (Jvm.Cond.code ({ cls := "LinkPredictor$Build", name := "isInherited", desc := "(III)Z" } : Jvm.MethodName) prog_2_method_17_code (4 : Nat) (Option.some Jvm.ClassFile.FieldType.boolean)) ∈ TT := mT (mL2 (List.mem_of_getElem? (i := 181) rfl)) rfl
theorem mw_2_182 : (Jvm.Cond.methodLink "LinkPredictor$Build" (193 : Nat) ({ cls := "LinkPredictor$Hierarchy", name := "hasAbove", desc := "(II)Z" } : Jvm.MethodName)) ∈ TT := mT (mL2 (List.mem_of_getElem? (i := 182) rfl)) rfl
theorem mw_2_183 : (Jvm.Cond.instanceMethod ({ cls := "LinkPredictor$Hierarchy", name := "hasAbove", desc := "(II)Z" } : Jvm.MethodName)) ∈ TT := mT (mL2 (List.mem_of_getElem? (i := 183) rfl)) rfl
theorem mw_2_184 : (Jvm.Cond.selects "LinkPredictor$Hierarchy" ({ cls := "LinkPredictor$Hierarchy", name := "hasAbove", desc := "(II)Z" } : Jvm.MethodName) ({ cls := "LinkPredictor$Hierarchy", name := "hasAbove", desc := "(II)Z" } : Jvm.MethodName)) ∈ TT := mT (mL2 (List.mem_of_getElem? (i := 184) rfl)) rfl
theorem mw_2_185 : (Jvm.Cond.code ({ cls := "LinkPredictor$Hierarchy", name := "hasAbove", desc := "(II)Z" } : Jvm.MethodName) prog_3_method_15_code (3 : Nat) (Option.some Jvm.ClassFile.FieldType.boolean)) ∈ TT := mT (mL2 (List.mem_of_getElem? (i := 185) rfl)) rfl
theorem mw_2_186 : (Jvm.Cond.methodLink "LinkPredictor$Build" (181 : Nat) ({ cls := "LinkPredictor$Hierarchy", name := "liesUnder", desc := "(II)Z" } : Jvm.MethodName)) ∈ TT := mT (mL2 (List.mem_of_getElem? (i := 186) rfl)) rfl
theorem mw_2_187 : (Jvm.Cond.instanceMethod ({ cls := "LinkPredictor$Hierarchy", name := "liesUnder", desc := "(II)Z" } : Jvm.MethodName)) ∈ TT := mT (mL2 (List.mem_of_getElem? (i := 187) rfl)) rfl
theorem mw_2_188 : (Jvm.Cond.selects "LinkPredictor$Hierarchy" ({ cls := "LinkPredictor$Hierarchy", name := "liesUnder", desc := "(II)Z" } : Jvm.MethodName) ({ cls := "LinkPredictor$Hierarchy", name := "liesUnder", desc := "(II)Z" } : Jvm.MethodName)) ∈ TT := mT (mL2 (List.mem_of_getElem? (i := 188) rfl)) rfl
theorem mw_2_189 : (Jvm.Cond.code ({ cls := "LinkPredictor$Hierarchy", name := "liesUnder", desc := "(II)Z" } : Jvm.MethodName) prog_3_method_16_code (3 : Nat) (Option.some Jvm.ClassFile.FieldType.boolean)) ∈ TT := mT (mL2 (List.mem_of_getElem? (i := 189) rfl)) rfl
theorem mw_2_190 : (Jvm.Cond.methodLink "LinkPredictor$Build" (190 : Nat) ({ cls := "LinkPredictor$Hierarchy", name := "nestOf", desc := "(I)I" } : Jvm.MethodName)) ∈ TT := mT (mL2 (List.mem_of_getElem? (i := 190) rfl)) rfl
theorem mw_2_191 : (Jvm.Cond.instanceMethod ({ cls := "LinkPredictor$Hierarchy", name := "nestOf", desc := "(I)I" } : Jvm.MethodName)) ∈ TT := mT (mL2 (List.mem_of_getElem? (i := 191) rfl)) rfl
theorem mw_2_192 : (Jvm.Cond.selects "LinkPredictor$Hierarchy" ({ cls := "LinkPredictor$Hierarchy", name := "nestOf", desc := "(I)I" } : Jvm.MethodName) ({ cls := "LinkPredictor$Hierarchy", name := "nestOf", desc := "(I)I" } : Jvm.MethodName)) ∈ TT := mT (mL2 (List.mem_of_getElem? (i := 192) rfl)) rfl
theorem mw_2_193 : (Jvm.Cond.code ({ cls := "LinkPredictor$Hierarchy", name := "nestOf", desc := "(I)I" } : Jvm.MethodName) prog_3_method_18_code (3 : Nat) (Option.some Jvm.ClassFile.FieldType.int)) ∈ TT := mT (mL2 (List.mem_of_getElem? (i := 193) rfl)) rfl
theorem mw_2_194 : (Jvm.Cond.methodLink "LinkPredictor$Build" (169 : Nat) ({ cls := "LinkPredictor$Reference", name := "needsStatic", desc := "()Z" } : Jvm.MethodName)) ∈ TT := mT (mL2 (List.mem_of_getElem? (i := 194) rfl)) rfl
theorem mw_2_195 : (Jvm.Cond.instanceMethod ({ cls := "LinkPredictor$Reference", name := "needsStatic", desc := "()Z" } : Jvm.MethodName)) ∈ TT := mT (mL2 (List.mem_of_getElem? (i := 195) rfl)) rfl
theorem mw_2_196 : (Jvm.Cond.selects "LinkPredictor$Reference" ({ cls := "LinkPredictor$Reference", name := "needsStatic", desc := "()Z" } : Jvm.MethodName) ({ cls := "LinkPredictor$Reference", name := "needsStatic", desc := "()Z" } : Jvm.MethodName)) ∈ TT := mT (mL2 (List.mem_of_getElem? (i := 196) rfl)) rfl
theorem mw_2_197 : (Jvm.Cond.code ({ cls := "LinkPredictor$Reference", name := "needsStatic", desc := "()Z" } : Jvm.MethodName) prog_5_method_5_code (1 : Nat) (Option.some Jvm.ClassFile.FieldType.boolean)) ∈ TT := mT (mL2 (List.mem_of_getElem? (i := 197) rfl)) rfl
theorem mw_2_198 : (Jvm.Cond.methodLink "LinkPredictor$Build" (172 : Nat) ({ cls := "LinkPredictor$Reference", name := "isPut", desc := "()Z" } : Jvm.MethodName)) ∈ TT := mT (mL2 (List.mem_of_getElem? (i := 198) rfl)) rfl
theorem mw_2_199 : (Jvm.Cond.instanceMethod ({ cls := "LinkPredictor$Reference", name := "isPut", desc := "()Z" } : Jvm.MethodName)) ∈ TT := mT (mL2 (List.mem_of_getElem? (i := 199) rfl)) rfl
theorem mw_2_200 : (Jvm.Cond.selects "LinkPredictor$Reference" ({ cls := "LinkPredictor$Reference", name := "isPut", desc := "()Z" } : Jvm.MethodName) ({ cls := "LinkPredictor$Reference", name := "isPut", desc := "()Z" } : Jvm.MethodName)) ∈ TT := mT (mL2 (List.mem_of_getElem? (i := 200) rfl)) rfl
theorem mw_2_201 : (Jvm.Cond.code ({ cls := "LinkPredictor$Reference", name := "isPut", desc := "()Z" } : Jvm.MethodName) prog_5_method_4_code (1 : Nat) (Option.some Jvm.ClassFile.FieldType.boolean)) ∈ TT := mT (mL2 (List.mem_of_getElem? (i := 201) rfl)) rfl
theorem mw_2_202 : (Jvm.Cond.methodLink "LinkPredictor$Build" (175 : Nat) ({ cls := "LinkPredictor$Members", name := "isFinal", desc := "(I)Z" } : Jvm.MethodName)) ∈ TT := mT (mL2 (List.mem_of_getElem? (i := 202) rfl)) rfl
theorem mw_2_203 : (Jvm.Cond.instanceMethod ({ cls := "LinkPredictor$Members", name := "isFinal", desc := "(I)Z" } : Jvm.MethodName)) ∈ TT := mT (mL2 (List.mem_of_getElem? (i := 203) rfl)) rfl
theorem mw_2_204 : (Jvm.Cond.selects "LinkPredictor$Members" ({ cls := "LinkPredictor$Members", name := "isFinal", desc := "(I)Z" } : Jvm.MethodName) ({ cls := "LinkPredictor$Members", name := "isFinal", desc := "(I)Z" } : Jvm.MethodName)) ∈ TT := mT (mL2 (List.mem_of_getElem? (i := 204) rfl)) rfl
theorem mw_2_205 : (Jvm.Cond.code ({ cls := "LinkPredictor$Members", name := "isFinal", desc := "(I)Z" } : Jvm.MethodName) prog_4_method_13_code (2 : Nat) (Option.some Jvm.ClassFile.FieldType.boolean)) ∈ TT := mT (mL2 (List.mem_of_getElem? (i := 205) rfl)) rfl
theorem mw_2_206 : (Jvm.Cond.methodLink "LinkPredictorLaw" (69 : Nat) ({ cls := "LinkPredictor", name := "select", desc := "(III)I" } : Jvm.MethodName)) ∈ TT := mT (mL2 (List.mem_of_getElem? (i := 206) rfl)) rfl
theorem mw_2_207 : (Jvm.Cond.instanceMethod ({ cls := "LinkPredictor", name := "select", desc := "(III)I" } : Jvm.MethodName)) ∈ TT := mT (mL2 (List.mem_of_getElem? (i := 207) rfl)) rfl
theorem mw_2_208 : (Jvm.Cond.selects "LinkPredictor" ({ cls := "LinkPredictor", name := "select", desc := "(III)I" } : Jvm.MethodName) ({ cls := "LinkPredictor", name := "select", desc := "(III)I" } : Jvm.MethodName)) ∈ TT := mT (mL2 (List.mem_of_getElem? (i := 208) rfl)) rfl
theorem mw_2_209 : (Jvm.Cond.code ({ cls := "LinkPredictor", name := "select", desc := "(III)I" } : Jvm.MethodName) prog_1_method_14_code (5 : Nat) (Option.some Jvm.ClassFile.FieldType.int)) ∈ TT := mT (mL2 (List.mem_of_getElem? (i := 209) rfl)) rfl
theorem mw_2_210 : (Jvm.Cond.methodLink "LinkPredictor" (91 : Nat) ({ cls := "LinkPredictor$Build", name := "selection", desc := "(LLinkPredictor$Reference;II)I" } : Jvm.MethodName)) ∈ TT := mT (mL2 (List.mem_of_getElem? (i := 210) rfl)) rfl
theorem mw_2_211 : (Jvm.Cond.instanceMethod ({ cls := "LinkPredictor$Build", name := "selection", desc := "(LLinkPredictor$Reference;II)I" } : Jvm.MethodName)) ∈ TT := mT (mL2 (List.mem_of_getElem? (i := 211) rfl)) rfl
theorem mw_2_212 : (Jvm.Cond.selects "LinkPredictor$Build" ({ cls := "LinkPredictor$Build", name := "selection", desc := "(LLinkPredictor$Reference;II)I" } : Jvm.MethodName) ({ cls := "LinkPredictor$Build", name := "selection", desc := "(LLinkPredictor$Reference;II)I" } : Jvm.MethodName)) ∈ TT := mT (mL2 (List.mem_of_getElem? (i := 212) rfl)) rfl
theorem mw_2_213 : (Jvm.Cond.code ({ cls := "LinkPredictor$Build", name := "selection", desc := "(LLinkPredictor$Reference;II)I" } : Jvm.MethodName) prog_2_method_6_code (6 : Nat) (Option.some Jvm.ClassFile.FieldType.int)) ∈ TT := mT (mL2 (List.mem_of_getElem? (i := 213) rfl)) rfl
theorem mw_2_214 : (Jvm.Cond.methodLink "LinkPredictor$Build" (89 : Nat) ({ cls := "LinkPredictor$Reference", name := "hasReceiver", desc := "()Z" } : Jvm.MethodName)) ∈ TT := mT (mL2 (List.mem_of_getElem? (i := 214) rfl)) rfl
theorem mw_2_215 : (Jvm.Cond.instanceMethod ({ cls := "LinkPredictor$Reference", name := "hasReceiver", desc := "()Z" } : Jvm.MethodName)) ∈ TT := mT (mL2 (List.mem_of_getElem? (i := 215) rfl)) rfl
theorem mw_2_216 : (Jvm.Cond.selects "LinkPredictor$Reference" ({ cls := "LinkPredictor$Reference", name := "hasReceiver", desc := "()Z" } : Jvm.MethodName) ({ cls := "LinkPredictor$Reference", name := "hasReceiver", desc := "()Z" } : Jvm.MethodName)) ∈ TT := mT (mL2 (List.mem_of_getElem? (i := 216) rfl)) rfl
theorem mw_2_217 : (Jvm.Cond.code ({ cls := "LinkPredictor$Reference", name := "hasReceiver", desc := "()Z" } : Jvm.MethodName) prog_5_method_6_code (1 : Nat) (Option.some Jvm.ClassFile.FieldType.boolean)) ∈ TT := mT (mL2 (List.mem_of_getElem? (i := 217) rfl)) rfl
theorem mw_2_218 : (Jvm.Cond.methodLink "LinkPredictor$Build" (92 : Nat) ({ cls := "LinkPredictor$Build", name := "isFit", desc := "(II)Z" } : Jvm.MethodName)) ∈ TT := mT (mL2 (List.mem_of_getElem? (i := 218) rfl)) rfl
theorem nw_2_219 : (Jvm.Cond.privateMethod ({ cls := "LinkPredictor$Build", name := "isFit", desc := "(II)Z" } : Jvm.MethodName)) ∈ lw_tbl := mL2 (List.mem_of_getElem? (i := 219) rfl)
theorem mw_2_220 : (Jvm.Cond.instanceMethod ({ cls := "LinkPredictor$Build", name := "isFit", desc := "(II)Z" } : Jvm.MethodName)) ∈ TT := mT (mL2 (List.mem_of_getElem? (i := 220) rfl)) rfl
theorem mw_2_221 : (Jvm.Cond.code ({ cls := "LinkPredictor$Build", name := "isFit", desc := "(II)Z" } : Jvm.MethodName) prog_2_method_18_code (3 : Nat) (Option.some Jvm.ClassFile.FieldType.boolean)) ∈ TT := mT (mL2 (List.mem_of_getElem? (i := 221) rfl)) rfl
theorem mw_2_222 : (Jvm.Cond.methodLink "LinkPredictor$Build" (196 : Nat) ({ cls := "LinkPredictor$Hierarchy", name := "canBeMade", desc := "(I)Z" } : Jvm.MethodName)) ∈ TT := mT (mL2 (List.mem_of_getElem? (i := 222) rfl)) rfl
theorem mw_2_223 : (Jvm.Cond.instanceMethod ({ cls := "LinkPredictor$Hierarchy", name := "canBeMade", desc := "(I)Z" } : Jvm.MethodName)) ∈ TT := mT (mL2 (List.mem_of_getElem? (i := 223) rfl)) rfl
theorem mw_2_224 : (Jvm.Cond.selects "LinkPredictor$Hierarchy" ({ cls := "LinkPredictor$Hierarchy", name := "canBeMade", desc := "(I)Z" } : Jvm.MethodName) ({ cls := "LinkPredictor$Hierarchy", name := "canBeMade", desc := "(I)Z" } : Jvm.MethodName)) ∈ TT := mT (mL2 (List.mem_of_getElem? (i := 224) rfl)) rfl
theorem mw_2_225 : (Jvm.Cond.code ({ cls := "LinkPredictor$Hierarchy", name := "canBeMade", desc := "(I)Z" } : Jvm.MethodName) prog_3_method_8_code (2 : Nat) (Option.some Jvm.ClassFile.FieldType.boolean)) ∈ TT := mT (mL2 (List.mem_of_getElem? (i := 225) rfl)) rfl
theorem mw_2_226 : (Jvm.Cond.methodLink "LinkPredictor$Build" (102 : Nat) ({ cls := "LinkPredictor$Build", name := "selectFor", desc := "(III)I" } : Jvm.MethodName)) ∈ TT := mT (mL2 (List.mem_of_getElem? (i := 226) rfl)) rfl
theorem nw_2_227 : (Jvm.Cond.privateMethod ({ cls := "LinkPredictor$Build", name := "selectFor", desc := "(III)I" } : Jvm.MethodName)) ∈ lw_tbl := mL2 (List.mem_of_getElem? (i := 227) rfl)
theorem mw_2_228 : (Jvm.Cond.instanceMethod ({ cls := "LinkPredictor$Build", name := "selectFor", desc := "(III)I" } : Jvm.MethodName)) ∈ TT := mT (mL2 (List.mem_of_getElem? (i := 228) rfl)) rfl
theorem mw_2_229 : (Jvm.Cond.code ({ cls := "LinkPredictor$Build", name := "selectFor", desc := "(III)I" } : Jvm.MethodName) prog_2_method_19_code (7 : Nat) (Option.some Jvm.ClassFile.FieldType.int)) ∈ TT := mT (mL2 (List.mem_of_getElem? (i := 229) rfl)) rfl
theorem mw_2_230 : (Jvm.Cond.methodLink "LinkPredictor$Build" (199 : Nat) ({ cls := "LinkPredictor$Build", name := "overrides", desc := "(II)Z" } : Jvm.MethodName)) ∈ TT := mT (mL2 (List.mem_of_getElem? (i := 230) rfl)) rfl
theorem nw_2_231 : (Jvm.Cond.privateMethod ({ cls := "LinkPredictor$Build", name := "overrides", desc := "(II)Z" } : Jvm.MethodName)) ∈ lw_tbl := mL2 (List.mem_of_getElem? (i := 231) rfl)
theorem mw_2_232 : (Jvm.Cond.instanceMethod ({ cls := "LinkPredictor$Build", name := "overrides", desc := "(II)Z" } : Jvm.MethodName)) ∈ TT := mT (mL2 (List.mem_of_getElem? (i := 232) rfl)) rfl
theorem mw_2_233 : (Jvm.Cond.code ({ cls := "LinkPredictor$Build", name := "overrides", desc := "(II)Z" } : Jvm.MethodName) prog_2_method_21_code (3 : Nat) (Option.some Jvm.ClassFile.FieldType.boolean)) ∈ TT := mT (mL2 (List.mem_of_getElem? (i := 233) rfl)) rfl
theorem mw_2_234 : (Jvm.Cond.methodLink "LinkPredictor$Build" (205 : Nat) ({ cls := "LinkPredictor$Members", name := "isInheritable", desc := "(I)Z" } : Jvm.MethodName)) ∈ TT := mT (mL2 (List.mem_of_getElem? (i := 234) rfl)) rfl
theorem mw_2_235 : (Jvm.Cond.methodLink "LinkPredictor$Build" (202 : Nat) ({ cls := "LinkPredictor$Build", name := "selectFromFaces", desc := "(II)I" } : Jvm.MethodName)) ∈ TT := mT (mL2 (List.mem_of_getElem? (i := 235) rfl)) rfl
theorem nw_2_236 : (Jvm.Cond.privateMethod ({ cls := "LinkPredictor$Build", name := "selectFromFaces", desc := "(II)I" } : Jvm.MethodName)) ∈ lw_tbl := mL2 (List.mem_of_getElem? (i := 236) rfl)
theorem mw_2_237 : (Jvm.Cond.instanceMethod ({ cls := "LinkPredictor$Build", name := "selectFromFaces", desc := "(II)I" } : Jvm.MethodName)) ∈ TT := mT (mL2 (List.mem_of_getElem? (i := 237) rfl)) rfl
theorem mw_2_238 : (Jvm.Cond.code ({ cls := "LinkPredictor$Build", name := "selectFromFaces", desc := "(II)I" } : Jvm.MethodName) prog_2_method_20_code (5 : Nat) (Option.some Jvm.ClassFile.FieldType.int)) ∈ TT := mT (mL2 (List.mem_of_getElem? (i := 238) rfl)) rfl
theorem mw_2_239 : (Jvm.Cond.methodLink "LinkPredictor$Build" (106 : Nat) ({ cls := "LinkPredictor$Build", name := "checkSelected", desc := "(LLinkPredictor$Reference;I)I" } : Jvm.MethodName)) ∈ TT := mT (mL2 (List.mem_of_getElem? (i := 239) rfl)) rfl
theorem nw_3_0 : (Jvm.Cond.privateMethod ({ cls := "LinkPredictor$Build", name := "checkSelected", desc := "(LLinkPredictor$Reference;I)I" } : Jvm.MethodName)) ∈ lw_tbl := mL3 (List.mem_of_getElem? (i := 0) rfl)
theorem mw_3_1 : (Jvm.Cond.instanceMethod ({ cls := "LinkPredictor$Build", name := "checkSelected", desc := "(LLinkPredictor$Reference;I)I" } : Jvm.MethodName)) ∈ TT := mT (mL3 (List.mem_of_getElem? (i := 1) rfl)) rfl
theorem mw_3_2 : (Jvm.Cond.code ({ cls := "LinkPredictor$Build", name := "checkSelected", desc := "(LLinkPredictor$Reference;I)I" } : Jvm.MethodName) prog_2_method_22_code (4 : Nat) (Option.some Jvm.ClassFile.FieldType.int)) ∈ TT := mT (mL3 (List.mem_of_getElem? (i := 2) rfl)) rfl
theorem mw_3_3 : (Jvm.Cond.methodLink "LinkPredictorLaw" (74 : Nat) ({ cls := "LinkPredictor", name := "compare", desc := "(I)I" } : Jvm.MethodName)) ∈ TT := mT (mL3 (List.mem_of_getElem? (i := 3) rfl)) rfl
theorem mw_3_4 : (Jvm.Cond.instanceMethod ({ cls := "LinkPredictor", name := "compare", desc := "(I)I" } : Jvm.MethodName)) ∈ TT := mT (mL3 (List.mem_of_getElem? (i := 4) rfl)) rfl
theorem mw_3_5 : (Jvm.Cond.selects "LinkPredictor" ({ cls := "LinkPredictor", name := "compare", desc := "(I)I" } : Jvm.MethodName) ({ cls := "LinkPredictor", name := "compare", desc := "(I)I" } : Jvm.MethodName)) ∈ TT := mT (mL3 (List.mem_of_getElem? (i := 5) rfl)) rfl
theorem mw_3_6 : (Jvm.Cond.code ({ cls := "LinkPredictor", name := "compare", desc := "(I)I" } : Jvm.MethodName) prog_1_method_15_code (4 : Nat) (Option.some Jvm.ClassFile.FieldType.int)) ∈ TT := mT (mL3 (List.mem_of_getElem? (i := 6) rfl)) rfl
theorem mw_3_7 : (Jvm.Cond.methodLink "LinkPredictor" (95 : Nat) ({ cls := "LinkPredictor", name := "areAlike", desc := "(II)Z" } : Jvm.MethodName)) ∈ TT := mT (mL3 (List.mem_of_getElem? (i := 7) rfl)) rfl
theorem nw_3_8 : (Jvm.Cond.privateMethod ({ cls := "LinkPredictor", name := "areAlike", desc := "(II)Z" } : Jvm.MethodName)) ∈ lw_tbl := mL3 (List.mem_of_getElem? (i := 8) rfl)
theorem mw_3_9 : (Jvm.Cond.instanceMethod ({ cls := "LinkPredictor", name := "areAlike", desc := "(II)Z" } : Jvm.MethodName)) ∈ TT := mT (mL3 (List.mem_of_getElem? (i := 9) rfl)) rfl
theorem mw_3_10 : (Jvm.Cond.code ({ cls := "LinkPredictor", name := "areAlike", desc := "(II)Z" } : Jvm.MethodName) prog_1_method_21_code (5 : Nat) (Option.some Jvm.ClassFile.FieldType.boolean)) ∈ TT := mT (mL3 (List.mem_of_getElem? (i := 10) rfl)) rfl
theorem mw_3_11 : (Jvm.Cond.methodLink "LinkPredictor" (126 : Nat) ({ cls := "LinkPredictor$Members", name := "isSameThing", desc := "(ILLinkPredictor$Members;I)Z" } : Jvm.MethodName)) ∈ TT := mT (mL3 (List.mem_of_getElem? (i := 11) rfl)) rfl
theorem mw_3_12 : (Jvm.Cond.instanceMethod ({ cls := "LinkPredictor$Members", name := "isSameThing", desc := "(ILLinkPredictor$Members;I)Z" } : Jvm.MethodName)) ∈ TT := mT (mL3 (List.mem_of_getElem? (i := 12) rfl)) rfl
theorem mw_3_13 : (Jvm.Cond.selects "LinkPredictor$Members" ({ cls := "LinkPredictor$Members", name := "isSameThing", desc := "(ILLinkPredictor$Members;I)Z" } : Jvm.MethodName) ({ cls := "LinkPredictor$Members", name := "isSameThing", desc := "(ILLinkPredictor$Members;I)Z" } : Jvm.MethodName)) ∈ TT := mT (mL3 (List.mem_of_getElem? (i := 13) rfl)) rfl
theorem mw_3_14 : (Jvm.Cond.code ({ cls := "LinkPredictor$Members", name := "isSameThing", desc := "(ILLinkPredictor$Members;I)Z" } : Jvm.MethodName) prog_4_method_10_code (4 : Nat) (Option.some Jvm.ClassFile.FieldType.boolean)) ∈ TT := mT (mL3 (List.mem_of_getElem? (i := 14) rfl)) rfl
theorem mw_3_15 : (Jvm.Cond.methodLink "LinkPredictor" (98 : Nat) ({ cls := "LinkPredictor", name := "isGood", desc := "(I)Z" } : Jvm.MethodName)) ∈ TT := mT (mL3 (List.mem_of_getElem? (i := 15) rfl)) rfl
theorem mw_3_16 : (Jvm.Cond.methodLink "LinkPredictorLaw" (79 : Nat) ({ cls := "LinkPredictor", name := "receivers", desc := "(II)I" } : Jvm.MethodName)) ∈ TT := mT (mL3 (List.mem_of_getElem? (i := 16) rfl)) rfl
theorem mw_3_17 : (Jvm.Cond.instanceMethod ({ cls := "LinkPredictor", name := "receivers", desc := "(II)I" } : Jvm.MethodName)) ∈ TT := mT (mL3 (List.mem_of_getElem? (i := 17) rfl)) rfl
theorem mw_3_18 : (Jvm.Cond.selects "LinkPredictor" ({ cls := "LinkPredictor", name := "receivers", desc := "(II)I" } : Jvm.MethodName) ({ cls := "LinkPredictor", name := "receivers", desc := "(II)I" } : Jvm.MethodName)) ∈ TT := mT (mL3 (List.mem_of_getElem? (i := 18) rfl)) rfl
theorem mw_3_19 : (Jvm.Cond.code ({ cls := "LinkPredictor", name := "receivers", desc := "(II)I" } : Jvm.MethodName) prog_1_method_16_code (10 : Nat) (Option.some Jvm.ClassFile.FieldType.int)) ∈ TT := mT (mL3 (List.mem_of_getElem? (i := 19) rfl)) rfl
theorem mw_3_20 : (Jvm.Cond.methodLink "LinkPredictor" (101 : Nat) ({ cls := "LinkPredictor", name := "isSuchReceiver", desc := "(III)Z" } : Jvm.MethodName)) ∈ TT := mT (mL3 (List.mem_of_getElem? (i := 20) rfl)) rfl
theorem nw_3_21 : (Jvm.Cond.privateMethod ({ cls := "LinkPredictor", name := "isSuchReceiver", desc := "(III)Z" } : Jvm.MethodName)) ∈ lw_tbl := mL3 (List.mem_of_getElem? (i := 21) rfl)
theorem mw_3_22 : (Jvm.Cond.instanceMethod ({ cls := "LinkPredictor", name := "isSuchReceiver", desc := "(III)Z" } : Jvm.MethodName)) ∈ TT := mT (mL3 (List.mem_of_getElem? (i := 22) rfl)) rfl
theorem mw_3_23 : (Jvm.Cond.code ({ cls := "LinkPredictor", name := "isSuchReceiver", desc := "(III)Z" } : Jvm.MethodName) prog_1_method_20_code (4 : Nat) (Option.some Jvm.ClassFile.FieldType.boolean)) ∈ TT := mT (mL3 (List.mem_of_getElem? (i := 23) rfl)) rfl
theorem mw_3_24 : (Jvm.Cond.methodLink "LinkPredictorLaw" (83 : Nat) ({ cls := "LinkPredictor", name := "isUnder", desc := "(III)Z" } : Jvm.MethodName)) ∈ TT := mT (mL3 (List.mem_of_getElem? (i := 24) rfl)) rfl
theorem mw_3_25 : (Jvm.Cond.instanceMethod ({ cls := "LinkPredictor", name := "isUnder", desc := "(III)Z" } : Jvm.MethodName)) ∈ TT := mT (mL3 (List.mem_of_getElem? (i := 25) rfl)) rfl
theorem mw_3_26 : (Jvm.Cond.selects "LinkPredictor" ({ cls := "LinkPredictor", name := "isUnder", desc := "(III)Z" } : Jvm.MethodName) ({ cls := "LinkPredictor", name := "isUnder", desc := "(III)Z" } : Jvm.MethodName)) ∈ TT := mT (mL3 (List.mem_of_getElem? (i := 26) rfl)) rfl
theorem mw_3_27 : (Jvm.Cond.code ({ cls := "LinkPredictor", name := "isUnder", desc := "(III)Z" } : Jvm.MethodName) prog_1_method_17_code (5 : Nat) (Option.some Jvm.ClassFile.FieldType.boolean)) ∈ TT := mT (mL3 (List.mem_of_getElem? (i := 27) rfl)) rfl
theorem mw_3_28 : (Jvm.Cond.methodLink "LinkPredictor" (104 : Nat) ({ cls := "LinkPredictor$Hierarchy", name := "liesUnder", desc := "(II)Z" } : Jvm.MethodName)) ∈ TT := mT (mL3 (List.mem_of_getElem? (i := 28) rfl)) rfl
theorem mw_3_29 : (Jvm.Cond.methodLink "LinkPredictorLaw" (87 : Nat) ({ cls := "LinkPredictor", name := "count", desc := "(II)I" } : Jvm.MethodName)) ∈ TT := mT (mL3 (List.mem_of_getElem? (i := 29) rfl)) rfl
theorem mw_3_30 : (Jvm.Cond.instanceMethod ({ cls := "LinkPredictor", name := "count", desc := "(II)I" } : Jvm.MethodName)) ∈ TT := mT (mL3 (List.mem_of_getElem? (i := 30) rfl)) rfl
theorem mw_3_31 : (Jvm.Cond.selects "LinkPredictor" ({ cls := "LinkPredictor", name := "count", desc := "(II)I" } : Jvm.MethodName) ({ cls := "LinkPredictor", name := "count", desc := "(II)I" } : Jvm.MethodName)) ∈ TT := mT (mL3 (List.mem_of_getElem? (i := 31) rfl)) rfl
theorem mw_3_32 : (Jvm.Cond.code ({ cls := "LinkPredictor", name := "count", desc := "(II)I" } : Jvm.MethodName) prog_1_method_18_code (4 : Nat) (Option.some Jvm.ClassFile.FieldType.int)) ∈ TT := mT (mL3 (List.mem_of_getElem? (i := 32) rfl)) rfl
theorem mw_3_33 : (Jvm.Cond.methodLink "LinkPredictor" (107 : Nat) ({ cls := "LinkPredictor$Members", name := "countPresent", desc := "()I" } : Jvm.MethodName)) ∈ TT := mT (mL3 (List.mem_of_getElem? (i := 33) rfl)) rfl
theorem mw_3_34 : (Jvm.Cond.instanceMethod ({ cls := "LinkPredictor$Members", name := "countPresent", desc := "()I" } : Jvm.MethodName)) ∈ TT := mT (mL3 (List.mem_of_getElem? (i := 34) rfl)) rfl
theorem mw_3_35 : (Jvm.Cond.selects "LinkPredictor$Members" ({ cls := "LinkPredictor$Members", name := "countPresent", desc := "()I" } : Jvm.MethodName) ({ cls := "LinkPredictor$Members", name := "countPresent", desc := "()I" } : Jvm.MethodName)) ∈ TT := mT (mL3 (List.mem_of_getElem? (i := 35) rfl)) rfl
theorem mw_3_36 : (Jvm.Cond.code ({ cls := "LinkPredictor$Members", name := "countPresent", desc := "()I" } : Jvm.MethodName) prog_4_method_17_code (1 : Nat) (Option.some Jvm.ClassFile.FieldType.int)) ∈ TT := mT (mL3 (List.mem_of_getElem? (i := 36) rfl)) rfl
theorem mw_3_37 : (Jvm.Cond.methodLink "LinkPredictor$Members" (56 : Nat) ({ cls := "java/lang/Integer", name := "bitCount", desc := "(I)I" } : Jvm.MethodName)) ∈ TT := mT (mL3 (List.mem_of_getElem? (i := 37) rfl)) rfl
theorem mw_3_38 : (Jvm.Cond.methodLink "LinkPredictor" (110 : Nat) ({ cls := "LinkPredictor$Members", name := "countAll", desc := "()I" } : Jvm.MethodName)) ∈ TT := mT (mL3 (List.mem_of_getElem? (i := 38) rfl)) rfl
theorem mw_3_39 : (Jvm.Cond.instanceMethod ({ cls := "LinkPredictor$Members", name := "countAll", desc := "()I" } : Jvm.MethodName)) ∈ TT := mT (mL3 (List.mem_of_getElem? (i := 39) rfl)) rfl
theorem mw_3_40 : (Jvm.Cond.selects "LinkPredictor$Members" ({ cls := "LinkPredictor$Members", name := "countAll", desc := "()I" } : Jvm.MethodName) ({ cls := "LinkPredictor$Members", name := "countAll", desc := "()I" } : Jvm.MethodName)) ∈ TT := mT (mL3 (List.mem_of_getElem? (i := 40) rfl)) rfl
theorem mw_3_41 : (Jvm.Cond.code ({ cls := "LinkPredictor$Members", name := "countAll", desc := "()I" } : Jvm.MethodName) prog_4_method_16_code (1 : Nat) (Option.some Jvm.ClassFile.FieldType.int)) ∈ TT := mT (mL3 (List.mem_of_getElem? (i := 41) rfl)) rfl
theorem mw_3_42 : (Jvm.Cond.methodLink "LinkPredictor" (113 : Nat) ({ cls := "LinkPredictor", name := "countGoodReferences", desc := "(LLinkPredictor$Build;)I" } : Jvm.MethodName)) ∈ TT := mT (mL3 (List.mem_of_getElem? (i := 42) rfl)) rfl
theorem nw_3_43 : (Jvm.Cond.privateMethod ({ cls := "LinkPredictor", name := "countGoodReferences", desc := "(LLinkPredictor$Build;)I" } : Jvm.MethodName)) ∈ lw_tbl := mL3 (List.mem_of_getElem? (i := 43) rfl)
theorem mw_3_44 : (Jvm.Cond.instanceMethod ({ cls := "LinkPredictor", name := "countGoodReferences", desc := "(LLinkPredictor$Build;)I" } : Jvm.MethodName)) ∈ TT := mT (mL3 (List.mem_of_getElem? (i := 44) rfl)) rfl
theorem mw_3_45 : (Jvm.Cond.code ({ cls := "LinkPredictor", name := "countGoodReferences", desc := "(LLinkPredictor$Build;)I" } : Jvm.MethodName) prog_1_method_19_code (4 : Nat) (Option.some Jvm.ClassFile.FieldType.int)) ∈ TT := mT (mL3 (List.mem_of_getElem? (i := 45) rfl)) rfl
theorem mw_3_46 : (Jvm.Cond.methodLink "LinkPredictor" (117 : Nat) ({ cls := "LinkPredictor$Hierarchy", name := "countLoaded", desc := "()I" } : Jvm.MethodName)) ∈ TT := mT (mL3 (List.mem_of_getElem? (i := 46) rfl)) rfl
theorem mw_3_47 : (Jvm.Cond.instanceMethod ({ cls := "LinkPredictor$Hierarchy", name := "countLoaded", desc := "()I" } : Jvm.MethodName)) ∈ TT := mT (mL3 (List.mem_of_getElem? (i := 47) rfl)) rfl
theorem mw_3_48 : (Jvm.Cond.selects "LinkPredictor$Hierarchy" ({ cls := "LinkPredictor$Hierarchy", name := "countLoaded", desc := "()I" } : Jvm.MethodName) ({ cls := "LinkPredictor$Hierarchy", name := "countLoaded", desc := "()I" } : Jvm.MethodName)) ∈ TT := mT (mL3 (List.mem_of_getElem? (i := 48) rfl)) rfl
theorem mw_3_49 : (Jvm.Cond.code ({ cls := "LinkPredictor$Hierarchy", name := "countLoaded", desc := "()I" } : Jvm.MethodName) prog_3_method_20_code (1 : Nat) (Option.some Jvm.ClassFile.FieldType.int)) ∈ TT := mT (mL3 (List.mem_of_getElem? (i := 49) rfl)) rfl
theorem mw_3_50 : (Jvm.Cond.methodLink "LinkPredictor" (120 : Nat) ({ cls := "LinkPredictor$Members", name := "countAbstractMethods", desc := "()I" } : Jvm.MethodName)) ∈ TT := mT (mL3 (List.mem_of_getElem? (i := 50) rfl)) rfl
theorem mw_3_51 : (Jvm.Cond.instanceMethod ({ cls := "LinkPredictor$Members", name := "countAbstractMethods", desc := "()I" } : Jvm.MethodName)) ∈ TT := mT (mL3 (List.mem_of_getElem? (i := 51) rfl)) rfl
theorem mw_3_52 : (Jvm.Cond.selects "LinkPredictor$Members" ({ cls := "LinkPredictor$Members", name := "countAbstractMethods", desc := "()I" } : Jvm.MethodName) ({ cls := "LinkPredictor$Members", name := "countAbstractMethods", desc := "()I" } : Jvm.MethodName)) ∈ TT := mT (mL3 (List.mem_of_getElem? (i := 52) rfl)) rfl
theorem mw_3_53 : (Jvm.Cond.code ({ cls := "LinkPredictor$Members", name := "countAbstractMethods", desc := "()I" } : Jvm.MethodName) prog_4_method_18_code (3 : Nat) (Option.some Jvm.ClassFile.FieldType.int)) ∈ TT := mT (mL3 (List.mem_of_getElem? (i := 53) rfl)) rfl
theorem mw_3_54 : (Jvm.Cond.methodLink "LinkPredictor$Members" (61 : Nat) ({ cls := "LinkPredictor$Members", name := "isAbstract", desc := "(I)Z" } : Jvm.MethodName)) ∈ TT := mT (mL3 (List.mem_of_getElem? (i := 54) rfl)) rfl
theorem mw_3_55 : (Jvm.Cond.methodLink "LinkPredictor" (123 : Nat) ({ cls := "LinkPredictor$Hierarchy", name := "nestSharers", desc := "()I" } : Jvm.MethodName)) ∈ TT := mT (mL3 (List.mem_of_getElem? (i := 55) rfl)) rfl
theorem mw_3_56 : (Jvm.Cond.instanceMethod ({ cls := "LinkPredictor$Hierarchy", name := "nestSharers", desc := "()I" } : Jvm.MethodName)) ∈ TT := mT (mL3 (List.mem_of_getElem? (i := 56) rfl)) rfl
theorem mw_3_57 : (Jvm.Cond.selects "LinkPredictor$Hierarchy" ({ cls := "LinkPredictor$Hierarchy", name := "nestSharers", desc := "()I" } : Jvm.MethodName) ({ cls := "LinkPredictor$Hierarchy", name := "nestSharers", desc := "()I" } : Jvm.MethodName)) ∈ TT := mT (mL3 (List.mem_of_getElem? (i := 57) rfl)) rfl
theorem mw_3_58 : (Jvm.Cond.code ({ cls := "LinkPredictor$Hierarchy", name := "nestSharers", desc := "()I" } : Jvm.MethodName) prog_3_method_21_code (4 : Nat) (Option.some Jvm.ClassFile.FieldType.int)) ∈ TT := mT (mL3 (List.mem_of_getElem? (i := 58) rfl)) rfl
theorem mw_3_59 : (Jvm.Cond.methodLink "LinkPredictor$Hierarchy" (75 : Nat) ({ cls := "LinkPredictor$Hierarchy", name := "nestOf", desc := "(I)I" } : Jvm.MethodName)) ∈ TT := mT (mL3 (List.mem_of_getElem? (i := 59) rfl)) rfl
theorem mw_3_60 : (Jvm.Cond.classLink "LinkPredictorLaw" (10 : Nat) "LinkPredictorModel") ∈ TT := mT (mL3 (List.mem_of_getElem? (i := 60) rfl)) rfl
theorem mw_3_61 : (Jvm.Cond.instantiable "LinkPredictorModel" (21 : Nat)) ∈ TT := mT (mL3 (List.mem_of_getElem? (i := 61) rfl)) rfl
theorem mw_3_62 : (Jvm.Cond.methodLink "LinkPredictorLaw" (12 : Nat) ({ cls := "LinkPredictorModel", name := "<init>", desc := "()V" } : Jvm.MethodName)) ∈ TT := mT (mL3 (List.mem_of_getElem? (i := 62) rfl)) rfl
theorem mw_3_63 : (Jvm.Cond.instanceMethod ({ cls := "LinkPredictorModel", name := "<init>", desc := "()V" } : Jvm.MethodName)) ∈ TT := mT (mL3 (List.mem_of_getElem? (i := 63) rfl)) rfl
theorem mw_3_64 : (Jvm.Cond.code ({ cls := "LinkPredictorModel", name := "<init>", desc := "()V" } : Jvm.MethodName) prog_7_method_1_code (3 : Nat) (Option.none : Option Jvm.ClassFile.FieldType)) ∈ TT := mT (mL3 (List.mem_of_getElem? (i := 64) rfl)) rfl
theorem mw_3_65 : (Jvm.Cond.methodLink "LinkPredictorModel" (1 : Nat) ({ cls := "java/lang/Object", name := "<init>", desc := "()V" } : Jvm.MethodName)) ∈ TT := mT (mL3 (List.mem_of_getElem? (i := 65) rfl)) rfl
theorem mw_3_66 : (Jvm.Cond.fieldLink "LinkPredictorModel" (7 : Nat) "LinkPredictorModel" "there" "[Z") ∈ TT := mT (mL3 (List.mem_of_getElem? (i := 66) rfl)) rfl
theorem mw_3_67 : (Jvm.Cond.fieldLink "LinkPredictorModel" (13 : Nat) "LinkPredictorModel" "flags" "[I") ∈ TT := mT (mL3 (List.mem_of_getElem? (i := 67) rfl)) rfl
theorem mw_3_68 : (Jvm.Cond.fieldLink "LinkPredictorModel" (17 : Nat) "LinkPredictorModel" "pack" "[I") ∈ TT := mT (mL3 (List.mem_of_getElem? (i := 68) rfl)) rfl
theorem mw_3_69 : (Jvm.Cond.fieldLink "LinkPredictorModel" (20 : Nat) "LinkPredictorModel" "above" "[I") ∈ TT := mT (mL3 (List.mem_of_getElem? (i := 69) rfl)) rfl
theorem mw_3_70 : (Jvm.Cond.fieldLink "LinkPredictorModel" (23 : Nat) "LinkPredictorModel" "faces" "[I") ∈ TT := mT (mL3 (List.mem_of_getElem? (i := 70) rfl)) rfl
theorem mw_3_71 : (Jvm.Cond.fieldLink "LinkPredictorModel" (26 : Nat) "LinkPredictorModel" "host" "[I") ∈ TT := mT (mL3 (List.mem_of_getElem? (i := 71) rfl)) rfl
theorem mw_3_72 : (Jvm.Cond.fieldLink "LinkPredictorModel" (29 : Nat) "LinkPredictorModel" "method" "[Z") ∈ TT := mT (mL3 (List.mem_of_getElem? (i := 72) rfl)) rfl
theorem mw_3_73 : (Jvm.Cond.fieldLink "LinkPredictorModel" (32 : Nat) "LinkPredictorModel" "gone" "[Z") ∈ TT := mT (mL3 (List.mem_of_getElem? (i := 73) rfl)) rfl
theorem mw_3_74 : (Jvm.Cond.fieldLink "LinkPredictorModel" (35 : Nat) "LinkPredictorModel" "many" "[I") ∈ TT := mT (mL3 (List.mem_of_getElem? (i := 74) rfl)) rfl
theorem mw_3_75 : (Jvm.Cond.fieldLink "LinkPredictorModel" (38 : Nat) "LinkPredictorModel" "owner" "[I") ∈ TT := mT (mL3 (List.mem_of_getElem? (i := 75) rfl)) rfl
theorem mw_3_76 : (Jvm.Cond.fieldLink "LinkPredictorModel" (41 : Nat) "LinkPredictorModel" "sign" "[I") ∈ TT := mT (mL3 (List.mem_of_getElem? (i := 76) rfl)) rfl
theorem mw_3_77 : (Jvm.Cond.fieldLink "LinkPredictorModel" (44 : Nat) "LinkPredictorModel" "access" "[I") ∈ TT := mT (mL3 (List.mem_of_getElem? (i := 77) rfl)) rfl
theorem mw_3_78 : (Jvm.Cond.fieldLink "LinkPredictorModel" (47 : Nat) "LinkPredictorModel" "marks" "[I") ∈ TT := mT (mL3 (List.mem_of_getElem? (i := 78) rfl)) rfl
theorem mw_3_79 : (Jvm.Cond.fieldLink "LinkPredictorModel" (50 : Nat) "LinkPredictorModel" "kind" "[I") ∈ TT := mT (mL3 (List.mem_of_getElem? (i := 79) rfl)) rfl
theorem mw_3_80 : (Jvm.Cond.fieldLink "LinkPredictorModel" (53 : Nat) "LinkPredictorModel" "holder" "[I") ∈ TT := mT (mL3 (List.mem_of_getElem? (i := 80) rfl)) rfl
theorem mw_3_81 : (Jvm.Cond.fieldLink "LinkPredictorModel" (56 : Nat) "LinkPredictorModel" "way" "[I") ∈ TT := mT (mL3 (List.mem_of_getElem? (i := 81) rfl)) rfl
theorem mw_3_82 : (Jvm.Cond.fieldLink "LinkPredictorModel" (59 : Nat) "LinkPredictorModel" "asked" "[I") ∈ TT := mT (mL3 (List.mem_of_getElem? (i := 82) rfl)) rfl
theorem mw_3_83 : (Jvm.Cond.fieldLink "LinkPredictorModel" (91 : Nat) "LinkPredictorModel" "references" "I") ∈ TT := mT (mL3 (List.mem_of_getElem? (i := 83) rfl)) rfl
theorem mw_3_84 : (Jvm.Cond.fieldLink "LinkPredictorModel" (68 : Nat) "LinkPredictorModel" "written" "I") ∈ TT := mT (mL3 (List.mem_of_getElem? (i := 84) rfl)) rfl
theorem mw_3_85 : (Jvm.Cond.fieldLink "LinkPredictorModel" (62 : Nat) "LinkPredictorModel" "row" "[I") ∈ TT := mT (mL3 (List.mem_of_getElem? (i := 85) rfl)) rfl
theorem mw_3_86 : (Jvm.Cond.fieldLink "LinkPredictorModel" (65 : Nat) "LinkPredictorModel" "stage" "[I") ∈ TT := mT (mL3 (List.mem_of_getElem? (i := 86) rfl)) rfl
theorem mw_3_87 : (Jvm.Cond.laysFinal "LinkPredictorModel" "LinkPredictorModel" "there" "[Z") ∈ TT := mT (mL3 (List.mem_of_getElem? (i := 87) rfl)) rfl
theorem mw_3_88 : (Jvm.Cond.soleField "LinkPredictorModel" "there") ∈ TT := mT (mL3 (List.mem_of_getElem? (i := 88) rfl)) rfl
theorem mw_3_89 : (Jvm.Cond.laysFinal "LinkPredictorModel" "LinkPredictorModel" "flags" "[I") ∈ TT := mT (mL3 (List.mem_of_getElem? (i := 89) rfl)) rfl
theorem mw_3_90 : (Jvm.Cond.soleField "LinkPredictorModel" "flags") ∈ TT := mT (mL3 (List.mem_of_getElem? (i := 90) rfl)) rfl
theorem mw_3_91 : (Jvm.Cond.laysFinal "LinkPredictorModel" "LinkPredictorModel" "pack" "[I") ∈ TT := mT (mL3 (List.mem_of_getElem? (i := 91) rfl)) rfl
theorem mw_3_92 : (Jvm.Cond.soleField "LinkPredictorModel" "pack") ∈ TT := mT (mL3 (List.mem_of_getElem? (i := 92) rfl)) rfl
theorem mw_3_93 : (Jvm.Cond.laysFinal "LinkPredictorModel" "LinkPredictorModel" "above" "[I") ∈ TT := mT (mL3 (List.mem_of_getElem? (i := 93) rfl)) rfl
theorem mw_3_94 : (Jvm.Cond.soleField "LinkPredictorModel" "above") ∈ TT := mT (mL3 (List.mem_of_getElem? (i := 94) rfl)) rfl
theorem mw_3_95 : (Jvm.Cond.laysFinal "LinkPredictorModel" "LinkPredictorModel" "faces" "[I") ∈ TT := mT (mL3 (List.mem_of_getElem? (i := 95) rfl)) rfl
theorem mw_3_96 : (Jvm.Cond.soleField "LinkPredictorModel" "faces") ∈ TT := mT (mL3 (List.mem_of_getElem? (i := 96) rfl)) rfl
theorem mw_3_97 : (Jvm.Cond.laysFinal "LinkPredictorModel" "LinkPredictorModel" "host" "[I") ∈ TT := mT (mL3 (List.mem_of_getElem? (i := 97) rfl)) rfl
theorem mw_3_98 : (Jvm.Cond.soleField "LinkPredictorModel" "host") ∈ TT := mT (mL3 (List.mem_of_getElem? (i := 98) rfl)) rfl
theorem mw_3_99 : (Jvm.Cond.laysFinal "LinkPredictorModel" "LinkPredictorModel" "method" "[Z") ∈ TT := mT (mL3 (List.mem_of_getElem? (i := 99) rfl)) rfl
theorem mw_3_100 : (Jvm.Cond.soleField "LinkPredictorModel" "method") ∈ TT := mT (mL3 (List.mem_of_getElem? (i := 100) rfl)) rfl
theorem mw_3_101 : (Jvm.Cond.laysFinal "LinkPredictorModel" "LinkPredictorModel" "gone" "[Z") ∈ TT := mT (mL3 (List.mem_of_getElem? (i := 101) rfl)) rfl
theorem mw_3_102 : (Jvm.Cond.soleField "LinkPredictorModel" "gone") ∈ TT := mT (mL3 (List.mem_of_getElem? (i := 102) rfl)) rfl
theorem mw_3_103 : (Jvm.Cond.laysFinal "LinkPredictorModel" "LinkPredictorModel" "many" "[I") ∈ TT := mT (mL3 (List.mem_of_getElem? (i := 103) rfl)) rfl
theorem mw_3_104 : (Jvm.Cond.soleField "LinkPredictorModel" "many") ∈ TT := mT (mL3 (List.mem_of_getElem? (i := 104) rfl)) rfl
theorem mw_3_105 : (Jvm.Cond.laysFinal "LinkPredictorModel" "LinkPredictorModel" "owner" "[I") ∈ TT := mT (mL3 (List.mem_of_getElem? (i := 105) rfl)) rfl
theorem mw_3_106 : (Jvm.Cond.soleField "LinkPredictorModel" "owner") ∈ TT := mT (mL3 (List.mem_of_getElem? (i := 106) rfl)) rfl
theorem mw_3_107 : (Jvm.Cond.laysFinal "LinkPredictorModel" "LinkPredictorModel" "sign" "[I") ∈ TT := mT (mL3 (List.mem_of_getElem? (i := 107) rfl)) rfl
theorem mw_3_108 : (Jvm.Cond.soleField "LinkPredictorModel" "sign") ∈ TT := mT (mL3 (List.mem_of_getElem? (i := 108) rfl)) rfl
theorem mw_3_109 : (Jvm.Cond.laysFinal "LinkPredictorModel" "LinkPredictorModel" "access" "[I") ∈ TT := mT (mL3 (List.mem_of_getElem? (i := 109) rfl)) rfl
theorem mw_3_110 : (Jvm.Cond.soleField "LinkPredictorModel" "access") ∈ TT := mT (mL3 (List.mem_of_getElem? (i := 110) rfl)) rfl
theorem mw_3_111 : (Jvm.Cond.laysFinal "LinkPredictorModel" "LinkPredictorModel" "marks" "[I") ∈ TT := mT (mL3 (List.mem_of_getElem? (i := 111) rfl)) rfl
theorem mw_3_112 : (Jvm.Cond.soleField "LinkPredictorModel" "marks") ∈ TT := mT (mL3 (List.mem_of_getElem? (i := 112) rfl)) rfl
theorem mw_3_113 : (Jvm.Cond.laysFinal "LinkPredictorModel" "LinkPredictorModel" "kind" "[I") ∈ TT := mT (mL3 (List.mem_of_getElem? (i := 113) rfl)) rfl
theorem mw_3_114 : (Jvm.Cond.soleField "LinkPredictorModel" "kind") ∈ TT := mT (mL3 (List.mem_of_getElem? (i := 114) rfl)) rfl
theorem mw_3_115 : (Jvm.Cond.laysFinal "LinkPredictorModel" "LinkPredictorModel" "holder" "[I") ∈ TT := mT (mL3 (List.mem_of_getElem? (i := 115) rfl)) rfl
theorem mw_3_116 : (Jvm.Cond.soleField "LinkPredictorModel" "holder") ∈ TT := mT (mL3 (List.mem_of_getElem? (i := 116) rfl)) rfl
theorem mw_3_117 : (Jvm.Cond.laysFinal "LinkPredictorModel" "LinkPredictorModel" "way" "[I") ∈ TT := mT (mL3 (List.mem_of_getElem? (i := 117) rfl)) rfl
theorem mw_3_118 : (Jvm.Cond.soleField "LinkPredictorModel" "way") ∈ TT := mT (mL3 (List.mem_of_getElem? (i := 118) rfl)) rfl
theorem mw_3_119 : (Jvm.Cond.laysFinal "LinkPredictorModel" "LinkPredictorModel" "asked" "[I") ∈ TT := mT (mL3 (List.mem_of_getElem? (i := 119) rfl)) rfl
theorem mw_3_120 : (Jvm.Cond.soleField "LinkPredictorModel" "asked") ∈ TT := mT (mL3 (List.mem_of_getElem? (i := 120) rfl)) rfl
theorem mw_3_121 : (Jvm.Cond.lays "LinkPredictorModel" "LinkPredictorModel" "references" "I") ∈ TT := mT (mL3 (List.mem_of_getElem? (i := 121) rfl)) rfl
theorem mw_3_122 : (Jvm.Cond.soleField "LinkPredictorModel" "references") ∈ TT := mT (mL3 (List.mem_of_getElem? (i := 122) rfl)) rfl
theorem mw_3_123 : (Jvm.Cond.lays "LinkPredictorModel" "LinkPredictorModel" "written" "I") ∈ TT := mT (mL3 (List.mem_of_getElem? (i := 123) rfl)) rfl
theorem mw_3_124 : (Jvm.Cond.soleField "LinkPredictorModel" "written") ∈ TT := mT (mL3 (List.mem_of_getElem? (i := 124) rfl)) rfl
theorem mw_3_125 : (Jvm.Cond.laysFinal "LinkPredictorModel" "LinkPredictorModel" "row" "[I") ∈ TT := mT (mL3 (List.mem_of_getElem? (i := 125) rfl)) rfl
theorem mw_3_126 : (Jvm.Cond.soleField "LinkPredictorModel" "row") ∈ TT := mT (mL3 (List.mem_of_getElem? (i := 126) rfl)) rfl
theorem mw_3_127 : (Jvm.Cond.laysFinal "LinkPredictorModel" "LinkPredictorModel" "stage" "[I") ∈ TT := mT (mL3 (List.mem_of_getElem? (i := 127) rfl)) rfl
theorem mw_3_128 : (Jvm.Cond.soleField "LinkPredictorModel" "stage") ∈ TT := mT (mL3 (List.mem_of_getElem? (i := 128) rfl)) rfl
theorem mw_3_129 : (Jvm.Cond.superclass "LinkPredictorModel" "java/lang/Object") ∈ TT := mT (mL3 (List.mem_of_getElem? (i := 129) rfl)) rfl
theorem mw_3_130 : (Jvm.Cond.arrayClass Jvm.ClassFile.FieldType.boolean) ∈ TT := mT (mL3 (List.mem_of_getElem? (i := 130) rfl)) rfl
theorem mw_3_131 : (Jvm.Cond.methodLink "LinkPredictorLaw" (17 : Nat) ({ cls := "LinkPredictorModel", name := "type", desc := "(IIIII)Z" } : Jvm.MethodName)) ∈ TT := mT (mL3 (List.mem_of_getElem? (i := 131) rfl)) rfl
theorem mw_3_132 : (Jvm.Cond.instanceMethod ({ cls := "LinkPredictorModel", name := "type", desc := "(IIIII)Z" } : Jvm.MethodName)) ∈ TT := mT (mL3 (List.mem_of_getElem? (i := 132) rfl)) rfl
theorem mw_3_133 : (Jvm.Cond.selects "LinkPredictorModel" ({ cls := "LinkPredictorModel", name := "type", desc := "(IIIII)Z" } : Jvm.MethodName) ({ cls := "LinkPredictorModel", name := "type", desc := "(IIIII)Z" } : Jvm.MethodName)) ∈ TT := mT (mL3 (List.mem_of_getElem? (i := 133) rfl)) rfl
theorem mw_3_134 : (Jvm.Cond.code ({ cls := "LinkPredictorModel", name := "type", desc := "(IIIII)Z" } : Jvm.MethodName) prog_7_method_6_code (7 : Nat) (Option.some Jvm.ClassFile.FieldType.boolean)) ∈ TT := mT (mL3 (List.mem_of_getElem? (i := 134) rfl)) rfl
theorem mw_3_135 : (Jvm.Cond.methodLink "LinkPredictorModel" (72 : Nat) ({ cls := "LinkPredictorModel", name := "in", desc := "(II)Z" } : Jvm.MethodName)) ∈ TT := mT (mL3 (List.mem_of_getElem? (i := 135) rfl)) rfl
theorem mw_3_136 : (Jvm.Cond.static ({ cls := "LinkPredictorModel", name := "in", desc := "(II)Z" } : Jvm.MethodName)) ∈ TT := mT (mL3 (List.mem_of_getElem? (i := 136) rfl)) rfl
theorem mw_3_137 : (Jvm.Cond.code ({ cls := "LinkPredictorModel", name := "in", desc := "(II)Z" } : Jvm.MethodName) prog_7_method_2_code (2 : Nat) (Option.some Jvm.ClassFile.FieldType.boolean)) ∈ TT := mT (mL3 (List.mem_of_getElem? (i := 137) rfl)) rfl
theorem mw_3_138 : (Jvm.Cond.methodLink "LinkPredictorModel" (76 : Nat) ({ cls := "LinkPredictorModel", name := "at", desc := "(I)I" } : Jvm.MethodName)) ∈ TT := mT (mL3 (List.mem_of_getElem? (i := 138) rfl)) rfl
theorem nw_3_139 : (Jvm.Cond.privateMethod ({ cls := "LinkPredictorModel", name := "at", desc := "(I)I" } : Jvm.MethodName)) ∈ lw_tbl := mL3 (List.mem_of_getElem? (i := 139) rfl)
theorem mw_3_140 : (Jvm.Cond.instanceMethod ({ cls := "LinkPredictorModel", name := "at", desc := "(I)I" } : Jvm.MethodName)) ∈ TT := mT (mL3 (List.mem_of_getElem? (i := 140) rfl)) rfl
theorem mw_3_141 : (Jvm.Cond.code ({ cls := "LinkPredictorModel", name := "at", desc := "(I)I" } : Jvm.MethodName) prog_7_method_4_code (2 : Nat) (Option.some Jvm.ClassFile.FieldType.int)) ∈ TT := mT (mL3 (List.mem_of_getElem? (i := 141) rfl)) rfl
theorem mw_3_142 : (Jvm.Cond.methodLink "LinkPredictorLaw" (22 : Nat) ({ cls := "LinkPredictorModel", name := "nest", desc := "(II)Z" } : Jvm.MethodName)) ∈ TT := mT (mL3 (List.mem_of_getElem? (i := 142) rfl)) rfl
theorem mw_3_143 : (Jvm.Cond.instanceMethod ({ cls := "LinkPredictorModel", name := "nest", desc := "(II)Z" } : Jvm.MethodName)) ∈ TT := mT (mL3 (List.mem_of_getElem? (i := 143) rfl)) rfl
theorem mw_3_144 : (Jvm.Cond.selects "LinkPredictorModel" ({ cls := "LinkPredictorModel", name := "nest", desc := "(II)Z" } : Jvm.MethodName) ({ cls := "LinkPredictorModel", name := "nest", desc := "(II)Z" } : Jvm.MethodName)) ∈ TT := mT (mL3 (List.mem_of_getElem? (i := 144) rfl)) rfl
theorem mw_3_145 : (Jvm.Cond.code ({ cls := "LinkPredictorModel", name := "nest", desc := "(II)Z" } : Jvm.MethodName) prog_7_method_7_code (3 : Nat) (Option.some Jvm.ClassFile.FieldType.boolean)) ∈ TT := mT (mL3 (List.mem_of_getElem? (i := 145) rfl)) rfl
theorem mw_3_146 : (Jvm.Cond.methodLink "LinkPredictorModel" (80 : Nat) ({ cls := "LinkPredictorModel", name := "isThere", desc := "(I)Z" } : Jvm.MethodName)) ∈ TT := mT (mL3 (List.mem_of_getElem? (i := 146) rfl)) rfl
theorem nw_3_147 : (Jvm.Cond.privateMethod ({ cls := "LinkPredictorModel", name := "isThere", desc := "(I)Z" } : Jvm.MethodName)) ∈ lw_tbl := mL3 (List.mem_of_getElem? (i := 147) rfl)
theorem mw_3_148 : (Jvm.Cond.instanceMethod ({ cls := "LinkPredictorModel", name := "isThere", desc := "(I)Z" } : Jvm.MethodName)) ∈ TT := mT (mL3 (List.mem_of_getElem? (i := 148) rfl)) rfl
theorem mw_3_149 : (Jvm.Cond.code ({ cls := "LinkPredictorModel", name := "isThere", desc := "(I)Z" } : Jvm.MethodName) prog_7_method_5_code (2 : Nat) (Option.some Jvm.ClassFile.FieldType.boolean)) ∈ TT := mT (mL3 (List.mem_of_getElem? (i := 149) rfl)) rfl
theorem mw_3_150 : (Jvm.Cond.methodLink "LinkPredictorLaw" (27 : Nat) ({ cls := "LinkPredictorModel", name := "drop", desc := "(I)Z" } : Jvm.MethodName)) ∈ TT := mT (mL3 (List.mem_of_getElem? (i := 150) rfl)) rfl
theorem mw_3_151 : (Jvm.Cond.instanceMethod ({ cls := "LinkPredictorModel", name := "drop", desc := "(I)Z" } : Jvm.MethodName)) ∈ TT := mT (mL3 (List.mem_of_getElem? (i := 151) rfl)) rfl
theorem mw_3_152 : (Jvm.Cond.selects "LinkPredictorModel" ({ cls := "LinkPredictorModel", name := "drop", desc := "(I)Z" } : Jvm.MethodName) ({ cls := "LinkPredictorModel", name := "drop", desc := "(I)Z" } : Jvm.MethodName)) ∈ TT := mT (mL3 (List.mem_of_getElem? (i := 152) rfl)) rfl
theorem mw_3_153 : (Jvm.Cond.code ({ cls := "LinkPredictorModel", name := "drop", desc := "(I)Z" } : Jvm.MethodName) prog_7_method_8_code (3 : Nat) (Option.some Jvm.ClassFile.FieldType.boolean)) ∈ TT := mT (mL3 (List.mem_of_getElem? (i := 153) rfl)) rfl
theorem mw_3_154 : (Jvm.Cond.methodLink "LinkPredictorLaw" (32 : Nat) ({ cls := "LinkPredictorModel", name := "member", desc := "(IZIII)I" } : Jvm.MethodName)) ∈ TT := mT (mL3 (List.mem_of_getElem? (i := 154) rfl)) rfl
theorem mw_3_155 : (Jvm.Cond.instanceMethod ({ cls := "LinkPredictorModel", name := "member", desc := "(IZIII)I" } : Jvm.MethodName)) ∈ TT := mT (mL3 (List.mem_of_getElem? (i := 155) rfl)) rfl
theorem mw_3_156 : (Jvm.Cond.selects "LinkPredictorModel" ({ cls := "LinkPredictorModel", name := "member", desc := "(IZIII)I" } : Jvm.MethodName) ({ cls := "LinkPredictorModel", name := "member", desc := "(IZIII)I" } : Jvm.MethodName)) ∈ TT := mT (mL3 (List.mem_of_getElem? (i := 156) rfl)) rfl
theorem mw_3_157 : (Jvm.Cond.code ({ cls := "LinkPredictorModel", name := "member", desc := "(IZIII)I" } : Jvm.MethodName) prog_7_method_10_code (7 : Nat) (Option.some Jvm.ClassFile.FieldType.int)) ∈ TT := mT (mL3 (List.mem_of_getElem? (i := 157) rfl)) rfl
theorem mw_3_158 : (Jvm.Cond.methodLink "LinkPredictorModel" (84 : Nat) ({ cls := "LinkPredictorModel", name := "own", desc := "(IIZI)I" } : Jvm.MethodName)) ∈ TT := mT (mL3 (List.mem_of_getElem? (i := 158) rfl)) rfl
theorem nw_3_159 : (Jvm.Cond.privateMethod ({ cls := "LinkPredictorModel", name := "own", desc := "(IIZI)I" } : Jvm.MethodName)) ∈ lw_tbl := mL3 (List.mem_of_getElem? (i := 159) rfl)
theorem mw_3_160 : (Jvm.Cond.instanceMethod ({ cls := "LinkPredictorModel", name := "own", desc := "(IIZI)I" } : Jvm.MethodName)) ∈ TT := mT (mL3 (List.mem_of_getElem? (i := 160) rfl)) rfl
theorem mw_3_161 : (Jvm.Cond.code ({ cls := "LinkPredictorModel", name := "own", desc := "(IIZI)I" } : Jvm.MethodName) prog_7_method_9_code (7 : Nat) (Option.some Jvm.ClassFile.FieldType.int)) ∈ TT := mT (mL3 (List.mem_of_getElem? (i := 161) rfl)) rfl
theorem mw_3_162 : (Jvm.Cond.methodLink "LinkPredictorLaw" (37 : Nat) ({ cls := "LinkPredictorModel", name := "remake", desc := "(III)Z" } : Jvm.MethodName)) ∈ TT := mT (mL3 (List.mem_of_getElem? (i := 162) rfl)) rfl
theorem mw_3_163 : (Jvm.Cond.instanceMethod ({ cls := "LinkPredictorModel", name := "remake", desc := "(III)Z" } : Jvm.MethodName)) ∈ TT := mT (mL3 (List.mem_of_getElem? (i := 163) rfl)) rfl
theorem mw_3_164 : (Jvm.Cond.selects "LinkPredictorModel" ({ cls := "LinkPredictorModel", name := "remake", desc := "(III)Z" } : Jvm.MethodName) ({ cls := "LinkPredictorModel", name := "remake", desc := "(III)Z" } : Jvm.MethodName)) ∈ TT := mT (mL3 (List.mem_of_getElem? (i := 164) rfl)) rfl
theorem mw_3_165 : (Jvm.Cond.code ({ cls := "LinkPredictorModel", name := "remake", desc := "(III)Z" } : Jvm.MethodName) prog_7_method_12_code (4 : Nat) (Option.some Jvm.ClassFile.FieldType.boolean)) ∈ TT := mT (mL3 (List.mem_of_getElem? (i := 165) rfl)) rfl
theorem mw_3_166 : (Jvm.Cond.methodLink "LinkPredictorModel" (88 : Nat) ({ cls := "LinkPredictorModel", name := "isMember", desc := "(I)Z" } : Jvm.MethodName)) ∈ TT := mT (mL3 (List.mem_of_getElem? (i := 166) rfl)) rfl
theorem nw_3_167 : (Jvm.Cond.privateMethod ({ cls := "LinkPredictorModel", name := "isMember", desc := "(I)Z" } : Jvm.MethodName)) ∈ lw_tbl := mL3 (List.mem_of_getElem? (i := 167) rfl)
theorem mw_3_168 : (Jvm.Cond.instanceMethod ({ cls := "LinkPredictorModel", name := "isMember", desc := "(I)Z" } : Jvm.MethodName)) ∈ TT := mT (mL3 (List.mem_of_getElem? (i := 168) rfl)) rfl
theorem mw_3_169 : (Jvm.Cond.code ({ cls := "LinkPredictorModel", name := "isMember", desc := "(I)Z" } : Jvm.MethodName) prog_7_method_11_code (2 : Nat) (Option.some Jvm.ClassFile.FieldType.boolean)) ∈ TT := mT (mL3 (List.mem_of_getElem? (i := 169) rfl)) rfl
theorem mw_3_170 : (Jvm.Cond.methodLink "LinkPredictorLaw" (41 : Nat) ({ cls := "LinkPredictorModel", name := "remove", desc := "(I)Z" } : Jvm.MethodName)) ∈ TT := mT (mL3 (List.mem_of_getElem? (i := 170) rfl)) rfl
theorem mw_3_171 : (Jvm.Cond.instanceMethod ({ cls := "LinkPredictorModel", name := "remove", desc := "(I)Z" } : Jvm.MethodName)) ∈ TT := mT (mL3 (List.mem_of_getElem? (i := 171) rfl)) rfl
theorem mw_3_172 : (Jvm.Cond.selects "LinkPredictorModel" ({ cls := "LinkPredictorModel", name := "remove", desc := "(I)Z" } : Jvm.MethodName) ({ cls := "LinkPredictorModel", name := "remove", desc := "(I)Z" } : Jvm.MethodName)) ∈ TT := mT (mL3 (List.mem_of_getElem? (i := 172) rfl)) rfl
theorem mw_3_173 : (Jvm.Cond.code ({ cls := "LinkPredictorModel", name := "remove", desc := "(I)Z" } : Jvm.MethodName) prog_7_method_13_code (2 : Nat) (Option.some Jvm.ClassFile.FieldType.boolean)) ∈ TT := mT (mL3 (List.mem_of_getElem? (i := 173) rfl)) rfl
theorem mw_3_174 : (Jvm.Cond.methodLink "LinkPredictorLaw" (46 : Nat) ({ cls := "LinkPredictorModel", name := "branch", desc := "()I" } : Jvm.MethodName)) ∈ TT := mT (mL3 (List.mem_of_getElem? (i := 174) rfl)) rfl
theorem mw_3_175 : (Jvm.Cond.instanceMethod ({ cls := "LinkPredictorModel", name := "branch", desc := "()I" } : Jvm.MethodName)) ∈ TT := mT (mL3 (List.mem_of_getElem? (i := 175) rfl)) rfl
theorem mw_3_176 : (Jvm.Cond.selects "LinkPredictorModel" ({ cls := "LinkPredictorModel", name := "branch", desc := "()I" } : Jvm.MethodName) ({ cls := "LinkPredictorModel", name := "branch", desc := "()I" } : Jvm.MethodName)) ∈ TT := mT (mL3 (List.mem_of_getElem? (i := 176) rfl)) rfl
theorem mw_3_177 : (Jvm.Cond.code ({ cls := "LinkPredictorModel", name := "branch", desc := "()I" } : Jvm.MethodName) prog_7_method_14_code (3 : Nat) (Option.some Jvm.ClassFile.FieldType.int)) ∈ TT := mT (mL3 (List.mem_of_getElem? (i := 177) rfl)) rfl
theorem mw_3_178 : (Jvm.Cond.methodLink "LinkPredictorLaw" (50 : Nat) ({ cls := "LinkPredictorModel", name := "write", desc := "(I)Z" } : Jvm.MethodName)) ∈ TT := mT (mL3 (List.mem_of_getElem? (i := 178) rfl)) rfl
theorem mw_3_179 : (Jvm.Cond.instanceMethod ({ cls := "LinkPredictorModel", name := "write", desc := "(I)Z" } : Jvm.MethodName)) ∈ TT := mT (mL3 (List.mem_of_getElem? (i := 179) rfl)) rfl
theorem mw_3_180 : (Jvm.Cond.selects "LinkPredictorModel" ({ cls := "LinkPredictorModel", name := "write", desc := "(I)Z" } : Jvm.MethodName) ({ cls := "LinkPredictorModel", name := "write", desc := "(I)Z" } : Jvm.MethodName)) ∈ TT := mT (mL3 (List.mem_of_getElem? (i := 180) rfl)) rfl
theorem mw_3_181 : (Jvm.Cond.code ({ cls := "LinkPredictorModel", name := "write", desc := "(I)Z" } : Jvm.MethodName) prog_7_method_15_code (2 : Nat) (Option.some Jvm.ClassFile.FieldType.boolean)) ∈ TT := mT (mL3 (List.mem_of_getElem? (i := 181) rfl)) rfl
theorem mw_3_182 : (Jvm.Cond.methodLink "LinkPredictorLaw" (55 : Nat) ({ cls := "LinkPredictorModel", name := "refer", desc := "(IIII)I" } : Jvm.MethodName)) ∈ TT := mT (mL3 (List.mem_of_getElem? (i := 182) rfl)) rfl
theorem mw_3_183 : (Jvm.Cond.instanceMethod ({ cls := "LinkPredictorModel", name := "refer", desc := "(IIII)I" } : Jvm.MethodName)) ∈ TT := mT (mL3 (List.mem_of_getElem? (i := 183) rfl)) rfl
theorem mw_3_184 : (Jvm.Cond.selects "LinkPredictorModel" ({ cls := "LinkPredictorModel", name := "refer", desc := "(IIII)I" } : Jvm.MethodName) ({ cls := "LinkPredictorModel", name := "refer", desc := "(IIII)I" } : Jvm.MethodName)) ∈ TT := mT (mL3 (List.mem_of_getElem? (i := 184) rfl)) rfl
theorem mw_3_185 : (Jvm.Cond.code ({ cls := "LinkPredictorModel", name := "refer", desc := "(IIII)I" } : Jvm.MethodName) prog_7_method_16_code (5 : Nat) (Option.some Jvm.ClassFile.FieldType.int)) ∈ TT := mT (mL3 (List.mem_of_getElem? (i := 185) rfl)) rfl
theorem mw_3_186 : (Jvm.Cond.methodLink "LinkPredictorLaw" (59 : Nat) ({ cls := "LinkPredictorModel", name := "forget", desc := "()I" } : Jvm.MethodName)) ∈ TT := mT (mL3 (List.mem_of_getElem? (i := 186) rfl)) rfl
theorem mw_3_187 : (Jvm.Cond.instanceMethod ({ cls := "LinkPredictorModel", name := "forget", desc := "()I" } : Jvm.MethodName)) ∈ TT := mT (mL3 (List.mem_of_getElem? (i := 187) rfl)) rfl
theorem mw_3_188 : (Jvm.Cond.selects "LinkPredictorModel" ({ cls := "LinkPredictorModel", name := "forget", desc := "()I" } : Jvm.MethodName) ({ cls := "LinkPredictorModel", name := "forget", desc := "()I" } : Jvm.MethodName)) ∈ TT := mT (mL3 (List.mem_of_getElem? (i := 188) rfl)) rfl
theorem mw_3_189 : (Jvm.Cond.code ({ cls := "LinkPredictorModel", name := "forget", desc := "()I" } : Jvm.MethodName) prog_7_method_17_code (2 : Nat) (Option.some Jvm.ClassFile.FieldType.int)) ∈ TT := mT (mL3 (List.mem_of_getElem? (i := 189) rfl)) rfl
theorem mw_3_190 : (Jvm.Cond.methodLink "LinkPredictorLaw" (64 : Nat) ({ cls := "LinkPredictorModel", name := "load", desc := "(II)I" } : Jvm.MethodName)) ∈ TT := mT (mL3 (List.mem_of_getElem? (i := 190) rfl)) rfl
theorem mw_3_191 : (Jvm.Cond.instanceMethod ({ cls := "LinkPredictorModel", name := "load", desc := "(II)I" } : Jvm.MethodName)) ∈ TT := mT (mL3 (List.mem_of_getElem? (i := 191) rfl)) rfl
theorem mw_3_192 : (Jvm.Cond.selects "LinkPredictorModel" ({ cls := "LinkPredictorModel", name := "load", desc := "(II)I" } : Jvm.MethodName) ({ cls := "LinkPredictorModel", name := "load", desc := "(II)I" } : Jvm.MethodName)) ∈ TT := mT (mL3 (List.mem_of_getElem? (i := 192) rfl)) rfl
theorem mw_3_193 : (Jvm.Cond.code ({ cls := "LinkPredictorModel", name := "load", desc := "(II)I" } : Jvm.MethodName) prog_7_method_37_code (3 : Nat) (Option.some Jvm.ClassFile.FieldType.int)) ∈ TT := mT (mL3 (List.mem_of_getElem? (i := 193) rfl)) rfl
theorem mw_3_194 : (Jvm.Cond.methodLink "LinkPredictorModel" (104 : Nat) ({ cls := "LinkPredictorModel", name := "loaded", desc := "(II)I" } : Jvm.MethodName)) ∈ TT := mT (mL3 (List.mem_of_getElem? (i := 194) rfl)) rfl
theorem nw_3_195 : (Jvm.Cond.privateMethod ({ cls := "LinkPredictorModel", name := "loaded", desc := "(II)I" } : Jvm.MethodName)) ∈ lw_tbl := mL3 (List.mem_of_getElem? (i := 195) rfl)
theorem mw_3_196 : (Jvm.Cond.instanceMethod ({ cls := "LinkPredictorModel", name := "loaded", desc := "(II)I" } : Jvm.MethodName)) ∈ TT := mT (mL3 (List.mem_of_getElem? (i := 196) rfl)) rfl
theorem mw_3_197 : (Jvm.Cond.code ({ cls := "LinkPredictorModel", name := "loaded", desc := "(II)I" } : Jvm.MethodName) prog_7_method_20_code (10 : Nat) (Option.some Jvm.ClassFile.FieldType.int)) ∈ TT := mT (mL3 (List.mem_of_getElem? (i := 197) rfl)) rfl
theorem mw_3_198 : (Jvm.Cond.methodLink "LinkPredictorModel" (97 : Nat) ({ cls := "LinkPredictorModel", name := "verdict", desc := "(II)I" } : Jvm.MethodName)) ∈ TT := mT (mL3 (List.mem_of_getElem? (i := 198) rfl)) rfl
theorem mw_3_199 : (Jvm.Cond.static ({ cls := "LinkPredictorModel", name := "verdict", desc := "(II)I" } : Jvm.MethodName)) ∈ TT := mT (mL3 (List.mem_of_getElem? (i := 199) rfl)) rfl
theorem mw_3_200 : (Jvm.Cond.code ({ cls := "LinkPredictorModel", name := "verdict", desc := "(II)I" } : Jvm.MethodName) prog_7_method_18_code (2 : Nat) (Option.some Jvm.ClassFile.FieldType.int)) ∈ TT := mT (mL3 (List.mem_of_getElem? (i := 200) rfl)) rfl
theorem mw_3_201 : (Jvm.Cond.methodLink "LinkPredictorModel" (94 : Nat) ({ cls := "LinkPredictorModel", name := "has", desc := "(II)Z" } : Jvm.MethodName)) ∈ TT := mT (mL3 (List.mem_of_getElem? (i := 201) rfl)) rfl
theorem mw_3_202 : (Jvm.Cond.static ({ cls := "LinkPredictorModel", name := "has", desc := "(II)Z" } : Jvm.MethodName)) ∈ TT := mT (mL3 (List.mem_of_getElem? (i := 202) rfl)) rfl
theorem mw_3_203 : (Jvm.Cond.code ({ cls := "LinkPredictorModel", name := "has", desc := "(II)Z" } : Jvm.MethodName) prog_7_method_3_code (2 : Nat) (Option.some Jvm.ClassFile.FieldType.boolean)) ∈ TT := mT (mL3 (List.mem_of_getElem? (i := 203) rfl)) rfl
theorem mw_3_204 : (Jvm.Cond.methodLink "LinkPredictorModel" (101 : Nat) ({ cls := "LinkPredictorModel", name := "isChanged", desc := "(II)Z" } : Jvm.MethodName)) ∈ TT := mT (mL3 (List.mem_of_getElem? (i := 204) rfl)) rfl
theorem nw_3_205 : (Jvm.Cond.privateMethod ({ cls := "LinkPredictorModel", name := "isChanged", desc := "(II)Z" } : Jvm.MethodName)) ∈ lw_tbl := mL3 (List.mem_of_getElem? (i := 205) rfl)
theorem mw_3_206 : (Jvm.Cond.instanceMethod ({ cls := "LinkPredictorModel", name := "isChanged", desc := "(II)Z" } : Jvm.MethodName)) ∈ TT := mT (mL3 (List.mem_of_getElem? (i := 206) rfl)) rfl
theorem mw_3_207 : (Jvm.Cond.code ({ cls := "LinkPredictorModel", name := "isChanged", desc := "(II)Z" } : Jvm.MethodName) prog_7_method_19_code (6 : Nat) (Option.some Jvm.ClassFile.FieldType.boolean)) ∈ TT := mT (mL3 (List.mem_of_getElem? (i := 207) rfl)) rfl
theorem mw_3_208 : (Jvm.Cond.methodLink "LinkPredictorLaw" (68 : Nat) ({ cls := "LinkPredictorModel", name := "resolve", desc := "(II)I" } : Jvm.MethodName)) ∈ TT := mT (mL3 (List.mem_of_getElem? (i := 208) rfl)) rfl
theorem mw_3_209 : (Jvm.Cond.instanceMethod ({ cls := "LinkPredictorModel", name := "resolve", desc := "(II)I" } : Jvm.MethodName)) ∈ TT := mT (mL3 (List.mem_of_getElem? (i := 209) rfl)) rfl
theorem mw_3_210 : (Jvm.Cond.selects "LinkPredictorModel" ({ cls := "LinkPredictorModel", name := "resolve", desc := "(II)I" } : Jvm.MethodName) ({ cls := "LinkPredictorModel", name := "resolve", desc := "(II)I" } : Jvm.MethodName)) ∈ TT := mT (mL3 (List.mem_of_getElem? (i := 210) rfl)) rfl
theorem mw_3_211 : (Jvm.Cond.code ({ cls := "LinkPredictorModel", name := "resolve", desc := "(II)I" } : Jvm.MethodName) prog_7_method_38_code (3 : Nat) (Option.some Jvm.ClassFile.FieldType.int)) ∈ TT := mT (mL3 (List.mem_of_getElem? (i := 211) rfl)) rfl
theorem mw_3_212 : (Jvm.Cond.methodLink "LinkPredictorModel" (152 : Nat) ({ cls := "LinkPredictorModel", name := "isAsk", desc := "(II)Z" } : Jvm.MethodName)) ∈ TT := mT (mL3 (List.mem_of_getElem? (i := 212) rfl)) rfl
theorem nw_3_213 : (Jvm.Cond.privateMethod ({ cls := "LinkPredictorModel", name := "isAsk", desc := "(II)Z" } : Jvm.MethodName)) ∈ lw_tbl := mL3 (List.mem_of_getElem? (i := 213) rfl)
theorem mw_3_214 : (Jvm.Cond.instanceMethod ({ cls := "LinkPredictorModel", name := "isAsk", desc := "(II)Z" } : Jvm.MethodName)) ∈ TT := mT (mL3 (List.mem_of_getElem? (i := 214) rfl)) rfl
theorem mw_3_215 : (Jvm.Cond.code ({ cls := "LinkPredictorModel", name := "isAsk", desc := "(II)Z" } : Jvm.MethodName) prog_7_method_36_code (3 : Nat) (Option.some Jvm.ClassFile.FieldType.boolean)) ∈ TT := mT (mL3 (List.mem_of_getElem? (i := 215) rfl)) rfl
theorem mw_3_216 : (Jvm.Cond.methodLink "LinkPredictorModel" (143 : Nat) ({ cls := "LinkPredictorModel", name := "resolved", desc := "(II)I" } : Jvm.MethodName)) ∈ TT := mT (mL3 (List.mem_of_getElem? (i := 216) rfl)) rfl
theorem nw_3_217 : (Jvm.Cond.privateMethod ({ cls := "LinkPredictorModel", name := "resolved", desc := "(II)I" } : Jvm.MethodName)) ∈ lw_tbl := mL3 (List.mem_of_getElem? (i := 217) rfl)
theorem mw_3_218 : (Jvm.Cond.instanceMethod ({ cls := "LinkPredictorModel", name := "resolved", desc := "(II)I" } : Jvm.MethodName)) ∈ TT := mT (mL3 (List.mem_of_getElem? (i := 218) rfl)) rfl
theorem mw_3_219 : (Jvm.Cond.code ({ cls := "LinkPredictorModel", name := "resolved", desc := "(II)I" } : Jvm.MethodName) prog_7_method_33_code (12 : Nat) (Option.some Jvm.ClassFile.FieldType.int)) ∈ TT := mT (mL3 (List.mem_of_getElem? (i := 219) rfl)) rfl
theorem mw_3_220 : (Jvm.Cond.methodLink "LinkPredictorModel" (133 : Nat) ({ cls := "LinkPredictorModel", name := "field", desc := "(III)I" } : Jvm.MethodName)) ∈ TT := mT (mL3 (List.mem_of_getElem? (i := 220) rfl)) rfl
theorem nw_3_221 : (Jvm.Cond.privateMethod ({ cls := "LinkPredictorModel", name := "field", desc := "(III)I" } : Jvm.MethodName)) ∈ lw_tbl := mL3 (List.mem_of_getElem? (i := 221) rfl)
theorem mw_3_222 : (Jvm.Cond.instanceMethod ({ cls := "LinkPredictorModel", name := "field", desc := "(III)I" } : Jvm.MethodName)) ∈ TT := mT (mL3 (List.mem_of_getElem? (i := 222) rfl)) rfl
theorem mw_3_223 : (Jvm.Cond.code ({ cls := "LinkPredictorModel", name := "field", desc := "(III)I" } : Jvm.MethodName) prog_7_method_27_code (10 : Nat) (Option.some Jvm.ClassFile.FieldType.int)) ∈ TT := mT (mL3 (List.mem_of_getElem? (i := 223) rfl)) rfl
theorem mw_3_224 : (Jvm.Cond.methodLink "LinkPredictorModel" (120 : Nat) ({ cls := "LinkPredictorModel", name := "lay", desc := "(II)I" } : Jvm.MethodName)) ∈ TT := mT (mL3 (List.mem_of_getElem? (i := 224) rfl)) rfl
theorem nw_3_225 : (Jvm.Cond.privateMethod ({ cls := "LinkPredictorModel", name := "lay", desc := "(II)I" } : Jvm.MethodName)) ∈ lw_tbl := mL3 (List.mem_of_getElem? (i := 225) rfl)
theorem mw_3_226 : (Jvm.Cond.instanceMethod ({ cls := "LinkPredictorModel", name := "lay", desc := "(II)I" } : Jvm.MethodName)) ∈ TT := mT (mL3 (List.mem_of_getElem? (i := 226) rfl)) rfl
theorem mw_3_227 : (Jvm.Cond.code ({ cls := "LinkPredictorModel", name := "lay", desc := "(II)I" } : Jvm.MethodName) prog_7_method_28_code (5 : Nat) (Option.some Jvm.ClassFile.FieldType.int)) ∈ TT := mT (mL3 (List.mem_of_getElem? (i := 227) rfl)) rfl
theorem mw_3_228 : (Jvm.Cond.methodLink "LinkPredictorModel" (136 : Nat) ({ cls := "LinkPredictorModel", name := "find", desc := "(III)I" } : Jvm.MethodName)) ∈ TT := mT (mL3 (List.mem_of_getElem? (i := 228) rfl)) rfl
theorem nw_3_229 : (Jvm.Cond.privateMethod ({ cls := "LinkPredictorModel", name := "find", desc := "(III)I" } : Jvm.MethodName)) ∈ lw_tbl := mL3 (List.mem_of_getElem? (i := 229) rfl)
theorem mw_3_230 : (Jvm.Cond.instanceMethod ({ cls := "LinkPredictorModel", name := "find", desc := "(III)I" } : Jvm.MethodName)) ∈ TT := mT (mL3 (List.mem_of_getElem? (i := 230) rfl)) rfl
theorem mw_3_231 : (Jvm.Cond.code ({ cls := "LinkPredictorModel", name := "find", desc := "(III)I" } : Jvm.MethodName) prog_7_method_32_code (9 : Nat) (Option.some Jvm.ClassFile.FieldType.int)) ∈ TT := mT (mL3 (List.mem_of_getElem? (i := 231) rfl)) rfl
theorem mw_3_232 : (Jvm.Cond.methodLink "LinkPredictorModel" (126 : Nat) ({ cls := "LinkPredictorModel", name := "specific", desc := "(III)I" } : Jvm.MethodName)) ∈ TT := mT (mL3 (List.mem_of_getElem? (i := 232) rfl)) rfl
theorem nw_3_233 : (Jvm.Cond.privateMethod ({ cls := "LinkPredictorModel", name := "specific", desc := "(III)I" } : Jvm.MethodName)) ∈ lw_tbl := mL3 (List.mem_of_getElem? (i := 233) rfl)
theorem mw_3_234 : (Jvm.Cond.instanceMethod ({ cls := "LinkPredictorModel", name := "specific", desc := "(III)I" } : Jvm.MethodName)) ∈ TT := mT (mL3 (List.mem_of_getElem? (i := 234) rfl)) rfl
theorem mw_3_235 : (Jvm.Cond.code ({ cls := "LinkPredictorModel", name := "specific", desc := "(III)I" } : Jvm.MethodName) prog_7_method_30_code (10 : Nat) (Option.some Jvm.ClassFile.FieldType.int)) ∈ TT := mT (mL3 (List.mem_of_getElem? (i := 235) rfl)) rfl
theorem mw_3_236 : (Jvm.Cond.methodLink "LinkPredictorModel" (110 : Nat) ({ cls := "LinkPredictorModel", name := "facesOf", desc := "(II)I" } : Jvm.MethodName)) ∈ TT := mT (mL3 (List.mem_of_getElem? (i := 236) rfl)) rfl
theorem nw_3_237 : (Jvm.Cond.privateMethod ({ cls := "LinkPredictorModel", name := "facesOf", desc := "(II)I" } : Jvm.MethodName)) ∈ lw_tbl := mL3 (List.mem_of_getElem? (i := 237) rfl)
theorem mw_3_238 : (Jvm.Cond.instanceMethod ({ cls := "LinkPredictorModel", name := "facesOf", desc := "(II)I" } : Jvm.MethodName)) ∈ TT := mT (mL3 (List.mem_of_getElem? (i := 238) rfl)) rfl
theorem mw_3_239 : (Jvm.Cond.code ({ cls := "LinkPredictorModel", name := "facesOf", desc := "(II)I" } : Jvm.MethodName) prog_7_method_23_code (7 : Nat) (Option.some Jvm.ClassFile.FieldType.int)) ∈ TT := mT (mL3 (List.mem_of_getElem? (i := 239) rfl)) rfl
theorem mw_4_0 : (Jvm.Cond.methodLink "LinkPredictorModel" (107 : Nat) ({ cls := "LinkPredictorModel", name := "aboveOf", desc := "(II)I" } : Jvm.MethodName)) ∈ TT := mT (mL4 (List.mem_of_getElem? (i := 0) rfl)) rfl
theorem nw_4_1 : (Jvm.Cond.privateMethod ({ cls := "LinkPredictorModel", name := "aboveOf", desc := "(II)I" } : Jvm.MethodName)) ∈ lw_tbl := mL4 (List.mem_of_getElem? (i := 1) rfl)
theorem mw_4_2 : (Jvm.Cond.instanceMethod ({ cls := "LinkPredictorModel", name := "aboveOf", desc := "(II)I" } : Jvm.MethodName)) ∈ TT := mT (mL4 (List.mem_of_getElem? (i := 2) rfl)) rfl
theorem mw_4_3 : (Jvm.Cond.code ({ cls := "LinkPredictorModel", name := "aboveOf", desc := "(II)I" } : Jvm.MethodName) prog_7_method_22_code (5 : Nat) (Option.some Jvm.ClassFile.FieldType.int)) ∈ TT := mT (mL4 (List.mem_of_getElem? (i := 3) rfl)) rfl
theorem mw_4_4 : (Jvm.Cond.methodLink "LinkPredictorModel" (123 : Nat) ({ cls := "LinkPredictorModel", name := "offers", desc := "(III)Z" } : Jvm.MethodName)) ∈ TT := mT (mL4 (List.mem_of_getElem? (i := 4) rfl)) rfl
theorem nw_4_5 : (Jvm.Cond.privateMethod ({ cls := "LinkPredictorModel", name := "offers", desc := "(III)Z" } : Jvm.MethodName)) ∈ lw_tbl := mL4 (List.mem_of_getElem? (i := 5) rfl)
theorem mw_4_6 : (Jvm.Cond.instanceMethod ({ cls := "LinkPredictorModel", name := "offers", desc := "(III)Z" } : Jvm.MethodName)) ∈ TT := mT (mL4 (List.mem_of_getElem? (i := 6) rfl)) rfl
theorem mw_4_7 : (Jvm.Cond.code ({ cls := "LinkPredictorModel", name := "offers", desc := "(III)Z" } : Jvm.MethodName) prog_7_method_29_code (5 : Nat) (Option.some Jvm.ClassFile.FieldType.boolean)) ∈ TT := mT (mL4 (List.mem_of_getElem? (i := 7) rfl)) rfl
theorem mw_4_8 : (Jvm.Cond.methodLink "LinkPredictorModel" (116 : Nat) ({ cls := "LinkPredictorModel", name := "under", desc := "(III)Z" } : Jvm.MethodName)) ∈ TT := mT (mL4 (List.mem_of_getElem? (i := 8) rfl)) rfl
theorem nw_4_9 : (Jvm.Cond.privateMethod ({ cls := "LinkPredictorModel", name := "under", desc := "(III)Z" } : Jvm.MethodName)) ∈ lw_tbl := mL4 (List.mem_of_getElem? (i := 9) rfl)
theorem mw_4_10 : (Jvm.Cond.instanceMethod ({ cls := "LinkPredictorModel", name := "under", desc := "(III)Z" } : Jvm.MethodName)) ∈ TT := mT (mL4 (List.mem_of_getElem? (i := 10) rfl)) rfl
theorem mw_4_11 : (Jvm.Cond.code ({ cls := "LinkPredictorModel", name := "under", desc := "(III)Z" } : Jvm.MethodName) prog_7_method_24_code (4 : Nat) (Option.some Jvm.ClassFile.FieldType.boolean)) ∈ TT := mT (mL4 (List.mem_of_getElem? (i := 11) rfl)) rfl
theorem mw_4_12 : (Jvm.Cond.methodLink "LinkPredictorModel" (130 : Nat) ({ cls := "LinkPredictorModel", name := "bodied", desc := "(III)I" } : Jvm.MethodName)) ∈ TT := mT (mL4 (List.mem_of_getElem? (i := 12) rfl)) rfl
theorem nw_4_13 : (Jvm.Cond.privateMethod ({ cls := "LinkPredictorModel", name := "bodied", desc := "(III)I" } : Jvm.MethodName)) ∈ lw_tbl := mL4 (List.mem_of_getElem? (i := 13) rfl)
theorem mw_4_14 : (Jvm.Cond.instanceMethod ({ cls := "LinkPredictorModel", name := "bodied", desc := "(III)I" } : Jvm.MethodName)) ∈ TT := mT (mL4 (List.mem_of_getElem? (i := 14) rfl)) rfl
theorem mw_4_15 : (Jvm.Cond.code ({ cls := "LinkPredictorModel", name := "bodied", desc := "(III)I" } : Jvm.MethodName) prog_7_method_31_code (7 : Nat) (Option.some Jvm.ClassFile.FieldType.int)) ∈ TT := mT (mL4 (List.mem_of_getElem? (i := 15) rfl)) rfl
theorem mw_4_16 : (Jvm.Cond.methodLink "LinkPredictorModel" (139 : Nat) ({ cls := "LinkPredictorModel", name := "isOpen", desc := "(IIII)Z" } : Jvm.MethodName)) ∈ TT := mT (mL4 (List.mem_of_getElem? (i := 16) rfl)) rfl
theorem nw_4_17 : (Jvm.Cond.privateMethod ({ cls := "LinkPredictorModel", name := "isOpen", desc := "(IIII)Z" } : Jvm.MethodName)) ∈ lw_tbl := mL4 (List.mem_of_getElem? (i := 17) rfl)
theorem mw_4_18 : (Jvm.Cond.instanceMethod ({ cls := "LinkPredictorModel", name := "isOpen", desc := "(IIII)Z" } : Jvm.MethodName)) ∈ TT := mT (mL4 (List.mem_of_getElem? (i := 18) rfl)) rfl
theorem mw_4_19 : (Jvm.Cond.code ({ cls := "LinkPredictorModel", name := "isOpen", desc := "(IIII)Z" } : Jvm.MethodName) prog_7_method_26_code (9 : Nat) (Option.some Jvm.ClassFile.FieldType.boolean)) ∈ TT := mT (mL4 (List.mem_of_getElem? (i := 19) rfl)) rfl
theorem mw_4_20 : (Jvm.Cond.methodLink "LinkPredictorModel" (113 : Nat) ({ cls := "LinkPredictorModel", name := "nestOf", desc := "(II)I" } : Jvm.MethodName)) ∈ TT := mT (mL4 (List.mem_of_getElem? (i := 20) rfl)) rfl
theorem nw_4_21 : (Jvm.Cond.privateMethod ({ cls := "LinkPredictorModel", name := "nestOf", desc := "(II)I" } : Jvm.MethodName)) ∈ lw_tbl := mL4 (List.mem_of_getElem? (i := 21) rfl)
theorem mw_4_22 : (Jvm.Cond.instanceMethod ({ cls := "LinkPredictorModel", name := "nestOf", desc := "(II)I" } : Jvm.MethodName)) ∈ TT := mT (mL4 (List.mem_of_getElem? (i := 22) rfl)) rfl
theorem mw_4_23 : (Jvm.Cond.code ({ cls := "LinkPredictorModel", name := "nestOf", desc := "(II)I" } : Jvm.MethodName) prog_7_method_25_code (5 : Nat) (Option.some Jvm.ClassFile.FieldType.int)) ∈ TT := mT (mL4 (List.mem_of_getElem? (i := 23) rfl)) rfl
theorem mw_4_24 : (Jvm.Cond.methodLink "LinkPredictorLaw" (73 : Nat) ({ cls := "LinkPredictorModel", name := "select", desc := "(III)I" } : Jvm.MethodName)) ∈ TT := mT (mL4 (List.mem_of_getElem? (i := 24) rfl)) rfl
theorem mw_4_25 : (Jvm.Cond.instanceMethod ({ cls := "LinkPredictorModel", name := "select", desc := "(III)I" } : Jvm.MethodName)) ∈ TT := mT (mL4 (List.mem_of_getElem? (i := 25) rfl)) rfl
theorem mw_4_26 : (Jvm.Cond.selects "LinkPredictorModel" ({ cls := "LinkPredictorModel", name := "select", desc := "(III)I" } : Jvm.MethodName) ({ cls := "LinkPredictorModel", name := "select", desc := "(III)I" } : Jvm.MethodName)) ∈ TT := mT (mL4 (List.mem_of_getElem? (i := 26) rfl)) rfl
theorem mw_4_27 : (Jvm.Cond.code ({ cls := "LinkPredictorModel", name := "select", desc := "(III)I" } : Jvm.MethodName) prog_7_method_40_code (4 : Nat) (Option.some Jvm.ClassFile.FieldType.int)) ∈ TT := mT (mL4 (List.mem_of_getElem? (i := 27) rfl)) rfl
theorem mw_4_28 : (Jvm.Cond.methodLink "LinkPredictorModel" (155 : Nat) ({ cls := "LinkPredictorModel", name := "selects", desc := "(II)Z" } : Jvm.MethodName)) ∈ TT := mT (mL4 (List.mem_of_getElem? (i := 28) rfl)) rfl
theorem nw_4_29 : (Jvm.Cond.privateMethod ({ cls := "LinkPredictorModel", name := "selects", desc := "(II)Z" } : Jvm.MethodName)) ∈ lw_tbl := mL4 (List.mem_of_getElem? (i := 29) rfl)
theorem mw_4_30 : (Jvm.Cond.instanceMethod ({ cls := "LinkPredictorModel", name := "selects", desc := "(II)Z" } : Jvm.MethodName)) ∈ TT := mT (mL4 (List.mem_of_getElem? (i := 30) rfl)) rfl
theorem mw_4_31 : (Jvm.Cond.code ({ cls := "LinkPredictorModel", name := "selects", desc := "(II)Z" } : Jvm.MethodName) prog_7_method_39_code (3 : Nat) (Option.some Jvm.ClassFile.FieldType.boolean)) ∈ TT := mT (mL4 (List.mem_of_getElem? (i := 31) rfl)) rfl
theorem mw_4_32 : (Jvm.Cond.methodLink "LinkPredictorModel" (158 : Nat) ({ cls := "LinkPredictorModel", name := "selected", desc := "(III)I" } : Jvm.MethodName)) ∈ TT := mT (mL4 (List.mem_of_getElem? (i := 32) rfl)) rfl
theorem nw_4_33 : (Jvm.Cond.privateMethod ({ cls := "LinkPredictorModel", name := "selected", desc := "(III)I" } : Jvm.MethodName)) ∈ lw_tbl := mL4 (List.mem_of_getElem? (i := 33) rfl)
theorem mw_4_34 : (Jvm.Cond.instanceMethod ({ cls := "LinkPredictorModel", name := "selected", desc := "(III)I" } : Jvm.MethodName)) ∈ TT := mT (mL4 (List.mem_of_getElem? (i := 34) rfl)) rfl
theorem mw_4_35 : (Jvm.Cond.code ({ cls := "LinkPredictorModel", name := "selected", desc := "(III)I" } : Jvm.MethodName) prog_7_method_35_code (10 : Nat) (Option.some Jvm.ClassFile.FieldType.int)) ∈ TT := mT (mL4 (List.mem_of_getElem? (i := 35) rfl)) rfl
theorem mw_4_36 : (Jvm.Cond.methodLink "LinkPredictorModel" (146 : Nat) ({ cls := "LinkPredictorModel", name := "isLoaded", desc := "(II)Z" } : Jvm.MethodName)) ∈ TT := mT (mL4 (List.mem_of_getElem? (i := 36) rfl)) rfl
theorem nw_4_37 : (Jvm.Cond.privateMethod ({ cls := "LinkPredictorModel", name := "isLoaded", desc := "(II)Z" } : Jvm.MethodName)) ∈ lw_tbl := mL4 (List.mem_of_getElem? (i := 37) rfl)
theorem mw_4_38 : (Jvm.Cond.instanceMethod ({ cls := "LinkPredictorModel", name := "isLoaded", desc := "(II)Z" } : Jvm.MethodName)) ∈ TT := mT (mL4 (List.mem_of_getElem? (i := 38) rfl)) rfl
theorem mw_4_39 : (Jvm.Cond.code ({ cls := "LinkPredictorModel", name := "isLoaded", desc := "(II)Z" } : Jvm.MethodName) prog_7_method_21_code (3 : Nat) (Option.some Jvm.ClassFile.FieldType.boolean)) ∈ TT := mT (mL4 (List.mem_of_getElem? (i := 39) rfl)) rfl
theorem mw_4_40 : (Jvm.Cond.methodLink "LinkPredictorModel" (149 : Nat) ({ cls := "LinkPredictorModel", name := "overrides", desc := "(III)Z" } : Jvm.MethodName)) ∈ TT := mT (mL4 (List.mem_of_getElem? (i := 40) rfl)) rfl
theorem nw_4_41 : (Jvm.Cond.privateMethod ({ cls := "LinkPredictorModel", name := "overrides", desc := "(III)Z" } : Jvm.MethodName)) ∈ lw_tbl := mL4 (List.mem_of_getElem? (i := 41) rfl)
theorem mw_4_42 : (Jvm.Cond.instanceMethod ({ cls := "LinkPredictorModel", name := "overrides", desc := "(III)Z" } : Jvm.MethodName)) ∈ TT := mT (mL4 (List.mem_of_getElem? (i := 42) rfl)) rfl
theorem mw_4_43 : (Jvm.Cond.code ({ cls := "LinkPredictorModel", name := "overrides", desc := "(III)Z" } : Jvm.MethodName) prog_7_method_34_code (6 : Nat) (Option.some Jvm.ClassFile.FieldType.boolean)) ∈ TT := mT (mL4 (List.mem_of_getElem? (i := 43) rfl)) rfl
theorem mw_4_44 : (Jvm.Cond.methodLink "LinkPredictorLaw" (78 : Nat) ({ cls := "LinkPredictorModel", name := "compare", desc := "(I)I" } : Jvm.MethodName)) ∈ TT := mT (mL4 (List.mem_of_getElem? (i := 44) rfl)) rfl
theorem mw_4_45 : (Jvm.Cond.instanceMethod ({ cls := "LinkPredictorModel", name := "compare", desc := "(I)I" } : Jvm.MethodName)) ∈ TT := mT (mL4 (List.mem_of_getElem? (i := 45) rfl)) rfl
theorem mw_4_46 : (Jvm.Cond.selects "LinkPredictorModel" ({ cls := "LinkPredictorModel", name := "compare", desc := "(I)I" } : Jvm.MethodName) ({ cls := "LinkPredictorModel", name := "compare", desc := "(I)I" } : Jvm.MethodName)) ∈ TT := mT (mL4 (List.mem_of_getElem? (i := 46) rfl)) rfl
theorem mw_4_47 : (Jvm.Cond.code ({ cls := "LinkPredictorModel", name := "compare", desc := "(I)I" } : Jvm.MethodName) prog_7_method_42_code (4 : Nat) (Option.some Jvm.ClassFile.FieldType.int)) ∈ TT := mT (mL4 (List.mem_of_getElem? (i := 47) rfl)) rfl
theorem mw_4_48 : (Jvm.Cond.methodLink "LinkPredictorModel" (161 : Nat) ({ cls := "LinkPredictorModel", name := "areAlike", desc := "(II)Z" } : Jvm.MethodName)) ∈ TT := mT (mL4 (List.mem_of_getElem? (i := 48) rfl)) rfl
theorem nw_4_49 : (Jvm.Cond.privateMethod ({ cls := "LinkPredictorModel", name := "areAlike", desc := "(II)Z" } : Jvm.MethodName)) ∈ lw_tbl := mL4 (List.mem_of_getElem? (i := 49) rfl)
theorem mw_4_50 : (Jvm.Cond.instanceMethod ({ cls := "LinkPredictorModel", name := "areAlike", desc := "(II)Z" } : Jvm.MethodName)) ∈ TT := mT (mL4 (List.mem_of_getElem? (i := 50) rfl)) rfl
theorem mw_4_51 : (Jvm.Cond.code ({ cls := "LinkPredictorModel", name := "areAlike", desc := "(II)Z" } : Jvm.MethodName) prog_7_method_41_code (7 : Nat) (Option.some Jvm.ClassFile.FieldType.boolean)) ∈ TT := mT (mL4 (List.mem_of_getElem? (i := 51) rfl)) rfl
theorem mw_4_52 : (Jvm.Cond.methodLink "LinkPredictorLaw" (82 : Nat) ({ cls := "LinkPredictorModel", name := "receivers", desc := "(II)I" } : Jvm.MethodName)) ∈ TT := mT (mL4 (List.mem_of_getElem? (i := 52) rfl)) rfl
theorem mw_4_53 : (Jvm.Cond.instanceMethod ({ cls := "LinkPredictorModel", name := "receivers", desc := "(II)I" } : Jvm.MethodName)) ∈ TT := mT (mL4 (List.mem_of_getElem? (i := 53) rfl)) rfl
theorem mw_4_54 : (Jvm.Cond.selects "LinkPredictorModel" ({ cls := "LinkPredictorModel", name := "receivers", desc := "(II)I" } : Jvm.MethodName) ({ cls := "LinkPredictorModel", name := "receivers", desc := "(II)I" } : Jvm.MethodName)) ∈ TT := mT (mL4 (List.mem_of_getElem? (i := 54) rfl)) rfl
theorem mw_4_55 : (Jvm.Cond.code ({ cls := "LinkPredictorModel", name := "receivers", desc := "(II)I" } : Jvm.MethodName) prog_7_method_43_code (9 : Nat) (Option.some Jvm.ClassFile.FieldType.int)) ∈ TT := mT (mL4 (List.mem_of_getElem? (i := 55) rfl)) rfl
theorem mw_4_56 : (Jvm.Cond.methodLink "LinkPredictorLaw" (86 : Nat) ({ cls := "LinkPredictorModel", name := "isUnder", desc := "(III)Z" } : Jvm.MethodName)) ∈ TT := mT (mL4 (List.mem_of_getElem? (i := 56) rfl)) rfl
theorem mw_4_57 : (Jvm.Cond.instanceMethod ({ cls := "LinkPredictorModel", name := "isUnder", desc := "(III)Z" } : Jvm.MethodName)) ∈ TT := mT (mL4 (List.mem_of_getElem? (i := 57) rfl)) rfl
theorem mw_4_58 : (Jvm.Cond.selects "LinkPredictorModel" ({ cls := "LinkPredictorModel", name := "isUnder", desc := "(III)Z" } : Jvm.MethodName) ({ cls := "LinkPredictorModel", name := "isUnder", desc := "(III)Z" } : Jvm.MethodName)) ∈ TT := mT (mL4 (List.mem_of_getElem? (i := 58) rfl)) rfl
theorem mw_4_59 : (Jvm.Cond.code ({ cls := "LinkPredictorModel", name := "isUnder", desc := "(III)Z" } : Jvm.MethodName) prog_7_method_44_code (4 : Nat) (Option.some Jvm.ClassFile.FieldType.boolean)) ∈ TT := mT (mL4 (List.mem_of_getElem? (i := 59) rfl)) rfl
theorem mw_4_60 : (Jvm.Cond.methodLink "LinkPredictorLaw" (90 : Nat) ({ cls := "LinkPredictorModel", name := "count", desc := "(II)I" } : Jvm.MethodName)) ∈ TT := mT (mL4 (List.mem_of_getElem? (i := 60) rfl)) rfl
theorem mw_4_61 : (Jvm.Cond.instanceMethod ({ cls := "LinkPredictorModel", name := "count", desc := "(II)I" } : Jvm.MethodName)) ∈ TT := mT (mL4 (List.mem_of_getElem? (i := 61) rfl)) rfl
theorem mw_4_62 : (Jvm.Cond.selects "LinkPredictorModel" ({ cls := "LinkPredictorModel", name := "count", desc := "(II)I" } : Jvm.MethodName) ({ cls := "LinkPredictorModel", name := "count", desc := "(II)I" } : Jvm.MethodName)) ∈ TT := mT (mL4 (List.mem_of_getElem? (i := 62) rfl)) rfl
theorem mw_4_63 : (Jvm.Cond.code ({ cls := "LinkPredictorModel", name := "count", desc := "(II)I" } : Jvm.MethodName) prog_7_method_46_code (5 : Nat) (Option.some Jvm.ClassFile.FieldType.int)) ∈ TT := mT (mL4 (List.mem_of_getElem? (i := 63) rfl)) rfl
theorem mw_4_64 : (Jvm.Cond.methodLink "LinkPredictorModel" (164 : Nat) ({ cls := "LinkPredictorModel", name := "neighbours", desc := "(I)I" } : Jvm.MethodName)) ∈ TT := mT (mL4 (List.mem_of_getElem? (i := 64) rfl)) rfl
theorem nw_4_65 : (Jvm.Cond.privateMethod ({ cls := "LinkPredictorModel", name := "neighbours", desc := "(I)I" } : Jvm.MethodName)) ∈ lw_tbl := mL4 (List.mem_of_getElem? (i := 65) rfl)
theorem mw_4_66 : (Jvm.Cond.instanceMethod ({ cls := "LinkPredictorModel", name := "neighbours", desc := "(I)I" } : Jvm.MethodName)) ∈ TT := mT (mL4 (List.mem_of_getElem? (i := 66) rfl)) rfl
theorem mw_4_67 : (Jvm.Cond.code ({ cls := "LinkPredictorModel", name := "neighbours", desc := "(I)I" } : Jvm.MethodName) prog_7_method_45_code (5 : Nat) (Option.some Jvm.ClassFile.FieldType.int)) ∈ TT := mT (mL4 (List.mem_of_getElem? (i := 67) rfl)) rfl
theorem ms_0 : Cond.selects "LinkPredictor$Hierarchy" ⟨"LinkPredictor$Hierarchy", "settle", "()V"⟩ ⟨"LinkPredictor$Hierarchy", "settle", "()V"⟩ ∈ TT := mTs (List.mem_of_getElem? (i := 0) rfl) rfl
theorem ms_1 : Cond.selects "LinkPredictor$Hierarchy" ⟨"LinkPredictor$Hierarchy", "loadInside", "(II)I"⟩ ⟨"LinkPredictor$Hierarchy", "loadInside", "(II)I"⟩ ∈ TT := mTs (List.mem_of_getElem? (i := 1) rfl) rfl
theorem ms_2 : Cond.selects "LinkPredictor$Hierarchy" ⟨"LinkPredictor$Hierarchy", "loadParents", "(II)I"⟩ ⟨"LinkPredictor$Hierarchy", "loadParents", "(II)I"⟩ ∈ TT := mTs (List.mem_of_getElem? (i := 2) rfl) rfl
theorem ms_3 : Cond.selects "LinkPredictor$Hierarchy" ⟨"LinkPredictor$Hierarchy", "hasWrongParents", "(I)Z"⟩ ⟨"LinkPredictor$Hierarchy", "hasWrongParents", "(I)Z"⟩ ∈ TT := mTs (List.mem_of_getElem? (i := 3) rfl) rfl
theorem ms_4 : Cond.selects "LinkPredictor$Hierarchy" ⟨"LinkPredictor$Hierarchy", "gatherSets", "(I)V"⟩ ⟨"LinkPredictor$Hierarchy", "gatherSets", "(I)V"⟩ ∈ TT := mTs (List.mem_of_getElem? (i := 4) rfl) rfl
theorem ms_5 : Cond.selects "LinkPredictor$Members" ⟨"LinkPredictor$Members", "isPresent", "(I)Z"⟩ ⟨"LinkPredictor$Members", "isPresent", "(I)Z"⟩ ∈ TT := mTs (List.mem_of_getElem? (i := 5) rfl) rfl
theorem ms_6 : Cond.selects "LinkPredictor$Build" ⟨"LinkPredictor$Build", "lookUpField", "(LLinkPredictor$Reference;)I"⟩ ⟨"LinkPredictor$Build", "lookUpField", "(LLinkPredictor$Reference;)I"⟩ ∈ TT := mTs (List.mem_of_getElem? (i := 6) rfl) rfl
theorem ms_7 : Cond.selects "LinkPredictor$Build" ⟨"LinkPredictor$Build", "findField", "(II)I"⟩ ⟨"LinkPredictor$Build", "findField", "(II)I"⟩ ∈ TT := mTs (List.mem_of_getElem? (i := 7) rfl) rfl
theorem ms_8 : Cond.selects "LinkPredictor$Build" ⟨"LinkPredictor$Build", "lookUpMethod", "(LLinkPredictor$Reference;)I"⟩ ⟨"LinkPredictor$Build", "lookUpMethod", "(LLinkPredictor$Reference;)I"⟩ ∈ TT := mTs (List.mem_of_getElem? (i := 8) rfl) rfl
theorem ms_9 : Cond.selects "LinkPredictor$Build" ⟨"LinkPredictor$Build", "findInInterface", "(II)I"⟩ ⟨"LinkPredictor$Build", "findInInterface", "(II)I"⟩ ∈ TT := mTs (List.mem_of_getElem? (i := 9) rfl) rfl
theorem ms_10 : Cond.selects "LinkPredictor$Build" ⟨"LinkPredictor$Build", "findInAbove", "(II)I"⟩ ⟨"LinkPredictor$Build", "findInAbove", "(II)I"⟩ ∈ TT := mTs (List.mem_of_getElem? (i := 10) rfl) rfl
theorem ms_11 : Cond.selects "LinkPredictor$Build" ⟨"LinkPredictor$Build", "findBest", "(II)I"⟩ ⟨"LinkPredictor$Build", "findBest", "(II)I"⟩ ∈ TT := mTs (List.mem_of_getElem? (i := 11) rfl) rfl
theorem ms_12 : Cond.selects "LinkPredictor$Build" ⟨"LinkPredictor$Build", "findOnlyWithBody", "(II)I"⟩ ⟨"LinkPredictor$Build", "findOnlyWithBody", "(II)I"⟩ ∈ TT := mTs (List.mem_of_getElem? (i := 12) rfl) rfl
theorem ms_13 : Cond.selects "LinkPredictor$Build" ⟨"LinkPredictor$Build", "findLeast", "(II)I"⟩ ⟨"LinkPredictor$Build", "findLeast", "(II)I"⟩ ∈ TT := mTs (List.mem_of_getElem? (i := 13) rfl) rfl
theorem ms_14 : Cond.selects "LinkPredictor$Build" ⟨"LinkPredictor$Build", "checkMember", "(LLinkPredictor$Reference;I)I"⟩ ⟨"LinkPredictor$Build", "checkMember", "(LLinkPredictor$Reference;I)I"⟩ ∈ TT := mTs (List.mem_of_getElem? (i := 14) rfl) rfl
theorem ms_15 : Cond.selects "LinkPredictor$Build" ⟨"LinkPredictor$Build", "isAccessible", "(III)Z"⟩ ⟨"LinkPredictor$Build", "isAccessible", "(III)Z"⟩ ∈ TT := mTs (List.mem_of_getElem? (i := 15) rfl) rfl
theorem ms_16 : Cond.selects "LinkPredictor$Build" ⟨"LinkPredictor$Build", "isInherited", "(III)Z"⟩ ⟨"LinkPredictor$Build", "isInherited", "(III)Z"⟩ ∈ TT := mTs (List.mem_of_getElem? (i := 16) rfl) rfl
theorem ms_17 : Cond.selects "LinkPredictor$Build" ⟨"LinkPredictor$Build", "isFit", "(II)Z"⟩ ⟨"LinkPredictor$Build", "isFit", "(II)Z"⟩ ∈ TT := mTs (List.mem_of_getElem? (i := 17) rfl) rfl
theorem ms_18 : Cond.selects "LinkPredictor$Build" ⟨"LinkPredictor$Build", "selectFor", "(III)I"⟩ ⟨"LinkPredictor$Build", "selectFor", "(III)I"⟩ ∈ TT := mTs (List.mem_of_getElem? (i := 18) rfl) rfl
theorem ms_19 : Cond.selects "LinkPredictor$Build" ⟨"LinkPredictor$Build", "overrides", "(II)Z"⟩ ⟨"LinkPredictor$Build", "overrides", "(II)Z"⟩ ∈ TT := mTs (List.mem_of_getElem? (i := 19) rfl) rfl
theorem ms_20 : Cond.selects "LinkPredictor$Build" ⟨"LinkPredictor$Build", "selectFromFaces", "(II)I"⟩ ⟨"LinkPredictor$Build", "selectFromFaces", "(II)I"⟩ ∈ TT := mTs (List.mem_of_getElem? (i := 20) rfl) rfl
theorem ms_21 : Cond.selects "LinkPredictor$Build" ⟨"LinkPredictor$Build", "checkSelected", "(LLinkPredictor$Reference;I)I"⟩ ⟨"LinkPredictor$Build", "checkSelected", "(LLinkPredictor$Reference;I)I"⟩ ∈ TT := mTs (List.mem_of_getElem? (i := 21) rfl) rfl
theorem ms_22 : Cond.selects "LinkPredictor" ⟨"LinkPredictor", "areAlike", "(II)Z"⟩ ⟨"LinkPredictor", "areAlike", "(II)Z"⟩ ∈ TT := mTs (List.mem_of_getElem? (i := 22) rfl) rfl
theorem ms_23 : Cond.selects "LinkPredictor" ⟨"LinkPredictor", "isSuchReceiver", "(III)Z"⟩ ⟨"LinkPredictor", "isSuchReceiver", "(III)Z"⟩ ∈ TT := mTs (List.mem_of_getElem? (i := 23) rfl) rfl
theorem ms_24 : Cond.selects "LinkPredictor" ⟨"LinkPredictor", "countGoodReferences", "(LLinkPredictor$Build;)I"⟩ ⟨"LinkPredictor", "countGoodReferences", "(LLinkPredictor$Build;)I"⟩ ∈ TT := mTs (List.mem_of_getElem? (i := 24) rfl) rfl
theorem ms_25 : Cond.selects "LinkPredictorModel" ⟨"LinkPredictorModel", "at", "(I)I"⟩ ⟨"LinkPredictorModel", "at", "(I)I"⟩ ∈ TT := mTs (List.mem_of_getElem? (i := 25) rfl) rfl
theorem ms_26 : Cond.selects "LinkPredictorModel" ⟨"LinkPredictorModel", "isThere", "(I)Z"⟩ ⟨"LinkPredictorModel", "isThere", "(I)Z"⟩ ∈ TT := mTs (List.mem_of_getElem? (i := 26) rfl) rfl
theorem ms_27 : Cond.selects "LinkPredictorModel" ⟨"LinkPredictorModel", "own", "(IIZI)I"⟩ ⟨"LinkPredictorModel", "own", "(IIZI)I"⟩ ∈ TT := mTs (List.mem_of_getElem? (i := 27) rfl) rfl
theorem ms_28 : Cond.selects "LinkPredictorModel" ⟨"LinkPredictorModel", "isMember", "(I)Z"⟩ ⟨"LinkPredictorModel", "isMember", "(I)Z"⟩ ∈ TT := mTs (List.mem_of_getElem? (i := 28) rfl) rfl
theorem ms_29 : Cond.selects "LinkPredictorModel" ⟨"LinkPredictorModel", "loaded", "(II)I"⟩ ⟨"LinkPredictorModel", "loaded", "(II)I"⟩ ∈ TT := mTs (List.mem_of_getElem? (i := 29) rfl) rfl
theorem ms_30 : Cond.selects "LinkPredictorModel" ⟨"LinkPredictorModel", "isChanged", "(II)Z"⟩ ⟨"LinkPredictorModel", "isChanged", "(II)Z"⟩ ∈ TT := mTs (List.mem_of_getElem? (i := 30) rfl) rfl
theorem ms_31 : Cond.selects "LinkPredictorModel" ⟨"LinkPredictorModel", "isAsk", "(II)Z"⟩ ⟨"LinkPredictorModel", "isAsk", "(II)Z"⟩ ∈ TT := mTs (List.mem_of_getElem? (i := 31) rfl) rfl
theorem ms_32 : Cond.selects "LinkPredictorModel" ⟨"LinkPredictorModel", "resolved", "(II)I"⟩ ⟨"LinkPredictorModel", "resolved", "(II)I"⟩ ∈ TT := mTs (List.mem_of_getElem? (i := 32) rfl) rfl
theorem ms_33 : Cond.selects "LinkPredictorModel" ⟨"LinkPredictorModel", "field", "(III)I"⟩ ⟨"LinkPredictorModel", "field", "(III)I"⟩ ∈ TT := mTs (List.mem_of_getElem? (i := 33) rfl) rfl
theorem ms_34 : Cond.selects "LinkPredictorModel" ⟨"LinkPredictorModel", "lay", "(II)I"⟩ ⟨"LinkPredictorModel", "lay", "(II)I"⟩ ∈ TT := mTs (List.mem_of_getElem? (i := 34) rfl) rfl
theorem ms_35 : Cond.selects "LinkPredictorModel" ⟨"LinkPredictorModel", "find", "(III)I"⟩ ⟨"LinkPredictorModel", "find", "(III)I"⟩ ∈ TT := mTs (List.mem_of_getElem? (i := 35) rfl) rfl
theorem ms_36 : Cond.selects "LinkPredictorModel" ⟨"LinkPredictorModel", "specific", "(III)I"⟩ ⟨"LinkPredictorModel", "specific", "(III)I"⟩ ∈ TT := mTs (List.mem_of_getElem? (i := 36) rfl) rfl
theorem ms_37 : Cond.selects "LinkPredictorModel" ⟨"LinkPredictorModel", "facesOf", "(II)I"⟩ ⟨"LinkPredictorModel", "facesOf", "(II)I"⟩ ∈ TT := mTs (List.mem_of_getElem? (i := 37) rfl) rfl
theorem ms_38 : Cond.selects "LinkPredictorModel" ⟨"LinkPredictorModel", "aboveOf", "(II)I"⟩ ⟨"LinkPredictorModel", "aboveOf", "(II)I"⟩ ∈ TT := mTs (List.mem_of_getElem? (i := 38) rfl) rfl
theorem ms_39 : Cond.selects "LinkPredictorModel" ⟨"LinkPredictorModel", "offers", "(III)Z"⟩ ⟨"LinkPredictorModel", "offers", "(III)Z"⟩ ∈ TT := mTs (List.mem_of_getElem? (i := 39) rfl) rfl
theorem ms_40 : Cond.selects "LinkPredictorModel" ⟨"LinkPredictorModel", "under", "(III)Z"⟩ ⟨"LinkPredictorModel", "under", "(III)Z"⟩ ∈ TT := mTs (List.mem_of_getElem? (i := 40) rfl) rfl
theorem ms_41 : Cond.selects "LinkPredictorModel" ⟨"LinkPredictorModel", "bodied", "(III)I"⟩ ⟨"LinkPredictorModel", "bodied", "(III)I"⟩ ∈ TT := mTs (List.mem_of_getElem? (i := 41) rfl) rfl
theorem ms_42 : Cond.selects "LinkPredictorModel" ⟨"LinkPredictorModel", "isOpen", "(IIII)Z"⟩ ⟨"LinkPredictorModel", "isOpen", "(IIII)Z"⟩ ∈ TT := mTs (List.mem_of_getElem? (i := 42) rfl) rfl
theorem ms_43 : Cond.selects "LinkPredictorModel" ⟨"LinkPredictorModel", "nestOf", "(II)I"⟩ ⟨"LinkPredictorModel", "nestOf", "(II)I"⟩ ∈ TT := mTs (List.mem_of_getElem? (i := 43) rfl) rfl
theorem ms_44 : Cond.selects "LinkPredictorModel" ⟨"LinkPredictorModel", "selects", "(II)Z"⟩ ⟨"LinkPredictorModel", "selects", "(II)Z"⟩ ∈ TT := mTs (List.mem_of_getElem? (i := 44) rfl) rfl
theorem ms_45 : Cond.selects "LinkPredictorModel" ⟨"LinkPredictorModel", "selected", "(III)I"⟩ ⟨"LinkPredictorModel", "selected", "(III)I"⟩ ∈ TT := mTs (List.mem_of_getElem? (i := 45) rfl) rfl
theorem ms_46 : Cond.selects "LinkPredictorModel" ⟨"LinkPredictorModel", "isLoaded", "(II)Z"⟩ ⟨"LinkPredictorModel", "isLoaded", "(II)Z"⟩ ∈ TT := mTs (List.mem_of_getElem? (i := 46) rfl) rfl
theorem ms_47 : Cond.selects "LinkPredictorModel" ⟨"LinkPredictorModel", "overrides", "(III)Z"⟩ ⟨"LinkPredictorModel", "overrides", "(III)Z"⟩ ∈ TT := mTs (List.mem_of_getElem? (i := 47) rfl) rfl
theorem ms_48 : Cond.selects "LinkPredictorModel" ⟨"LinkPredictorModel", "areAlike", "(II)Z"⟩ ⟨"LinkPredictorModel", "areAlike", "(II)Z"⟩ ∈ TT := mTs (List.mem_of_getElem? (i := 48) rfl) rfl
theorem ms_49 : Cond.selects "LinkPredictorModel" ⟨"LinkPredictorModel", "neighbours", "(I)I"⟩ ⟨"LinkPredictorModel", "neighbours", "(I)I"⟩ ∈ TT := mTs (List.mem_of_getElem? (i := 49) rfl) rfl
def wsX4_bit : List Cond := .code yX4_bit cX4_bit 1 (some .int) :: TT
def wsX4_contains : List Cond := .code yX4_contains cX4_contains 2 (some .boolean) :: TT
def wsX1_isThere : List Cond := .code yX1_isThere cX1_isThere 2 (some .boolean) :: TT
def wsX4_isWithin : List Cond := .code yX4_isWithin cX4_isWithin 2 (some .boolean) :: TT
def wsX4_isGood : List Cond := .code yX4_isGood cX4_isGood 1 (some .boolean) :: TT
def wsX1_isInterface : List Cond := .code yX1_isInterface cX1_isInterface 2 (some .boolean) :: TT
def wsX1_hasWrongParents : List Cond := .code yX1_hasWrongParents cX1_hasWrongParents 4 (some .boolean) :: TT
def wsX1_gatherSets : List Cond := .code yX1_gatherSets cX1_gatherSets 5 none :: TT
def wsX1_loadInside : List Cond := .code yX1_loadInside cX1_loadInside 4 (some .int) :: TT
def wsX1_loadParents : List Cond := .code yX1_loadParents cX1_loadParents 5 (some .int) :: TT
def wsX1_settle : List Cond := .code yX1_settle cX1_settle 2 none :: TT
def wsX1_init : List Cond := .code yX1_init cX1_init 1 none :: TT
def wsX2_init : List Cond := .code yX2_init cX2_init 1 none :: TT
def wsX0_init : List Cond := .code yX0_init cX0_init 1 none :: TT
def wsX1_takeAway : List Cond := .code yX1_takeAway cX1_takeAway 2 (some .boolean) :: TT
def wsX2_discardAllOf : List Cond := .code yX2_discardAllOf cX2_discardAllOf 3 none :: TT
def wsX0_discardType : List Cond := .code yX0_discardType cX0_discardType 2 (some .boolean) :: TT
def wsX2_keyOf : List Cond := .code yX2_keyOf cX2_keyOf 2 (some .int) :: TT
def wsX2_find : List Cond := .code yX2_find cX2_find 6 (some .int) :: TT
def wsX2_append : List Cond := .code yX2_append cX2_append 7 (some .int) :: TT
def wsX0_addMember : List Cond := .code yX0_addMember cX0_addMember 6 (some .int) :: TT
def wsX1_becomeAs : List Cond := .code yX1_becomeAs cX1_becomeAs 2 none :: TT
def wsX2_becomeAs : List Cond := .code yX2_becomeAs cX2_becomeAs 2 none :: TT
def wsX0_becomeAs : List Cond := .code yX0_becomeAs cX0_becomeAs 2 none :: TT
def wsX1_loading : List Cond := .code yX1_loading cX1_loading 2 (some .int) :: TT
def wsX1_isSamePackage : List Cond := .code yX1_isSamePackage cX1_isSamePackage 3 (some .boolean) :: TT
def wsX1_reaching : List Cond := .code yX1_reaching cX1_reaching 4 (some .int) :: TT
def wsX3_isOfField : List Cond := .code yX3_isOfField cX3_isOfField 1 (some .boolean) :: TT
def wsX1_directFacesOf : List Cond := .code yX1_directFacesOf cX1_directFacesOf 2 (some .int) :: TT
def wsX1_superOf : List Cond := .code yX1_superOf cX1_superOf 2 (some .int) :: TT
def wsX0_findField : List Cond := .code yX0_findField cX0_findField 5 (some .int) :: TT
def wsX0_lookUpField : List Cond := .code yX0_lookUpField cX0_lookUpField 3 (some .int) :: TT
def wsX2_accessOf : List Cond := .code yX2_accessOf cX2_accessOf 2 (some .int) :: TT
def wsX2_isStatic : List Cond := .code yX2_isStatic cX2_isStatic 2 (some .boolean) :: TT
def wsX0_findInInterface : List Cond := .code yX0_findInInterface cX0_findInInterface 5 (some .int) :: TT
def wsX0_findInAbove : List Cond := .code yX0_findInAbove cX0_findInAbove 6 (some .int) :: TT
def wsX1_facesOf : List Cond := .code yX1_facesOf cX1_facesOf 2 (some .int) :: TT
def wsX2_isInheritable : List Cond := .code yX2_isInheritable cX2_isInheritable 2 (some .boolean) :: TT
def wsX2_ownersOfInheritable : List Cond := .code yX2_ownersOfInheritable cX2_ownersOfInheritable 5 (some .int) :: TT
def wsX1_mostSpecificOf : List Cond := .code yX1_mostSpecificOf cX1_mostSpecificOf 4 (some .int) :: TT
def wsX2_isAbstract : List Cond := .code yX2_isAbstract cX2_isAbstract 2 (some .boolean) :: TT
def wsX0_findOnlyWithBody : List Cond := .code yX0_findOnlyWithBody cX0_findOnlyWithBody 6 (some .int) :: TT
def wsX0_findLeast : List Cond := .code yX0_findLeast cX0_findLeast 6 (some .int) :: TT
def wsX0_findBest : List Cond := .code yX0_findBest cX0_findBest 5 (some .int) :: TT
def wsX0_lookUpMethod : List Cond := .code yX0_lookUpMethod cX0_lookUpMethod 4 (some .int) :: TT
def wsX2_ownerOf : List Cond := .code yX2_ownerOf cX2_ownerOf 2 (some .int) :: TT
def wsX1_hasAbove : List Cond := .code yX1_hasAbove cX1_hasAbove 3 (some .boolean) :: TT
def wsX1_liesUnder : List Cond := .code yX1_liesUnder cX1_liesUnder 3 (some .boolean) :: TT
def wsX0_isInherited : List Cond := .code yX0_isInherited cX0_isInherited 4 (some .boolean) :: TT
def wsX1_nestOf : List Cond := .code yX1_nestOf cX1_nestOf 3 (some .int) :: TT
def wsX0_isAccessible : List Cond := .code yX0_isAccessible cX0_isAccessible 5 (some .boolean) :: TT
def wsX3_needsStatic : List Cond := .code yX3_needsStatic cX3_needsStatic 1 (some .boolean) :: TT
def wsX3_isPut : List Cond := .code yX3_isPut cX3_isPut 1 (some .boolean) :: TT
def wsX2_isFinal : List Cond := .code yX2_isFinal cX2_isFinal 2 (some .boolean) :: TT
def wsX0_checkMember : List Cond := .code yX0_checkMember cX0_checkMember 3 (some .int) :: TT
def wsX0_resolution : List Cond := .code yX0_resolution cX0_resolution 3 (some .int) :: TT
def wsX3_hasReceiver : List Cond := .code yX3_hasReceiver cX3_hasReceiver 1 (some .boolean) :: TT
def wsX1_canBeMade : List Cond := .code yX1_canBeMade cX1_canBeMade 2 (some .boolean) :: TT
def wsX0_isFit : List Cond := .code yX0_isFit cX0_isFit 3 (some .boolean) :: TT
def wsX0_overrides : List Cond := .code yX0_overrides cX0_overrides 3 (some .boolean) :: TT
def wsX0_selectFromFaces : List Cond := .code yX0_selectFromFaces cX0_selectFromFaces 5 (some .int) :: TT
def wsX0_selectFor : List Cond := .code yX0_selectFor cX0_selectFor 7 (some .int) :: TT
def wsX0_checkSelected : List Cond := .code yX0_checkSelected cX0_checkSelected 4 (some .int) :: TT
def wsX0_selection : List Cond := .code yX0_selection cX0_selection 6 (some .int) :: TT
def wsX1_define : List Cond := .code yX1_define cX1_define 6 none :: TT
def wsX1_putHost : List Cond := .code yX1_putHost cX1_putHost 3 (some .boolean) :: TT
def wsJ6_bitCount_0f7a4 : List Cond := .code yJ6_bitCount_0f7a4 cJ6_bitCount_0f7a4 1 (some .int) :: TT
def wsX1_countThere : List Cond := .code yX1_countThere cX1_countThere 1 (some .int) :: TT
def wsX1_countLoaded : List Cond := .code yX1_countLoaded cX1_countLoaded 1 (some .int) :: TT
def wsX1_nestSharers : List Cond := .code yX1_nestSharers cX1_nestSharers 4 (some .int) :: TT
def wsX2_isPresent : List Cond := .code yX2_isPresent cX2_isPresent 2 (some .boolean) :: TT
def wsX2_change : List Cond := .code yX2_change cX2_change 4 (some .boolean) :: TT
def wsX2_discard : List Cond := .code yX2_discard cX2_discard 2 (some .boolean) :: TT
def wsX2_isSameThing : List Cond := .code yX2_isSameThing cX2_isSameThing 4 (some .boolean) :: TT
def wsX2_countAll : List Cond := .code yX2_countAll cX2_countAll 1 (some .int) :: TT
def wsX2_countPresent : List Cond := .code yX2_countPresent cX2_countPresent 1 (some .int) :: TT
def wsX2_countAbstractMethods : List Cond := .code yX2_countAbstractMethods cX2_countAbstractMethods 3 (some .int) :: TT
def wsX3_init : List Cond := .code yX3_init cX3_init 1 none :: TT
def wsX3_put : List Cond := .code yX3_put cX3_put 5 none :: TT
def wsX4_init : List Cond := .code yX4_init cX4_init 2 none :: TT
def wsX4_isOrdinaryType : List Cond := .code yX4_isOrdinaryType cX4_isOrdinaryType 1 (some .boolean) :: TT
def wsX4_type : List Cond := .code yX4_type cX4_type 6 (some .boolean) :: TT
def wsX4_nest : List Cond := .code yX4_nest cX4_nest 3 (some .boolean) :: TT
def wsX4_drop : List Cond := .code yX4_drop cX4_drop 2 (some .boolean) :: TT
def wsX4_member : List Cond := .code yX4_member cX4_member 6 (some .int) :: TT
def wsX4_remake : List Cond := .code yX4_remake cX4_remake 4 (some .boolean) :: TT
def wsX4_remove : List Cond := .code yX4_remove cX4_remove 2 (some .boolean) :: TT
def wsX4_branch : List Cond := .code yX4_branch cX4_branch 1 (some .int) :: TT
def wsX4_write : List Cond := .code yX4_write cX4_write 2 (some .boolean) :: TT
def wsX4_refer : List Cond := .code yX4_refer cX4_refer 5 (some .int) :: TT
def wsX4_forget : List Cond := .code yX4_forget cX4_forget 2 (some .int) :: TT
def wsX4_load : List Cond := .code yX4_load cX4_load 3 (some .int) :: TT
def wsX4_resolve : List Cond := .code yX4_resolve cX4_resolve 3 (some .int) :: TT
def wsX4_select : List Cond := .code yX4_select cX4_select 5 (some .int) :: TT
def wsX4_areAlike : List Cond := .code yX4_areAlike cX4_areAlike 5 (some .boolean) :: TT
def wsX4_compare : List Cond := .code yX4_compare cX4_compare 4 (some .int) :: TT
def wsX4_isSuchReceiver : List Cond := .code yX4_isSuchReceiver cX4_isSuchReceiver 4 (some .boolean) :: TT
def wsX4_receivers : List Cond := .code yX4_receivers cX4_receivers 10 (some .int) :: TT
def wsX4_isUnder : List Cond := .code yX4_isUnder cX4_isUnder 5 (some .boolean) :: TT
def wsX4_countGoodReferences : List Cond := .code yX4_countGoodReferences cX4_countGoodReferences 4 (some .int) :: TT
def wsX4_count : List Cond := .code yX4_count cX4_count 4 (some .int) :: TT
def wsX5_init : List Cond := .code yX5_init cX5_init 3 none :: TT
def wsX5_in : List Cond := .code yX5_in cX5_in 2 (some .boolean) :: TT
def wsX5_has : List Cond := .code yX5_has cX5_has 2 (some .boolean) :: TT
def wsX5_at : List Cond := .code yX5_at cX5_at 2 (some .int) :: TT
def wsX5_isThere : List Cond := .code yX5_isThere cX5_isThere 2 (some .boolean) :: TT
def wsX5_type : List Cond := .code yX5_type cX5_type 7 (some .boolean) :: TT
def wsX5_nest : List Cond := .code yX5_nest cX5_nest 3 (some .boolean) :: TT
def wsX5_drop : List Cond := .code yX5_drop cX5_drop 3 (some .boolean) :: TT
def wsX5_own : List Cond := .code yX5_own cX5_own 7 (some .int) :: TT
def wsX5_member : List Cond := .code yX5_member cX5_member 7 (some .int) :: TT
def wsX5_isMember : List Cond := .code yX5_isMember cX5_isMember 2 (some .boolean) :: TT
def wsX5_remake : List Cond := .code yX5_remake cX5_remake 4 (some .boolean) :: TT
def wsX5_remove : List Cond := .code yX5_remove cX5_remove 2 (some .boolean) :: TT
def wsX5_branch : List Cond := .code yX5_branch cX5_branch 3 (some .int) :: TT
def wsX5_write : List Cond := .code yX5_write cX5_write 2 (some .boolean) :: TT
def wsX5_refer : List Cond := .code yX5_refer cX5_refer 5 (some .int) :: TT
def wsX5_forget : List Cond := .code yX5_forget cX5_forget 2 (some .int) :: TT
def wsX5_verdict : List Cond := .code yX5_verdict cX5_verdict 2 (some .int) :: TT
def wsX5_isChanged : List Cond := .code yX5_isChanged cX5_isChanged 6 (some .boolean) :: TT
def wsX5_loaded : List Cond := .code yX5_loaded cX5_loaded 10 (some .int) :: TT
def wsX5_isLoaded : List Cond := .code yX5_isLoaded cX5_isLoaded 3 (some .boolean) :: TT
def wsX5_aboveOf : List Cond := .code yX5_aboveOf cX5_aboveOf 5 (some .int) :: TT
def wsX5_facesOf : List Cond := .code yX5_facesOf cX5_facesOf 7 (some .int) :: TT
def wsX5_under : List Cond := .code yX5_under cX5_under 4 (some .boolean) :: TT
def wsX5_nestOf : List Cond := .code yX5_nestOf cX5_nestOf 5 (some .int) :: TT
def wsX5_isOpen : List Cond := .code yX5_isOpen cX5_isOpen 9 (some .boolean) :: TT
def wsX5_lay : List Cond := .code yX5_lay cX5_lay 5 (some .int) :: TT
def wsX5_field : List Cond := .code yX5_field cX5_field 10 (some .int) :: TT
def wsX5_offers : List Cond := .code yX5_offers cX5_offers 5 (some .boolean) :: TT
def wsX5_specific : List Cond := .code yX5_specific cX5_specific 10 (some .int) :: TT
def wsX5_bodied : List Cond := .code yX5_bodied cX5_bodied 7 (some .int) :: TT
def wsX5_find : List Cond := .code yX5_find cX5_find 9 (some .int) :: TT
def wsX5_resolved : List Cond := .code yX5_resolved cX5_resolved 12 (some .int) :: TT
def wsX5_overrides : List Cond := .code yX5_overrides cX5_overrides 6 (some .boolean) :: TT
def wsX5_selected : List Cond := .code yX5_selected cX5_selected 10 (some .int) :: TT
def wsX5_isAsk : List Cond := .code yX5_isAsk cX5_isAsk 3 (some .boolean) :: TT
def wsX5_load : List Cond := .code yX5_load cX5_load 3 (some .int) :: TT
def wsX5_resolve : List Cond := .code yX5_resolve cX5_resolve 3 (some .int) :: TT
def wsX5_selects : List Cond := .code yX5_selects cX5_selects 3 (some .boolean) :: TT
def wsX5_select : List Cond := .code yX5_select cX5_select 4 (some .int) :: TT
def wsX5_areAlike : List Cond := .code yX5_areAlike cX5_areAlike 7 (some .boolean) :: TT
def wsX5_compare : List Cond := .code yX5_compare cX5_compare 4 (some .int) :: TT
def wsX5_receivers : List Cond := .code yX5_receivers cX5_receivers 9 (some .int) :: TT
def wsX5_isUnder : List Cond := .code yX5_isUnder cX5_isUnder 4 (some .boolean) :: TT
def wsX5_neighbours : List Cond := .code yX5_neighbours cX5_neighbours 5 (some .int) :: TT
def wsX5_count : List Cond := .code yX5_count cX5_count 5 (some .int) :: TT
def wsJ9_min_7cf53 : List Cond := .code yJ9_min_7cf53 cJ9_min_7cf53 2 (some .int) :: TT
theorem inT_X0 : ∀ w ∈ wsX00, w ∈ TT := by
  show ∀ w ∈ (List.range 3).map (u_lay RX0 TX0), w ∈ TT
  exact List.forall_mem_cons.mpr ⟨mw_1_133, List.forall_mem_cons.mpr ⟨mw_1_135, List.forall_mem_cons.mpr ⟨mw_1_137, fun _ h => absurd h List.not_mem_nil⟩⟩⟩
theorem inT_X1 : ∀ w ∈ wsX10, w ∈ TT := by
  show ∀ w ∈ (List.range 10).map (u_lay RX1 TX1), w ∈ TT
  exact List.forall_mem_cons.mpr ⟨mw_1_81, List.forall_mem_cons.mpr ⟨mw_1_83, List.forall_mem_cons.mpr ⟨mw_1_85, List.forall_mem_cons.mpr ⟨mw_1_87, List.forall_mem_cons.mpr ⟨mw_1_89, List.forall_mem_cons.mpr ⟨mw_1_91, List.forall_mem_cons.mpr ⟨mw_1_93, List.forall_mem_cons.mpr ⟨mw_1_95, List.forall_mem_cons.mpr ⟨mw_1_97, List.forall_mem_cons.mpr ⟨mw_1_99, fun _ h => absurd h List.not_mem_nil⟩⟩⟩⟩⟩⟩⟩⟩⟩⟩
theorem inT_X2 : ∀ w ∈ wsX20, w ∈ TT := by
  show ∀ w ∈ (List.range 6).map (u_lay RX2 TX2), w ∈ TT
  exact List.forall_mem_cons.mpr ⟨mw_1_115, List.forall_mem_cons.mpr ⟨mw_1_117, List.forall_mem_cons.mpr ⟨mw_1_119, List.forall_mem_cons.mpr ⟨mw_1_121, List.forall_mem_cons.mpr ⟨mw_1_123, List.forall_mem_cons.mpr ⟨mw_1_125, fun _ h => absurd h List.not_mem_nil⟩⟩⟩⟩⟩⟩
theorem inT_X3 : ∀ w ∈ wsX30, w ∈ TT := by
  show ∀ w ∈ (List.range 4).map (u_lay RX3 TX3), w ∈ TT
  exact List.forall_mem_cons.mpr ⟨mw_1_155, List.forall_mem_cons.mpr ⟨mw_1_157, List.forall_mem_cons.mpr ⟨mw_1_159, List.forall_mem_cons.mpr ⟨mw_1_161, fun _ h => absurd h List.not_mem_nil⟩⟩⟩⟩
theorem inT_X4 : ∀ w ∈ wsX40, w ∈ TT := by
  show ∀ w ∈ (List.range 4).map (u_lay RX4 TX4), w ∈ TT
  exact List.forall_mem_cons.mpr ⟨mw_1_168, List.forall_mem_cons.mpr ⟨mw_1_170, List.forall_mem_cons.mpr ⟨mw_1_172, List.forall_mem_cons.mpr ⟨mw_1_174, fun _ h => absurd h List.not_mem_nil⟩⟩⟩⟩
theorem inT_X5 : ∀ w ∈ wsX50, w ∈ TT := by
  show ∀ w ∈ (List.range 21).map (u_lay RX5 TX5), w ∈ TT
  exact List.forall_mem_cons.mpr ⟨mw_3_87, List.forall_mem_cons.mpr ⟨mw_3_89, List.forall_mem_cons.mpr ⟨mw_3_91, List.forall_mem_cons.mpr ⟨mw_3_93, List.forall_mem_cons.mpr ⟨mw_3_95, List.forall_mem_cons.mpr ⟨mw_3_97, List.forall_mem_cons.mpr ⟨mw_3_99, List.forall_mem_cons.mpr ⟨mw_3_101, List.forall_mem_cons.mpr ⟨mw_3_103, List.forall_mem_cons.mpr ⟨mw_3_105, List.forall_mem_cons.mpr ⟨mw_3_107, List.forall_mem_cons.mpr ⟨mw_3_109, List.forall_mem_cons.mpr ⟨mw_3_111, List.forall_mem_cons.mpr ⟨mw_3_113, List.forall_mem_cons.mpr ⟨mw_3_115, List.forall_mem_cons.mpr ⟨mw_3_117, List.forall_mem_cons.mpr ⟨mw_3_119, List.forall_mem_cons.mpr ⟨mw_3_121, List.forall_mem_cons.mpr ⟨mw_3_123, List.forall_mem_cons.mpr ⟨mw_3_125, List.forall_mem_cons.mpr ⟨mw_3_127, fun _ h => absurd h List.not_mem_nil⟩⟩⟩⟩⟩⟩⟩⟩⟩⟩⟩⟩⟩⟩⟩⟩⟩⟩⟩⟩⟩
end
section
theorem dX0_init_0 : decode cX0_init 0 = .ok (.aload_n 0, 1) := by decide +kernel
theorem dX0_init_1 : decode cX0_init 1 = .ok (.invokespecial 3, 3) := by decide +kernel
theorem dX0_init_4 : decode cX0_init 4 = .ok (.aload_n 0, 1) := by decide +kernel
theorem dX0_init_5 : decode cX0_init 5 = .ok (.new 9, 3) := by decide +kernel
theorem dX0_init_8 : decode cX0_init 8 = .ok (.dup, 1) := by decide +kernel
theorem dX0_init_9 : decode cX0_init 9 = .ok (.invokespecial 11, 3) := by decide +kernel
theorem dX0_init_12 : decode cX0_init 12 = .ok (.putfield 12, 3) := by decide +kernel
theorem dX0_init_15 : decode cX0_init 15 = .ok (.aload_n 0, 1) := by decide +kernel
theorem dX0_init_16 : decode cX0_init 16 = .ok (.new 18, 3) := by decide +kernel
theorem dX0_init_19 : decode cX0_init 19 = .ok (.dup, 1) := by decide +kernel
theorem dX0_init_20 : decode cX0_init 20 = .ok (.invokespecial 20, 3) := by decide +kernel
theorem dX0_init_23 : decode cX0_init 23 = .ok (.putfield 21, 3) := by decide +kernel
theorem dX0_init_26 : decode cX0_init 26 = .ok (.return_, 1) := by decide +kernel
theorem dX0_discardType_0 : decode cX0_discardType 0 = .ok (.aload_n 0, 1) := by decide +kernel
theorem dX0_discardType_1 : decode cX0_discardType 1 = .ok (.getfield 12, 3) := by decide +kernel
theorem dX0_discardType_4 : decode cX0_discardType 4 = .ok (.iload_n 1, 1) := by decide +kernel
theorem dX0_discardType_5 : decode cX0_discardType 5 = .ok (.invokevirtual 25, 3) := by decide +kernel
theorem dX0_discardType_8 : decode cX0_discardType 8 = .ok (.ifCond .ne 5, 3) := by decide +kernel
theorem dX0_discardType_11 : decode cX0_discardType 11 = .ok (.iconst 0, 1) := by decide +kernel
theorem dX0_discardType_12 : decode cX0_discardType 12 = .ok (.ireturn, 1) := by decide +kernel
theorem dX0_discardType_13 : decode cX0_discardType 13 = .ok (.aload_n 0, 1) := by decide +kernel
theorem dX0_discardType_14 : decode cX0_discardType 14 = .ok (.getfield 21, 3) := by decide +kernel
theorem dX0_discardType_17 : decode cX0_discardType 17 = .ok (.iload_n 1, 1) := by decide +kernel
theorem dX0_discardType_18 : decode cX0_discardType 18 = .ok (.invokevirtual 29, 3) := by decide +kernel
theorem dX0_discardType_21 : decode cX0_discardType 21 = .ok (.iconst 1, 1) := by decide +kernel
theorem dX0_discardType_22 : decode cX0_discardType 22 = .ok (.ireturn, 1) := by decide +kernel
theorem dX0_addMember_0 : decode cX0_addMember 0 = .ok (.aload_n 0, 1) := by decide +kernel
theorem dX0_addMember_1 : decode cX0_addMember 1 = .ok (.getfield 12, 3) := by decide +kernel
theorem dX0_addMember_4 : decode cX0_addMember 4 = .ok (.iload_n 1, 1) := by decide +kernel
theorem dX0_addMember_5 : decode cX0_addMember 5 = .ok (.invokevirtual 33, 3) := by decide +kernel
theorem dX0_addMember_8 : decode cX0_addMember 8 = .ok (.ifCond .eq 18, 3) := by decide +kernel
theorem dX0_addMember_11 : decode cX0_addMember 11 = .ok (.aload_n 0, 1) := by decide +kernel
theorem dX0_addMember_12 : decode cX0_addMember 12 = .ok (.getfield 21, 3) := by decide +kernel
theorem dX0_addMember_15 : decode cX0_addMember 15 = .ok (.iload_n 1, 1) := by decide +kernel
theorem dX0_addMember_16 : decode cX0_addMember 16 = .ok (.iload_n 2, 1) := by decide +kernel
theorem dX0_addMember_17 : decode cX0_addMember 17 = .ok (.iload_n 3, 1) := by decide +kernel
theorem dX0_addMember_18 : decode cX0_addMember 18 = .ok (.invokevirtual 36, 3) := by decide +kernel
theorem dX0_addMember_21 : decode cX0_addMember 21 = .ok (.bipush (-2), 2) := by decide +kernel
theorem dX0_addMember_23 : decode cX0_addMember 23 = .ok (.if_icmp .eq 5, 3) := by decide +kernel
theorem dX0_addMember_26 : decode cX0_addMember 26 = .ok (.iconst (-1), 1) := by decide +kernel
theorem dX0_addMember_27 : decode cX0_addMember 27 = .ok (.ireturn, 1) := by decide +kernel
theorem dX0_addMember_28 : decode cX0_addMember 28 = .ok (.aload_n 0, 1) := by decide +kernel
theorem dX0_addMember_29 : decode cX0_addMember 29 = .ok (.getfield 21, 3) := by decide +kernel
theorem dX0_addMember_32 : decode cX0_addMember 32 = .ok (.iload_n 1, 1) := by decide +kernel
theorem dX0_addMember_33 : decode cX0_addMember 33 = .ok (.iload_n 2, 1) := by decide +kernel
theorem dX0_addMember_34 : decode cX0_addMember 34 = .ok (.iload_n 3, 1) := by decide +kernel
theorem dX0_addMember_35 : decode cX0_addMember 35 = .ok (.iload 4, 2) := by decide +kernel
theorem dX0_addMember_37 : decode cX0_addMember 37 = .ok (.iload 5, 2) := by decide +kernel
theorem dX0_addMember_39 : decode cX0_addMember 39 = .ok (.invokevirtual 40, 3) := by decide +kernel
theorem dX0_addMember_42 : decode cX0_addMember 42 = .ok (.ireturn, 1) := by decide +kernel
theorem dX0_becomeAs_0 : decode cX0_becomeAs 0 = .ok (.aload_n 0, 1) := by decide +kernel
theorem dX0_becomeAs_1 : decode cX0_becomeAs 1 = .ok (.getfield 12, 3) := by decide +kernel
theorem dX0_becomeAs_4 : decode cX0_becomeAs 4 = .ok (.aload_n 1, 1) := by decide +kernel
theorem dX0_becomeAs_5 : decode cX0_becomeAs 5 = .ok (.getfield 12, 3) := by decide +kernel
theorem dX0_becomeAs_8 : decode cX0_becomeAs 8 = .ok (.invokevirtual 44, 3) := by decide +kernel
theorem dX0_becomeAs_11 : decode cX0_becomeAs 11 = .ok (.aload_n 0, 1) := by decide +kernel
theorem dX0_becomeAs_12 : decode cX0_becomeAs 12 = .ok (.getfield 21, 3) := by decide +kernel
theorem dX0_becomeAs_15 : decode cX0_becomeAs 15 = .ok (.aload_n 1, 1) := by decide +kernel
theorem dX0_becomeAs_16 : decode cX0_becomeAs 16 = .ok (.getfield 21, 3) := by decide +kernel
theorem dX0_becomeAs_19 : decode cX0_becomeAs 19 = .ok (.invokevirtual 48, 3) := by decide +kernel
theorem dX0_becomeAs_22 : decode cX0_becomeAs 22 = .ok (.return_, 1) := by decide +kernel
theorem dX0_resolution_0 : decode cX0_resolution 0 = .ok (.aload_n 0, 1) := by decide +kernel
theorem dX0_resolution_1 : decode cX0_resolution 1 = .ok (.getfield 12, 3) := by decide +kernel
theorem dX0_resolution_4 : decode cX0_resolution 4 = .ok (.aload_n 1, 1) := by decide +kernel
theorem dX0_resolution_5 : decode cX0_resolution 5 = .ok (.getfield 51, 3) := by decide +kernel
theorem dX0_resolution_8 : decode cX0_resolution 8 = .ok (.invokevirtual 57, 3) := by decide +kernel
theorem dX0_resolution_11 : decode cX0_resolution 11 = .ok (.istore_n 2, 1) := by decide +kernel
theorem dX0_resolution_12 : decode cX0_resolution 12 = .ok (.iload_n 2, 1) := by decide +kernel
theorem dX0_resolution_13 : decode cX0_resolution 13 = .ok (.invokestatic 61, 3) := by decide +kernel
theorem dX0_resolution_16 : decode cX0_resolution 16 = .ok (.ifCond .ne 5, 3) := by decide +kernel
theorem dX0_resolution_19 : decode cX0_resolution 19 = .ok (.iload_n 2, 1) := by decide +kernel
theorem dX0_resolution_20 : decode cX0_resolution 20 = .ok (.ireturn, 1) := by decide +kernel
theorem dX0_resolution_21 : decode cX0_resolution 21 = .ok (.aload_n 0, 1) := by decide +kernel
theorem dX0_resolution_22 : decode cX0_resolution 22 = .ok (.getfield 12, 3) := by decide +kernel
theorem dX0_resolution_25 : decode cX0_resolution 25 = .ok (.aload_n 1, 1) := by decide +kernel
theorem dX0_resolution_26 : decode cX0_resolution 26 = .ok (.getfield 64, 3) := by decide +kernel
theorem dX0_resolution_29 : decode cX0_resolution 29 = .ok (.aload_n 1, 1) := by decide +kernel
theorem dX0_resolution_30 : decode cX0_resolution 30 = .ok (.getfield 51, 3) := by decide +kernel
theorem dX0_resolution_33 : decode cX0_resolution 33 = .ok (.invokevirtual 67, 3) := by decide +kernel
theorem dX0_resolution_36 : decode cX0_resolution 36 = .ok (.istore_n 2, 1) := by decide +kernel
theorem dX0_resolution_37 : decode cX0_resolution 37 = .ok (.iload_n 2, 1) := by decide +kernel
theorem dX0_resolution_38 : decode cX0_resolution 38 = .ok (.invokestatic 61, 3) := by decide +kernel
theorem dX0_resolution_41 : decode cX0_resolution 41 = .ok (.ifCond .eq 12, 3) := by decide +kernel
theorem dX0_resolution_44 : decode cX0_resolution 44 = .ok (.aload_n 1, 1) := by decide +kernel
theorem dX0_resolution_45 : decode cX0_resolution 45 = .ok (.getfield 71, 3) := by decide +kernel
theorem dX0_resolution_48 : decode cX0_resolution 48 = .ok (.bipush 8, 2) := by decide +kernel
theorem dX0_resolution_50 : decode cX0_resolution 50 = .ok (.if_icmp .ne 5, 3) := by decide +kernel
theorem dX0_resolution_53 : decode cX0_resolution 53 = .ok (.iload_n 2, 1) := by decide +kernel
theorem dX0_resolution_54 : decode cX0_resolution 54 = .ok (.ireturn, 1) := by decide +kernel
theorem dX0_resolution_55 : decode cX0_resolution 55 = .ok (.aload_n 1, 1) := by decide +kernel
theorem dX0_resolution_56 : decode cX0_resolution 56 = .ok (.invokevirtual 74, 3) := by decide +kernel
theorem dX0_resolution_59 : decode cX0_resolution 59 = .ok (.ifCond .eq 11, 3) := by decide +kernel
theorem dX0_resolution_62 : decode cX0_resolution 62 = .ok (.aload_n 0, 1) := by decide +kernel
theorem dX0_resolution_63 : decode cX0_resolution 63 = .ok (.aload_n 1, 1) := by decide +kernel
theorem dX0_resolution_64 : decode cX0_resolution 64 = .ok (.invokevirtual 78, 3) := by decide +kernel
theorem dX0_resolution_67 : decode cX0_resolution 67 = .ok (.goto 8, 3) := by decide +kernel
theorem dX0_resolution_70 : decode cX0_resolution 70 = .ok (.aload_n 0, 1) := by decide +kernel
theorem dX0_resolution_71 : decode cX0_resolution 71 = .ok (.aload_n 1, 1) := by decide +kernel
theorem dX0_resolution_72 : decode cX0_resolution 72 = .ok (.invokevirtual 82, 3) := by decide +kernel
theorem dX0_resolution_75 : decode cX0_resolution 75 = .ok (.istore_n 2, 1) := by decide +kernel
theorem dX0_resolution_76 : decode cX0_resolution 76 = .ok (.iload_n 2, 1) := by decide +kernel
theorem dX0_resolution_77 : decode cX0_resolution 77 = .ok (.invokestatic 61, 3) := by decide +kernel
theorem dX0_resolution_80 : decode cX0_resolution 80 = .ok (.ifCond .eq 15, 3) := by decide +kernel
theorem dX0_resolution_83 : decode cX0_resolution 83 = .ok (.aload_n 0, 1) := by decide +kernel
theorem dX0_resolution_84 : decode cX0_resolution 84 = .ok (.aload_n 1, 1) := by decide +kernel
theorem dX0_resolution_85 : decode cX0_resolution 85 = .ok (.iload_n 2, 1) := by decide +kernel
theorem dX0_resolution_86 : decode cX0_resolution 86 = .ok (.bipush 16, 2) := by decide +kernel
theorem dX0_resolution_88 : decode cX0_resolution 88 = .ok (.isub, 1) := by decide +kernel
theorem dX0_resolution_89 : decode cX0_resolution 89 = .ok (.invokevirtual 85, 3) := by decide +kernel
theorem dX0_resolution_92 : decode cX0_resolution 92 = .ok (.goto 4, 3) := by decide +kernel
theorem dX0_resolution_95 : decode cX0_resolution 95 = .ok (.iload_n 2, 1) := by decide +kernel
theorem dX0_resolution_96 : decode cX0_resolution 96 = .ok (.ireturn, 1) := by decide +kernel
theorem dX0_selection_0 : decode cX0_selection 0 = .ok (.aload_n 1, 1) := by decide +kernel
theorem dX0_selection_1 : decode cX0_selection 1 = .ok (.invokevirtual 89, 3) := by decide +kernel
theorem dX0_selection_4 : decode cX0_selection 4 = .ok (.ifCond .eq 10, 3) := by decide +kernel
theorem dX0_selection_7 : decode cX0_selection 7 = .ok (.iload_n 2, 1) := by decide +kernel
theorem dX0_selection_8 : decode cX0_selection 8 = .ok (.invokestatic 61, 3) := by decide +kernel
theorem dX0_selection_11 : decode cX0_selection 11 = .ok (.ifCond .ne 6, 3) := by decide +kernel
theorem dX0_selection_14 : decode cX0_selection 14 = .ok (.bipush (-2), 2) := by decide +kernel
theorem dX0_selection_16 : decode cX0_selection 16 = .ok (.ireturn, 1) := by decide +kernel
theorem dX0_selection_17 : decode cX0_selection 17 = .ok (.aload_n 0, 1) := by decide +kernel
theorem dX0_selection_18 : decode cX0_selection 18 = .ok (.iload_n 3, 1) := by decide +kernel
theorem dX0_selection_19 : decode cX0_selection 19 = .ok (.aload_n 1, 1) := by decide +kernel
theorem dX0_selection_20 : decode cX0_selection 20 = .ok (.getfield 64, 3) := by decide +kernel
theorem dX0_selection_23 : decode cX0_selection 23 = .ok (.invokevirtual 92, 3) := by decide +kernel
theorem dX0_selection_26 : decode cX0_selection 26 = .ok (.ifCond .ne 9, 3) := by decide +kernel
theorem dX0_selection_29 : decode cX0_selection 29 = .ok (.sipush 512, 3) := by decide +kernel
theorem dX0_selection_32 : decode cX0_selection 32 = .ok (.iload_n 3, 1) := by decide +kernel
theorem dX0_selection_33 : decode cX0_selection 33 = .ok (.iadd, 1) := by decide +kernel
theorem dX0_selection_34 : decode cX0_selection 34 = .ok (.ireturn, 1) := by decide +kernel
theorem dX0_selection_35 : decode cX0_selection 35 = .ok (.iload_n 2, 1) := by decide +kernel
theorem dX0_selection_36 : decode cX0_selection 36 = .ok (.bipush 16, 2) := by decide +kernel
theorem dX0_selection_38 : decode cX0_selection 38 = .ok (.isub, 1) := by decide +kernel
theorem dX0_selection_39 : decode cX0_selection 39 = .ok (.istore 4, 2) := by decide +kernel
theorem dX0_selection_41 : decode cX0_selection 41 = .ok (.aload_n 0, 1) := by decide +kernel
theorem dX0_selection_42 : decode cX0_selection 42 = .ok (.getfield 21, 3) := by decide +kernel
theorem dX0_selection_45 : decode cX0_selection 45 = .ok (.iload 4, 2) := by decide +kernel
theorem dX0_selection_47 : decode cX0_selection 47 = .ok (.invokevirtual 96, 3) := by decide +kernel
theorem dX0_selection_50 : decode cX0_selection 50 = .ok (.ifCond .ne 7, 3) := by decide +kernel
theorem dX0_selection_53 : decode cX0_selection 53 = .ok (.iload_n 2, 1) := by decide +kernel
theorem dX0_selection_54 : decode cX0_selection 54 = .ok (.goto 14, 3) := by decide +kernel
theorem dX0_selection_57 : decode cX0_selection 57 = .ok (.aload_n 0, 1) := by decide +kernel
theorem dX0_selection_58 : decode cX0_selection 58 = .ok (.iload_n 3, 1) := by decide +kernel
theorem dX0_selection_59 : decode cX0_selection 59 = .ok (.iload 4, 2) := by decide +kernel
theorem dX0_selection_61 : decode cX0_selection 61 = .ok (.aload_n 1, 1) := by decide +kernel
theorem dX0_selection_62 : decode cX0_selection 62 = .ok (.getfield 99, 3) := by decide +kernel
theorem dX0_selection_65 : decode cX0_selection 65 = .ok (.invokevirtual 102, 3) := by decide +kernel
theorem dX0_selection_68 : decode cX0_selection 68 = .ok (.istore 5, 2) := by decide +kernel
theorem dX0_selection_70 : decode cX0_selection 70 = .ok (.iload 5, 2) := by decide +kernel
theorem dX0_selection_72 : decode cX0_selection 72 = .ok (.invokestatic 61, 3) := by decide +kernel
theorem dX0_selection_75 : decode cX0_selection 75 = .ok (.ifCond .eq 16, 3) := by decide +kernel
theorem dX0_selection_78 : decode cX0_selection 78 = .ok (.aload_n 0, 1) := by decide +kernel
theorem dX0_selection_79 : decode cX0_selection 79 = .ok (.aload_n 1, 1) := by decide +kernel
theorem dX0_selection_80 : decode cX0_selection 80 = .ok (.iload 5, 2) := by decide +kernel
theorem dX0_selection_82 : decode cX0_selection 82 = .ok (.bipush 16, 2) := by decide +kernel
theorem dX0_selection_84 : decode cX0_selection 84 = .ok (.isub, 1) := by decide +kernel
theorem dX0_selection_85 : decode cX0_selection 85 = .ok (.invokevirtual 106, 3) := by decide +kernel
theorem dX0_selection_88 : decode cX0_selection 88 = .ok (.goto 5, 3) := by decide +kernel
theorem dX0_selection_91 : decode cX0_selection 91 = .ok (.iload 5, 2) := by decide +kernel
theorem dX0_selection_93 : decode cX0_selection 93 = .ok (.ireturn, 1) := by decide +kernel
theorem dX0_lookUpField_0 : decode cX0_lookUpField 0 = .ok (.aload_n 0, 1) := by decide +kernel
theorem dX0_lookUpField_1 : decode cX0_lookUpField 1 = .ok (.iconst 0, 1) := by decide +kernel
theorem dX0_lookUpField_2 : decode cX0_lookUpField 2 = .ok (.putfield 109, 3) := by decide +kernel
theorem dX0_lookUpField_5 : decode cX0_lookUpField 5 = .ok (.aload_n 0, 1) := by decide +kernel
theorem dX0_lookUpField_6 : decode cX0_lookUpField 6 = .ok (.aload_n 1, 1) := by decide +kernel
theorem dX0_lookUpField_7 : decode cX0_lookUpField 7 = .ok (.getfield 64, 3) := by decide +kernel
theorem dX0_lookUpField_10 : decode cX0_lookUpField 10 = .ok (.aload_n 1, 1) := by decide +kernel
theorem dX0_lookUpField_11 : decode cX0_lookUpField 11 = .ok (.getfield 99, 3) := by decide +kernel
theorem dX0_lookUpField_14 : decode cX0_lookUpField 14 = .ok (.invokevirtual 112, 3) := by decide +kernel
theorem dX0_lookUpField_17 : decode cX0_lookUpField 17 = .ok (.istore_n 2, 1) := by decide +kernel
theorem dX0_lookUpField_18 : decode cX0_lookUpField 18 = .ok (.iload_n 2, 1) := by decide +kernel
theorem dX0_lookUpField_19 : decode cX0_lookUpField 19 = .ok (.bipush (-2), 2) := by decide +kernel
theorem dX0_lookUpField_21 : decode cX0_lookUpField 21 = .ok (.if_icmp .ne 14, 3) := by decide +kernel
theorem dX0_lookUpField_24 : decode cX0_lookUpField 24 = .ok (.sipush 320, 3) := by decide +kernel
theorem dX0_lookUpField_27 : decode cX0_lookUpField 27 = .ok (.aload_n 1, 1) := by decide +kernel
theorem dX0_lookUpField_28 : decode cX0_lookUpField 28 = .ok (.getfield 64, 3) := by decide +kernel
theorem dX0_lookUpField_31 : decode cX0_lookUpField 31 = .ok (.iadd, 1) := by decide +kernel
theorem dX0_lookUpField_32 : decode cX0_lookUpField 32 = .ok (.goto 7, 3) := by decide +kernel
theorem dX0_lookUpField_35 : decode cX0_lookUpField 35 = .ok (.bipush 16, 2) := by decide +kernel
theorem dX0_lookUpField_37 : decode cX0_lookUpField 37 = .ok (.iload_n 2, 1) := by decide +kernel
theorem dX0_lookUpField_38 : decode cX0_lookUpField 38 = .ok (.iadd, 1) := by decide +kernel
theorem dX0_lookUpField_39 : decode cX0_lookUpField 39 = .ok (.ireturn, 1) := by decide +kernel
theorem dX0_findField_0 : decode cX0_findField 0 = .ok (.aload_n 0, 1) := by decide +kernel
theorem dX0_findField_1 : decode cX0_findField 1 = .ok (.getfield 109, 3) := by decide +kernel
theorem dX0_findField_4 : decode cX0_findField 4 = .ok (.iload_n 1, 1) := by decide +kernel
theorem dX0_findField_5 : decode cX0_findField 5 = .ok (.invokestatic 115, 3) := by decide +kernel
theorem dX0_findField_8 : decode cX0_findField 8 = .ok (.ifCond .eq 6, 3) := by decide +kernel
theorem dX0_findField_11 : decode cX0_findField 11 = .ok (.bipush (-2), 2) := by decide +kernel
theorem dX0_findField_13 : decode cX0_findField 13 = .ok (.ireturn, 1) := by decide +kernel
theorem dX0_findField_14 : decode cX0_findField 14 = .ok (.aload_n 0, 1) := by decide +kernel
theorem dX0_findField_15 : decode cX0_findField 15 = .ok (.dup, 1) := by decide +kernel
theorem dX0_findField_16 : decode cX0_findField 16 = .ok (.getfield 109, 3) := by decide +kernel
theorem dX0_findField_19 : decode cX0_findField 19 = .ok (.iload_n 1, 1) := by decide +kernel
theorem dX0_findField_20 : decode cX0_findField 20 = .ok (.invokestatic 118, 3) := by decide +kernel
theorem dX0_findField_23 : decode cX0_findField 23 = .ok (.ior, 1) := by decide +kernel
theorem dX0_findField_24 : decode cX0_findField 24 = .ok (.putfield 109, 3) := by decide +kernel
theorem dX0_findField_27 : decode cX0_findField 27 = .ok (.aload_n 0, 1) := by decide +kernel
theorem dX0_findField_28 : decode cX0_findField 28 = .ok (.getfield 21, 3) := by decide +kernel
theorem dX0_findField_31 : decode cX0_findField 31 = .ok (.iload_n 1, 1) := by decide +kernel
theorem dX0_findField_32 : decode cX0_findField 32 = .ok (.iconst 0, 1) := by decide +kernel
theorem dX0_findField_33 : decode cX0_findField 33 = .ok (.iload_n 2, 1) := by decide +kernel
theorem dX0_findField_34 : decode cX0_findField 34 = .ok (.invokevirtual 36, 3) := by decide +kernel
theorem dX0_findField_37 : decode cX0_findField 37 = .ok (.istore_n 3, 1) := by decide +kernel
theorem dX0_findField_38 : decode cX0_findField 38 = .ok (.iconst 0, 1) := by decide +kernel
theorem dX0_findField_39 : decode cX0_findField 39 = .ok (.istore 4, 2) := by decide +kernel
theorem dX0_findField_41 : decode cX0_findField 41 = .ok (.iload 4, 2) := by decide +kernel
theorem dX0_findField_43 : decode cX0_findField 43 = .ok (.bipush 12, 2) := by decide +kernel
theorem dX0_findField_45 : decode cX0_findField 45 = .ok (.if_icmp .ge 39, 3) := by decide +kernel
theorem dX0_findField_48 : decode cX0_findField 48 = .ok (.iload_n 3, 1) := by decide +kernel
theorem dX0_findField_49 : decode cX0_findField 49 = .ok (.bipush (-2), 2) := by decide +kernel
theorem dX0_findField_51 : decode cX0_findField 51 = .ok (.if_icmp .ne 33, 3) := by decide +kernel
theorem dX0_findField_54 : decode cX0_findField 54 = .ok (.aload_n 0, 1) := by decide +kernel
theorem dX0_findField_55 : decode cX0_findField 55 = .ok (.getfield 12, 3) := by decide +kernel
theorem dX0_findField_58 : decode cX0_findField 58 = .ok (.iload_n 1, 1) := by decide +kernel
theorem dX0_findField_59 : decode cX0_findField 59 = .ok (.invokevirtual 121, 3) := by decide +kernel
theorem dX0_findField_62 : decode cX0_findField 62 = .ok (.iload 4, 2) := by decide +kernel
theorem dX0_findField_64 : decode cX0_findField 64 = .ok (.invokestatic 115, 3) := by decide +kernel
theorem dX0_findField_67 : decode cX0_findField 67 = .ok (.ifCond .eq 11, 3) := by decide +kernel
theorem dX0_findField_70 : decode cX0_findField 70 = .ok (.aload_n 0, 1) := by decide +kernel
theorem dX0_findField_71 : decode cX0_findField 71 = .ok (.iload 4, 2) := by decide +kernel
theorem dX0_findField_73 : decode cX0_findField 73 = .ok (.iload_n 2, 1) := by decide +kernel
theorem dX0_findField_74 : decode cX0_findField 74 = .ok (.invokevirtual 112, 3) := by decide +kernel
theorem dX0_findField_77 : decode cX0_findField 77 = .ok (.istore_n 3, 1) := by decide +kernel
theorem dX0_findField_78 : decode cX0_findField 78 = .ok (.iinc 4 1, 3) := by decide +kernel
theorem dX0_findField_81 : decode cX0_findField 81 = .ok (.goto (-40), 3) := by decide +kernel
theorem dX0_findField_84 : decode cX0_findField 84 = .ok (.iload_n 3, 1) := by decide +kernel
theorem dX0_findField_85 : decode cX0_findField 85 = .ok (.bipush (-2), 2) := by decide +kernel
theorem dX0_findField_87 : decode cX0_findField 87 = .ok (.if_icmp .ne 21, 3) := by decide +kernel
theorem dX0_findField_90 : decode cX0_findField 90 = .ok (.iload_n 1, 1) := by decide +kernel
theorem dX0_findField_91 : decode cX0_findField 91 = .ok (.ifCond .eq 17, 3) := by decide +kernel
theorem dX0_findField_94 : decode cX0_findField 94 = .ok (.aload_n 0, 1) := by decide +kernel
theorem dX0_findField_95 : decode cX0_findField 95 = .ok (.aload_n 0, 1) := by decide +kernel
theorem dX0_findField_96 : decode cX0_findField 96 = .ok (.getfield 12, 3) := by decide +kernel
theorem dX0_findField_99 : decode cX0_findField 99 = .ok (.iload_n 1, 1) := by decide +kernel
theorem dX0_findField_100 : decode cX0_findField 100 = .ok (.invokevirtual 124, 3) := by decide +kernel
theorem dX0_findField_103 : decode cX0_findField 103 = .ok (.iload_n 2, 1) := by decide +kernel
theorem dX0_findField_104 : decode cX0_findField 104 = .ok (.invokevirtual 112, 3) := by decide +kernel
theorem dX0_findField_107 : decode cX0_findField 107 = .ok (.istore_n 3, 1) := by decide +kernel
theorem dX0_findField_108 : decode cX0_findField 108 = .ok (.iload_n 3, 1) := by decide +kernel
theorem dX0_findField_109 : decode cX0_findField 109 = .ok (.ireturn, 1) := by decide +kernel
theorem dX0_lookUpMethod_0 : decode cX0_lookUpMethod 0 = .ok (.aload_n 0, 1) := by decide +kernel
theorem dX0_lookUpMethod_1 : decode cX0_lookUpMethod 1 = .ok (.getfield 12, 3) := by decide +kernel
theorem dX0_lookUpMethod_4 : decode cX0_lookUpMethod 4 = .ok (.aload_n 1, 1) := by decide +kernel
theorem dX0_lookUpMethod_5 : decode cX0_lookUpMethod 5 = .ok (.getfield 64, 3) := by decide +kernel
theorem dX0_lookUpMethod_8 : decode cX0_lookUpMethod 8 = .ok (.invokevirtual 127, 3) := by decide +kernel
theorem dX0_lookUpMethod_11 : decode cX0_lookUpMethod 11 = .ok (.istore_n 2, 1) := by decide +kernel
theorem dX0_lookUpMethod_12 : decode cX0_lookUpMethod 12 = .ok (.aload_n 1, 1) := by decide +kernel
theorem dX0_lookUpMethod_13 : decode cX0_lookUpMethod 13 = .ok (.getfield 71, 3) := by decide +kernel
theorem dX0_lookUpMethod_16 : decode cX0_lookUpMethod 16 = .ok (.iconst 4, 1) := by decide +kernel
theorem dX0_lookUpMethod_17 : decode cX0_lookUpMethod 17 = .ok (.if_icmp .ne 7, 3) := by decide +kernel
theorem dX0_lookUpMethod_20 : decode cX0_lookUpMethod 20 = .ok (.iload_n 2, 1) := by decide +kernel
theorem dX0_lookUpMethod_21 : decode cX0_lookUpMethod 21 = .ok (.ifCond .ne 16, 3) := by decide +kernel
theorem dX0_lookUpMethod_24 : decode cX0_lookUpMethod 24 = .ok (.aload_n 1, 1) := by decide +kernel
theorem dX0_lookUpMethod_25 : decode cX0_lookUpMethod 25 = .ok (.getfield 71, 3) := by decide +kernel
theorem dX0_lookUpMethod_28 : decode cX0_lookUpMethod 28 = .ok (.bipush 7, 2) := by decide +kernel
theorem dX0_lookUpMethod_30 : decode cX0_lookUpMethod 30 = .ok (.if_icmp .ne 16, 3) := by decide +kernel
theorem dX0_lookUpMethod_33 : decode cX0_lookUpMethod 33 = .ok (.iload_n 2, 1) := by decide +kernel
theorem dX0_lookUpMethod_34 : decode cX0_lookUpMethod 34 = .ok (.ifCond .ne 12, 3) := by decide +kernel
theorem dX0_lookUpMethod_37 : decode cX0_lookUpMethod 37 = .ok (.sipush 192, 3) := by decide +kernel
theorem dX0_lookUpMethod_40 : decode cX0_lookUpMethod 40 = .ok (.aload_n 1, 1) := by decide +kernel
theorem dX0_lookUpMethod_41 : decode cX0_lookUpMethod 41 = .ok (.getfield 64, 3) := by decide +kernel
theorem dX0_lookUpMethod_44 : decode cX0_lookUpMethod 44 = .ok (.iadd, 1) := by decide +kernel
theorem dX0_lookUpMethod_45 : decode cX0_lookUpMethod 45 = .ok (.ireturn, 1) := by decide +kernel
theorem dX0_lookUpMethod_46 : decode cX0_lookUpMethod 46 = .ok (.iload_n 2, 1) := by decide +kernel
theorem dX0_lookUpMethod_47 : decode cX0_lookUpMethod 47 = .ok (.ifCond .eq 18, 3) := by decide +kernel
theorem dX0_lookUpMethod_50 : decode cX0_lookUpMethod 50 = .ok (.aload_n 0, 1) := by decide +kernel
theorem dX0_lookUpMethod_51 : decode cX0_lookUpMethod 51 = .ok (.aload_n 1, 1) := by decide +kernel
theorem dX0_lookUpMethod_52 : decode cX0_lookUpMethod 52 = .ok (.getfield 64, 3) := by decide +kernel
theorem dX0_lookUpMethod_55 : decode cX0_lookUpMethod 55 = .ok (.aload_n 1, 1) := by decide +kernel
theorem dX0_lookUpMethod_56 : decode cX0_lookUpMethod 56 = .ok (.getfield 99, 3) := by decide +kernel
theorem dX0_lookUpMethod_59 : decode cX0_lookUpMethod 59 = .ok (.invokevirtual 130, 3) := by decide +kernel
theorem dX0_lookUpMethod_62 : decode cX0_lookUpMethod 62 = .ok (.goto 15, 3) := by decide +kernel
theorem dX0_lookUpMethod_65 : decode cX0_lookUpMethod 65 = .ok (.aload_n 0, 1) := by decide +kernel
theorem dX0_lookUpMethod_66 : decode cX0_lookUpMethod 66 = .ok (.aload_n 1, 1) := by decide +kernel
theorem dX0_lookUpMethod_67 : decode cX0_lookUpMethod 67 = .ok (.getfield 64, 3) := by decide +kernel
theorem dX0_lookUpMethod_70 : decode cX0_lookUpMethod 70 = .ok (.aload_n 1, 1) := by decide +kernel
theorem dX0_lookUpMethod_71 : decode cX0_lookUpMethod 71 = .ok (.getfield 99, 3) := by decide +kernel
theorem dX0_lookUpMethod_74 : decode cX0_lookUpMethod 74 = .ok (.invokevirtual 133, 3) := by decide +kernel
theorem dX0_lookUpMethod_77 : decode cX0_lookUpMethod 77 = .ok (.istore_n 3, 1) := by decide +kernel
theorem dX0_lookUpMethod_78 : decode cX0_lookUpMethod 78 = .ok (.iload_n 3, 1) := by decide +kernel
theorem dX0_lookUpMethod_79 : decode cX0_lookUpMethod 79 = .ok (.bipush (-2), 2) := by decide +kernel
theorem dX0_lookUpMethod_81 : decode cX0_lookUpMethod 81 = .ok (.if_icmp .ne 16, 3) := by decide +kernel
theorem dX0_lookUpMethod_84 : decode cX0_lookUpMethod 84 = .ok (.aload_n 0, 1) := by decide +kernel
theorem dX0_lookUpMethod_85 : decode cX0_lookUpMethod 85 = .ok (.aload_n 1, 1) := by decide +kernel
theorem dX0_lookUpMethod_86 : decode cX0_lookUpMethod 86 = .ok (.getfield 64, 3) := by decide +kernel
theorem dX0_lookUpMethod_89 : decode cX0_lookUpMethod 89 = .ok (.aload_n 1, 1) := by decide +kernel
theorem dX0_lookUpMethod_90 : decode cX0_lookUpMethod 90 = .ok (.getfield 99, 3) := by decide +kernel
theorem dX0_lookUpMethod_93 : decode cX0_lookUpMethod 93 = .ok (.invokevirtual 136, 3) := by decide +kernel
theorem dX0_lookUpMethod_96 : decode cX0_lookUpMethod 96 = .ok (.istore_n 3, 1) := by decide +kernel
theorem dX0_lookUpMethod_97 : decode cX0_lookUpMethod 97 = .ok (.iload_n 3, 1) := by decide +kernel
theorem dX0_lookUpMethod_98 : decode cX0_lookUpMethod 98 = .ok (.bipush (-2), 2) := by decide +kernel
theorem dX0_lookUpMethod_100 : decode cX0_lookUpMethod 100 = .ok (.if_icmp .ne 14, 3) := by decide +kernel
theorem dX0_lookUpMethod_103 : decode cX0_lookUpMethod 103 = .ok (.sipush 384, 3) := by decide +kernel
theorem dX0_lookUpMethod_106 : decode cX0_lookUpMethod 106 = .ok (.aload_n 1, 1) := by decide +kernel
theorem dX0_lookUpMethod_107 : decode cX0_lookUpMethod 107 = .ok (.getfield 64, 3) := by decide +kernel
theorem dX0_lookUpMethod_110 : decode cX0_lookUpMethod 110 = .ok (.iadd, 1) := by decide +kernel
theorem dX0_lookUpMethod_111 : decode cX0_lookUpMethod 111 = .ok (.goto 7, 3) := by decide +kernel
theorem dX0_lookUpMethod_114 : decode cX0_lookUpMethod 114 = .ok (.bipush 16, 2) := by decide +kernel
theorem dX0_lookUpMethod_116 : decode cX0_lookUpMethod 116 = .ok (.iload_n 3, 1) := by decide +kernel
theorem dX0_lookUpMethod_117 : decode cX0_lookUpMethod 117 = .ok (.iadd, 1) := by decide +kernel
theorem dX0_lookUpMethod_118 : decode cX0_lookUpMethod 118 = .ok (.ireturn, 1) := by decide +kernel
theorem dX0_findInInterface_0 : decode cX0_findInInterface 0 = .ok (.aload_n 0, 1) := by decide +kernel
theorem dX0_findInInterface_1 : decode cX0_findInInterface 1 = .ok (.getfield 21, 3) := by decide +kernel
theorem dX0_findInInterface_4 : decode cX0_findInInterface 4 = .ok (.iload_n 1, 1) := by decide +kernel
theorem dX0_findInInterface_5 : decode cX0_findInInterface 5 = .ok (.iconst 1, 1) := by decide +kernel
theorem dX0_findInInterface_6 : decode cX0_findInInterface 6 = .ok (.iload_n 2, 1) := by decide +kernel
theorem dX0_findInInterface_7 : decode cX0_findInInterface 7 = .ok (.invokevirtual 36, 3) := by decide +kernel
theorem dX0_findInInterface_10 : decode cX0_findInInterface 10 = .ok (.istore_n 3, 1) := by decide +kernel
theorem dX0_findInInterface_11 : decode cX0_findInInterface 11 = .ok (.iload_n 3, 1) := by decide +kernel
theorem dX0_findInInterface_12 : decode cX0_findInInterface 12 = .ok (.bipush (-2), 2) := by decide +kernel
theorem dX0_findInInterface_14 : decode cX0_findInInterface 14 = .ok (.if_icmp .eq 5, 3) := by decide +kernel
theorem dX0_findInInterface_17 : decode cX0_findInInterface 17 = .ok (.iload_n 3, 1) := by decide +kernel
theorem dX0_findInInterface_18 : decode cX0_findInInterface 18 = .ok (.ireturn, 1) := by decide +kernel
theorem dX0_findInInterface_19 : decode cX0_findInInterface 19 = .ok (.aload_n 0, 1) := by decide +kernel
theorem dX0_findInInterface_20 : decode cX0_findInInterface 20 = .ok (.getfield 21, 3) := by decide +kernel
theorem dX0_findInInterface_23 : decode cX0_findInInterface 23 = .ok (.iconst 0, 1) := by decide +kernel
theorem dX0_findInInterface_24 : decode cX0_findInInterface 24 = .ok (.iconst 1, 1) := by decide +kernel
theorem dX0_findInInterface_25 : decode cX0_findInInterface 25 = .ok (.iload_n 2, 1) := by decide +kernel
theorem dX0_findInInterface_26 : decode cX0_findInInterface 26 = .ok (.invokevirtual 36, 3) := by decide +kernel
theorem dX0_findInInterface_29 : decode cX0_findInInterface 29 = .ok (.istore 4, 2) := by decide +kernel
theorem dX0_findInInterface_31 : decode cX0_findInInterface 31 = .ok (.iload 4, 2) := by decide +kernel
theorem dX0_findInInterface_33 : decode cX0_findInInterface 33 = .ok (.bipush (-2), 2) := by decide +kernel
theorem dX0_findInInterface_35 : decode cX0_findInInterface 35 = .ok (.if_icmp .eq 33, 3) := by decide +kernel
theorem dX0_findInInterface_38 : decode cX0_findInInterface 38 = .ok (.aload_n 0, 1) := by decide +kernel
theorem dX0_findInInterface_39 : decode cX0_findInInterface 39 = .ok (.getfield 21, 3) := by decide +kernel
theorem dX0_findInInterface_42 : decode cX0_findInInterface 42 = .ok (.iload 4, 2) := by decide +kernel
theorem dX0_findInInterface_44 : decode cX0_findInInterface 44 = .ok (.invokevirtual 96, 3) := by decide +kernel
theorem dX0_findInInterface_47 : decode cX0_findInInterface 47 = .ok (.iconst 3, 1) := by decide +kernel
theorem dX0_findInInterface_48 : decode cX0_findInInterface 48 = .ok (.if_icmp .ne 20, 3) := by decide +kernel
theorem dX0_findInInterface_51 : decode cX0_findInInterface 51 = .ok (.aload_n 0, 1) := by decide +kernel
theorem dX0_findInInterface_52 : decode cX0_findInInterface 52 = .ok (.getfield 21, 3) := by decide +kernel
theorem dX0_findInInterface_55 : decode cX0_findInInterface 55 = .ok (.iload 4, 2) := by decide +kernel
theorem dX0_findInInterface_57 : decode cX0_findInInterface 57 = .ok (.invokevirtual 139, 3) := by decide +kernel
theorem dX0_findInInterface_60 : decode cX0_findInInterface 60 = .ok (.ifCond .ne 8, 3) := by decide +kernel
theorem dX0_findInInterface_63 : decode cX0_findInInterface 63 = .ok (.iload 4, 2) := by decide +kernel
theorem dX0_findInInterface_65 : decode cX0_findInInterface 65 = .ok (.goto 5, 3) := by decide +kernel
theorem dX0_findInInterface_68 : decode cX0_findInInterface 68 = .ok (.bipush (-2), 2) := by decide +kernel
theorem dX0_findInInterface_70 : decode cX0_findInInterface 70 = .ok (.ireturn, 1) := by decide +kernel
theorem dX0_findInAbove_0 : decode cX0_findInAbove 0 = .ok (.iload_n 1, 1) := by decide +kernel
theorem dX0_findInAbove_1 : decode cX0_findInAbove 1 = .ok (.istore_n 3, 1) := by decide +kernel
theorem dX0_findInAbove_2 : decode cX0_findInAbove 2 = .ok (.iconst 0, 1) := by decide +kernel
theorem dX0_findInAbove_3 : decode cX0_findInAbove 3 = .ok (.istore 4, 2) := by decide +kernel
theorem dX0_findInAbove_5 : decode cX0_findInAbove 5 = .ok (.iload 4, 2) := by decide +kernel
theorem dX0_findInAbove_7 : decode cX0_findInAbove 7 = .ok (.bipush 12, 2) := by decide +kernel
theorem dX0_findInAbove_9 : decode cX0_findInAbove 9 = .ok (.if_icmp .ge 45, 3) := by decide +kernel
theorem dX0_findInAbove_12 : decode cX0_findInAbove 12 = .ok (.iload_n 3, 1) := by decide +kernel
theorem dX0_findInAbove_13 : decode cX0_findInAbove 13 = .ok (.iconst (-1), 1) := by decide +kernel
theorem dX0_findInAbove_14 : decode cX0_findInAbove 14 = .ok (.if_icmp .eq 40, 3) := by decide +kernel
theorem dX0_findInAbove_17 : decode cX0_findInAbove 17 = .ok (.aload_n 0, 1) := by decide +kernel
theorem dX0_findInAbove_18 : decode cX0_findInAbove 18 = .ok (.getfield 21, 3) := by decide +kernel
theorem dX0_findInAbove_21 : decode cX0_findInAbove 21 = .ok (.iload_n 3, 1) := by decide +kernel
theorem dX0_findInAbove_22 : decode cX0_findInAbove 22 = .ok (.iconst 1, 1) := by decide +kernel
theorem dX0_findInAbove_23 : decode cX0_findInAbove 23 = .ok (.iload_n 2, 1) := by decide +kernel
theorem dX0_findInAbove_24 : decode cX0_findInAbove 24 = .ok (.invokevirtual 36, 3) := by decide +kernel
theorem dX0_findInAbove_27 : decode cX0_findInAbove 27 = .ok (.istore 5, 2) := by decide +kernel
theorem dX0_findInAbove_29 : decode cX0_findInAbove 29 = .ok (.iload 5, 2) := by decide +kernel
theorem dX0_findInAbove_31 : decode cX0_findInAbove 31 = .ok (.bipush (-2), 2) := by decide +kernel
theorem dX0_findInAbove_33 : decode cX0_findInAbove 33 = .ok (.if_icmp .eq 6, 3) := by decide +kernel
theorem dX0_findInAbove_36 : decode cX0_findInAbove 36 = .ok (.iload 5, 2) := by decide +kernel
theorem dX0_findInAbove_38 : decode cX0_findInAbove 38 = .ok (.ireturn, 1) := by decide +kernel
theorem dX0_findInAbove_39 : decode cX0_findInAbove 39 = .ok (.aload_n 0, 1) := by decide +kernel
theorem dX0_findInAbove_40 : decode cX0_findInAbove 40 = .ok (.getfield 12, 3) := by decide +kernel
theorem dX0_findInAbove_43 : decode cX0_findInAbove 43 = .ok (.iload_n 3, 1) := by decide +kernel
theorem dX0_findInAbove_44 : decode cX0_findInAbove 44 = .ok (.invokevirtual 124, 3) := by decide +kernel
theorem dX0_findInAbove_47 : decode cX0_findInAbove 47 = .ok (.istore_n 3, 1) := by decide +kernel
theorem dX0_findInAbove_48 : decode cX0_findInAbove 48 = .ok (.iinc 4 1, 3) := by decide +kernel
theorem dX0_findInAbove_51 : decode cX0_findInAbove 51 = .ok (.goto (-46), 3) := by decide +kernel
theorem dX0_findInAbove_54 : decode cX0_findInAbove 54 = .ok (.bipush (-2), 2) := by decide +kernel
theorem dX0_findInAbove_56 : decode cX0_findInAbove 56 = .ok (.ireturn, 1) := by decide +kernel
theorem dX0_findBest_0 : decode cX0_findBest 0 = .ok (.aload_n 0, 1) := by decide +kernel
theorem dX0_findBest_1 : decode cX0_findBest 1 = .ok (.getfield 12, 3) := by decide +kernel
theorem dX0_findBest_4 : decode cX0_findBest 4 = .ok (.iload_n 1, 1) := by decide +kernel
theorem dX0_findBest_5 : decode cX0_findBest 5 = .ok (.invokevirtual 142, 3) := by decide +kernel
theorem dX0_findBest_8 : decode cX0_findBest 8 = .ok (.aload_n 0, 1) := by decide +kernel
theorem dX0_findBest_9 : decode cX0_findBest 9 = .ok (.getfield 21, 3) := by decide +kernel
theorem dX0_findBest_12 : decode cX0_findBest 12 = .ok (.iload_n 2, 1) := by decide +kernel
theorem dX0_findBest_13 : decode cX0_findBest 13 = .ok (.invokevirtual 145, 3) := by decide +kernel
theorem dX0_findBest_16 : decode cX0_findBest 16 = .ok (.iand, 1) := by decide +kernel
theorem dX0_findBest_17 : decode cX0_findBest 17 = .ok (.istore_n 3, 1) := by decide +kernel
theorem dX0_findBest_18 : decode cX0_findBest 18 = .ok (.aload_n 0, 1) := by decide +kernel
theorem dX0_findBest_19 : decode cX0_findBest 19 = .ok (.aload_n 0, 1) := by decide +kernel
theorem dX0_findBest_20 : decode cX0_findBest 20 = .ok (.getfield 12, 3) := by decide +kernel
theorem dX0_findBest_23 : decode cX0_findBest 23 = .ok (.iload_n 3, 1) := by decide +kernel
theorem dX0_findBest_24 : decode cX0_findBest 24 = .ok (.invokevirtual 148, 3) := by decide +kernel
theorem dX0_findBest_27 : decode cX0_findBest 27 = .ok (.iload_n 2, 1) := by decide +kernel
theorem dX0_findBest_28 : decode cX0_findBest 28 = .ok (.invokevirtual 151, 3) := by decide +kernel
theorem dX0_findBest_31 : decode cX0_findBest 31 = .ok (.istore 4, 2) := by decide +kernel
theorem dX0_findBest_33 : decode cX0_findBest 33 = .ok (.iload 4, 2) := by decide +kernel
theorem dX0_findBest_35 : decode cX0_findBest 35 = .ok (.ifCond .lt 8, 3) := by decide +kernel
theorem dX0_findBest_38 : decode cX0_findBest 38 = .ok (.iload 4, 2) := by decide +kernel
theorem dX0_findBest_40 : decode cX0_findBest 40 = .ok (.goto 9, 3) := by decide +kernel
theorem dX0_findBest_43 : decode cX0_findBest 43 = .ok (.aload_n 0, 1) := by decide +kernel
theorem dX0_findBest_44 : decode cX0_findBest 44 = .ok (.iload_n 3, 1) := by decide +kernel
theorem dX0_findBest_45 : decode cX0_findBest 45 = .ok (.iload_n 2, 1) := by decide +kernel
theorem dX0_findBest_46 : decode cX0_findBest 46 = .ok (.invokevirtual 154, 3) := by decide +kernel
theorem dX0_findBest_49 : decode cX0_findBest 49 = .ok (.ireturn, 1) := by decide +kernel
theorem dX0_findLeast_0 : decode cX0_findLeast 0 = .ok (.bipush (-2), 2) := by decide +kernel
theorem dX0_findLeast_2 : decode cX0_findLeast 2 = .ok (.istore_n 3, 1) := by decide +kernel
theorem dX0_findLeast_3 : decode cX0_findLeast 3 = .ok (.iconst 0, 1) := by decide +kernel
theorem dX0_findLeast_4 : decode cX0_findLeast 4 = .ok (.istore 4, 2) := by decide +kernel
theorem dX0_findLeast_6 : decode cX0_findLeast 6 = .ok (.iload 4, 2) := by decide +kernel
theorem dX0_findLeast_8 : decode cX0_findLeast 8 = .ok (.bipush 12, 2) := by decide +kernel
theorem dX0_findLeast_10 : decode cX0_findLeast 10 = .ok (.if_icmp .ge 49, 3) := by decide +kernel
theorem dX0_findLeast_13 : decode cX0_findLeast 13 = .ok (.iload_n 1, 1) := by decide +kernel
theorem dX0_findLeast_14 : decode cX0_findLeast 14 = .ok (.iload 4, 2) := by decide +kernel
theorem dX0_findLeast_16 : decode cX0_findLeast 16 = .ok (.invokestatic 115, 3) := by decide +kernel
theorem dX0_findLeast_19 : decode cX0_findLeast 19 = .ok (.ifCond .eq 34, 3) := by decide +kernel
theorem dX0_findLeast_22 : decode cX0_findLeast 22 = .ok (.aload_n 0, 1) := by decide +kernel
theorem dX0_findLeast_23 : decode cX0_findLeast 23 = .ok (.getfield 21, 3) := by decide +kernel
theorem dX0_findLeast_26 : decode cX0_findLeast 26 = .ok (.iload 4, 2) := by decide +kernel
theorem dX0_findLeast_28 : decode cX0_findLeast 28 = .ok (.iconst 1, 1) := by decide +kernel
theorem dX0_findLeast_29 : decode cX0_findLeast 29 = .ok (.iload_n 2, 1) := by decide +kernel
theorem dX0_findLeast_30 : decode cX0_findLeast 30 = .ok (.invokevirtual 36, 3) := by decide +kernel
theorem dX0_findLeast_33 : decode cX0_findLeast 33 = .ok (.istore 5, 2) := by decide +kernel
theorem dX0_findLeast_35 : decode cX0_findLeast 35 = .ok (.iload_n 3, 1) := by decide +kernel
theorem dX0_findLeast_36 : decode cX0_findLeast 36 = .ok (.bipush (-2), 2) := by decide +kernel
theorem dX0_findLeast_38 : decode cX0_findLeast 38 = .ok (.if_icmp .ne 8, 3) := by decide +kernel
theorem dX0_findLeast_41 : decode cX0_findLeast 41 = .ok (.iload 5, 2) := by decide +kernel
theorem dX0_findLeast_43 : decode cX0_findLeast 43 = .ok (.goto 9, 3) := by decide +kernel
theorem dX0_findLeast_46 : decode cX0_findLeast 46 = .ok (.iload_n 3, 1) := by decide +kernel
theorem dX0_findLeast_47 : decode cX0_findLeast 47 = .ok (.iload 5, 2) := by decide +kernel
theorem dX0_findLeast_49 : decode cX0_findLeast 49 = .ok (.invokestatic 157, 3) := by decide +kernel
theorem dX0_findLeast_52 : decode cX0_findLeast 52 = .ok (.istore_n 3, 1) := by decide +kernel
theorem dX0_findLeast_53 : decode cX0_findLeast 53 = .ok (.iinc 4 1, 3) := by decide +kernel
theorem dX0_findLeast_56 : decode cX0_findLeast 56 = .ok (.goto (-50), 3) := by decide +kernel
theorem dX0_findLeast_59 : decode cX0_findLeast 59 = .ok (.iload_n 3, 1) := by decide +kernel
theorem dX0_findLeast_60 : decode cX0_findLeast 60 = .ok (.ireturn, 1) := by decide +kernel
theorem dX0_findOnlyWithBody_0 : decode cX0_findOnlyWithBody 0 = .ok (.bipush (-2), 2) := by decide +kernel
theorem dX0_findOnlyWithBody_2 : decode cX0_findOnlyWithBody 2 = .ok (.istore_n 3, 1) := by decide +kernel
theorem dX0_findOnlyWithBody_3 : decode cX0_findOnlyWithBody 3 = .ok (.iconst 0, 1) := by decide +kernel
theorem dX0_findOnlyWithBody_4 : decode cX0_findOnlyWithBody 4 = .ok (.istore 4, 2) := by decide +kernel
theorem dX0_findOnlyWithBody_6 : decode cX0_findOnlyWithBody 6 = .ok (.iload 4, 2) := by decide +kernel
theorem dX0_findOnlyWithBody_8 : decode cX0_findOnlyWithBody 8 = .ok (.bipush 12, 2) := by decide +kernel
theorem dX0_findOnlyWithBody_10 : decode cX0_findOnlyWithBody 10 = .ok (.if_icmp .ge 64, 3) := by decide +kernel
theorem dX0_findOnlyWithBody_13 : decode cX0_findOnlyWithBody 13 = .ok (.iload_n 1, 1) := by decide +kernel
theorem dX0_findOnlyWithBody_14 : decode cX0_findOnlyWithBody 14 = .ok (.iload 4, 2) := by decide +kernel
theorem dX0_findOnlyWithBody_16 : decode cX0_findOnlyWithBody 16 = .ok (.invokestatic 115, 3) := by decide +kernel
theorem dX0_findOnlyWithBody_19 : decode cX0_findOnlyWithBody 19 = .ok (.ifCond .eq 49, 3) := by decide +kernel
theorem dX0_findOnlyWithBody_22 : decode cX0_findOnlyWithBody 22 = .ok (.aload_n 0, 1) := by decide +kernel
theorem dX0_findOnlyWithBody_23 : decode cX0_findOnlyWithBody 23 = .ok (.getfield 21, 3) := by decide +kernel
theorem dX0_findOnlyWithBody_26 : decode cX0_findOnlyWithBody 26 = .ok (.iload 4, 2) := by decide +kernel
theorem dX0_findOnlyWithBody_28 : decode cX0_findOnlyWithBody 28 = .ok (.iconst 1, 1) := by decide +kernel
theorem dX0_findOnlyWithBody_29 : decode cX0_findOnlyWithBody 29 = .ok (.iload_n 2, 1) := by decide +kernel
theorem dX0_findOnlyWithBody_30 : decode cX0_findOnlyWithBody 30 = .ok (.invokevirtual 36, 3) := by decide +kernel
theorem dX0_findOnlyWithBody_33 : decode cX0_findOnlyWithBody 33 = .ok (.istore 5, 2) := by decide +kernel
theorem dX0_findOnlyWithBody_35 : decode cX0_findOnlyWithBody 35 = .ok (.iload 5, 2) := by decide +kernel
theorem dX0_findOnlyWithBody_37 : decode cX0_findOnlyWithBody 37 = .ok (.bipush (-2), 2) := by decide +kernel
theorem dX0_findOnlyWithBody_39 : decode cX0_findOnlyWithBody 39 = .ok (.if_icmp .eq 29, 3) := by decide +kernel
theorem dX0_findOnlyWithBody_42 : decode cX0_findOnlyWithBody 42 = .ok (.aload_n 0, 1) := by decide +kernel
theorem dX0_findOnlyWithBody_43 : decode cX0_findOnlyWithBody 43 = .ok (.getfield 21, 3) := by decide +kernel
theorem dX0_findOnlyWithBody_46 : decode cX0_findOnlyWithBody 46 = .ok (.iload 5, 2) := by decide +kernel
theorem dX0_findOnlyWithBody_48 : decode cX0_findOnlyWithBody 48 = .ok (.invokevirtual 162, 3) := by decide +kernel
theorem dX0_findOnlyWithBody_51 : decode cX0_findOnlyWithBody 51 = .ok (.ifCond .ne 17, 3) := by decide +kernel
theorem dX0_findOnlyWithBody_54 : decode cX0_findOnlyWithBody 54 = .ok (.iload_n 3, 1) := by decide +kernel
theorem dX0_findOnlyWithBody_55 : decode cX0_findOnlyWithBody 55 = .ok (.bipush (-2), 2) := by decide +kernel
theorem dX0_findOnlyWithBody_57 : decode cX0_findOnlyWithBody 57 = .ok (.if_icmp .ne 8, 3) := by decide +kernel
theorem dX0_findOnlyWithBody_60 : decode cX0_findOnlyWithBody 60 = .ok (.iload 5, 2) := by decide +kernel
theorem dX0_findOnlyWithBody_62 : decode cX0_findOnlyWithBody 62 = .ok (.goto 5, 3) := by decide +kernel
theorem dX0_findOnlyWithBody_65 : decode cX0_findOnlyWithBody 65 = .ok (.bipush (-4), 2) := by decide +kernel
theorem dX0_findOnlyWithBody_67 : decode cX0_findOnlyWithBody 67 = .ok (.istore_n 3, 1) := by decide +kernel
theorem dX0_findOnlyWithBody_68 : decode cX0_findOnlyWithBody 68 = .ok (.iinc 4 1, 3) := by decide +kernel
theorem dX0_findOnlyWithBody_71 : decode cX0_findOnlyWithBody 71 = .ok (.goto (-65), 3) := by decide +kernel
theorem dX0_findOnlyWithBody_74 : decode cX0_findOnlyWithBody 74 = .ok (.iload_n 3, 1) := by decide +kernel
theorem dX0_findOnlyWithBody_75 : decode cX0_findOnlyWithBody 75 = .ok (.ireturn, 1) := by decide +kernel
theorem dX0_checkMember_0 : decode cX0_checkMember 0 = .ok (.aload_n 0, 1) := by decide +kernel
theorem dX0_checkMember_1 : decode cX0_checkMember 1 = .ok (.iload_n 2, 1) := by decide +kernel
theorem dX0_checkMember_2 : decode cX0_checkMember 2 = .ok (.aload_n 1, 1) := by decide +kernel
theorem dX0_checkMember_3 : decode cX0_checkMember 3 = .ok (.getfield 64, 3) := by decide +kernel
theorem dX0_checkMember_6 : decode cX0_checkMember 6 = .ok (.aload_n 1, 1) := by decide +kernel
theorem dX0_checkMember_7 : decode cX0_checkMember 7 = .ok (.getfield 51, 3) := by decide +kernel
theorem dX0_checkMember_10 : decode cX0_checkMember 10 = .ok (.invokevirtual 165, 3) := by decide +kernel
theorem dX0_checkMember_13 : decode cX0_checkMember 13 = .ok (.ifCond .ne 9, 3) := by decide +kernel
theorem dX0_checkMember_16 : decode cX0_checkMember 16 = .ok (.sipush 272, 3) := by decide +kernel
theorem dX0_checkMember_19 : decode cX0_checkMember 19 = .ok (.iload_n 2, 1) := by decide +kernel
theorem dX0_checkMember_20 : decode cX0_checkMember 20 = .ok (.iadd, 1) := by decide +kernel
theorem dX0_checkMember_21 : decode cX0_checkMember 21 = .ok (.ireturn, 1) := by decide +kernel
theorem dX0_checkMember_22 : decode cX0_checkMember 22 = .ok (.aload_n 0, 1) := by decide +kernel
theorem dX0_checkMember_23 : decode cX0_checkMember 23 = .ok (.getfield 21, 3) := by decide +kernel
theorem dX0_checkMember_26 : decode cX0_checkMember 26 = .ok (.iload_n 2, 1) := by decide +kernel
theorem dX0_checkMember_27 : decode cX0_checkMember 27 = .ok (.invokevirtual 139, 3) := by decide +kernel
theorem dX0_checkMember_30 : decode cX0_checkMember 30 = .ok (.aload_n 1, 1) := by decide +kernel
theorem dX0_checkMember_31 : decode cX0_checkMember 31 = .ok (.invokevirtual 169, 3) := by decide +kernel
theorem dX0_checkMember_34 : decode cX0_checkMember 34 = .ok (.if_icmp .eq 9, 3) := by decide +kernel
theorem dX0_checkMember_37 : decode cX0_checkMember 37 = .ok (.sipush 208, 3) := by decide +kernel
theorem dX0_checkMember_40 : decode cX0_checkMember 40 = .ok (.iload_n 2, 1) := by decide +kernel
theorem dX0_checkMember_41 : decode cX0_checkMember 41 = .ok (.iadd, 1) := by decide +kernel
theorem dX0_checkMember_42 : decode cX0_checkMember 42 = .ok (.ireturn, 1) := by decide +kernel
theorem dX0_checkMember_43 : decode cX0_checkMember 43 = .ok (.aload_n 1, 1) := by decide +kernel
theorem dX0_checkMember_44 : decode cX0_checkMember 44 = .ok (.invokevirtual 172, 3) := by decide +kernel
theorem dX0_checkMember_47 : decode cX0_checkMember 47 = .ok (.ifCond .eq 35, 3) := by decide +kernel
theorem dX0_checkMember_50 : decode cX0_checkMember 50 = .ok (.aload_n 0, 1) := by decide +kernel
theorem dX0_checkMember_51 : decode cX0_checkMember 51 = .ok (.getfield 21, 3) := by decide +kernel
theorem dX0_checkMember_54 : decode cX0_checkMember 54 = .ok (.iload_n 2, 1) := by decide +kernel
theorem dX0_checkMember_55 : decode cX0_checkMember 55 = .ok (.invokevirtual 175, 3) := by decide +kernel
theorem dX0_checkMember_58 : decode cX0_checkMember 58 = .ok (.ifCond .eq 24, 3) := by decide +kernel
theorem dX0_checkMember_61 : decode cX0_checkMember 61 = .ok (.aload_n 0, 1) := by decide +kernel
theorem dX0_checkMember_62 : decode cX0_checkMember 62 = .ok (.getfield 21, 3) := by decide +kernel
theorem dX0_checkMember_65 : decode cX0_checkMember 65 = .ok (.iload_n 2, 1) := by decide +kernel
theorem dX0_checkMember_66 : decode cX0_checkMember 66 = .ok (.invokevirtual 178, 3) := by decide +kernel
theorem dX0_checkMember_69 : decode cX0_checkMember 69 = .ok (.aload_n 1, 1) := by decide +kernel
theorem dX0_checkMember_70 : decode cX0_checkMember 70 = .ok (.getfield 51, 3) := by decide +kernel
theorem dX0_checkMember_73 : decode cX0_checkMember 73 = .ok (.if_icmp .eq 9, 3) := by decide +kernel
theorem dX0_checkMember_76 : decode cX0_checkMember 76 = .ok (.sipush 272, 3) := by decide +kernel
theorem dX0_checkMember_79 : decode cX0_checkMember 79 = .ok (.iload_n 2, 1) := by decide +kernel
theorem dX0_checkMember_80 : decode cX0_checkMember 80 = .ok (.iadd, 1) := by decide +kernel
theorem dX0_checkMember_81 : decode cX0_checkMember 81 = .ok (.ireturn, 1) := by decide +kernel
theorem dX0_checkMember_82 : decode cX0_checkMember 82 = .ok (.aload_n 1, 1) := by decide +kernel
theorem dX0_checkMember_83 : decode cX0_checkMember 83 = .ok (.getfield 71, 3) := by decide +kernel
theorem dX0_checkMember_86 : decode cX0_checkMember 86 = .ok (.iconst 5, 1) := by decide +kernel
theorem dX0_checkMember_87 : decode cX0_checkMember 87 = .ok (.if_icmp .ne 30, 3) := by decide +kernel
theorem dX0_checkMember_90 : decode cX0_checkMember 90 = .ok (.aload_n 0, 1) := by decide +kernel
theorem dX0_checkMember_91 : decode cX0_checkMember 91 = .ok (.getfield 12, 3) := by decide +kernel
theorem dX0_checkMember_94 : decode cX0_checkMember 94 = .ok (.aload_n 1, 1) := by decide +kernel
theorem dX0_checkMember_95 : decode cX0_checkMember 95 = .ok (.getfield 51, 3) := by decide +kernel
theorem dX0_checkMember_98 : decode cX0_checkMember 98 = .ok (.aload_n 1, 1) := by decide +kernel
theorem dX0_checkMember_99 : decode cX0_checkMember 99 = .ok (.getfield 64, 3) := by decide +kernel
theorem dX0_checkMember_102 : decode cX0_checkMember 102 = .ok (.invokevirtual 181, 3) := by decide +kernel
theorem dX0_checkMember_105 : decode cX0_checkMember 105 = .ok (.ifCond .ne 12, 3) := by decide +kernel
theorem dX0_checkMember_108 : decode cX0_checkMember 108 = .ok (.sipush 192, 3) := by decide +kernel
theorem dX0_checkMember_111 : decode cX0_checkMember 111 = .ok (.aload_n 1, 1) := by decide +kernel
theorem dX0_checkMember_112 : decode cX0_checkMember 112 = .ok (.getfield 64, 3) := by decide +kernel
theorem dX0_checkMember_115 : decode cX0_checkMember 115 = .ok (.iadd, 1) := by decide +kernel
theorem dX0_checkMember_116 : decode cX0_checkMember 116 = .ok (.ireturn, 1) := by decide +kernel
theorem dX0_checkMember_117 : decode cX0_checkMember 117 = .ok (.aload_n 1, 1) := by decide +kernel
theorem dX0_checkMember_118 : decode cX0_checkMember 118 = .ok (.getfield 71, 3) := by decide +kernel
theorem dX0_checkMember_121 : decode cX0_checkMember 121 = .ok (.iconst 5, 1) := by decide +kernel
theorem dX0_checkMember_122 : decode cX0_checkMember 122 = .ok (.if_icmp .ne 20, 3) := by decide +kernel
theorem dX0_checkMember_125 : decode cX0_checkMember 125 = .ok (.aload_n 0, 1) := by decide +kernel
theorem dX0_checkMember_126 : decode cX0_checkMember 126 = .ok (.getfield 21, 3) := by decide +kernel
theorem dX0_checkMember_129 : decode cX0_checkMember 129 = .ok (.iload_n 2, 1) := by decide +kernel
theorem dX0_checkMember_130 : decode cX0_checkMember 130 = .ok (.invokevirtual 162, 3) := by decide +kernel
theorem dX0_checkMember_133 : decode cX0_checkMember 133 = .ok (.ifCond .eq 9, 3) := by decide +kernel
theorem dX0_checkMember_136 : decode cX0_checkMember 136 = .ok (.sipush 464, 3) := by decide +kernel
theorem dX0_checkMember_139 : decode cX0_checkMember 139 = .ok (.iload_n 2, 1) := by decide +kernel
theorem dX0_checkMember_140 : decode cX0_checkMember 140 = .ok (.iadd, 1) := by decide +kernel
theorem dX0_checkMember_141 : decode cX0_checkMember 141 = .ok (.ireturn, 1) := by decide +kernel
theorem dX0_checkMember_142 : decode cX0_checkMember 142 = .ok (.bipush 16, 2) := by decide +kernel
theorem dX0_checkMember_144 : decode cX0_checkMember 144 = .ok (.iload_n 2, 1) := by decide +kernel
theorem dX0_checkMember_145 : decode cX0_checkMember 145 = .ok (.iadd, 1) := by decide +kernel
theorem dX0_checkMember_146 : decode cX0_checkMember 146 = .ok (.ireturn, 1) := by decide +kernel
theorem dX0_isAccessible_0 : decode cX0_isAccessible 0 = .ok (.aload_n 0, 1) := by decide +kernel
theorem dX0_isAccessible_1 : decode cX0_isAccessible 1 = .ok (.getfield 21, 3) := by decide +kernel
theorem dX0_isAccessible_4 : decode cX0_isAccessible 4 = .ok (.iload_n 1, 1) := by decide +kernel
theorem dX0_isAccessible_5 : decode cX0_isAccessible 5 = .ok (.invokevirtual 178, 3) := by decide +kernel
theorem dX0_isAccessible_8 : decode cX0_isAccessible 8 = .ok (.istore 4, 2) := by decide +kernel
theorem dX0_isAccessible_10 : decode cX0_isAccessible 10 = .ok (.aload_n 0, 1) := by decide +kernel
theorem dX0_isAccessible_11 : decode cX0_isAccessible 11 = .ok (.getfield 21, 3) := by decide +kernel
theorem dX0_isAccessible_14 : decode cX0_isAccessible 14 = .ok (.iload_n 1, 1) := by decide +kernel
theorem dX0_isAccessible_15 : decode cX0_isAccessible 15 = .ok (.invokevirtual 96, 3) := by decide +kernel
theorem dX0_isAccessible_18 : decode cX0_isAccessible 18 = .ok (.tableswitch 68 1 3 #[57, 28, 26], 26) := by decide +kernel
theorem dX0_isAccessible_44 : decode cX0_isAccessible 44 = .ok (.iconst 1, 1) := by decide +kernel
theorem dX0_isAccessible_45 : decode cX0_isAccessible 45 = .ok (.ireturn, 1) := by decide +kernel
theorem dX0_isAccessible_46 : decode cX0_isAccessible 46 = .ok (.aload_n 0, 1) := by decide +kernel
theorem dX0_isAccessible_47 : decode cX0_isAccessible 47 = .ok (.getfield 12, 3) := by decide +kernel
theorem dX0_isAccessible_50 : decode cX0_isAccessible 50 = .ok (.iload 4, 2) := by decide +kernel
theorem dX0_isAccessible_52 : decode cX0_isAccessible 52 = .ok (.iload_n 3, 1) := by decide +kernel
theorem dX0_isAccessible_53 : decode cX0_isAccessible 53 = .ok (.invokevirtual 184, 3) := by decide +kernel
theorem dX0_isAccessible_56 : decode cX0_isAccessible 56 = .ok (.ifCond .ne 13, 3) := by decide +kernel
theorem dX0_isAccessible_59 : decode cX0_isAccessible 59 = .ok (.aload_n 0, 1) := by decide +kernel
theorem dX0_isAccessible_60 : decode cX0_isAccessible 60 = .ok (.iload_n 1, 1) := by decide +kernel
theorem dX0_isAccessible_61 : decode cX0_isAccessible 61 = .ok (.iload_n 2, 1) := by decide +kernel
theorem dX0_isAccessible_62 : decode cX0_isAccessible 62 = .ok (.iload_n 3, 1) := by decide +kernel
theorem dX0_isAccessible_63 : decode cX0_isAccessible 63 = .ok (.invokevirtual 187, 3) := by decide +kernel
theorem dX0_isAccessible_66 : decode cX0_isAccessible 66 = .ok (.ifCond .eq 7, 3) := by decide +kernel
theorem dX0_isAccessible_69 : decode cX0_isAccessible 69 = .ok (.iconst 1, 1) := by decide +kernel
theorem dX0_isAccessible_70 : decode cX0_isAccessible 70 = .ok (.goto 4, 3) := by decide +kernel
theorem dX0_isAccessible_73 : decode cX0_isAccessible 73 = .ok (.iconst 0, 1) := by decide +kernel
theorem dX0_isAccessible_74 : decode cX0_isAccessible 74 = .ok (.ireturn, 1) := by decide +kernel
theorem dX0_isAccessible_75 : decode cX0_isAccessible 75 = .ok (.aload_n 0, 1) := by decide +kernel
theorem dX0_isAccessible_76 : decode cX0_isAccessible 76 = .ok (.getfield 12, 3) := by decide +kernel
theorem dX0_isAccessible_79 : decode cX0_isAccessible 79 = .ok (.iload 4, 2) := by decide +kernel
theorem dX0_isAccessible_81 : decode cX0_isAccessible 81 = .ok (.iload_n 3, 1) := by decide +kernel
theorem dX0_isAccessible_82 : decode cX0_isAccessible 82 = .ok (.invokevirtual 184, 3) := by decide +kernel
theorem dX0_isAccessible_85 : decode cX0_isAccessible 85 = .ok (.ireturn, 1) := by decide +kernel
theorem dX0_isAccessible_86 : decode cX0_isAccessible 86 = .ok (.aload_n 0, 1) := by decide +kernel
theorem dX0_isAccessible_87 : decode cX0_isAccessible 87 = .ok (.getfield 12, 3) := by decide +kernel
theorem dX0_isAccessible_90 : decode cX0_isAccessible 90 = .ok (.iload 4, 2) := by decide +kernel
theorem dX0_isAccessible_92 : decode cX0_isAccessible 92 = .ok (.invokevirtual 190, 3) := by decide +kernel
theorem dX0_isAccessible_95 : decode cX0_isAccessible 95 = .ok (.aload_n 0, 1) := by decide +kernel
theorem dX0_isAccessible_96 : decode cX0_isAccessible 96 = .ok (.getfield 12, 3) := by decide +kernel
theorem dX0_isAccessible_99 : decode cX0_isAccessible 99 = .ok (.iload_n 3, 1) := by decide +kernel
theorem dX0_isAccessible_100 : decode cX0_isAccessible 100 = .ok (.invokevirtual 190, 3) := by decide +kernel
theorem dX0_isAccessible_103 : decode cX0_isAccessible 103 = .ok (.if_icmp .ne 7, 3) := by decide +kernel
theorem dX0_isAccessible_106 : decode cX0_isAccessible 106 = .ok (.iconst 1, 1) := by decide +kernel
theorem dX0_isAccessible_107 : decode cX0_isAccessible 107 = .ok (.goto 4, 3) := by decide +kernel
theorem dX0_isAccessible_110 : decode cX0_isAccessible 110 = .ok (.iconst 0, 1) := by decide +kernel
theorem dX0_isAccessible_111 : decode cX0_isAccessible 111 = .ok (.ireturn, 1) := by decide +kernel
theorem dX0_isInherited_0 : decode cX0_isInherited 0 = .ok (.aload_n 0, 1) := by decide +kernel
theorem dX0_isInherited_1 : decode cX0_isInherited 1 = .ok (.getfield 12, 3) := by decide +kernel
theorem dX0_isInherited_4 : decode cX0_isInherited 4 = .ok (.iload_n 3, 1) := by decide +kernel
theorem dX0_isInherited_5 : decode cX0_isInherited 5 = .ok (.aload_n 0, 1) := by decide +kernel
theorem dX0_isInherited_6 : decode cX0_isInherited 6 = .ok (.getfield 21, 3) := by decide +kernel
theorem dX0_isInherited_9 : decode cX0_isInherited 9 = .ok (.iload_n 1, 1) := by decide +kernel
theorem dX0_isInherited_10 : decode cX0_isInherited 10 = .ok (.invokevirtual 178, 3) := by decide +kernel
theorem dX0_isInherited_13 : decode cX0_isInherited 13 = .ok (.invokevirtual 193, 3) := by decide +kernel
theorem dX0_isInherited_16 : decode cX0_isInherited 16 = .ok (.ifCond .eq 42, 3) := by decide +kernel
theorem dX0_isInherited_19 : decode cX0_isInherited 19 = .ok (.aload_n 0, 1) := by decide +kernel
theorem dX0_isInherited_20 : decode cX0_isInherited 20 = .ok (.getfield 21, 3) := by decide +kernel
theorem dX0_isInherited_23 : decode cX0_isInherited 23 = .ok (.iload_n 1, 1) := by decide +kernel
theorem dX0_isInherited_24 : decode cX0_isInherited 24 = .ok (.invokevirtual 139, 3) := by decide +kernel
theorem dX0_isInherited_27 : decode cX0_isInherited 27 = .ok (.ifCond .ne 27, 3) := by decide +kernel
theorem dX0_isInherited_30 : decode cX0_isInherited 30 = .ok (.aload_n 0, 1) := by decide +kernel
theorem dX0_isInherited_31 : decode cX0_isInherited 31 = .ok (.getfield 12, 3) := by decide +kernel
theorem dX0_isInherited_34 : decode cX0_isInherited 34 = .ok (.iload_n 2, 1) := by decide +kernel
theorem dX0_isInherited_35 : decode cX0_isInherited 35 = .ok (.iload_n 3, 1) := by decide +kernel
theorem dX0_isInherited_36 : decode cX0_isInherited 36 = .ok (.invokevirtual 181, 3) := by decide +kernel
theorem dX0_isInherited_39 : decode cX0_isInherited 39 = .ok (.ifCond .ne 15, 3) := by decide +kernel
theorem dX0_isInherited_42 : decode cX0_isInherited 42 = .ok (.aload_n 0, 1) := by decide +kernel
theorem dX0_isInherited_43 : decode cX0_isInherited 43 = .ok (.getfield 12, 3) := by decide +kernel
theorem dX0_isInherited_46 : decode cX0_isInherited 46 = .ok (.iload_n 3, 1) := by decide +kernel
theorem dX0_isInherited_47 : decode cX0_isInherited 47 = .ok (.iload_n 2, 1) := by decide +kernel
theorem dX0_isInherited_48 : decode cX0_isInherited 48 = .ok (.invokevirtual 181, 3) := by decide +kernel
theorem dX0_isInherited_51 : decode cX0_isInherited 51 = .ok (.ifCond .eq 7, 3) := by decide +kernel
theorem dX0_isInherited_54 : decode cX0_isInherited 54 = .ok (.iconst 1, 1) := by decide +kernel
theorem dX0_isInherited_55 : decode cX0_isInherited 55 = .ok (.goto 4, 3) := by decide +kernel
theorem dX0_isInherited_58 : decode cX0_isInherited 58 = .ok (.iconst 0, 1) := by decide +kernel
theorem dX0_isInherited_59 : decode cX0_isInherited 59 = .ok (.ireturn, 1) := by decide +kernel
theorem dX0_isFit_0 : decode cX0_isFit 0 = .ok (.aload_n 0, 1) := by decide +kernel
theorem dX0_isFit_1 : decode cX0_isFit 1 = .ok (.getfield 12, 3) := by decide +kernel
theorem dX0_isFit_4 : decode cX0_isFit 4 = .ok (.iload_n 1, 1) := by decide +kernel
theorem dX0_isFit_5 : decode cX0_isFit 5 = .ok (.invokevirtual 57, 3) := by decide +kernel
theorem dX0_isFit_8 : decode cX0_isFit 8 = .ok (.invokestatic 61, 3) := by decide +kernel
theorem dX0_isFit_11 : decode cX0_isFit 11 = .ok (.ifCond .eq 30, 3) := by decide +kernel
theorem dX0_isFit_14 : decode cX0_isFit 14 = .ok (.aload_n 0, 1) := by decide +kernel
theorem dX0_isFit_15 : decode cX0_isFit 15 = .ok (.getfield 12, 3) := by decide +kernel
theorem dX0_isFit_18 : decode cX0_isFit 18 = .ok (.iload_n 1, 1) := by decide +kernel
theorem dX0_isFit_19 : decode cX0_isFit 19 = .ok (.invokevirtual 196, 3) := by decide +kernel
theorem dX0_isFit_22 : decode cX0_isFit 22 = .ok (.ifCond .eq 19, 3) := by decide +kernel
theorem dX0_isFit_25 : decode cX0_isFit 25 = .ok (.aload_n 0, 1) := by decide +kernel
theorem dX0_isFit_26 : decode cX0_isFit 26 = .ok (.getfield 12, 3) := by decide +kernel
theorem dX0_isFit_29 : decode cX0_isFit 29 = .ok (.iload_n 1, 1) := by decide +kernel
theorem dX0_isFit_30 : decode cX0_isFit 30 = .ok (.iload_n 2, 1) := by decide +kernel
theorem dX0_isFit_31 : decode cX0_isFit 31 = .ok (.invokevirtual 181, 3) := by decide +kernel
theorem dX0_isFit_34 : decode cX0_isFit 34 = .ok (.ifCond .eq 7, 3) := by decide +kernel
theorem dX0_isFit_37 : decode cX0_isFit 37 = .ok (.iconst 1, 1) := by decide +kernel
theorem dX0_isFit_38 : decode cX0_isFit 38 = .ok (.goto 4, 3) := by decide +kernel
theorem dX0_isFit_41 : decode cX0_isFit 41 = .ok (.iconst 0, 1) := by decide +kernel
theorem dX0_isFit_42 : decode cX0_isFit 42 = .ok (.ireturn, 1) := by decide +kernel
theorem dX0_selectFor_0 : decode cX0_selectFor 0 = .ok (.iload_n 1, 1) := by decide +kernel
theorem dX0_selectFor_1 : decode cX0_selectFor 1 = .ok (.istore 4, 2) := by decide +kernel
theorem dX0_selectFor_3 : decode cX0_selectFor 3 = .ok (.iconst 0, 1) := by decide +kernel
theorem dX0_selectFor_4 : decode cX0_selectFor 4 = .ok (.istore 5, 2) := by decide +kernel
theorem dX0_selectFor_6 : decode cX0_selectFor 6 = .ok (.iload 5, 2) := by decide +kernel
theorem dX0_selectFor_8 : decode cX0_selectFor 8 = .ok (.bipush 12, 2) := by decide +kernel
theorem dX0_selectFor_10 : decode cX0_selectFor 10 = .ok (.if_icmp .ge 62, 3) := by decide +kernel
theorem dX0_selectFor_13 : decode cX0_selectFor 13 = .ok (.iload 4, 2) := by decide +kernel
theorem dX0_selectFor_15 : decode cX0_selectFor 15 = .ok (.iconst (-1), 1) := by decide +kernel
theorem dX0_selectFor_16 : decode cX0_selectFor 16 = .ok (.if_icmp .eq 56, 3) := by decide +kernel
theorem dX0_selectFor_19 : decode cX0_selectFor 19 = .ok (.aload_n 0, 1) := by decide +kernel
theorem dX0_selectFor_20 : decode cX0_selectFor 20 = .ok (.getfield 21, 3) := by decide +kernel
theorem dX0_selectFor_23 : decode cX0_selectFor 23 = .ok (.iload 4, 2) := by decide +kernel
theorem dX0_selectFor_25 : decode cX0_selectFor 25 = .ok (.iconst 1, 1) := by decide +kernel
theorem dX0_selectFor_26 : decode cX0_selectFor 26 = .ok (.iload_n 3, 1) := by decide +kernel
theorem dX0_selectFor_27 : decode cX0_selectFor 27 = .ok (.invokevirtual 36, 3) := by decide +kernel
theorem dX0_selectFor_30 : decode cX0_selectFor 30 = .ok (.istore 6, 2) := by decide +kernel
theorem dX0_selectFor_32 : decode cX0_selectFor 32 = .ok (.iload 6, 2) := by decide +kernel
theorem dX0_selectFor_34 : decode cX0_selectFor 34 = .ok (.bipush (-2), 2) := by decide +kernel
theorem dX0_selectFor_36 : decode cX0_selectFor 36 = .ok (.if_icmp .eq 19, 3) := by decide +kernel
theorem dX0_selectFor_39 : decode cX0_selectFor 39 = .ok (.aload_n 0, 1) := by decide +kernel
theorem dX0_selectFor_40 : decode cX0_selectFor 40 = .ok (.iload 6, 2) := by decide +kernel
theorem dX0_selectFor_42 : decode cX0_selectFor 42 = .ok (.iload_n 2, 1) := by decide +kernel
theorem dX0_selectFor_43 : decode cX0_selectFor 43 = .ok (.invokevirtual 199, 3) := by decide +kernel
theorem dX0_selectFor_46 : decode cX0_selectFor 46 = .ok (.ifCond .eq 9, 3) := by decide +kernel
theorem dX0_selectFor_49 : decode cX0_selectFor 49 = .ok (.bipush 16, 2) := by decide +kernel
theorem dX0_selectFor_51 : decode cX0_selectFor 51 = .ok (.iload 6, 2) := by decide +kernel
theorem dX0_selectFor_53 : decode cX0_selectFor 53 = .ok (.iadd, 1) := by decide +kernel
theorem dX0_selectFor_54 : decode cX0_selectFor 54 = .ok (.ireturn, 1) := by decide +kernel
theorem dX0_selectFor_55 : decode cX0_selectFor 55 = .ok (.aload_n 0, 1) := by decide +kernel
theorem dX0_selectFor_56 : decode cX0_selectFor 56 = .ok (.getfield 12, 3) := by decide +kernel
theorem dX0_selectFor_59 : decode cX0_selectFor 59 = .ok (.iload 4, 2) := by decide +kernel
theorem dX0_selectFor_61 : decode cX0_selectFor 61 = .ok (.invokevirtual 124, 3) := by decide +kernel
theorem dX0_selectFor_64 : decode cX0_selectFor 64 = .ok (.istore 4, 2) := by decide +kernel
theorem dX0_selectFor_66 : decode cX0_selectFor 66 = .ok (.iinc 5 1, 3) := by decide +kernel
theorem dX0_selectFor_69 : decode cX0_selectFor 69 = .ok (.goto (-63), 3) := by decide +kernel
theorem dX0_selectFor_72 : decode cX0_selectFor 72 = .ok (.aload_n 0, 1) := by decide +kernel
theorem dX0_selectFor_73 : decode cX0_selectFor 73 = .ok (.iload_n 1, 1) := by decide +kernel
theorem dX0_selectFor_74 : decode cX0_selectFor 74 = .ok (.iload_n 3, 1) := by decide +kernel
theorem dX0_selectFor_75 : decode cX0_selectFor 75 = .ok (.invokevirtual 202, 3) := by decide +kernel
theorem dX0_selectFor_78 : decode cX0_selectFor 78 = .ok (.ireturn, 1) := by decide +kernel
theorem dX0_selectFromFaces_0 : decode cX0_selectFromFaces 0 = .ok (.aload_n 0, 1) := by decide +kernel
theorem dX0_selectFromFaces_1 : decode cX0_selectFromFaces 1 = .ok (.getfield 12, 3) := by decide +kernel
theorem dX0_selectFromFaces_4 : decode cX0_selectFromFaces 4 = .ok (.iload_n 1, 1) := by decide +kernel
theorem dX0_selectFromFaces_5 : decode cX0_selectFromFaces 5 = .ok (.invokevirtual 142, 3) := by decide +kernel
theorem dX0_selectFromFaces_8 : decode cX0_selectFromFaces 8 = .ok (.aload_n 0, 1) := by decide +kernel
theorem dX0_selectFromFaces_9 : decode cX0_selectFromFaces 9 = .ok (.getfield 21, 3) := by decide +kernel
theorem dX0_selectFromFaces_12 : decode cX0_selectFromFaces 12 = .ok (.iload_n 2, 1) := by decide +kernel
theorem dX0_selectFromFaces_13 : decode cX0_selectFromFaces 13 = .ok (.invokevirtual 145, 3) := by decide +kernel
theorem dX0_selectFromFaces_16 : decode cX0_selectFromFaces 16 = .ok (.iand, 1) := by decide +kernel
theorem dX0_selectFromFaces_17 : decode cX0_selectFromFaces 17 = .ok (.istore_n 3, 1) := by decide +kernel
theorem dX0_selectFromFaces_18 : decode cX0_selectFromFaces 18 = .ok (.aload_n 0, 1) := by decide +kernel
theorem dX0_selectFromFaces_19 : decode cX0_selectFromFaces 19 = .ok (.aload_n 0, 1) := by decide +kernel
theorem dX0_selectFromFaces_20 : decode cX0_selectFromFaces 20 = .ok (.getfield 12, 3) := by decide +kernel
theorem dX0_selectFromFaces_23 : decode cX0_selectFromFaces 23 = .ok (.iload_n 3, 1) := by decide +kernel
theorem dX0_selectFromFaces_24 : decode cX0_selectFromFaces 24 = .ok (.invokevirtual 148, 3) := by decide +kernel
theorem dX0_selectFromFaces_27 : decode cX0_selectFromFaces 27 = .ok (.iload_n 2, 1) := by decide +kernel
theorem dX0_selectFromFaces_28 : decode cX0_selectFromFaces 28 = .ok (.invokevirtual 151, 3) := by decide +kernel
theorem dX0_selectFromFaces_31 : decode cX0_selectFromFaces 31 = .ok (.istore 4, 2) := by decide +kernel
theorem dX0_selectFromFaces_33 : decode cX0_selectFromFaces 33 = .ok (.iload 4, 2) := by decide +kernel
theorem dX0_selectFromFaces_35 : decode cX0_selectFromFaces 35 = .ok (.bipush (-4), 2) := by decide +kernel
theorem dX0_selectFromFaces_37 : decode cX0_selectFromFaces 37 = .ok (.if_icmp .ne 9, 3) := by decide +kernel
theorem dX0_selectFromFaces_40 : decode cX0_selectFromFaces 40 = .ok (.sipush 192, 3) := by decide +kernel
theorem dX0_selectFromFaces_43 : decode cX0_selectFromFaces 43 = .ok (.iload_n 1, 1) := by decide +kernel
theorem dX0_selectFromFaces_44 : decode cX0_selectFromFaces 44 = .ok (.iadd, 1) := by decide +kernel
theorem dX0_selectFromFaces_45 : decode cX0_selectFromFaces 45 = .ok (.ireturn, 1) := by decide +kernel
theorem dX0_selectFromFaces_46 : decode cX0_selectFromFaces 46 = .ok (.iload 4, 2) := by decide +kernel
theorem dX0_selectFromFaces_48 : decode cX0_selectFromFaces 48 = .ok (.bipush (-2), 2) := by decide +kernel
theorem dX0_selectFromFaces_50 : decode cX0_selectFromFaces 50 = .ok (.if_icmp .ne 11, 3) := by decide +kernel
theorem dX0_selectFromFaces_53 : decode cX0_selectFromFaces 53 = .ok (.sipush 448, 3) := by decide +kernel
theorem dX0_selectFromFaces_56 : decode cX0_selectFromFaces 56 = .ok (.iload_n 1, 1) := by decide +kernel
theorem dX0_selectFromFaces_57 : decode cX0_selectFromFaces 57 = .ok (.iadd, 1) := by decide +kernel
theorem dX0_selectFromFaces_58 : decode cX0_selectFromFaces 58 = .ok (.goto 8, 3) := by decide +kernel
theorem dX0_selectFromFaces_61 : decode cX0_selectFromFaces 61 = .ok (.bipush 16, 2) := by decide +kernel
theorem dX0_selectFromFaces_63 : decode cX0_selectFromFaces 63 = .ok (.iload 4, 2) := by decide +kernel
theorem dX0_selectFromFaces_65 : decode cX0_selectFromFaces 65 = .ok (.iadd, 1) := by decide +kernel
theorem dX0_selectFromFaces_66 : decode cX0_selectFromFaces 66 = .ok (.ireturn, 1) := by decide +kernel
theorem dX0_overrides_0 : decode cX0_overrides 0 = .ok (.aload_n 0, 1) := by decide +kernel
theorem dX0_overrides_1 : decode cX0_overrides 1 = .ok (.getfield 21, 3) := by decide +kernel
theorem dX0_overrides_4 : decode cX0_overrides 4 = .ok (.iload_n 1, 1) := by decide +kernel
theorem dX0_overrides_5 : decode cX0_overrides 5 = .ok (.invokevirtual 205, 3) := by decide +kernel
theorem dX0_overrides_8 : decode cX0_overrides 8 = .ok (.ifCond .ne 5, 3) := by decide +kernel
theorem dX0_overrides_11 : decode cX0_overrides 11 = .ok (.iconst 0, 1) := by decide +kernel
theorem dX0_overrides_12 : decode cX0_overrides 12 = .ok (.ireturn, 1) := by decide +kernel
theorem dX0_overrides_13 : decode cX0_overrides 13 = .ok (.iload_n 1, 1) := by decide +kernel
theorem dX0_overrides_14 : decode cX0_overrides 14 = .ok (.iload_n 2, 1) := by decide +kernel
theorem dX0_overrides_15 : decode cX0_overrides 15 = .ok (.if_icmp .eq 41, 3) := by decide +kernel
theorem dX0_overrides_18 : decode cX0_overrides 18 = .ok (.aload_n 0, 1) := by decide +kernel
theorem dX0_overrides_19 : decode cX0_overrides 19 = .ok (.getfield 21, 3) := by decide +kernel
theorem dX0_overrides_22 : decode cX0_overrides 22 = .ok (.iload_n 2, 1) := by decide +kernel
theorem dX0_overrides_23 : decode cX0_overrides 23 = .ok (.invokevirtual 96, 3) := by decide +kernel
theorem dX0_overrides_26 : decode cX0_overrides 26 = .ok (.iconst 1, 1) := by decide +kernel
theorem dX0_overrides_27 : decode cX0_overrides 27 = .ok (.if_icmp .ne 29, 3) := by decide +kernel
theorem dX0_overrides_30 : decode cX0_overrides 30 = .ok (.aload_n 0, 1) := by decide +kernel
theorem dX0_overrides_31 : decode cX0_overrides 31 = .ok (.getfield 12, 3) := by decide +kernel
theorem dX0_overrides_34 : decode cX0_overrides 34 = .ok (.aload_n 0, 1) := by decide +kernel
theorem dX0_overrides_35 : decode cX0_overrides 35 = .ok (.getfield 21, 3) := by decide +kernel
theorem dX0_overrides_38 : decode cX0_overrides 38 = .ok (.iload_n 1, 1) := by decide +kernel
theorem dX0_overrides_39 : decode cX0_overrides 39 = .ok (.invokevirtual 178, 3) := by decide +kernel
theorem dX0_overrides_42 : decode cX0_overrides 42 = .ok (.aload_n 0, 1) := by decide +kernel
theorem dX0_overrides_43 : decode cX0_overrides 43 = .ok (.getfield 21, 3) := by decide +kernel
theorem dX0_overrides_46 : decode cX0_overrides 46 = .ok (.iload_n 2, 1) := by decide +kernel
theorem dX0_overrides_47 : decode cX0_overrides 47 = .ok (.invokevirtual 178, 3) := by decide +kernel
theorem dX0_overrides_50 : decode cX0_overrides 50 = .ok (.invokevirtual 184, 3) := by decide +kernel
theorem dX0_overrides_53 : decode cX0_overrides 53 = .ok (.ifCond .eq 7, 3) := by decide +kernel
theorem dX0_overrides_56 : decode cX0_overrides 56 = .ok (.iconst 1, 1) := by decide +kernel
theorem dX0_overrides_57 : decode cX0_overrides 57 = .ok (.goto 4, 3) := by decide +kernel
theorem dX0_overrides_60 : decode cX0_overrides 60 = .ok (.iconst 0, 1) := by decide +kernel
theorem dX0_overrides_61 : decode cX0_overrides 61 = .ok (.ireturn, 1) := by decide +kernel
theorem dX0_checkSelected_0 : decode cX0_checkSelected 0 = .ok (.aload_n 0, 1) := by decide +kernel
theorem dX0_checkSelected_1 : decode cX0_checkSelected 1 = .ok (.getfield 21, 3) := by decide +kernel
theorem dX0_checkSelected_4 : decode cX0_checkSelected 4 = .ok (.iload_n 2, 1) := by decide +kernel
theorem dX0_checkSelected_5 : decode cX0_checkSelected 5 = .ok (.invokevirtual 162, 3) := by decide +kernel
theorem dX0_checkSelected_8 : decode cX0_checkSelected 8 = .ok (.ifCond .eq 9, 3) := by decide +kernel
theorem dX0_checkSelected_11 : decode cX0_checkSelected 11 = .ok (.sipush 464, 3) := by decide +kernel
theorem dX0_checkSelected_14 : decode cX0_checkSelected 14 = .ok (.iload_n 2, 1) := by decide +kernel
theorem dX0_checkSelected_15 : decode cX0_checkSelected 15 = .ok (.iadd, 1) := by decide +kernel
theorem dX0_checkSelected_16 : decode cX0_checkSelected 16 = .ok (.ireturn, 1) := by decide +kernel
theorem dX0_checkSelected_17 : decode cX0_checkSelected 17 = .ok (.aload_n 0, 1) := by decide +kernel
theorem dX0_checkSelected_18 : decode cX0_checkSelected 18 = .ok (.getfield 21, 3) := by decide +kernel
theorem dX0_checkSelected_21 : decode cX0_checkSelected 21 = .ok (.iload_n 2, 1) := by decide +kernel
theorem dX0_checkSelected_22 : decode cX0_checkSelected 22 = .ok (.invokevirtual 96, 3) := by decide +kernel
theorem dX0_checkSelected_25 : decode cX0_checkSelected 25 = .ok (.istore_n 3, 1) := by decide +kernel
theorem dX0_checkSelected_26 : decode cX0_checkSelected 26 = .ok (.aload_n 1, 1) := by decide +kernel
theorem dX0_checkSelected_27 : decode cX0_checkSelected 27 = .ok (.getfield 71, 3) := by decide +kernel
theorem dX0_checkSelected_30 : decode cX0_checkSelected 30 = .ok (.bipush 7, 2) := by decide +kernel
theorem dX0_checkSelected_32 : decode cX0_checkSelected 32 = .ok (.if_icmp .ne 18, 3) := by decide +kernel
theorem dX0_checkSelected_35 : decode cX0_checkSelected 35 = .ok (.iload_n 3, 1) := by decide +kernel
theorem dX0_checkSelected_36 : decode cX0_checkSelected 36 = .ok (.iconst 3, 1) := by decide +kernel
theorem dX0_checkSelected_37 : decode cX0_checkSelected 37 = .ok (.if_icmp .eq 13, 3) := by decide +kernel
theorem dX0_checkSelected_40 : decode cX0_checkSelected 40 = .ok (.iload_n 3, 1) := by decide +kernel
theorem dX0_checkSelected_41 : decode cX0_checkSelected 41 = .ok (.ifCond .eq 9, 3) := by decide +kernel
theorem dX0_checkSelected_44 : decode cX0_checkSelected 44 = .ok (.sipush 272, 3) := by decide +kernel
theorem dX0_checkSelected_47 : decode cX0_checkSelected 47 = .ok (.iload_n 2, 1) := by decide +kernel
theorem dX0_checkSelected_48 : decode cX0_checkSelected 48 = .ok (.iadd, 1) := by decide +kernel
theorem dX0_checkSelected_49 : decode cX0_checkSelected 49 = .ok (.ireturn, 1) := by decide +kernel
theorem dX0_checkSelected_50 : decode cX0_checkSelected 50 = .ok (.bipush 16, 2) := by decide +kernel
theorem dX0_checkSelected_52 : decode cX0_checkSelected 52 = .ok (.iload_n 2, 1) := by decide +kernel
theorem dX0_checkSelected_53 : decode cX0_checkSelected 53 = .ok (.iadd, 1) := by decide +kernel
theorem dX0_checkSelected_54 : decode cX0_checkSelected 54 = .ok (.ireturn, 1) := by decide +kernel
theorem dX1_init_0 : decode cX1_init 0 = .ok (.aload_n 0, 1) := by decide +kernel
theorem dX1_init_1 : decode cX1_init 1 = .ok (.invokespecial 3, 3) := by decide +kernel
theorem dX1_init_4 : decode cX1_init 4 = .ok (.aload_n 0, 1) := by decide +kernel
theorem dX1_init_5 : decode cX1_init 5 = .ok (.bipush 12, 2) := by decide +kernel
theorem dX1_init_7 : decode cX1_init 7 = .ok (.newarray .int, 2) := by decide +kernel
theorem dX1_init_9 : decode cX1_init 9 = .ok (.putfield 9, 3) := by decide +kernel
theorem dX1_init_12 : decode cX1_init 12 = .ok (.aload_n 0, 1) := by decide +kernel
theorem dX1_init_13 : decode cX1_init 13 = .ok (.bipush 12, 2) := by decide +kernel
theorem dX1_init_15 : decode cX1_init 15 = .ok (.newarray .int, 2) := by decide +kernel
theorem dX1_init_17 : decode cX1_init 17 = .ok (.putfield 15, 3) := by decide +kernel
theorem dX1_init_20 : decode cX1_init 20 = .ok (.aload_n 0, 1) := by decide +kernel
theorem dX1_init_21 : decode cX1_init 21 = .ok (.bipush 12, 2) := by decide +kernel
theorem dX1_init_23 : decode cX1_init 23 = .ok (.newarray .int, 2) := by decide +kernel
theorem dX1_init_25 : decode cX1_init 25 = .ok (.putfield 18, 3) := by decide +kernel
theorem dX1_init_28 : decode cX1_init 28 = .ok (.aload_n 0, 1) := by decide +kernel
theorem dX1_init_29 : decode cX1_init 29 = .ok (.bipush 12, 2) := by decide +kernel
theorem dX1_init_31 : decode cX1_init 31 = .ok (.newarray .int, 2) := by decide +kernel
theorem dX1_init_33 : decode cX1_init 33 = .ok (.putfield 21, 3) := by decide +kernel
theorem dX1_init_36 : decode cX1_init 36 = .ok (.aload_n 0, 1) := by decide +kernel
theorem dX1_init_37 : decode cX1_init 37 = .ok (.bipush 12, 2) := by decide +kernel
theorem dX1_init_39 : decode cX1_init 39 = .ok (.newarray .int, 2) := by decide +kernel
theorem dX1_init_41 : decode cX1_init 41 = .ok (.putfield 24, 3) := by decide +kernel
theorem dX1_init_44 : decode cX1_init 44 = .ok (.aload_n 0, 1) := by decide +kernel
theorem dX1_init_45 : decode cX1_init 45 = .ok (.bipush 12, 2) := by decide +kernel
theorem dX1_init_47 : decode cX1_init 47 = .ok (.newarray .int, 2) := by decide +kernel
theorem dX1_init_49 : decode cX1_init 49 = .ok (.putfield 27, 3) := by decide +kernel
theorem dX1_init_52 : decode cX1_init 52 = .ok (.aload_n 0, 1) := by decide +kernel
theorem dX1_init_53 : decode cX1_init 53 = .ok (.bipush 12, 2) := by decide +kernel
theorem dX1_init_55 : decode cX1_init 55 = .ok (.newarray .int, 2) := by decide +kernel
theorem dX1_init_57 : decode cX1_init 57 = .ok (.putfield 30, 3) := by decide +kernel
theorem dX1_init_60 : decode cX1_init 60 = .ok (.aload_n 0, 1) := by decide +kernel
theorem dX1_init_61 : decode cX1_init 61 = .ok (.bipush 12, 2) := by decide +kernel
theorem dX1_init_63 : decode cX1_init 63 = .ok (.newarray .int, 2) := by decide +kernel
theorem dX1_init_65 : decode cX1_init 65 = .ok (.putfield 33, 3) := by decide +kernel
theorem dX1_init_68 : decode cX1_init 68 = .ok (.aload_n 0, 1) := by decide +kernel
theorem dX1_init_69 : decode cX1_init 69 = .ok (.iconst 0, 1) := by decide +kernel
theorem dX1_init_70 : decode cX1_init 70 = .ok (.invokestatic 36, 3) := by decide +kernel
theorem dX1_init_73 : decode cX1_init 73 = .ok (.putfield 40, 3) := by decide +kernel
theorem dX1_init_76 : decode cX1_init 76 = .ok (.aload_n 0, 1) := by decide +kernel
theorem dX1_init_77 : decode cX1_init 77 = .ok (.getfield 9, 3) := by decide +kernel
theorem dX1_init_80 : decode cX1_init 80 = .ok (.iconst 0, 1) := by decide +kernel
theorem dX1_init_81 : decode cX1_init 81 = .ok (.iconst 1, 1) := by decide +kernel
theorem dX1_init_82 : decode cX1_init 82 = .ok (.iastore, 1) := by decide +kernel
theorem dX1_init_83 : decode cX1_init 83 = .ok (.aload_n 0, 1) := by decide +kernel
theorem dX1_init_84 : decode cX1_init 84 = .ok (.getfield 18, 3) := by decide +kernel
theorem dX1_init_87 : decode cX1_init 87 = .ok (.iconst 0, 1) := by decide +kernel
theorem dX1_init_88 : decode cX1_init 88 = .ok (.iconst (-1), 1) := by decide +kernel
theorem dX1_init_89 : decode cX1_init 89 = .ok (.iastore, 1) := by decide +kernel
theorem dX1_init_90 : decode cX1_init 90 = .ok (.aload_n 0, 1) := by decide +kernel
theorem dX1_init_91 : decode cX1_init 91 = .ok (.invokevirtual 44, 3) := by decide +kernel
theorem dX1_init_94 : decode cX1_init 94 = .ok (.return_, 1) := by decide +kernel
theorem dX1_define_0 : decode cX1_define 0 = .ok (.aload_n 0, 1) := by decide +kernel
theorem dX1_define_1 : decode cX1_define 1 = .ok (.dup, 1) := by decide +kernel
theorem dX1_define_2 : decode cX1_define 2 = .ok (.getfield 40, 3) := by decide +kernel
theorem dX1_define_5 : decode cX1_define 5 = .ok (.iload_n 1, 1) := by decide +kernel
theorem dX1_define_6 : decode cX1_define 6 = .ok (.invokestatic 36, 3) := by decide +kernel
theorem dX1_define_9 : decode cX1_define 9 = .ok (.ior, 1) := by decide +kernel
theorem dX1_define_10 : decode cX1_define 10 = .ok (.putfield 40, 3) := by decide +kernel
theorem dX1_define_13 : decode cX1_define 13 = .ok (.aload_n 0, 1) := by decide +kernel
theorem dX1_define_14 : decode cX1_define 14 = .ok (.getfield 9, 3) := by decide +kernel
theorem dX1_define_17 : decode cX1_define 17 = .ok (.iload_n 1, 1) := by decide +kernel
theorem dX1_define_18 : decode cX1_define 18 = .ok (.iload_n 2, 1) := by decide +kernel
theorem dX1_define_19 : decode cX1_define 19 = .ok (.iastore, 1) := by decide +kernel
theorem dX1_define_20 : decode cX1_define 20 = .ok (.aload_n 0, 1) := by decide +kernel
theorem dX1_define_21 : decode cX1_define 21 = .ok (.getfield 15, 3) := by decide +kernel
theorem dX1_define_24 : decode cX1_define 24 = .ok (.iload_n 1, 1) := by decide +kernel
theorem dX1_define_25 : decode cX1_define 25 = .ok (.iload_n 3, 1) := by decide +kernel
theorem dX1_define_26 : decode cX1_define 26 = .ok (.iastore, 1) := by decide +kernel
theorem dX1_define_27 : decode cX1_define 27 = .ok (.aload_n 0, 1) := by decide +kernel
theorem dX1_define_28 : decode cX1_define 28 = .ok (.getfield 18, 3) := by decide +kernel
theorem dX1_define_31 : decode cX1_define 31 = .ok (.iload_n 1, 1) := by decide +kernel
theorem dX1_define_32 : decode cX1_define 32 = .ok (.iload 4, 2) := by decide +kernel
theorem dX1_define_34 : decode cX1_define 34 = .ok (.iastore, 1) := by decide +kernel
theorem dX1_define_35 : decode cX1_define 35 = .ok (.aload_n 0, 1) := by decide +kernel
theorem dX1_define_36 : decode cX1_define 36 = .ok (.getfield 21, 3) := by decide +kernel
theorem dX1_define_39 : decode cX1_define 39 = .ok (.iload_n 1, 1) := by decide +kernel
theorem dX1_define_40 : decode cX1_define 40 = .ok (.iload 5, 2) := by decide +kernel
theorem dX1_define_42 : decode cX1_define 42 = .ok (.iastore, 1) := by decide +kernel
theorem dX1_define_43 : decode cX1_define 43 = .ok (.aload_n 0, 1) := by decide +kernel
theorem dX1_define_44 : decode cX1_define 44 = .ok (.getfield 24, 3) := by decide +kernel
theorem dX1_define_47 : decode cX1_define 47 = .ok (.iload_n 1, 1) := by decide +kernel
theorem dX1_define_48 : decode cX1_define 48 = .ok (.iload_n 1, 1) := by decide +kernel
theorem dX1_define_49 : decode cX1_define 49 = .ok (.iastore, 1) := by decide +kernel
theorem dX1_define_50 : decode cX1_define 50 = .ok (.aload_n 0, 1) := by decide +kernel
theorem dX1_define_51 : decode cX1_define 51 = .ok (.invokevirtual 44, 3) := by decide +kernel
theorem dX1_define_54 : decode cX1_define 54 = .ok (.return_, 1) := by decide +kernel
theorem dX1_putHost_0 : decode cX1_putHost 0 = .ok (.aload_n 0, 1) := by decide +kernel
theorem dX1_putHost_1 : decode cX1_putHost 1 = .ok (.iload_n 1, 1) := by decide +kernel
theorem dX1_putHost_2 : decode cX1_putHost 2 = .ok (.invokevirtual 47, 3) := by decide +kernel
theorem dX1_putHost_5 : decode cX1_putHost 5 = .ok (.ifCond .ne 5, 3) := by decide +kernel
theorem dX1_putHost_8 : decode cX1_putHost 8 = .ok (.iconst 0, 1) := by decide +kernel
theorem dX1_putHost_9 : decode cX1_putHost 9 = .ok (.ireturn, 1) := by decide +kernel
theorem dX1_putHost_10 : decode cX1_putHost 10 = .ok (.aload_n 0, 1) := by decide +kernel
theorem dX1_putHost_11 : decode cX1_putHost 11 = .ok (.getfield 24, 3) := by decide +kernel
theorem dX1_putHost_14 : decode cX1_putHost 14 = .ok (.iload_n 1, 1) := by decide +kernel
theorem dX1_putHost_15 : decode cX1_putHost 15 = .ok (.iload_n 2, 1) := by decide +kernel
theorem dX1_putHost_16 : decode cX1_putHost 16 = .ok (.iastore, 1) := by decide +kernel
theorem dX1_putHost_17 : decode cX1_putHost 17 = .ok (.iconst 1, 1) := by decide +kernel
theorem dX1_putHost_18 : decode cX1_putHost 18 = .ok (.ireturn, 1) := by decide +kernel
theorem dX1_takeAway_0 : decode cX1_takeAway 0 = .ok (.aload_n 0, 1) := by decide +kernel
theorem dX1_takeAway_1 : decode cX1_takeAway 1 = .ok (.iload_n 1, 1) := by decide +kernel
theorem dX1_takeAway_2 : decode cX1_takeAway 2 = .ok (.invokevirtual 47, 3) := by decide +kernel
theorem dX1_takeAway_5 : decode cX1_takeAway 5 = .ok (.ifCond .ne 5, 3) := by decide +kernel
theorem dX1_takeAway_8 : decode cX1_takeAway 8 = .ok (.iconst 0, 1) := by decide +kernel
theorem dX1_takeAway_9 : decode cX1_takeAway 9 = .ok (.ireturn, 1) := by decide +kernel
theorem dX1_takeAway_10 : decode cX1_takeAway 10 = .ok (.aload_n 0, 1) := by decide +kernel
theorem dX1_takeAway_11 : decode cX1_takeAway 11 = .ok (.dup, 1) := by decide +kernel
theorem dX1_takeAway_12 : decode cX1_takeAway 12 = .ok (.getfield 40, 3) := by decide +kernel
theorem dX1_takeAway_15 : decode cX1_takeAway 15 = .ok (.iload_n 1, 1) := by decide +kernel
theorem dX1_takeAway_16 : decode cX1_takeAway 16 = .ok (.invokestatic 36, 3) := by decide +kernel
theorem dX1_takeAway_19 : decode cX1_takeAway 19 = .ok (.iconst (-1), 1) := by decide +kernel
theorem dX1_takeAway_20 : decode cX1_takeAway 20 = .ok (.ixor, 1) := by decide +kernel
theorem dX1_takeAway_21 : decode cX1_takeAway 21 = .ok (.iand, 1) := by decide +kernel
theorem dX1_takeAway_22 : decode cX1_takeAway 22 = .ok (.putfield 40, 3) := by decide +kernel
theorem dX1_takeAway_25 : decode cX1_takeAway 25 = .ok (.aload_n 0, 1) := by decide +kernel
theorem dX1_takeAway_26 : decode cX1_takeAway 26 = .ok (.invokevirtual 44, 3) := by decide +kernel
theorem dX1_takeAway_29 : decode cX1_takeAway 29 = .ok (.iconst 1, 1) := by decide +kernel
theorem dX1_takeAway_30 : decode cX1_takeAway 30 = .ok (.ireturn, 1) := by decide +kernel
theorem dX1_becomeAs_0 : decode cX1_becomeAs 0 = .ok (.aload_n 0, 1) := by decide +kernel
theorem dX1_becomeAs_1 : decode cX1_becomeAs 1 = .ok (.aload_n 1, 1) := by decide +kernel
theorem dX1_becomeAs_2 : decode cX1_becomeAs 2 = .ok (.getfield 40, 3) := by decide +kernel
theorem dX1_becomeAs_5 : decode cX1_becomeAs 5 = .ok (.putfield 40, 3) := by decide +kernel
theorem dX1_becomeAs_8 : decode cX1_becomeAs 8 = .ok (.aload_n 1, 1) := by decide +kernel
theorem dX1_becomeAs_9 : decode cX1_becomeAs 9 = .ok (.getfield 9, 3) := by decide +kernel
theorem dX1_becomeAs_12 : decode cX1_becomeAs 12 = .ok (.iconst 0, 1) := by decide +kernel
theorem dX1_becomeAs_13 : decode cX1_becomeAs 13 = .ok (.aload_n 0, 1) := by decide +kernel
theorem dX1_becomeAs_14 : decode cX1_becomeAs 14 = .ok (.getfield 9, 3) := by decide +kernel
theorem dX1_becomeAs_17 : decode cX1_becomeAs 17 = .ok (.iconst 0, 1) := by decide +kernel
theorem dX1_becomeAs_18 : decode cX1_becomeAs 18 = .ok (.bipush 12, 2) := by decide +kernel
theorem dX1_becomeAs_20 : decode cX1_becomeAs 20 = .ok (.invokestatic 51, 3) := by decide +kernel
theorem dX1_becomeAs_23 : decode cX1_becomeAs 23 = .ok (.aload_n 1, 1) := by decide +kernel
theorem dX1_becomeAs_24 : decode cX1_becomeAs 24 = .ok (.getfield 15, 3) := by decide +kernel
theorem dX1_becomeAs_27 : decode cX1_becomeAs 27 = .ok (.iconst 0, 1) := by decide +kernel
theorem dX1_becomeAs_28 : decode cX1_becomeAs 28 = .ok (.aload_n 0, 1) := by decide +kernel
theorem dX1_becomeAs_29 : decode cX1_becomeAs 29 = .ok (.getfield 15, 3) := by decide +kernel
theorem dX1_becomeAs_32 : decode cX1_becomeAs 32 = .ok (.iconst 0, 1) := by decide +kernel
theorem dX1_becomeAs_33 : decode cX1_becomeAs 33 = .ok (.bipush 12, 2) := by decide +kernel
theorem dX1_becomeAs_35 : decode cX1_becomeAs 35 = .ok (.invokestatic 51, 3) := by decide +kernel
theorem dX1_becomeAs_38 : decode cX1_becomeAs 38 = .ok (.aload_n 1, 1) := by decide +kernel
theorem dX1_becomeAs_39 : decode cX1_becomeAs 39 = .ok (.getfield 18, 3) := by decide +kernel
theorem dX1_becomeAs_42 : decode cX1_becomeAs 42 = .ok (.iconst 0, 1) := by decide +kernel
theorem dX1_becomeAs_43 : decode cX1_becomeAs 43 = .ok (.aload_n 0, 1) := by decide +kernel
theorem dX1_becomeAs_44 : decode cX1_becomeAs 44 = .ok (.getfield 18, 3) := by decide +kernel
theorem dX1_becomeAs_47 : decode cX1_becomeAs 47 = .ok (.iconst 0, 1) := by decide +kernel
theorem dX1_becomeAs_48 : decode cX1_becomeAs 48 = .ok (.bipush 12, 2) := by decide +kernel
theorem dX1_becomeAs_50 : decode cX1_becomeAs 50 = .ok (.invokestatic 51, 3) := by decide +kernel
theorem dX1_becomeAs_53 : decode cX1_becomeAs 53 = .ok (.aload_n 1, 1) := by decide +kernel
theorem dX1_becomeAs_54 : decode cX1_becomeAs 54 = .ok (.getfield 21, 3) := by decide +kernel
theorem dX1_becomeAs_57 : decode cX1_becomeAs 57 = .ok (.iconst 0, 1) := by decide +kernel
theorem dX1_becomeAs_58 : decode cX1_becomeAs 58 = .ok (.aload_n 0, 1) := by decide +kernel
theorem dX1_becomeAs_59 : decode cX1_becomeAs 59 = .ok (.getfield 21, 3) := by decide +kernel
theorem dX1_becomeAs_62 : decode cX1_becomeAs 62 = .ok (.iconst 0, 1) := by decide +kernel
theorem dX1_becomeAs_63 : decode cX1_becomeAs 63 = .ok (.bipush 12, 2) := by decide +kernel
theorem dX1_becomeAs_65 : decode cX1_becomeAs 65 = .ok (.invokestatic 51, 3) := by decide +kernel
theorem dX1_becomeAs_68 : decode cX1_becomeAs 68 = .ok (.aload_n 1, 1) := by decide +kernel
theorem dX1_becomeAs_69 : decode cX1_becomeAs 69 = .ok (.getfield 24, 3) := by decide +kernel
theorem dX1_becomeAs_72 : decode cX1_becomeAs 72 = .ok (.iconst 0, 1) := by decide +kernel
theorem dX1_becomeAs_73 : decode cX1_becomeAs 73 = .ok (.aload_n 0, 1) := by decide +kernel
theorem dX1_becomeAs_74 : decode cX1_becomeAs 74 = .ok (.getfield 24, 3) := by decide +kernel
theorem dX1_becomeAs_77 : decode cX1_becomeAs 77 = .ok (.iconst 0, 1) := by decide +kernel
theorem dX1_becomeAs_78 : decode cX1_becomeAs 78 = .ok (.bipush 12, 2) := by decide +kernel
theorem dX1_becomeAs_80 : decode cX1_becomeAs 80 = .ok (.invokestatic 51, 3) := by decide +kernel
theorem dX1_becomeAs_83 : decode cX1_becomeAs 83 = .ok (.aload_n 0, 1) := by decide +kernel
theorem dX1_becomeAs_84 : decode cX1_becomeAs 84 = .ok (.invokevirtual 44, 3) := by decide +kernel
theorem dX1_becomeAs_87 : decode cX1_becomeAs 87 = .ok (.return_, 1) := by decide +kernel
theorem dX1_isThere_0 : decode cX1_isThere 0 = .ok (.aload_n 0, 1) := by decide +kernel
theorem dX1_isThere_1 : decode cX1_isThere 1 = .ok (.getfield 40, 3) := by decide +kernel
theorem dX1_isThere_4 : decode cX1_isThere 4 = .ok (.iload_n 1, 1) := by decide +kernel
theorem dX1_isThere_5 : decode cX1_isThere 5 = .ok (.invokestatic 57, 3) := by decide +kernel
theorem dX1_isThere_8 : decode cX1_isThere 8 = .ok (.ireturn, 1) := by decide +kernel
theorem dX1_isInterface_0 : decode cX1_isInterface 0 = .ok (.aload_n 0, 1) := by decide +kernel
theorem dX1_isInterface_1 : decode cX1_isInterface 1 = .ok (.getfield 9, 3) := by decide +kernel
theorem dX1_isInterface_4 : decode cX1_isInterface 4 = .ok (.iload_n 1, 1) := by decide +kernel
theorem dX1_isInterface_5 : decode cX1_isInterface 5 = .ok (.iaload, 1) := by decide +kernel
theorem dX1_isInterface_6 : decode cX1_isInterface 6 = .ok (.iconst 2, 1) := by decide +kernel
theorem dX1_isInterface_7 : decode cX1_isInterface 7 = .ok (.iand, 1) := by decide +kernel
theorem dX1_isInterface_8 : decode cX1_isInterface 8 = .ok (.ifCond .eq 7, 3) := by decide +kernel
theorem dX1_isInterface_11 : decode cX1_isInterface 11 = .ok (.iconst 1, 1) := by decide +kernel
theorem dX1_isInterface_12 : decode cX1_isInterface 12 = .ok (.goto 4, 3) := by decide +kernel
theorem dX1_isInterface_15 : decode cX1_isInterface 15 = .ok (.iconst 0, 1) := by decide +kernel
theorem dX1_isInterface_16 : decode cX1_isInterface 16 = .ok (.ireturn, 1) := by decide +kernel
theorem dX1_canBeMade_0 : decode cX1_canBeMade 0 = .ok (.aload_n 0, 1) := by decide +kernel
theorem dX1_canBeMade_1 : decode cX1_canBeMade 1 = .ok (.getfield 9, 3) := by decide +kernel
theorem dX1_canBeMade_4 : decode cX1_canBeMade 4 = .ok (.iload_n 1, 1) := by decide +kernel
theorem dX1_canBeMade_5 : decode cX1_canBeMade 5 = .ok (.iaload, 1) := by decide +kernel
theorem dX1_canBeMade_6 : decode cX1_canBeMade 6 = .ok (.bipush 6, 2) := by decide +kernel
theorem dX1_canBeMade_8 : decode cX1_canBeMade 8 = .ok (.iand, 1) := by decide +kernel
theorem dX1_canBeMade_9 : decode cX1_canBeMade 9 = .ok (.ifCond .ne 7, 3) := by decide +kernel
theorem dX1_canBeMade_12 : decode cX1_canBeMade 12 = .ok (.iconst 1, 1) := by decide +kernel
theorem dX1_canBeMade_13 : decode cX1_canBeMade 13 = .ok (.goto 4, 3) := by decide +kernel
theorem dX1_canBeMade_16 : decode cX1_canBeMade 16 = .ok (.iconst 0, 1) := by decide +kernel
theorem dX1_canBeMade_17 : decode cX1_canBeMade 17 = .ok (.ireturn, 1) := by decide +kernel
theorem dX1_superOf_0 : decode cX1_superOf 0 = .ok (.aload_n 0, 1) := by decide +kernel
theorem dX1_superOf_1 : decode cX1_superOf 1 = .ok (.getfield 18, 3) := by decide +kernel
theorem dX1_superOf_4 : decode cX1_superOf 4 = .ok (.iload_n 1, 1) := by decide +kernel
theorem dX1_superOf_5 : decode cX1_superOf 5 = .ok (.iaload, 1) := by decide +kernel
theorem dX1_superOf_6 : decode cX1_superOf 6 = .ok (.ireturn, 1) := by decide +kernel
theorem dX1_directFacesOf_0 : decode cX1_directFacesOf 0 = .ok (.aload_n 0, 1) := by decide +kernel
theorem dX1_directFacesOf_1 : decode cX1_directFacesOf 1 = .ok (.getfield 21, 3) := by decide +kernel
theorem dX1_directFacesOf_4 : decode cX1_directFacesOf 4 = .ok (.iload_n 1, 1) := by decide +kernel
theorem dX1_directFacesOf_5 : decode cX1_directFacesOf 5 = .ok (.iaload, 1) := by decide +kernel
theorem dX1_directFacesOf_6 : decode cX1_directFacesOf 6 = .ok (.ireturn, 1) := by decide +kernel
theorem dX1_facesOf_0 : decode cX1_facesOf 0 = .ok (.aload_n 0, 1) := by decide +kernel
theorem dX1_facesOf_1 : decode cX1_facesOf 1 = .ok (.getfield 33, 3) := by decide +kernel
theorem dX1_facesOf_4 : decode cX1_facesOf 4 = .ok (.iload_n 1, 1) := by decide +kernel
theorem dX1_facesOf_5 : decode cX1_facesOf 5 = .ok (.iaload, 1) := by decide +kernel
theorem dX1_facesOf_6 : decode cX1_facesOf 6 = .ok (.ireturn, 1) := by decide +kernel
theorem dX1_loading_0 : decode cX1_loading 0 = .ok (.aload_n 0, 1) := by decide +kernel
theorem dX1_loading_1 : decode cX1_loading 1 = .ok (.getfield 27, 3) := by decide +kernel
theorem dX1_loading_4 : decode cX1_loading 4 = .ok (.iload_n 1, 1) := by decide +kernel
theorem dX1_loading_5 : decode cX1_loading 5 = .ok (.iaload, 1) := by decide +kernel
theorem dX1_loading_6 : decode cX1_loading 6 = .ok (.ireturn, 1) := by decide +kernel
theorem dX1_reaching_0 : decode cX1_reaching 0 = .ok (.aload_n 0, 1) := by decide +kernel
theorem dX1_reaching_1 : decode cX1_reaching 1 = .ok (.getfield 27, 3) := by decide +kernel
theorem dX1_reaching_4 : decode cX1_reaching 4 = .ok (.iload_n 1, 1) := by decide +kernel
theorem dX1_reaching_5 : decode cX1_reaching 5 = .ok (.iaload, 1) := by decide +kernel
theorem dX1_reaching_6 : decode cX1_reaching 6 = .ok (.invokestatic 61, 3) := by decide +kernel
theorem dX1_reaching_9 : decode cX1_reaching 9 = .ok (.ifCond .ne 10, 3) := by decide +kernel
theorem dX1_reaching_12 : decode cX1_reaching 12 = .ok (.aload_n 0, 1) := by decide +kernel
theorem dX1_reaching_13 : decode cX1_reaching 13 = .ok (.getfield 27, 3) := by decide +kernel
theorem dX1_reaching_16 : decode cX1_reaching 16 = .ok (.iload_n 1, 1) := by decide +kernel
theorem dX1_reaching_17 : decode cX1_reaching 17 = .ok (.iaload, 1) := by decide +kernel
theorem dX1_reaching_18 : decode cX1_reaching 18 = .ok (.ireturn, 1) := by decide +kernel
theorem dX1_reaching_19 : decode cX1_reaching 19 = .ok (.aload_n 0, 1) := by decide +kernel
theorem dX1_reaching_20 : decode cX1_reaching 20 = .ok (.getfield 9, 3) := by decide +kernel
theorem dX1_reaching_23 : decode cX1_reaching 23 = .ok (.iload_n 1, 1) := by decide +kernel
theorem dX1_reaching_24 : decode cX1_reaching 24 = .ok (.iaload, 1) := by decide +kernel
theorem dX1_reaching_25 : decode cX1_reaching 25 = .ok (.iconst 1, 1) := by decide +kernel
theorem dX1_reaching_26 : decode cX1_reaching 26 = .ok (.iand, 1) := by decide +kernel
theorem dX1_reaching_27 : decode cX1_reaching 27 = .ok (.ifCond .ne 12, 3) := by decide +kernel
theorem dX1_reaching_30 : decode cX1_reaching 30 = .ok (.aload_n 0, 1) := by decide +kernel
theorem dX1_reaching_31 : decode cX1_reaching 31 = .ok (.iload_n 1, 1) := by decide +kernel
theorem dX1_reaching_32 : decode cX1_reaching 32 = .ok (.iload_n 2, 1) := by decide +kernel
theorem dX1_reaching_33 : decode cX1_reaching 33 = .ok (.invokevirtual 64, 3) := by decide +kernel
theorem dX1_reaching_36 : decode cX1_reaching 36 = .ok (.ifCond .eq 7, 3) := by decide +kernel
theorem dX1_reaching_39 : decode cX1_reaching 39 = .ok (.iconst 1, 1) := by decide +kernel
theorem dX1_reaching_40 : decode cX1_reaching 40 = .ok (.goto 4, 3) := by decide +kernel
theorem dX1_reaching_43 : decode cX1_reaching 43 = .ok (.iconst 0, 1) := by decide +kernel
theorem dX1_reaching_44 : decode cX1_reaching 44 = .ok (.istore_n 3, 1) := by decide +kernel
theorem dX1_reaching_45 : decode cX1_reaching 45 = .ok (.iload_n 3, 1) := by decide +kernel
theorem dX1_reaching_46 : decode cX1_reaching 46 = .ok (.ifCond .eq 7, 3) := by decide +kernel
theorem dX1_reaching_49 : decode cX1_reaching 49 = .ok (.iload_n 1, 1) := by decide +kernel
theorem dX1_reaching_50 : decode cX1_reaching 50 = .ok (.goto 8, 3) := by decide +kernel
theorem dX1_reaching_53 : decode cX1_reaching 53 = .ok (.sipush 256, 3) := by decide +kernel
theorem dX1_reaching_56 : decode cX1_reaching 56 = .ok (.iload_n 1, 1) := by decide +kernel
theorem dX1_reaching_57 : decode cX1_reaching 57 = .ok (.iadd, 1) := by decide +kernel
theorem dX1_reaching_58 : decode cX1_reaching 58 = .ok (.ireturn, 1) := by decide +kernel
theorem dX1_isSamePackage_0 : decode cX1_isSamePackage 0 = .ok (.aload_n 0, 1) := by decide +kernel
theorem dX1_isSamePackage_1 : decode cX1_isSamePackage 1 = .ok (.getfield 15, 3) := by decide +kernel
theorem dX1_isSamePackage_4 : decode cX1_isSamePackage 4 = .ok (.iload_n 1, 1) := by decide +kernel
theorem dX1_isSamePackage_5 : decode cX1_isSamePackage 5 = .ok (.iaload, 1) := by decide +kernel
theorem dX1_isSamePackage_6 : decode cX1_isSamePackage 6 = .ok (.aload_n 0, 1) := by decide +kernel
theorem dX1_isSamePackage_7 : decode cX1_isSamePackage 7 = .ok (.getfield 15, 3) := by decide +kernel
theorem dX1_isSamePackage_10 : decode cX1_isSamePackage 10 = .ok (.iload_n 2, 1) := by decide +kernel
theorem dX1_isSamePackage_11 : decode cX1_isSamePackage 11 = .ok (.iaload, 1) := by decide +kernel
theorem dX1_isSamePackage_12 : decode cX1_isSamePackage 12 = .ok (.if_icmp .ne 7, 3) := by decide +kernel
theorem dX1_isSamePackage_15 : decode cX1_isSamePackage 15 = .ok (.iconst 1, 1) := by decide +kernel
theorem dX1_isSamePackage_16 : decode cX1_isSamePackage 16 = .ok (.goto 4, 3) := by decide +kernel
theorem dX1_isSamePackage_19 : decode cX1_isSamePackage 19 = .ok (.iconst 0, 1) := by decide +kernel
theorem dX1_isSamePackage_20 : decode cX1_isSamePackage 20 = .ok (.ireturn, 1) := by decide +kernel
theorem dX1_hasAbove_0 : decode cX1_hasAbove 0 = .ok (.aload_n 0, 1) := by decide +kernel
theorem dX1_hasAbove_1 : decode cX1_hasAbove 1 = .ok (.getfield 30, 3) := by decide +kernel
theorem dX1_hasAbove_4 : decode cX1_hasAbove 4 = .ok (.iload_n 1, 1) := by decide +kernel
theorem dX1_hasAbove_5 : decode cX1_hasAbove 5 = .ok (.iaload, 1) := by decide +kernel
theorem dX1_hasAbove_6 : decode cX1_hasAbove 6 = .ok (.iload_n 2, 1) := by decide +kernel
theorem dX1_hasAbove_7 : decode cX1_hasAbove 7 = .ok (.invokestatic 57, 3) := by decide +kernel
theorem dX1_hasAbove_10 : decode cX1_hasAbove 10 = .ok (.ireturn, 1) := by decide +kernel
theorem dX1_liesUnder_0 : decode cX1_liesUnder 0 = .ok (.aload_n 0, 1) := by decide +kernel
theorem dX1_liesUnder_1 : decode cX1_liesUnder 1 = .ok (.getfield 30, 3) := by decide +kernel
theorem dX1_liesUnder_4 : decode cX1_liesUnder 4 = .ok (.iload_n 1, 1) := by decide +kernel
theorem dX1_liesUnder_5 : decode cX1_liesUnder 5 = .ok (.iaload, 1) := by decide +kernel
theorem dX1_liesUnder_6 : decode cX1_liesUnder 6 = .ok (.aload_n 0, 1) := by decide +kernel
theorem dX1_liesUnder_7 : decode cX1_liesUnder 7 = .ok (.getfield 33, 3) := by decide +kernel
theorem dX1_liesUnder_10 : decode cX1_liesUnder 10 = .ok (.iload_n 1, 1) := by decide +kernel
theorem dX1_liesUnder_11 : decode cX1_liesUnder 11 = .ok (.iaload, 1) := by decide +kernel
theorem dX1_liesUnder_12 : decode cX1_liesUnder 12 = .ok (.ior, 1) := by decide +kernel
theorem dX1_liesUnder_13 : decode cX1_liesUnder 13 = .ok (.iload_n 2, 1) := by decide +kernel
theorem dX1_liesUnder_14 : decode cX1_liesUnder 14 = .ok (.invokestatic 57, 3) := by decide +kernel
theorem dX1_liesUnder_17 : decode cX1_liesUnder 17 = .ok (.ireturn, 1) := by decide +kernel
theorem dX1_mostSpecificOf_0 : decode cX1_mostSpecificOf 0 = .ok (.iconst 0, 1) := by decide +kernel
theorem dX1_mostSpecificOf_1 : decode cX1_mostSpecificOf 1 = .ok (.istore_n 2, 1) := by decide +kernel
theorem dX1_mostSpecificOf_2 : decode cX1_mostSpecificOf 2 = .ok (.iconst 0, 1) := by decide +kernel
theorem dX1_mostSpecificOf_3 : decode cX1_mostSpecificOf 3 = .ok (.istore_n 3, 1) := by decide +kernel
theorem dX1_mostSpecificOf_4 : decode cX1_mostSpecificOf 4 = .ok (.iload_n 3, 1) := by decide +kernel
theorem dX1_mostSpecificOf_5 : decode cX1_mostSpecificOf 5 = .ok (.bipush 12, 2) := by decide +kernel
theorem dX1_mostSpecificOf_7 : decode cX1_mostSpecificOf 7 = .ok (.if_icmp .ge 30, 3) := by decide +kernel
theorem dX1_mostSpecificOf_10 : decode cX1_mostSpecificOf 10 = .ok (.iload_n 2, 1) := by decide +kernel
theorem dX1_mostSpecificOf_11 : decode cX1_mostSpecificOf 11 = .ok (.iload_n 1, 1) := by decide +kernel
theorem dX1_mostSpecificOf_12 : decode cX1_mostSpecificOf 12 = .ok (.iload_n 3, 1) := by decide +kernel
theorem dX1_mostSpecificOf_13 : decode cX1_mostSpecificOf 13 = .ok (.invokestatic 57, 3) := by decide +kernel
theorem dX1_mostSpecificOf_16 : decode cX1_mostSpecificOf 16 = .ok (.ifCond .eq 12, 3) := by decide +kernel
theorem dX1_mostSpecificOf_19 : decode cX1_mostSpecificOf 19 = .ok (.aload_n 0, 1) := by decide +kernel
theorem dX1_mostSpecificOf_20 : decode cX1_mostSpecificOf 20 = .ok (.getfield 33, 3) := by decide +kernel
theorem dX1_mostSpecificOf_23 : decode cX1_mostSpecificOf 23 = .ok (.iload_n 3, 1) := by decide +kernel
theorem dX1_mostSpecificOf_24 : decode cX1_mostSpecificOf 24 = .ok (.iaload, 1) := by decide +kernel
theorem dX1_mostSpecificOf_25 : decode cX1_mostSpecificOf 25 = .ok (.goto 4, 3) := by decide +kernel
theorem dX1_mostSpecificOf_28 : decode cX1_mostSpecificOf 28 = .ok (.iconst 0, 1) := by decide +kernel
theorem dX1_mostSpecificOf_29 : decode cX1_mostSpecificOf 29 = .ok (.ior, 1) := by decide +kernel
theorem dX1_mostSpecificOf_30 : decode cX1_mostSpecificOf 30 = .ok (.istore_n 2, 1) := by decide +kernel
theorem dX1_mostSpecificOf_31 : decode cX1_mostSpecificOf 31 = .ok (.iinc 3 1, 3) := by decide +kernel
theorem dX1_mostSpecificOf_34 : decode cX1_mostSpecificOf 34 = .ok (.goto (-30), 3) := by decide +kernel
theorem dX1_mostSpecificOf_37 : decode cX1_mostSpecificOf 37 = .ok (.iload_n 1, 1) := by decide +kernel
theorem dX1_mostSpecificOf_38 : decode cX1_mostSpecificOf 38 = .ok (.iload_n 2, 1) := by decide +kernel
theorem dX1_mostSpecificOf_39 : decode cX1_mostSpecificOf 39 = .ok (.iconst (-1), 1) := by decide +kernel
theorem dX1_mostSpecificOf_40 : decode cX1_mostSpecificOf 40 = .ok (.ixor, 1) := by decide +kernel
theorem dX1_mostSpecificOf_41 : decode cX1_mostSpecificOf 41 = .ok (.iand, 1) := by decide +kernel
theorem dX1_mostSpecificOf_42 : decode cX1_mostSpecificOf 42 = .ok (.ireturn, 1) := by decide +kernel
theorem dX1_nestOf_0 : decode cX1_nestOf 0 = .ok (.aload_n 0, 1) := by decide +kernel
theorem dX1_nestOf_1 : decode cX1_nestOf 1 = .ok (.getfield 24, 3) := by decide +kernel
theorem dX1_nestOf_4 : decode cX1_nestOf 4 = .ok (.iload_n 1, 1) := by decide +kernel
theorem dX1_nestOf_5 : decode cX1_nestOf 5 = .ok (.iaload, 1) := by decide +kernel
theorem dX1_nestOf_6 : decode cX1_nestOf 6 = .ok (.istore_n 2, 1) := by decide +kernel
theorem dX1_nestOf_7 : decode cX1_nestOf 7 = .ok (.aload_n 0, 1) := by decide +kernel
theorem dX1_nestOf_8 : decode cX1_nestOf 8 = .ok (.iload_n 2, 1) := by decide +kernel
theorem dX1_nestOf_9 : decode cX1_nestOf 9 = .ok (.invokevirtual 47, 3) := by decide +kernel
theorem dX1_nestOf_12 : decode cX1_nestOf 12 = .ok (.ifCond .eq 26, 3) := by decide +kernel
theorem dX1_nestOf_15 : decode cX1_nestOf 15 = .ok (.aload_n 0, 1) := by decide +kernel
theorem dX1_nestOf_16 : decode cX1_nestOf 16 = .ok (.iload_n 2, 1) := by decide +kernel
theorem dX1_nestOf_17 : decode cX1_nestOf 17 = .ok (.iload_n 1, 1) := by decide +kernel
theorem dX1_nestOf_18 : decode cX1_nestOf 18 = .ok (.invokevirtual 64, 3) := by decide +kernel
theorem dX1_nestOf_21 : decode cX1_nestOf 21 = .ok (.ifCond .eq 17, 3) := by decide +kernel
theorem dX1_nestOf_24 : decode cX1_nestOf 24 = .ok (.aload_n 0, 1) := by decide +kernel
theorem dX1_nestOf_25 : decode cX1_nestOf 25 = .ok (.getfield 24, 3) := by decide +kernel
theorem dX1_nestOf_28 : decode cX1_nestOf 28 = .ok (.iload_n 2, 1) := by decide +kernel
theorem dX1_nestOf_29 : decode cX1_nestOf 29 = .ok (.iaload, 1) := by decide +kernel
theorem dX1_nestOf_30 : decode cX1_nestOf 30 = .ok (.iload_n 2, 1) := by decide +kernel
theorem dX1_nestOf_31 : decode cX1_nestOf 31 = .ok (.if_icmp .ne 7, 3) := by decide +kernel
theorem dX1_nestOf_34 : decode cX1_nestOf 34 = .ok (.iload_n 2, 1) := by decide +kernel
theorem dX1_nestOf_35 : decode cX1_nestOf 35 = .ok (.goto 4, 3) := by decide +kernel
theorem dX1_nestOf_38 : decode cX1_nestOf 38 = .ok (.iload_n 1, 1) := by decide +kernel
theorem dX1_nestOf_39 : decode cX1_nestOf 39 = .ok (.ireturn, 1) := by decide +kernel
theorem dX1_countThere_0 : decode cX1_countThere 0 = .ok (.aload_n 0, 1) := by decide +kernel
theorem dX1_countThere_1 : decode cX1_countThere 1 = .ok (.getfield 40, 3) := by decide +kernel
theorem dX1_countThere_4 : decode cX1_countThere 4 = .ok (.invokestatic 67, 3) := by decide +kernel
theorem dX1_countThere_7 : decode cX1_countThere 7 = .ok (.ireturn, 1) := by decide +kernel
theorem dX1_countLoaded_0 : decode cX1_countLoaded 0 = .ok (.aload_n 0, 1) := by decide +kernel
theorem dX1_countLoaded_1 : decode cX1_countLoaded 1 = .ok (.getfield 72, 3) := by decide +kernel
theorem dX1_countLoaded_4 : decode cX1_countLoaded 4 = .ok (.invokestatic 67, 3) := by decide +kernel
theorem dX1_countLoaded_7 : decode cX1_countLoaded 7 = .ok (.ireturn, 1) := by decide +kernel
theorem dX1_nestSharers_0 : decode cX1_nestSharers 0 = .ok (.iconst 0, 1) := by decide +kernel
theorem dX1_nestSharers_1 : decode cX1_nestSharers 1 = .ok (.istore_n 1, 1) := by decide +kernel
theorem dX1_nestSharers_2 : decode cX1_nestSharers 2 = .ok (.iconst 0, 1) := by decide +kernel
theorem dX1_nestSharers_3 : decode cX1_nestSharers 3 = .ok (.istore_n 2, 1) := by decide +kernel
theorem dX1_nestSharers_4 : decode cX1_nestSharers 4 = .ok (.iload_n 2, 1) := by decide +kernel
theorem dX1_nestSharers_5 : decode cX1_nestSharers 5 = .ok (.bipush 12, 2) := by decide +kernel
theorem dX1_nestSharers_7 : decode cX1_nestSharers 7 = .ok (.if_icmp .ge 63, 3) := by decide +kernel
theorem dX1_nestSharers_10 : decode cX1_nestSharers 10 = .ok (.iconst 0, 1) := by decide +kernel
theorem dX1_nestSharers_11 : decode cX1_nestSharers 11 = .ok (.istore_n 3, 1) := by decide +kernel
theorem dX1_nestSharers_12 : decode cX1_nestSharers 12 = .ok (.iload_n 3, 1) := by decide +kernel
theorem dX1_nestSharers_13 : decode cX1_nestSharers 13 = .ok (.iload_n 2, 1) := by decide +kernel
theorem dX1_nestSharers_14 : decode cX1_nestSharers 14 = .ok (.if_icmp .ge 50, 3) := by decide +kernel
theorem dX1_nestSharers_17 : decode cX1_nestSharers 17 = .ok (.aload_n 0, 1) := by decide +kernel
theorem dX1_nestSharers_18 : decode cX1_nestSharers 18 = .ok (.iload_n 2, 1) := by decide +kernel
theorem dX1_nestSharers_19 : decode cX1_nestSharers 19 = .ok (.invokevirtual 47, 3) := by decide +kernel
theorem dX1_nestSharers_22 : decode cX1_nestSharers 22 = .ok (.ifCond .eq 36, 3) := by decide +kernel
theorem dX1_nestSharers_25 : decode cX1_nestSharers 25 = .ok (.aload_n 0, 1) := by decide +kernel
theorem dX1_nestSharers_26 : decode cX1_nestSharers 26 = .ok (.iload_n 3, 1) := by decide +kernel
theorem dX1_nestSharers_27 : decode cX1_nestSharers 27 = .ok (.invokevirtual 47, 3) := by decide +kernel
theorem dX1_nestSharers_30 : decode cX1_nestSharers 30 = .ok (.ifCond .eq 28, 3) := by decide +kernel
theorem dX1_nestSharers_33 : decode cX1_nestSharers 33 = .ok (.aload_n 0, 1) := by decide +kernel
theorem dX1_nestSharers_34 : decode cX1_nestSharers 34 = .ok (.iload_n 2, 1) := by decide +kernel
theorem dX1_nestSharers_35 : decode cX1_nestSharers 35 = .ok (.invokevirtual 75, 3) := by decide +kernel
theorem dX1_nestSharers_38 : decode cX1_nestSharers 38 = .ok (.aload_n 0, 1) := by decide +kernel
theorem dX1_nestSharers_39 : decode cX1_nestSharers 39 = .ok (.iload_n 3, 1) := by decide +kernel
theorem dX1_nestSharers_40 : decode cX1_nestSharers 40 = .ok (.invokevirtual 75, 3) := by decide +kernel
theorem dX1_nestSharers_43 : decode cX1_nestSharers 43 = .ok (.if_icmp .ne 15, 3) := by decide +kernel
theorem dX1_nestSharers_46 : decode cX1_nestSharers 46 = .ok (.iload_n 1, 1) := by decide +kernel
theorem dX1_nestSharers_47 : decode cX1_nestSharers 47 = .ok (.iload_n 2, 1) := by decide +kernel
theorem dX1_nestSharers_48 : decode cX1_nestSharers 48 = .ok (.invokestatic 36, 3) := by decide +kernel
theorem dX1_nestSharers_51 : decode cX1_nestSharers 51 = .ok (.iload_n 3, 1) := by decide +kernel
theorem dX1_nestSharers_52 : decode cX1_nestSharers 52 = .ok (.invokestatic 36, 3) := by decide +kernel
theorem dX1_nestSharers_55 : decode cX1_nestSharers 55 = .ok (.ior, 1) := by decide +kernel
theorem dX1_nestSharers_56 : decode cX1_nestSharers 56 = .ok (.ior, 1) := by decide +kernel
theorem dX1_nestSharers_57 : decode cX1_nestSharers 57 = .ok (.istore_n 1, 1) := by decide +kernel
theorem dX1_nestSharers_58 : decode cX1_nestSharers 58 = .ok (.iinc 3 1, 3) := by decide +kernel
theorem dX1_nestSharers_61 : decode cX1_nestSharers 61 = .ok (.goto (-49), 3) := by decide +kernel
theorem dX1_nestSharers_64 : decode cX1_nestSharers 64 = .ok (.iinc 2 1, 3) := by decide +kernel
theorem dX1_nestSharers_67 : decode cX1_nestSharers 67 = .ok (.goto (-63), 3) := by decide +kernel
theorem dX1_nestSharers_70 : decode cX1_nestSharers 70 = .ok (.iload_n 1, 1) := by decide +kernel
theorem dX1_nestSharers_71 : decode cX1_nestSharers 71 = .ok (.ireturn, 1) := by decide +kernel
theorem dX1_settle_0 : decode cX1_settle 0 = .ok (.aload_n 0, 1) := by decide +kernel
theorem dX1_settle_1 : decode cX1_settle 1 = .ok (.iconst 0, 1) := by decide +kernel
theorem dX1_settle_2 : decode cX1_settle 2 = .ok (.putfield 72, 3) := by decide +kernel
theorem dX1_settle_5 : decode cX1_settle 5 = .ok (.iconst 0, 1) := by decide +kernel
theorem dX1_settle_6 : decode cX1_settle 6 = .ok (.istore_n 1, 1) := by decide +kernel
theorem dX1_settle_7 : decode cX1_settle 7 = .ok (.iload_n 1, 1) := by decide +kernel
theorem dX1_settle_8 : decode cX1_settle 8 = .ok (.bipush 12, 2) := by decide +kernel
theorem dX1_settle_10 : decode cX1_settle 10 = .ok (.if_icmp .ge 21, 3) := by decide +kernel
theorem dX1_settle_13 : decode cX1_settle 13 = .ok (.aload_n 0, 1) := by decide +kernel
theorem dX1_settle_14 : decode cX1_settle 14 = .ok (.getfield 27, 3) := by decide +kernel
theorem dX1_settle_17 : decode cX1_settle 17 = .ok (.iload_n 1, 1) := by decide +kernel
theorem dX1_settle_18 : decode cX1_settle 18 = .ok (.aload_n 0, 1) := by decide +kernel
theorem dX1_settle_19 : decode cX1_settle 19 = .ok (.iload_n 1, 1) := by decide +kernel
theorem dX1_settle_20 : decode cX1_settle 20 = .ok (.iconst 0, 1) := by decide +kernel
theorem dX1_settle_21 : decode cX1_settle 21 = .ok (.invokevirtual 78, 3) := by decide +kernel
theorem dX1_settle_24 : decode cX1_settle 24 = .ok (.iastore, 1) := by decide +kernel
theorem dX1_settle_25 : decode cX1_settle 25 = .ok (.iinc 1 1, 3) := by decide +kernel
theorem dX1_settle_28 : decode cX1_settle 28 = .ok (.goto (-21), 3) := by decide +kernel
theorem dX1_settle_31 : decode cX1_settle 31 = .ok (.return_, 1) := by decide +kernel
theorem dX1_loadInside_0 : decode cX1_loadInside 0 = .ok (.aload_n 0, 1) := by decide +kernel
theorem dX1_loadInside_1 : decode cX1_loadInside 1 = .ok (.iload_n 1, 1) := by decide +kernel
theorem dX1_loadInside_2 : decode cX1_loadInside 2 = .ok (.invokevirtual 47, 3) := by decide +kernel
theorem dX1_loadInside_5 : decode cX1_loadInside 5 = .ok (.ifCond .ne 8, 3) := by decide +kernel
theorem dX1_loadInside_8 : decode cX1_loadInside 8 = .ok (.bipush 64, 2) := by decide +kernel
theorem dX1_loadInside_10 : decode cX1_loadInside 10 = .ok (.iload_n 1, 1) := by decide +kernel
theorem dX1_loadInside_11 : decode cX1_loadInside 11 = .ok (.iadd, 1) := by decide +kernel
theorem dX1_loadInside_12 : decode cX1_loadInside 12 = .ok (.ireturn, 1) := by decide +kernel
theorem dX1_loadInside_13 : decode cX1_loadInside 13 = .ok (.iload_n 2, 1) := by decide +kernel
theorem dX1_loadInside_14 : decode cX1_loadInside 14 = .ok (.iload_n 1, 1) := by decide +kernel
theorem dX1_loadInside_15 : decode cX1_loadInside 15 = .ok (.invokestatic 57, 3) := by decide +kernel
theorem dX1_loadInside_18 : decode cX1_loadInside 18 = .ok (.ifCond .eq 9, 3) := by decide +kernel
theorem dX1_loadInside_21 : decode cX1_loadInside 21 = .ok (.sipush 128, 3) := by decide +kernel
theorem dX1_loadInside_24 : decode cX1_loadInside 24 = .ok (.iload_n 1, 1) := by decide +kernel
theorem dX1_loadInside_25 : decode cX1_loadInside 25 = .ok (.iadd, 1) := by decide +kernel
theorem dX1_loadInside_26 : decode cX1_loadInside 26 = .ok (.ireturn, 1) := by decide +kernel
theorem dX1_loadInside_27 : decode cX1_loadInside 27 = .ok (.aload_n 0, 1) := by decide +kernel
theorem dX1_loadInside_28 : decode cX1_loadInside 28 = .ok (.getfield 72, 3) := by decide +kernel
theorem dX1_loadInside_31 : decode cX1_loadInside 31 = .ok (.iload_n 1, 1) := by decide +kernel
theorem dX1_loadInside_32 : decode cX1_loadInside 32 = .ok (.invokestatic 57, 3) := by decide +kernel
theorem dX1_loadInside_35 : decode cX1_loadInside 35 = .ok (.ifCond .eq 5, 3) := by decide +kernel
theorem dX1_loadInside_38 : decode cX1_loadInside 38 = .ok (.iload_n 1, 1) := by decide +kernel
theorem dX1_loadInside_39 : decode cX1_loadInside 39 = .ok (.ireturn, 1) := by decide +kernel
theorem dX1_loadInside_40 : decode cX1_loadInside 40 = .ok (.aload_n 0, 1) := by decide +kernel
theorem dX1_loadInside_41 : decode cX1_loadInside 41 = .ok (.iload_n 1, 1) := by decide +kernel
theorem dX1_loadInside_42 : decode cX1_loadInside 42 = .ok (.iload_n 2, 1) := by decide +kernel
theorem dX1_loadInside_43 : decode cX1_loadInside 43 = .ok (.iload_n 1, 1) := by decide +kernel
theorem dX1_loadInside_44 : decode cX1_loadInside 44 = .ok (.invokestatic 36, 3) := by decide +kernel
theorem dX1_loadInside_47 : decode cX1_loadInside 47 = .ok (.ior, 1) := by decide +kernel
theorem dX1_loadInside_48 : decode cX1_loadInside 48 = .ok (.invokevirtual 82, 3) := by decide +kernel
theorem dX1_loadInside_51 : decode cX1_loadInside 51 = .ok (.istore_n 3, 1) := by decide +kernel
theorem dX1_loadInside_52 : decode cX1_loadInside 52 = .ok (.iload_n 3, 1) := by decide +kernel
theorem dX1_loadInside_53 : decode cX1_loadInside 53 = .ok (.invokestatic 61, 3) := by decide +kernel
theorem dX1_loadInside_56 : decode cX1_loadInside 56 = .ok (.ifCond .ne 5, 3) := by decide +kernel
theorem dX1_loadInside_59 : decode cX1_loadInside 59 = .ok (.iload_n 3, 1) := by decide +kernel
theorem dX1_loadInside_60 : decode cX1_loadInside 60 = .ok (.ireturn, 1) := by decide +kernel
theorem dX1_loadInside_61 : decode cX1_loadInside 61 = .ok (.aload_n 0, 1) := by decide +kernel
theorem dX1_loadInside_62 : decode cX1_loadInside 62 = .ok (.iload_n 1, 1) := by decide +kernel
theorem dX1_loadInside_63 : decode cX1_loadInside 63 = .ok (.invokevirtual 85, 3) := by decide +kernel
theorem dX1_loadInside_66 : decode cX1_loadInside 66 = .ok (.ifCond .eq 9, 3) := by decide +kernel
theorem dX1_loadInside_69 : decode cX1_loadInside 69 = .ok (.sipush 192, 3) := by decide +kernel
theorem dX1_loadInside_72 : decode cX1_loadInside 72 = .ok (.iload_n 1, 1) := by decide +kernel
theorem dX1_loadInside_73 : decode cX1_loadInside 73 = .ok (.iadd, 1) := by decide +kernel
theorem dX1_loadInside_74 : decode cX1_loadInside 74 = .ok (.ireturn, 1) := by decide +kernel
theorem dX1_loadInside_75 : decode cX1_loadInside 75 = .ok (.aload_n 0, 1) := by decide +kernel
theorem dX1_loadInside_76 : decode cX1_loadInside 76 = .ok (.iload_n 1, 1) := by decide +kernel
theorem dX1_loadInside_77 : decode cX1_loadInside 77 = .ok (.invokevirtual 88, 3) := by decide +kernel
theorem dX1_loadInside_80 : decode cX1_loadInside 80 = .ok (.aload_n 0, 1) := by decide +kernel
theorem dX1_loadInside_81 : decode cX1_loadInside 81 = .ok (.dup, 1) := by decide +kernel
theorem dX1_loadInside_82 : decode cX1_loadInside 82 = .ok (.getfield 72, 3) := by decide +kernel
theorem dX1_loadInside_85 : decode cX1_loadInside 85 = .ok (.iload_n 1, 1) := by decide +kernel
theorem dX1_loadInside_86 : decode cX1_loadInside 86 = .ok (.invokestatic 36, 3) := by decide +kernel
theorem dX1_loadInside_89 : decode cX1_loadInside 89 = .ok (.ior, 1) := by decide +kernel
theorem dX1_loadInside_90 : decode cX1_loadInside 90 = .ok (.putfield 72, 3) := by decide +kernel
theorem dX1_loadInside_93 : decode cX1_loadInside 93 = .ok (.iload_n 1, 1) := by decide +kernel
theorem dX1_loadInside_94 : decode cX1_loadInside 94 = .ok (.ireturn, 1) := by decide +kernel
theorem dX1_loadParents_0 : decode cX1_loadParents 0 = .ok (.aload_n 0, 1) := by decide +kernel
theorem dX1_loadParents_1 : decode cX1_loadParents 1 = .ok (.getfield 18, 3) := by decide +kernel
theorem dX1_loadParents_4 : decode cX1_loadParents 4 = .ok (.iload_n 1, 1) := by decide +kernel
theorem dX1_loadParents_5 : decode cX1_loadParents 5 = .ok (.iaload, 1) := by decide +kernel
theorem dX1_loadParents_6 : decode cX1_loadParents 6 = .ok (.iconst (-1), 1) := by decide +kernel
theorem dX1_loadParents_7 : decode cX1_loadParents 7 = .ok (.if_icmp .eq 24, 3) := by decide +kernel
theorem dX1_loadParents_10 : decode cX1_loadParents 10 = .ok (.aload_n 0, 1) := by decide +kernel
theorem dX1_loadParents_11 : decode cX1_loadParents 11 = .ok (.aload_n 0, 1) := by decide +kernel
theorem dX1_loadParents_12 : decode cX1_loadParents 12 = .ok (.getfield 18, 3) := by decide +kernel
theorem dX1_loadParents_15 : decode cX1_loadParents 15 = .ok (.iload_n 1, 1) := by decide +kernel
theorem dX1_loadParents_16 : decode cX1_loadParents 16 = .ok (.iaload, 1) := by decide +kernel
theorem dX1_loadParents_17 : decode cX1_loadParents 17 = .ok (.iload_n 2, 1) := by decide +kernel
theorem dX1_loadParents_18 : decode cX1_loadParents 18 = .ok (.invokevirtual 78, 3) := by decide +kernel
theorem dX1_loadParents_21 : decode cX1_loadParents 21 = .ok (.istore_n 3, 1) := by decide +kernel
theorem dX1_loadParents_22 : decode cX1_loadParents 22 = .ok (.iload_n 3, 1) := by decide +kernel
theorem dX1_loadParents_23 : decode cX1_loadParents 23 = .ok (.invokestatic 61, 3) := by decide +kernel
theorem dX1_loadParents_26 : decode cX1_loadParents 26 = .ok (.ifCond .ne 5, 3) := by decide +kernel
theorem dX1_loadParents_29 : decode cX1_loadParents 29 = .ok (.iload_n 3, 1) := by decide +kernel
theorem dX1_loadParents_30 : decode cX1_loadParents 30 = .ok (.ireturn, 1) := by decide +kernel
theorem dX1_loadParents_31 : decode cX1_loadParents 31 = .ok (.iconst 0, 1) := by decide +kernel
theorem dX1_loadParents_32 : decode cX1_loadParents 32 = .ok (.istore_n 3, 1) := by decide +kernel
theorem dX1_loadParents_33 : decode cX1_loadParents 33 = .ok (.iload_n 3, 1) := by decide +kernel
theorem dX1_loadParents_34 : decode cX1_loadParents 34 = .ok (.bipush 12, 2) := by decide +kernel
theorem dX1_loadParents_36 : decode cX1_loadParents 36 = .ok (.if_icmp .ge 41, 3) := by decide +kernel
theorem dX1_loadParents_39 : decode cX1_loadParents 39 = .ok (.aload_n 0, 1) := by decide +kernel
theorem dX1_loadParents_40 : decode cX1_loadParents 40 = .ok (.getfield 21, 3) := by decide +kernel
theorem dX1_loadParents_43 : decode cX1_loadParents 43 = .ok (.iload_n 1, 1) := by decide +kernel
theorem dX1_loadParents_44 : decode cX1_loadParents 44 = .ok (.iaload, 1) := by decide +kernel
theorem dX1_loadParents_45 : decode cX1_loadParents 45 = .ok (.iload_n 3, 1) := by decide +kernel
theorem dX1_loadParents_46 : decode cX1_loadParents 46 = .ok (.invokestatic 57, 3) := by decide +kernel
theorem dX1_loadParents_49 : decode cX1_loadParents 49 = .ok (.ifCond .eq 22, 3) := by decide +kernel
theorem dX1_loadParents_52 : decode cX1_loadParents 52 = .ok (.aload_n 0, 1) := by decide +kernel
theorem dX1_loadParents_53 : decode cX1_loadParents 53 = .ok (.iload_n 3, 1) := by decide +kernel
theorem dX1_loadParents_54 : decode cX1_loadParents 54 = .ok (.iload_n 2, 1) := by decide +kernel
theorem dX1_loadParents_55 : decode cX1_loadParents 55 = .ok (.invokevirtual 78, 3) := by decide +kernel
theorem dX1_loadParents_58 : decode cX1_loadParents 58 = .ok (.istore 4, 2) := by decide +kernel
theorem dX1_loadParents_60 : decode cX1_loadParents 60 = .ok (.iload 4, 2) := by decide +kernel
theorem dX1_loadParents_62 : decode cX1_loadParents 62 = .ok (.invokestatic 61, 3) := by decide +kernel
theorem dX1_loadParents_65 : decode cX1_loadParents 65 = .ok (.ifCond .ne 6, 3) := by decide +kernel
theorem dX1_loadParents_68 : decode cX1_loadParents 68 = .ok (.iload 4, 2) := by decide +kernel
theorem dX1_loadParents_70 : decode cX1_loadParents 70 = .ok (.ireturn, 1) := by decide +kernel
theorem dX1_loadParents_71 : decode cX1_loadParents 71 = .ok (.iinc 3 1, 3) := by decide +kernel
theorem dX1_loadParents_74 : decode cX1_loadParents 74 = .ok (.goto (-41), 3) := by decide +kernel
theorem dX1_loadParents_77 : decode cX1_loadParents 77 = .ok (.iload_n 1, 1) := by decide +kernel
theorem dX1_loadParents_78 : decode cX1_loadParents 78 = .ok (.ireturn, 1) := by decide +kernel
theorem dX1_hasWrongParents_0 : decode cX1_hasWrongParents 0 = .ok (.aload_n 0, 1) := by decide +kernel
theorem dX1_hasWrongParents_1 : decode cX1_hasWrongParents 1 = .ok (.getfield 18, 3) := by decide +kernel
theorem dX1_hasWrongParents_4 : decode cX1_hasWrongParents 4 = .ok (.iload_n 1, 1) := by decide +kernel
theorem dX1_hasWrongParents_5 : decode cX1_hasWrongParents 5 = .ok (.iaload, 1) := by decide +kernel
theorem dX1_hasWrongParents_6 : decode cX1_hasWrongParents 6 = .ok (.istore_n 2, 1) := by decide +kernel
theorem dX1_hasWrongParents_7 : decode cX1_hasWrongParents 7 = .ok (.iload_n 2, 1) := by decide +kernel
theorem dX1_hasWrongParents_8 : decode cX1_hasWrongParents 8 = .ok (.iconst (-1), 1) := by decide +kernel
theorem dX1_hasWrongParents_9 : decode cX1_hasWrongParents 9 = .ok (.if_icmp .eq 17, 3) := by decide +kernel
theorem dX1_hasWrongParents_12 : decode cX1_hasWrongParents 12 = .ok (.aload_n 0, 1) := by decide +kernel
theorem dX1_hasWrongParents_13 : decode cX1_hasWrongParents 13 = .ok (.getfield 9, 3) := by decide +kernel
theorem dX1_hasWrongParents_16 : decode cX1_hasWrongParents 16 = .ok (.iload_n 2, 1) := by decide +kernel
theorem dX1_hasWrongParents_17 : decode cX1_hasWrongParents 17 = .ok (.iaload, 1) := by decide +kernel
theorem dX1_hasWrongParents_18 : decode cX1_hasWrongParents 18 = .ok (.bipush 10, 2) := by decide +kernel
theorem dX1_hasWrongParents_20 : decode cX1_hasWrongParents 20 = .ok (.iand, 1) := by decide +kernel
theorem dX1_hasWrongParents_21 : decode cX1_hasWrongParents 21 = .ok (.ifCond .eq 5, 3) := by decide +kernel
theorem dX1_hasWrongParents_24 : decode cX1_hasWrongParents 24 = .ok (.iconst 1, 1) := by decide +kernel
theorem dX1_hasWrongParents_25 : decode cX1_hasWrongParents 25 = .ok (.ireturn, 1) := by decide +kernel
theorem dX1_hasWrongParents_26 : decode cX1_hasWrongParents 26 = .ok (.aload_n 0, 1) := by decide +kernel
theorem dX1_hasWrongParents_27 : decode cX1_hasWrongParents 27 = .ok (.iload_n 1, 1) := by decide +kernel
theorem dX1_hasWrongParents_28 : decode cX1_hasWrongParents 28 = .ok (.invokevirtual 92, 3) := by decide +kernel
theorem dX1_hasWrongParents_31 : decode cX1_hasWrongParents 31 = .ok (.ifCond .eq 9, 3) := by decide +kernel
theorem dX1_hasWrongParents_34 : decode cX1_hasWrongParents 34 = .ok (.iload_n 2, 1) := by decide +kernel
theorem dX1_hasWrongParents_35 : decode cX1_hasWrongParents 35 = .ok (.ifCond .eq 5, 3) := by decide +kernel
theorem dX1_hasWrongParents_38 : decode cX1_hasWrongParents 38 = .ok (.iconst 1, 1) := by decide +kernel
theorem dX1_hasWrongParents_39 : decode cX1_hasWrongParents 39 = .ok (.ireturn, 1) := by decide +kernel
theorem dX1_hasWrongParents_40 : decode cX1_hasWrongParents 40 = .ok (.iconst 0, 1) := by decide +kernel
theorem dX1_hasWrongParents_41 : decode cX1_hasWrongParents 41 = .ok (.istore_n 3, 1) := by decide +kernel
theorem dX1_hasWrongParents_42 : decode cX1_hasWrongParents 42 = .ok (.iload_n 3, 1) := by decide +kernel
theorem dX1_hasWrongParents_43 : decode cX1_hasWrongParents 43 = .ok (.bipush 12, 2) := by decide +kernel
theorem dX1_hasWrongParents_45 : decode cX1_hasWrongParents 45 = .ok (.if_icmp .ge 32, 3) := by decide +kernel
theorem dX1_hasWrongParents_48 : decode cX1_hasWrongParents 48 = .ok (.aload_n 0, 1) := by decide +kernel
theorem dX1_hasWrongParents_49 : decode cX1_hasWrongParents 49 = .ok (.getfield 21, 3) := by decide +kernel
theorem dX1_hasWrongParents_52 : decode cX1_hasWrongParents 52 = .ok (.iload_n 1, 1) := by decide +kernel
theorem dX1_hasWrongParents_53 : decode cX1_hasWrongParents 53 = .ok (.iaload, 1) := by decide +kernel
theorem dX1_hasWrongParents_54 : decode cX1_hasWrongParents 54 = .ok (.iload_n 3, 1) := by decide +kernel
theorem dX1_hasWrongParents_55 : decode cX1_hasWrongParents 55 = .ok (.invokestatic 57, 3) := by decide +kernel
theorem dX1_hasWrongParents_58 : decode cX1_hasWrongParents 58 = .ok (.ifCond .eq 13, 3) := by decide +kernel
theorem dX1_hasWrongParents_61 : decode cX1_hasWrongParents 61 = .ok (.aload_n 0, 1) := by decide +kernel
theorem dX1_hasWrongParents_62 : decode cX1_hasWrongParents 62 = .ok (.iload_n 3, 1) := by decide +kernel
theorem dX1_hasWrongParents_63 : decode cX1_hasWrongParents 63 = .ok (.invokevirtual 92, 3) := by decide +kernel
theorem dX1_hasWrongParents_66 : decode cX1_hasWrongParents 66 = .ok (.ifCond .ne 5, 3) := by decide +kernel
theorem dX1_hasWrongParents_69 : decode cX1_hasWrongParents 69 = .ok (.iconst 1, 1) := by decide +kernel
theorem dX1_hasWrongParents_70 : decode cX1_hasWrongParents 70 = .ok (.ireturn, 1) := by decide +kernel
theorem dX1_hasWrongParents_71 : decode cX1_hasWrongParents 71 = .ok (.iinc 3 1, 3) := by decide +kernel
theorem dX1_hasWrongParents_74 : decode cX1_hasWrongParents 74 = .ok (.goto (-32), 3) := by decide +kernel
theorem dX1_hasWrongParents_77 : decode cX1_hasWrongParents 77 = .ok (.iconst 0, 1) := by decide +kernel
theorem dX1_hasWrongParents_78 : decode cX1_hasWrongParents 78 = .ok (.ireturn, 1) := by decide +kernel
theorem dX1_gatherSets_0 : decode cX1_gatherSets 0 = .ok (.aload_n 0, 1) := by decide +kernel
theorem dX1_gatherSets_1 : decode cX1_gatherSets 1 = .ok (.getfield 18, 3) := by decide +kernel
theorem dX1_gatherSets_4 : decode cX1_gatherSets 4 = .ok (.iload_n 1, 1) := by decide +kernel
theorem dX1_gatherSets_5 : decode cX1_gatherSets 5 = .ok (.iaload, 1) := by decide +kernel
theorem dX1_gatherSets_6 : decode cX1_gatherSets 6 = .ok (.istore_n 2, 1) := by decide +kernel
theorem dX1_gatherSets_7 : decode cX1_gatherSets 7 = .ok (.aload_n 0, 1) := by decide +kernel
theorem dX1_gatherSets_8 : decode cX1_gatherSets 8 = .ok (.getfield 30, 3) := by decide +kernel
theorem dX1_gatherSets_11 : decode cX1_gatherSets 11 = .ok (.iload_n 1, 1) := by decide +kernel
theorem dX1_gatherSets_12 : decode cX1_gatherSets 12 = .ok (.iload_n 2, 1) := by decide +kernel
theorem dX1_gatherSets_13 : decode cX1_gatherSets 13 = .ok (.iconst (-1), 1) := by decide +kernel
theorem dX1_gatherSets_14 : decode cX1_gatherSets 14 = .ok (.if_icmp .ne 10, 3) := by decide +kernel
theorem dX1_gatherSets_17 : decode cX1_gatherSets 17 = .ok (.iload_n 1, 1) := by decide +kernel
theorem dX1_gatherSets_18 : decode cX1_gatherSets 18 = .ok (.invokestatic 36, 3) := by decide +kernel
theorem dX1_gatherSets_21 : decode cX1_gatherSets 21 = .ok (.goto 14, 3) := by decide +kernel
theorem dX1_gatherSets_24 : decode cX1_gatherSets 24 = .ok (.iload_n 1, 1) := by decide +kernel
theorem dX1_gatherSets_25 : decode cX1_gatherSets 25 = .ok (.invokestatic 36, 3) := by decide +kernel
theorem dX1_gatherSets_28 : decode cX1_gatherSets 28 = .ok (.aload_n 0, 1) := by decide +kernel
theorem dX1_gatherSets_29 : decode cX1_gatherSets 29 = .ok (.getfield 30, 3) := by decide +kernel
theorem dX1_gatherSets_32 : decode cX1_gatherSets 32 = .ok (.iload_n 2, 1) := by decide +kernel
theorem dX1_gatherSets_33 : decode cX1_gatherSets 33 = .ok (.iaload, 1) := by decide +kernel
theorem dX1_gatherSets_34 : decode cX1_gatherSets 34 = .ok (.ior, 1) := by decide +kernel
theorem dX1_gatherSets_35 : decode cX1_gatherSets 35 = .ok (.iastore, 1) := by decide +kernel
theorem dX1_gatherSets_36 : decode cX1_gatherSets 36 = .ok (.iload_n 2, 1) := by decide +kernel
theorem dX1_gatherSets_37 : decode cX1_gatherSets 37 = .ok (.iconst (-1), 1) := by decide +kernel
theorem dX1_gatherSets_38 : decode cX1_gatherSets 38 = .ok (.if_icmp .ne 12, 3) := by decide +kernel
theorem dX1_gatherSets_41 : decode cX1_gatherSets 41 = .ok (.aload_n 0, 1) := by decide +kernel
theorem dX1_gatherSets_42 : decode cX1_gatherSets 42 = .ok (.getfield 21, 3) := by decide +kernel
theorem dX1_gatherSets_45 : decode cX1_gatherSets 45 = .ok (.iload_n 1, 1) := by decide +kernel
theorem dX1_gatherSets_46 : decode cX1_gatherSets 46 = .ok (.iaload, 1) := by decide +kernel
theorem dX1_gatherSets_47 : decode cX1_gatherSets 47 = .ok (.goto 16, 3) := by decide +kernel
theorem dX1_gatherSets_50 : decode cX1_gatherSets 50 = .ok (.aload_n 0, 1) := by decide +kernel
theorem dX1_gatherSets_51 : decode cX1_gatherSets 51 = .ok (.getfield 21, 3) := by decide +kernel
theorem dX1_gatherSets_54 : decode cX1_gatherSets 54 = .ok (.iload_n 1, 1) := by decide +kernel
theorem dX1_gatherSets_55 : decode cX1_gatherSets 55 = .ok (.iaload, 1) := by decide +kernel
theorem dX1_gatherSets_56 : decode cX1_gatherSets 56 = .ok (.aload_n 0, 1) := by decide +kernel
theorem dX1_gatherSets_57 : decode cX1_gatherSets 57 = .ok (.getfield 33, 3) := by decide +kernel
theorem dX1_gatherSets_60 : decode cX1_gatherSets 60 = .ok (.iload_n 2, 1) := by decide +kernel
theorem dX1_gatherSets_61 : decode cX1_gatherSets 61 = .ok (.iaload, 1) := by decide +kernel
theorem dX1_gatherSets_62 : decode cX1_gatherSets 62 = .ok (.ior, 1) := by decide +kernel
theorem dX1_gatherSets_63 : decode cX1_gatherSets 63 = .ok (.istore_n 3, 1) := by decide +kernel
theorem dX1_gatherSets_64 : decode cX1_gatherSets 64 = .ok (.iconst 0, 1) := by decide +kernel
theorem dX1_gatherSets_65 : decode cX1_gatherSets 65 = .ok (.istore 4, 2) := by decide +kernel
theorem dX1_gatherSets_67 : decode cX1_gatherSets 67 = .ok (.iload 4, 2) := by decide +kernel
theorem dX1_gatherSets_69 : decode cX1_gatherSets 69 = .ok (.bipush 12, 2) := by decide +kernel
theorem dX1_gatherSets_71 : decode cX1_gatherSets 71 = .ok (.if_icmp .ge 33, 3) := by decide +kernel
theorem dX1_gatherSets_74 : decode cX1_gatherSets 74 = .ok (.aload_n 0, 1) := by decide +kernel
theorem dX1_gatherSets_75 : decode cX1_gatherSets 75 = .ok (.getfield 21, 3) := by decide +kernel
theorem dX1_gatherSets_78 : decode cX1_gatherSets 78 = .ok (.iload_n 1, 1) := by decide +kernel
theorem dX1_gatherSets_79 : decode cX1_gatherSets 79 = .ok (.iaload, 1) := by decide +kernel
theorem dX1_gatherSets_80 : decode cX1_gatherSets 80 = .ok (.iload 4, 2) := by decide +kernel
theorem dX1_gatherSets_82 : decode cX1_gatherSets 82 = .ok (.invokestatic 57, 3) := by decide +kernel
theorem dX1_gatherSets_85 : decode cX1_gatherSets 85 = .ok (.ifCond .eq 13, 3) := by decide +kernel
theorem dX1_gatherSets_88 : decode cX1_gatherSets 88 = .ok (.iload_n 3, 1) := by decide +kernel
theorem dX1_gatherSets_89 : decode cX1_gatherSets 89 = .ok (.aload_n 0, 1) := by decide +kernel
theorem dX1_gatherSets_90 : decode cX1_gatherSets 90 = .ok (.getfield 33, 3) := by decide +kernel
theorem dX1_gatherSets_93 : decode cX1_gatherSets 93 = .ok (.iload 4, 2) := by decide +kernel
theorem dX1_gatherSets_95 : decode cX1_gatherSets 95 = .ok (.iaload, 1) := by decide +kernel
theorem dX1_gatherSets_96 : decode cX1_gatherSets 96 = .ok (.ior, 1) := by decide +kernel
theorem dX1_gatherSets_97 : decode cX1_gatherSets 97 = .ok (.istore_n 3, 1) := by decide +kernel
theorem dX1_gatherSets_98 : decode cX1_gatherSets 98 = .ok (.iinc 4 1, 3) := by decide +kernel
theorem dX1_gatherSets_101 : decode cX1_gatherSets 101 = .ok (.goto (-34), 3) := by decide +kernel
theorem dX1_gatherSets_104 : decode cX1_gatherSets 104 = .ok (.aload_n 0, 1) := by decide +kernel
theorem dX1_gatherSets_105 : decode cX1_gatherSets 105 = .ok (.getfield 33, 3) := by decide +kernel
theorem dX1_gatherSets_108 : decode cX1_gatherSets 108 = .ok (.iload_n 1, 1) := by decide +kernel
theorem dX1_gatherSets_109 : decode cX1_gatherSets 109 = .ok (.iload_n 3, 1) := by decide +kernel
theorem dX1_gatherSets_110 : decode cX1_gatherSets 110 = .ok (.iastore, 1) := by decide +kernel
theorem dX1_gatherSets_111 : decode cX1_gatherSets 111 = .ok (.return_, 1) := by decide +kernel
theorem dX2_init_0 : decode cX2_init 0 = .ok (.aload_n 0, 1) := by decide +kernel
theorem dX2_init_1 : decode cX2_init 1 = .ok (.invokespecial 3, 3) := by decide +kernel
theorem dX2_init_4 : decode cX2_init 4 = .ok (.aload_n 0, 1) := by decide +kernel
theorem dX2_init_5 : decode cX2_init 5 = .ok (.bipush 30, 2) := by decide +kernel
theorem dX2_init_7 : decode cX2_init 7 = .ok (.newarray .int, 2) := by decide +kernel
theorem dX2_init_9 : decode cX2_init 9 = .ok (.putfield 9, 3) := by decide +kernel
theorem dX2_init_12 : decode cX2_init 12 = .ok (.aload_n 0, 1) := by decide +kernel
theorem dX2_init_13 : decode cX2_init 13 = .ok (.bipush 30, 2) := by decide +kernel
theorem dX2_init_15 : decode cX2_init 15 = .ok (.newarray .int, 2) := by decide +kernel
theorem dX2_init_17 : decode cX2_init 17 = .ok (.putfield 15, 3) := by decide +kernel
theorem dX2_init_20 : decode cX2_init 20 = .ok (.aload_n 0, 1) := by decide +kernel
theorem dX2_init_21 : decode cX2_init 21 = .ok (.bipush 30, 2) := by decide +kernel
theorem dX2_init_23 : decode cX2_init 23 = .ok (.newarray .int, 2) := by decide +kernel
theorem dX2_init_25 : decode cX2_init 25 = .ok (.putfield 18, 3) := by decide +kernel
theorem dX2_init_28 : decode cX2_init 28 = .ok (.aload_n 0, 1) := by decide +kernel
theorem dX2_init_29 : decode cX2_init 29 = .ok (.bipush 30, 2) := by decide +kernel
theorem dX2_init_31 : decode cX2_init 31 = .ok (.newarray .int, 2) := by decide +kernel
theorem dX2_init_33 : decode cX2_init 33 = .ok (.putfield 21, 3) := by decide +kernel
theorem dX2_init_36 : decode cX2_init 36 = .ok (.return_, 1) := by decide +kernel
theorem dX2_append_0 : decode cX2_append 0 = .ok (.aload_n 0, 1) := by decide +kernel
theorem dX2_append_1 : decode cX2_append 1 = .ok (.getfield 24, 3) := by decide +kernel
theorem dX2_append_4 : decode cX2_append 4 = .ok (.bipush 30, 2) := by decide +kernel
theorem dX2_append_6 : decode cX2_append 6 = .ok (.if_icmp .lt 6, 3) := by decide +kernel
theorem dX2_append_9 : decode cX2_append 9 = .ok (.bipush (-3), 2) := by decide +kernel
theorem dX2_append_11 : decode cX2_append 11 = .ok (.ireturn, 1) := by decide +kernel
theorem dX2_append_12 : decode cX2_append 12 = .ok (.aload_n 0, 1) := by decide +kernel
theorem dX2_append_13 : decode cX2_append 13 = .ok (.getfield 24, 3) := by decide +kernel
theorem dX2_append_16 : decode cX2_append 16 = .ok (.istore 6, 2) := by decide +kernel
theorem dX2_append_18 : decode cX2_append 18 = .ok (.aload_n 0, 1) := by decide +kernel
theorem dX2_append_19 : decode cX2_append 19 = .ok (.dup, 1) := by decide +kernel
theorem dX2_append_20 : decode cX2_append 20 = .ok (.getfield 24, 3) := by decide +kernel
theorem dX2_append_23 : decode cX2_append 23 = .ok (.iconst 1, 1) := by decide +kernel
theorem dX2_append_24 : decode cX2_append 24 = .ok (.iadd, 1) := by decide +kernel
theorem dX2_append_25 : decode cX2_append 25 = .ok (.putfield 24, 3) := by decide +kernel
theorem dX2_append_28 : decode cX2_append 28 = .ok (.aload_n 0, 1) := by decide +kernel
theorem dX2_append_29 : decode cX2_append 29 = .ok (.getfield 9, 3) := by decide +kernel
theorem dX2_append_32 : decode cX2_append 32 = .ok (.iload 6, 2) := by decide +kernel
theorem dX2_append_34 : decode cX2_append 34 = .ok (.iload_n 1, 1) := by decide +kernel
theorem dX2_append_35 : decode cX2_append 35 = .ok (.iastore, 1) := by decide +kernel
theorem dX2_append_36 : decode cX2_append 36 = .ok (.aload_n 0, 1) := by decide +kernel
theorem dX2_append_37 : decode cX2_append 37 = .ok (.getfield 15, 3) := by decide +kernel
theorem dX2_append_40 : decode cX2_append 40 = .ok (.iload 6, 2) := by decide +kernel
theorem dX2_append_42 : decode cX2_append 42 = .ok (.iload_n 2, 1) := by decide +kernel
theorem dX2_append_43 : decode cX2_append 43 = .ok (.iload_n 3, 1) := by decide +kernel
theorem dX2_append_44 : decode cX2_append 44 = .ok (.invokestatic 28, 3) := by decide +kernel
theorem dX2_append_47 : decode cX2_append 47 = .ok (.iastore, 1) := by decide +kernel
theorem dX2_append_48 : decode cX2_append 48 = .ok (.aload_n 0, 1) := by decide +kernel
theorem dX2_append_49 : decode cX2_append 49 = .ok (.getfield 18, 3) := by decide +kernel
theorem dX2_append_52 : decode cX2_append 52 = .ok (.iload 6, 2) := by decide +kernel
theorem dX2_append_54 : decode cX2_append 54 = .ok (.iload 4, 2) := by decide +kernel
theorem dX2_append_56 : decode cX2_append 56 = .ok (.iastore, 1) := by decide +kernel
theorem dX2_append_57 : decode cX2_append 57 = .ok (.aload_n 0, 1) := by decide +kernel
theorem dX2_append_58 : decode cX2_append 58 = .ok (.getfield 21, 3) := by decide +kernel
theorem dX2_append_61 : decode cX2_append 61 = .ok (.iload 6, 2) := by decide +kernel
theorem dX2_append_63 : decode cX2_append 63 = .ok (.iload 5, 2) := by decide +kernel
theorem dX2_append_65 : decode cX2_append 65 = .ok (.iastore, 1) := by decide +kernel
theorem dX2_append_66 : decode cX2_append 66 = .ok (.iload 6, 2) := by decide +kernel
theorem dX2_append_68 : decode cX2_append 68 = .ok (.ireturn, 1) := by decide +kernel
theorem dX2_change_0 : decode cX2_change 0 = .ok (.aload_n 0, 1) := by decide +kernel
theorem dX2_change_1 : decode cX2_change 1 = .ok (.iload_n 1, 1) := by decide +kernel
theorem dX2_change_2 : decode cX2_change 2 = .ok (.invokevirtual 32, 3) := by decide +kernel
theorem dX2_change_5 : decode cX2_change 5 = .ok (.ifCond .ne 5, 3) := by decide +kernel
theorem dX2_change_8 : decode cX2_change 8 = .ok (.iconst 0, 1) := by decide +kernel
theorem dX2_change_9 : decode cX2_change 9 = .ok (.ireturn, 1) := by decide +kernel
theorem dX2_change_10 : decode cX2_change 10 = .ok (.aload_n 0, 1) := by decide +kernel
theorem dX2_change_11 : decode cX2_change 11 = .ok (.getfield 18, 3) := by decide +kernel
theorem dX2_change_14 : decode cX2_change 14 = .ok (.iload_n 1, 1) := by decide +kernel
theorem dX2_change_15 : decode cX2_change 15 = .ok (.iload_n 2, 1) := by decide +kernel
theorem dX2_change_16 : decode cX2_change 16 = .ok (.iastore, 1) := by decide +kernel
theorem dX2_change_17 : decode cX2_change 17 = .ok (.aload_n 0, 1) := by decide +kernel
theorem dX2_change_18 : decode cX2_change 18 = .ok (.getfield 21, 3) := by decide +kernel
theorem dX2_change_21 : decode cX2_change 21 = .ok (.iload_n 1, 1) := by decide +kernel
theorem dX2_change_22 : decode cX2_change 22 = .ok (.iload_n 3, 1) := by decide +kernel
theorem dX2_change_23 : decode cX2_change 23 = .ok (.iastore, 1) := by decide +kernel
theorem dX2_change_24 : decode cX2_change 24 = .ok (.iconst 1, 1) := by decide +kernel
theorem dX2_change_25 : decode cX2_change 25 = .ok (.ireturn, 1) := by decide +kernel
theorem dX2_discard_0 : decode cX2_discard 0 = .ok (.aload_n 0, 1) := by decide +kernel
theorem dX2_discard_1 : decode cX2_discard 1 = .ok (.iload_n 1, 1) := by decide +kernel
theorem dX2_discard_2 : decode cX2_discard 2 = .ok (.invokevirtual 32, 3) := by decide +kernel
theorem dX2_discard_5 : decode cX2_discard 5 = .ok (.ifCond .ne 5, 3) := by decide +kernel
theorem dX2_discard_8 : decode cX2_discard 8 = .ok (.iconst 0, 1) := by decide +kernel
theorem dX2_discard_9 : decode cX2_discard 9 = .ok (.ireturn, 1) := by decide +kernel
theorem dX2_discard_10 : decode cX2_discard 10 = .ok (.aload_n 0, 1) := by decide +kernel
theorem dX2_discard_11 : decode cX2_discard 11 = .ok (.dup, 1) := by decide +kernel
theorem dX2_discard_12 : decode cX2_discard 12 = .ok (.getfield 36, 3) := by decide +kernel
theorem dX2_discard_15 : decode cX2_discard 15 = .ok (.iload_n 1, 1) := by decide +kernel
theorem dX2_discard_16 : decode cX2_discard 16 = .ok (.invokestatic 39, 3) := by decide +kernel
theorem dX2_discard_19 : decode cX2_discard 19 = .ok (.ior, 1) := by decide +kernel
theorem dX2_discard_20 : decode cX2_discard 20 = .ok (.putfield 36, 3) := by decide +kernel
theorem dX2_discard_23 : decode cX2_discard 23 = .ok (.iconst 1, 1) := by decide +kernel
theorem dX2_discard_24 : decode cX2_discard 24 = .ok (.ireturn, 1) := by decide +kernel
theorem dX2_discardAllOf_0 : decode cX2_discardAllOf 0 = .ok (.iconst 0, 1) := by decide +kernel
theorem dX2_discardAllOf_1 : decode cX2_discardAllOf 1 = .ok (.istore_n 2, 1) := by decide +kernel
theorem dX2_discardAllOf_2 : decode cX2_discardAllOf 2 = .ok (.iload_n 2, 1) := by decide +kernel
theorem dX2_discardAllOf_3 : decode cX2_discardAllOf 3 = .ok (.aload_n 0, 1) := by decide +kernel
theorem dX2_discardAllOf_4 : decode cX2_discardAllOf 4 = .ok (.getfield 24, 3) := by decide +kernel
theorem dX2_discardAllOf_7 : decode cX2_discardAllOf 7 = .ok (.if_icmp .ge 32, 3) := by decide +kernel
theorem dX2_discardAllOf_10 : decode cX2_discardAllOf 10 = .ok (.aload_n 0, 1) := by decide +kernel
theorem dX2_discardAllOf_11 : decode cX2_discardAllOf 11 = .ok (.getfield 9, 3) := by decide +kernel
theorem dX2_discardAllOf_14 : decode cX2_discardAllOf 14 = .ok (.iload_n 2, 1) := by decide +kernel
theorem dX2_discardAllOf_15 : decode cX2_discardAllOf 15 = .ok (.iaload, 1) := by decide +kernel
theorem dX2_discardAllOf_16 : decode cX2_discardAllOf 16 = .ok (.iload_n 1, 1) := by decide +kernel
theorem dX2_discardAllOf_17 : decode cX2_discardAllOf 17 = .ok (.if_icmp .ne 16, 3) := by decide +kernel
theorem dX2_discardAllOf_20 : decode cX2_discardAllOf 20 = .ok (.aload_n 0, 1) := by decide +kernel
theorem dX2_discardAllOf_21 : decode cX2_discardAllOf 21 = .ok (.dup, 1) := by decide +kernel
theorem dX2_discardAllOf_22 : decode cX2_discardAllOf 22 = .ok (.getfield 36, 3) := by decide +kernel
theorem dX2_discardAllOf_25 : decode cX2_discardAllOf 25 = .ok (.iload_n 2, 1) := by decide +kernel
theorem dX2_discardAllOf_26 : decode cX2_discardAllOf 26 = .ok (.invokestatic 39, 3) := by decide +kernel
theorem dX2_discardAllOf_29 : decode cX2_discardAllOf 29 = .ok (.ior, 1) := by decide +kernel
theorem dX2_discardAllOf_30 : decode cX2_discardAllOf 30 = .ok (.putfield 36, 3) := by decide +kernel
theorem dX2_discardAllOf_33 : decode cX2_discardAllOf 33 = .ok (.iinc 2 1, 3) := by decide +kernel
theorem dX2_discardAllOf_36 : decode cX2_discardAllOf 36 = .ok (.goto (-34), 3) := by decide +kernel
theorem dX2_discardAllOf_39 : decode cX2_discardAllOf 39 = .ok (.return_, 1) := by decide +kernel
theorem dX2_becomeAs_0 : decode cX2_becomeAs 0 = .ok (.aload_n 0, 1) := by decide +kernel
theorem dX2_becomeAs_1 : decode cX2_becomeAs 1 = .ok (.aload_n 1, 1) := by decide +kernel
theorem dX2_becomeAs_2 : decode cX2_becomeAs 2 = .ok (.getfield 24, 3) := by decide +kernel
theorem dX2_becomeAs_5 : decode cX2_becomeAs 5 = .ok (.putfield 24, 3) := by decide +kernel
theorem dX2_becomeAs_8 : decode cX2_becomeAs 8 = .ok (.aload_n 0, 1) := by decide +kernel
theorem dX2_becomeAs_9 : decode cX2_becomeAs 9 = .ok (.aload_n 1, 1) := by decide +kernel
theorem dX2_becomeAs_10 : decode cX2_becomeAs 10 = .ok (.getfield 36, 3) := by decide +kernel
theorem dX2_becomeAs_13 : decode cX2_becomeAs 13 = .ok (.putfield 36, 3) := by decide +kernel
theorem dX2_becomeAs_16 : decode cX2_becomeAs 16 = .ok (.aload_n 1, 1) := by decide +kernel
theorem dX2_becomeAs_17 : decode cX2_becomeAs 17 = .ok (.getfield 9, 3) := by decide +kernel
theorem dX2_becomeAs_20 : decode cX2_becomeAs 20 = .ok (.iconst 0, 1) := by decide +kernel
theorem dX2_becomeAs_21 : decode cX2_becomeAs 21 = .ok (.aload_n 0, 1) := by decide +kernel
theorem dX2_becomeAs_22 : decode cX2_becomeAs 22 = .ok (.getfield 9, 3) := by decide +kernel
theorem dX2_becomeAs_25 : decode cX2_becomeAs 25 = .ok (.iconst 0, 1) := by decide +kernel
theorem dX2_becomeAs_26 : decode cX2_becomeAs 26 = .ok (.bipush 30, 2) := by decide +kernel
theorem dX2_becomeAs_28 : decode cX2_becomeAs 28 = .ok (.invokestatic 43, 3) := by decide +kernel
theorem dX2_becomeAs_31 : decode cX2_becomeAs 31 = .ok (.aload_n 1, 1) := by decide +kernel
theorem dX2_becomeAs_32 : decode cX2_becomeAs 32 = .ok (.getfield 15, 3) := by decide +kernel
theorem dX2_becomeAs_35 : decode cX2_becomeAs 35 = .ok (.iconst 0, 1) := by decide +kernel
theorem dX2_becomeAs_36 : decode cX2_becomeAs 36 = .ok (.aload_n 0, 1) := by decide +kernel
theorem dX2_becomeAs_37 : decode cX2_becomeAs 37 = .ok (.getfield 15, 3) := by decide +kernel
theorem dX2_becomeAs_40 : decode cX2_becomeAs 40 = .ok (.iconst 0, 1) := by decide +kernel
theorem dX2_becomeAs_41 : decode cX2_becomeAs 41 = .ok (.bipush 30, 2) := by decide +kernel
theorem dX2_becomeAs_43 : decode cX2_becomeAs 43 = .ok (.invokestatic 43, 3) := by decide +kernel
theorem dX2_becomeAs_46 : decode cX2_becomeAs 46 = .ok (.aload_n 1, 1) := by decide +kernel
theorem dX2_becomeAs_47 : decode cX2_becomeAs 47 = .ok (.getfield 18, 3) := by decide +kernel
theorem dX2_becomeAs_50 : decode cX2_becomeAs 50 = .ok (.iconst 0, 1) := by decide +kernel
theorem dX2_becomeAs_51 : decode cX2_becomeAs 51 = .ok (.aload_n 0, 1) := by decide +kernel
theorem dX2_becomeAs_52 : decode cX2_becomeAs 52 = .ok (.getfield 18, 3) := by decide +kernel
theorem dX2_becomeAs_55 : decode cX2_becomeAs 55 = .ok (.iconst 0, 1) := by decide +kernel
theorem dX2_becomeAs_56 : decode cX2_becomeAs 56 = .ok (.bipush 30, 2) := by decide +kernel
theorem dX2_becomeAs_58 : decode cX2_becomeAs 58 = .ok (.invokestatic 43, 3) := by decide +kernel
theorem dX2_becomeAs_61 : decode cX2_becomeAs 61 = .ok (.aload_n 1, 1) := by decide +kernel
theorem dX2_becomeAs_62 : decode cX2_becomeAs 62 = .ok (.getfield 21, 3) := by decide +kernel
theorem dX2_becomeAs_65 : decode cX2_becomeAs 65 = .ok (.iconst 0, 1) := by decide +kernel
theorem dX2_becomeAs_66 : decode cX2_becomeAs 66 = .ok (.aload_n 0, 1) := by decide +kernel
theorem dX2_becomeAs_67 : decode cX2_becomeAs 67 = .ok (.getfield 21, 3) := by decide +kernel
theorem dX2_becomeAs_70 : decode cX2_becomeAs 70 = .ok (.iconst 0, 1) := by decide +kernel
theorem dX2_becomeAs_71 : decode cX2_becomeAs 71 = .ok (.bipush 30, 2) := by decide +kernel
theorem dX2_becomeAs_73 : decode cX2_becomeAs 73 = .ok (.invokestatic 43, 3) := by decide +kernel
theorem dX2_becomeAs_76 : decode cX2_becomeAs 76 = .ok (.return_, 1) := by decide +kernel
theorem dX2_find_0 : decode cX2_find 0 = .ok (.iload_n 2, 1) := by decide +kernel
theorem dX2_find_1 : decode cX2_find 1 = .ok (.iload_n 3, 1) := by decide +kernel
theorem dX2_find_2 : decode cX2_find 2 = .ok (.invokestatic 28, 3) := by decide +kernel
theorem dX2_find_5 : decode cX2_find 5 = .ok (.istore 4, 2) := by decide +kernel
theorem dX2_find_7 : decode cX2_find 7 = .ok (.iconst 0, 1) := by decide +kernel
theorem dX2_find_8 : decode cX2_find 8 = .ok (.istore 5, 2) := by decide +kernel
theorem dX2_find_10 : decode cX2_find 10 = .ok (.iload 5, 2) := by decide +kernel
theorem dX2_find_12 : decode cX2_find 12 = .ok (.aload_n 0, 1) := by decide +kernel
theorem dX2_find_13 : decode cX2_find 13 = .ok (.getfield 24, 3) := by decide +kernel
theorem dX2_find_16 : decode cX2_find 16 = .ok (.if_icmp .ge 47, 3) := by decide +kernel
theorem dX2_find_19 : decode cX2_find 19 = .ok (.aload_n 0, 1) := by decide +kernel
theorem dX2_find_20 : decode cX2_find 20 = .ok (.getfield 15, 3) := by decide +kernel
theorem dX2_find_23 : decode cX2_find 23 = .ok (.iload 5, 2) := by decide +kernel
theorem dX2_find_25 : decode cX2_find 25 = .ok (.iaload, 1) := by decide +kernel
theorem dX2_find_26 : decode cX2_find 26 = .ok (.iload 4, 2) := by decide +kernel
theorem dX2_find_28 : decode cX2_find 28 = .ok (.if_icmp .ne 29, 3) := by decide +kernel
theorem dX2_find_31 : decode cX2_find 31 = .ok (.aload_n 0, 1) := by decide +kernel
theorem dX2_find_32 : decode cX2_find 32 = .ok (.getfield 9, 3) := by decide +kernel
theorem dX2_find_35 : decode cX2_find 35 = .ok (.iload 5, 2) := by decide +kernel
theorem dX2_find_37 : decode cX2_find 37 = .ok (.iaload, 1) := by decide +kernel
theorem dX2_find_38 : decode cX2_find 38 = .ok (.iload_n 1, 1) := by decide +kernel
theorem dX2_find_39 : decode cX2_find 39 = .ok (.if_icmp .ne 18, 3) := by decide +kernel
theorem dX2_find_42 : decode cX2_find 42 = .ok (.aload_n 0, 1) := by decide +kernel
theorem dX2_find_43 : decode cX2_find 43 = .ok (.getfield 36, 3) := by decide +kernel
theorem dX2_find_46 : decode cX2_find 46 = .ok (.iload 5, 2) := by decide +kernel
theorem dX2_find_48 : decode cX2_find 48 = .ok (.invokestatic 49, 3) := by decide +kernel
theorem dX2_find_51 : decode cX2_find 51 = .ok (.ifCond .ne 6, 3) := by decide +kernel
theorem dX2_find_54 : decode cX2_find 54 = .ok (.iload 5, 2) := by decide +kernel
theorem dX2_find_56 : decode cX2_find 56 = .ok (.ireturn, 1) := by decide +kernel
theorem dX2_find_57 : decode cX2_find 57 = .ok (.iinc 5 1, 3) := by decide +kernel
theorem dX2_find_60 : decode cX2_find 60 = .ok (.goto (-50), 3) := by decide +kernel
theorem dX2_find_63 : decode cX2_find 63 = .ok (.bipush (-2), 2) := by decide +kernel
theorem dX2_find_65 : decode cX2_find 65 = .ok (.ireturn, 1) := by decide +kernel
theorem dX2_ownersOfInheritable_0 : decode cX2_ownersOfInheritable 0 = .ok (.iconst 1, 1) := by decide +kernel
theorem dX2_ownersOfInheritable_1 : decode cX2_ownersOfInheritable 1 = .ok (.iload_n 1, 1) := by decide +kernel
theorem dX2_ownersOfInheritable_2 : decode cX2_ownersOfInheritable 2 = .ok (.invokestatic 28, 3) := by decide +kernel
theorem dX2_ownersOfInheritable_5 : decode cX2_ownersOfInheritable 5 = .ok (.istore_n 2, 1) := by decide +kernel
theorem dX2_ownersOfInheritable_6 : decode cX2_ownersOfInheritable 6 = .ok (.iconst 0, 1) := by decide +kernel
theorem dX2_ownersOfInheritable_7 : decode cX2_ownersOfInheritable 7 = .ok (.istore_n 3, 1) := by decide +kernel
theorem dX2_ownersOfInheritable_8 : decode cX2_ownersOfInheritable 8 = .ok (.iconst 0, 1) := by decide +kernel
theorem dX2_ownersOfInheritable_9 : decode cX2_ownersOfInheritable 9 = .ok (.istore 4, 2) := by decide +kernel
theorem dX2_ownersOfInheritable_11 : decode cX2_ownersOfInheritable 11 = .ok (.iload 4, 2) := by decide +kernel
theorem dX2_ownersOfInheritable_13 : decode cX2_ownersOfInheritable 13 = .ok (.aload_n 0, 1) := by decide +kernel
theorem dX2_ownersOfInheritable_14 : decode cX2_ownersOfInheritable 14 = .ok (.getfield 24, 3) := by decide +kernel
theorem dX2_ownersOfInheritable_17 : decode cX2_ownersOfInheritable 17 = .ok (.if_icmp .ge 54, 3) := by decide +kernel
theorem dX2_ownersOfInheritable_20 : decode cX2_ownersOfInheritable 20 = .ok (.aload_n 0, 1) := by decide +kernel
theorem dX2_ownersOfInheritable_21 : decode cX2_ownersOfInheritable 21 = .ok (.getfield 15, 3) := by decide +kernel
theorem dX2_ownersOfInheritable_24 : decode cX2_ownersOfInheritable 24 = .ok (.iload 4, 2) := by decide +kernel
theorem dX2_ownersOfInheritable_26 : decode cX2_ownersOfInheritable 26 = .ok (.iaload, 1) := by decide +kernel
theorem dX2_ownersOfInheritable_27 : decode cX2_ownersOfInheritable 27 = .ok (.iload_n 2, 1) := by decide +kernel
theorem dX2_ownersOfInheritable_28 : decode cX2_ownersOfInheritable 28 = .ok (.if_icmp .ne 37, 3) := by decide +kernel
theorem dX2_ownersOfInheritable_31 : decode cX2_ownersOfInheritable 31 = .ok (.aload_n 0, 1) := by decide +kernel
theorem dX2_ownersOfInheritable_32 : decode cX2_ownersOfInheritable 32 = .ok (.getfield 36, 3) := by decide +kernel
theorem dX2_ownersOfInheritable_35 : decode cX2_ownersOfInheritable 35 = .ok (.iload 4, 2) := by decide +kernel
theorem dX2_ownersOfInheritable_37 : decode cX2_ownersOfInheritable 37 = .ok (.invokestatic 49, 3) := by decide +kernel
theorem dX2_ownersOfInheritable_40 : decode cX2_ownersOfInheritable 40 = .ok (.ifCond .ne 25, 3) := by decide +kernel
theorem dX2_ownersOfInheritable_43 : decode cX2_ownersOfInheritable 43 = .ok (.aload_n 0, 1) := by decide +kernel
theorem dX2_ownersOfInheritable_44 : decode cX2_ownersOfInheritable 44 = .ok (.iload 4, 2) := by decide +kernel
theorem dX2_ownersOfInheritable_46 : decode cX2_ownersOfInheritable 46 = .ok (.invokevirtual 53, 3) := by decide +kernel
theorem dX2_ownersOfInheritable_49 : decode cX2_ownersOfInheritable 49 = .ok (.ifCond .eq 16, 3) := by decide +kernel
theorem dX2_ownersOfInheritable_52 : decode cX2_ownersOfInheritable 52 = .ok (.iload_n 3, 1) := by decide +kernel
theorem dX2_ownersOfInheritable_53 : decode cX2_ownersOfInheritable 53 = .ok (.aload_n 0, 1) := by decide +kernel
theorem dX2_ownersOfInheritable_54 : decode cX2_ownersOfInheritable 54 = .ok (.getfield 9, 3) := by decide +kernel
theorem dX2_ownersOfInheritable_57 : decode cX2_ownersOfInheritable 57 = .ok (.iload 4, 2) := by decide +kernel
theorem dX2_ownersOfInheritable_59 : decode cX2_ownersOfInheritable 59 = .ok (.iaload, 1) := by decide +kernel
theorem dX2_ownersOfInheritable_60 : decode cX2_ownersOfInheritable 60 = .ok (.invokestatic 39, 3) := by decide +kernel
theorem dX2_ownersOfInheritable_63 : decode cX2_ownersOfInheritable 63 = .ok (.ior, 1) := by decide +kernel
theorem dX2_ownersOfInheritable_64 : decode cX2_ownersOfInheritable 64 = .ok (.istore_n 3, 1) := by decide +kernel
theorem dX2_ownersOfInheritable_65 : decode cX2_ownersOfInheritable 65 = .ok (.iinc 4 1, 3) := by decide +kernel
theorem dX2_ownersOfInheritable_68 : decode cX2_ownersOfInheritable 68 = .ok (.goto (-57), 3) := by decide +kernel
theorem dX2_ownersOfInheritable_71 : decode cX2_ownersOfInheritable 71 = .ok (.iload_n 3, 1) := by decide +kernel
theorem dX2_ownersOfInheritable_72 : decode cX2_ownersOfInheritable 72 = .ok (.ireturn, 1) := by decide +kernel
theorem dX2_isInheritable_0 : decode cX2_isInheritable 0 = .ok (.aload_n 0, 1) := by decide +kernel
theorem dX2_isInheritable_1 : decode cX2_isInheritable 1 = .ok (.getfield 18, 3) := by decide +kernel
theorem dX2_isInheritable_4 : decode cX2_isInheritable 4 = .ok (.iload_n 1, 1) := by decide +kernel
theorem dX2_isInheritable_5 : decode cX2_isInheritable 5 = .ok (.iaload, 1) := by decide +kernel
theorem dX2_isInheritable_6 : decode cX2_isInheritable 6 = .ok (.ifCond .eq 18, 3) := by decide +kernel
theorem dX2_isInheritable_9 : decode cX2_isInheritable 9 = .ok (.aload_n 0, 1) := by decide +kernel
theorem dX2_isInheritable_10 : decode cX2_isInheritable 10 = .ok (.getfield 21, 3) := by decide +kernel
theorem dX2_isInheritable_13 : decode cX2_isInheritable 13 = .ok (.iload_n 1, 1) := by decide +kernel
theorem dX2_isInheritable_14 : decode cX2_isInheritable 14 = .ok (.iaload, 1) := by decide +kernel
theorem dX2_isInheritable_15 : decode cX2_isInheritable 15 = .ok (.iconst 1, 1) := by decide +kernel
theorem dX2_isInheritable_16 : decode cX2_isInheritable 16 = .ok (.iand, 1) := by decide +kernel
theorem dX2_isInheritable_17 : decode cX2_isInheritable 17 = .ok (.ifCond .ne 7, 3) := by decide +kernel
theorem dX2_isInheritable_20 : decode cX2_isInheritable 20 = .ok (.iconst 1, 1) := by decide +kernel
theorem dX2_isInheritable_21 : decode cX2_isInheritable 21 = .ok (.goto 4, 3) := by decide +kernel
theorem dX2_isInheritable_24 : decode cX2_isInheritable 24 = .ok (.iconst 0, 1) := by decide +kernel
theorem dX2_isInheritable_25 : decode cX2_isInheritable 25 = .ok (.ireturn, 1) := by decide +kernel
theorem dX2_isSameThing_0 : decode cX2_isSameThing 0 = .ok (.aload_n 0, 1) := by decide +kernel
theorem dX2_isSameThing_1 : decode cX2_isSameThing 1 = .ok (.getfield 9, 3) := by decide +kernel
theorem dX2_isSameThing_4 : decode cX2_isSameThing 4 = .ok (.iload_n 1, 1) := by decide +kernel
theorem dX2_isSameThing_5 : decode cX2_isSameThing 5 = .ok (.iaload, 1) := by decide +kernel
theorem dX2_isSameThing_6 : decode cX2_isSameThing 6 = .ok (.aload_n 2, 1) := by decide +kernel
theorem dX2_isSameThing_7 : decode cX2_isSameThing 7 = .ok (.getfield 9, 3) := by decide +kernel
theorem dX2_isSameThing_10 : decode cX2_isSameThing 10 = .ok (.iload_n 3, 1) := by decide +kernel
theorem dX2_isSameThing_11 : decode cX2_isSameThing 11 = .ok (.iaload, 1) := by decide +kernel
theorem dX2_isSameThing_12 : decode cX2_isSameThing 12 = .ok (.if_icmp .ne 22, 3) := by decide +kernel
theorem dX2_isSameThing_15 : decode cX2_isSameThing 15 = .ok (.aload_n 0, 1) := by decide +kernel
theorem dX2_isSameThing_16 : decode cX2_isSameThing 16 = .ok (.getfield 15, 3) := by decide +kernel
theorem dX2_isSameThing_19 : decode cX2_isSameThing 19 = .ok (.iload_n 1, 1) := by decide +kernel
theorem dX2_isSameThing_20 : decode cX2_isSameThing 20 = .ok (.iaload, 1) := by decide +kernel
theorem dX2_isSameThing_21 : decode cX2_isSameThing 21 = .ok (.aload_n 2, 1) := by decide +kernel
theorem dX2_isSameThing_22 : decode cX2_isSameThing 22 = .ok (.getfield 15, 3) := by decide +kernel
theorem dX2_isSameThing_25 : decode cX2_isSameThing 25 = .ok (.iload_n 3, 1) := by decide +kernel
theorem dX2_isSameThing_26 : decode cX2_isSameThing 26 = .ok (.iaload, 1) := by decide +kernel
theorem dX2_isSameThing_27 : decode cX2_isSameThing 27 = .ok (.if_icmp .ne 7, 3) := by decide +kernel
theorem dX2_isSameThing_30 : decode cX2_isSameThing 30 = .ok (.iconst 1, 1) := by decide +kernel
theorem dX2_isSameThing_31 : decode cX2_isSameThing 31 = .ok (.goto 4, 3) := by decide +kernel
theorem dX2_isSameThing_34 : decode cX2_isSameThing 34 = .ok (.iconst 0, 1) := by decide +kernel
theorem dX2_isSameThing_35 : decode cX2_isSameThing 35 = .ok (.ireturn, 1) := by decide +kernel
theorem dX2_isStatic_0 : decode cX2_isStatic 0 = .ok (.aload_n 0, 1) := by decide +kernel
theorem dX2_isStatic_1 : decode cX2_isStatic 1 = .ok (.getfield 21, 3) := by decide +kernel
theorem dX2_isStatic_4 : decode cX2_isStatic 4 = .ok (.iload_n 1, 1) := by decide +kernel
theorem dX2_isStatic_5 : decode cX2_isStatic 5 = .ok (.iaload, 1) := by decide +kernel
theorem dX2_isStatic_6 : decode cX2_isStatic 6 = .ok (.iconst 1, 1) := by decide +kernel
theorem dX2_isStatic_7 : decode cX2_isStatic 7 = .ok (.iand, 1) := by decide +kernel
theorem dX2_isStatic_8 : decode cX2_isStatic 8 = .ok (.ifCond .eq 7, 3) := by decide +kernel
theorem dX2_isStatic_11 : decode cX2_isStatic 11 = .ok (.iconst 1, 1) := by decide +kernel
theorem dX2_isStatic_12 : decode cX2_isStatic 12 = .ok (.goto 4, 3) := by decide +kernel
theorem dX2_isStatic_15 : decode cX2_isStatic 15 = .ok (.iconst 0, 1) := by decide +kernel
theorem dX2_isStatic_16 : decode cX2_isStatic 16 = .ok (.ireturn, 1) := by decide +kernel
theorem dX2_isAbstract_0 : decode cX2_isAbstract 0 = .ok (.aload_n 0, 1) := by decide +kernel
theorem dX2_isAbstract_1 : decode cX2_isAbstract 1 = .ok (.getfield 21, 3) := by decide +kernel
theorem dX2_isAbstract_4 : decode cX2_isAbstract 4 = .ok (.iload_n 1, 1) := by decide +kernel
theorem dX2_isAbstract_5 : decode cX2_isAbstract 5 = .ok (.iaload, 1) := by decide +kernel
theorem dX2_isAbstract_6 : decode cX2_isAbstract 6 = .ok (.iconst 2, 1) := by decide +kernel
theorem dX2_isAbstract_7 : decode cX2_isAbstract 7 = .ok (.iand, 1) := by decide +kernel
theorem dX2_isAbstract_8 : decode cX2_isAbstract 8 = .ok (.ifCond .eq 7, 3) := by decide +kernel
theorem dX2_isAbstract_11 : decode cX2_isAbstract 11 = .ok (.iconst 1, 1) := by decide +kernel
theorem dX2_isAbstract_12 : decode cX2_isAbstract 12 = .ok (.goto 4, 3) := by decide +kernel
theorem dX2_isAbstract_15 : decode cX2_isAbstract 15 = .ok (.iconst 0, 1) := by decide +kernel
theorem dX2_isAbstract_16 : decode cX2_isAbstract 16 = .ok (.ireturn, 1) := by decide +kernel
theorem dX2_isFinal_0 : decode cX2_isFinal 0 = .ok (.aload_n 0, 1) := by decide +kernel
theorem dX2_isFinal_1 : decode cX2_isFinal 1 = .ok (.getfield 21, 3) := by decide +kernel
theorem dX2_isFinal_4 : decode cX2_isFinal 4 = .ok (.iload_n 1, 1) := by decide +kernel
theorem dX2_isFinal_5 : decode cX2_isFinal 5 = .ok (.iaload, 1) := by decide +kernel
theorem dX2_isFinal_6 : decode cX2_isFinal 6 = .ok (.iconst 4, 1) := by decide +kernel
theorem dX2_isFinal_7 : decode cX2_isFinal 7 = .ok (.iand, 1) := by decide +kernel
theorem dX2_isFinal_8 : decode cX2_isFinal 8 = .ok (.ifCond .eq 7, 3) := by decide +kernel
theorem dX2_isFinal_11 : decode cX2_isFinal 11 = .ok (.iconst 1, 1) := by decide +kernel
theorem dX2_isFinal_12 : decode cX2_isFinal 12 = .ok (.goto 4, 3) := by decide +kernel
theorem dX2_isFinal_15 : decode cX2_isFinal 15 = .ok (.iconst 0, 1) := by decide +kernel
theorem dX2_isFinal_16 : decode cX2_isFinal 16 = .ok (.ireturn, 1) := by decide +kernel
theorem dX2_ownerOf_0 : decode cX2_ownerOf 0 = .ok (.aload_n 0, 1) := by decide +kernel
theorem dX2_ownerOf_1 : decode cX2_ownerOf 1 = .ok (.getfield 9, 3) := by decide +kernel
theorem dX2_ownerOf_4 : decode cX2_ownerOf 4 = .ok (.iload_n 1, 1) := by decide +kernel
theorem dX2_ownerOf_5 : decode cX2_ownerOf 5 = .ok (.iaload, 1) := by decide +kernel
theorem dX2_ownerOf_6 : decode cX2_ownerOf 6 = .ok (.ireturn, 1) := by decide +kernel
theorem dX2_accessOf_0 : decode cX2_accessOf 0 = .ok (.aload_n 0, 1) := by decide +kernel
theorem dX2_accessOf_1 : decode cX2_accessOf 1 = .ok (.getfield 18, 3) := by decide +kernel
theorem dX2_accessOf_4 : decode cX2_accessOf 4 = .ok (.iload_n 1, 1) := by decide +kernel
theorem dX2_accessOf_5 : decode cX2_accessOf 5 = .ok (.iaload, 1) := by decide +kernel
theorem dX2_accessOf_6 : decode cX2_accessOf 6 = .ok (.ireturn, 1) := by decide +kernel
theorem dX2_countAll_0 : decode cX2_countAll 0 = .ok (.aload_n 0, 1) := by decide +kernel
theorem dX2_countAll_1 : decode cX2_countAll 1 = .ok (.getfield 24, 3) := by decide +kernel
theorem dX2_countAll_4 : decode cX2_countAll 4 = .ok (.ireturn, 1) := by decide +kernel
theorem dX2_countPresent_0 : decode cX2_countPresent 0 = .ok (.aload_n 0, 1) := by decide +kernel
theorem dX2_countPresent_1 : decode cX2_countPresent 1 = .ok (.getfield 24, 3) := by decide +kernel
theorem dX2_countPresent_4 : decode cX2_countPresent 4 = .ok (.aload_n 0, 1) := by decide +kernel
theorem dX2_countPresent_5 : decode cX2_countPresent 5 = .ok (.getfield 36, 3) := by decide +kernel
theorem dX2_countPresent_8 : decode cX2_countPresent 8 = .ok (.invokestatic 56, 3) := by decide +kernel
theorem dX2_countPresent_11 : decode cX2_countPresent 11 = .ok (.isub, 1) := by decide +kernel
theorem dX2_countPresent_12 : decode cX2_countPresent 12 = .ok (.ireturn, 1) := by decide +kernel
theorem dX2_countAbstractMethods_0 : decode cX2_countAbstractMethods 0 = .ok (.iconst 0, 1) := by decide +kernel
theorem dX2_countAbstractMethods_1 : decode cX2_countAbstractMethods 1 = .ok (.istore_n 1, 1) := by decide +kernel
theorem dX2_countAbstractMethods_2 : decode cX2_countAbstractMethods 2 = .ok (.iconst 0, 1) := by decide +kernel
theorem dX2_countAbstractMethods_3 : decode cX2_countAbstractMethods 3 = .ok (.istore_n 2, 1) := by decide +kernel
theorem dX2_countAbstractMethods_4 : decode cX2_countAbstractMethods 4 = .ok (.iload_n 2, 1) := by decide +kernel
theorem dX2_countAbstractMethods_5 : decode cX2_countAbstractMethods 5 = .ok (.aload_n 0, 1) := by decide +kernel
theorem dX2_countAbstractMethods_6 : decode cX2_countAbstractMethods 6 = .ok (.getfield 24, 3) := by decide +kernel
theorem dX2_countAbstractMethods_9 : decode cX2_countAbstractMethods 9 = .ok (.if_icmp .ge 47, 3) := by decide +kernel
theorem dX2_countAbstractMethods_12 : decode cX2_countAbstractMethods 12 = .ok (.iload_n 1, 1) := by decide +kernel
theorem dX2_countAbstractMethods_13 : decode cX2_countAbstractMethods 13 = .ok (.aload_n 0, 1) := by decide +kernel
theorem dX2_countAbstractMethods_14 : decode cX2_countAbstractMethods 14 = .ok (.getfield 15, 3) := by decide +kernel
theorem dX2_countAbstractMethods_17 : decode cX2_countAbstractMethods 17 = .ok (.iload_n 2, 1) := by decide +kernel
theorem dX2_countAbstractMethods_18 : decode cX2_countAbstractMethods 18 = .ok (.iaload, 1) := by decide +kernel
theorem dX2_countAbstractMethods_19 : decode cX2_countAbstractMethods 19 = .ok (.bipush 15, 2) := by decide +kernel
theorem dX2_countAbstractMethods_21 : decode cX2_countAbstractMethods 21 = .ok (.if_icmp .lt 26, 3) := by decide +kernel
theorem dX2_countAbstractMethods_24 : decode cX2_countAbstractMethods 24 = .ok (.aload_n 0, 1) := by decide +kernel
theorem dX2_countAbstractMethods_25 : decode cX2_countAbstractMethods 25 = .ok (.iload_n 2, 1) := by decide +kernel
theorem dX2_countAbstractMethods_26 : decode cX2_countAbstractMethods 26 = .ok (.invokevirtual 61, 3) := by decide +kernel
theorem dX2_countAbstractMethods_29 : decode cX2_countAbstractMethods 29 = .ok (.ifCond .eq 18, 3) := by decide +kernel
theorem dX2_countAbstractMethods_32 : decode cX2_countAbstractMethods 32 = .ok (.aload_n 0, 1) := by decide +kernel
theorem dX2_countAbstractMethods_33 : decode cX2_countAbstractMethods 33 = .ok (.getfield 36, 3) := by decide +kernel
theorem dX2_countAbstractMethods_36 : decode cX2_countAbstractMethods 36 = .ok (.iload_n 2, 1) := by decide +kernel
theorem dX2_countAbstractMethods_37 : decode cX2_countAbstractMethods 37 = .ok (.invokestatic 49, 3) := by decide +kernel
theorem dX2_countAbstractMethods_40 : decode cX2_countAbstractMethods 40 = .ok (.ifCond .ne 7, 3) := by decide +kernel
theorem dX2_countAbstractMethods_43 : decode cX2_countAbstractMethods 43 = .ok (.iconst 1, 1) := by decide +kernel
theorem dX2_countAbstractMethods_44 : decode cX2_countAbstractMethods 44 = .ok (.goto 4, 3) := by decide +kernel
theorem dX2_countAbstractMethods_47 : decode cX2_countAbstractMethods 47 = .ok (.iconst 0, 1) := by decide +kernel
theorem dX2_countAbstractMethods_48 : decode cX2_countAbstractMethods 48 = .ok (.iadd, 1) := by decide +kernel
theorem dX2_countAbstractMethods_49 : decode cX2_countAbstractMethods 49 = .ok (.istore_n 1, 1) := by decide +kernel
theorem dX2_countAbstractMethods_50 : decode cX2_countAbstractMethods 50 = .ok (.iinc 2 1, 3) := by decide +kernel
theorem dX2_countAbstractMethods_53 : decode cX2_countAbstractMethods 53 = .ok (.goto (-49), 3) := by decide +kernel
theorem dX2_countAbstractMethods_56 : decode cX2_countAbstractMethods 56 = .ok (.iload_n 1, 1) := by decide +kernel
theorem dX2_countAbstractMethods_57 : decode cX2_countAbstractMethods 57 = .ok (.ireturn, 1) := by decide +kernel
theorem dX2_isPresent_0 : decode cX2_isPresent 0 = .ok (.iload_n 1, 1) := by decide +kernel
theorem dX2_isPresent_1 : decode cX2_isPresent 1 = .ok (.aload_n 0, 1) := by decide +kernel
theorem dX2_isPresent_2 : decode cX2_isPresent 2 = .ok (.getfield 24, 3) := by decide +kernel
theorem dX2_isPresent_5 : decode cX2_isPresent 5 = .ok (.invokestatic 64, 3) := by decide +kernel
theorem dX2_isPresent_8 : decode cX2_isPresent 8 = .ok (.ifCond .eq 18, 3) := by decide +kernel
theorem dX2_isPresent_11 : decode cX2_isPresent 11 = .ok (.aload_n 0, 1) := by decide +kernel
theorem dX2_isPresent_12 : decode cX2_isPresent 12 = .ok (.getfield 36, 3) := by decide +kernel
theorem dX2_isPresent_15 : decode cX2_isPresent 15 = .ok (.iload_n 1, 1) := by decide +kernel
theorem dX2_isPresent_16 : decode cX2_isPresent 16 = .ok (.invokestatic 49, 3) := by decide +kernel
theorem dX2_isPresent_19 : decode cX2_isPresent 19 = .ok (.ifCond .ne 7, 3) := by decide +kernel
theorem dX2_isPresent_22 : decode cX2_isPresent 22 = .ok (.iconst 1, 1) := by decide +kernel
theorem dX2_isPresent_23 : decode cX2_isPresent 23 = .ok (.goto 4, 3) := by decide +kernel
theorem dX2_isPresent_26 : decode cX2_isPresent 26 = .ok (.iconst 0, 1) := by decide +kernel
theorem dX2_isPresent_27 : decode cX2_isPresent 27 = .ok (.ireturn, 1) := by decide +kernel
theorem dX2_keyOf_0 : decode cX2_keyOf 0 = .ok (.iload_n 0, 1) := by decide +kernel
theorem dX2_keyOf_1 : decode cX2_keyOf 1 = .ok (.ifCond .eq 10, 3) := by decide +kernel
theorem dX2_keyOf_4 : decode cX2_keyOf 4 = .ok (.bipush 15, 2) := by decide +kernel
theorem dX2_keyOf_6 : decode cX2_keyOf 6 = .ok (.iload_n 1, 1) := by decide +kernel
theorem dX2_keyOf_7 : decode cX2_keyOf 7 = .ok (.iadd, 1) := by decide +kernel
theorem dX2_keyOf_8 : decode cX2_keyOf 8 = .ok (.goto 4, 3) := by decide +kernel
theorem dX2_keyOf_11 : decode cX2_keyOf 11 = .ok (.iload_n 1, 1) := by decide +kernel
theorem dX2_keyOf_12 : decode cX2_keyOf 12 = .ok (.ireturn, 1) := by decide +kernel
theorem dX3_init_0 : decode cX3_init 0 = .ok (.aload_n 0, 1) := by decide +kernel
theorem dX3_init_1 : decode cX3_init 1 = .ok (.invokespecial 3, 3) := by decide +kernel
theorem dX3_init_4 : decode cX3_init 4 = .ok (.return_, 1) := by decide +kernel
theorem dX3_put_0 : decode cX3_put 0 = .ok (.aload_n 0, 1) := by decide +kernel
theorem dX3_put_1 : decode cX3_put 1 = .ok (.iload_n 1, 1) := by decide +kernel
theorem dX3_put_2 : decode cX3_put 2 = .ok (.putfield 9, 3) := by decide +kernel
theorem dX3_put_5 : decode cX3_put 5 = .ok (.aload_n 0, 1) := by decide +kernel
theorem dX3_put_6 : decode cX3_put 6 = .ok (.iload_n 2, 1) := by decide +kernel
theorem dX3_put_7 : decode cX3_put 7 = .ok (.putfield 15, 3) := by decide +kernel
theorem dX3_put_10 : decode cX3_put 10 = .ok (.aload_n 0, 1) := by decide +kernel
theorem dX3_put_11 : decode cX3_put 11 = .ok (.iload_n 3, 1) := by decide +kernel
theorem dX3_put_12 : decode cX3_put 12 = .ok (.putfield 18, 3) := by decide +kernel
theorem dX3_put_15 : decode cX3_put 15 = .ok (.aload_n 0, 1) := by decide +kernel
theorem dX3_put_16 : decode cX3_put 16 = .ok (.iload 4, 2) := by decide +kernel
theorem dX3_put_18 : decode cX3_put 18 = .ok (.putfield 21, 3) := by decide +kernel
theorem dX3_put_21 : decode cX3_put 21 = .ok (.return_, 1) := by decide +kernel
theorem dX3_isOfField_0 : decode cX3_isOfField 0 = .ok (.aload_n 0, 1) := by decide +kernel
theorem dX3_isOfField_1 : decode cX3_isOfField 1 = .ok (.getfield 9, 3) := by decide +kernel
theorem dX3_isOfField_4 : decode cX3_isOfField 4 = .ok (.iconst 3, 1) := by decide +kernel
theorem dX3_isOfField_5 : decode cX3_isOfField 5 = .ok (.if_icmp .gt 7, 3) := by decide +kernel
theorem dX3_isOfField_8 : decode cX3_isOfField 8 = .ok (.iconst 1, 1) := by decide +kernel
theorem dX3_isOfField_9 : decode cX3_isOfField 9 = .ok (.goto 4, 3) := by decide +kernel
theorem dX3_isOfField_12 : decode cX3_isOfField 12 = .ok (.iconst 0, 1) := by decide +kernel
theorem dX3_isOfField_13 : decode cX3_isOfField 13 = .ok (.ireturn, 1) := by decide +kernel
theorem dX3_isPut_0 : decode cX3_isPut 0 = .ok (.aload_n 0, 1) := by decide +kernel
theorem dX3_isPut_1 : decode cX3_isPut 1 = .ok (.getfield 9, 3) := by decide +kernel
theorem dX3_isPut_4 : decode cX3_isPut 4 = .ok (.iconst 1, 1) := by decide +kernel
theorem dX3_isPut_5 : decode cX3_isPut 5 = .ok (.if_icmp .eq 11, 3) := by decide +kernel
theorem dX3_isPut_8 : decode cX3_isPut 8 = .ok (.aload_n 0, 1) := by decide +kernel
theorem dX3_isPut_9 : decode cX3_isPut 9 = .ok (.getfield 9, 3) := by decide +kernel
theorem dX3_isPut_12 : decode cX3_isPut 12 = .ok (.iconst 3, 1) := by decide +kernel
theorem dX3_isPut_13 : decode cX3_isPut 13 = .ok (.if_icmp .ne 7, 3) := by decide +kernel
theorem dX3_isPut_16 : decode cX3_isPut 16 = .ok (.iconst 1, 1) := by decide +kernel
theorem dX3_isPut_17 : decode cX3_isPut 17 = .ok (.goto 4, 3) := by decide +kernel
theorem dX3_isPut_20 : decode cX3_isPut 20 = .ok (.iconst 0, 1) := by decide +kernel
theorem dX3_isPut_21 : decode cX3_isPut 21 = .ok (.ireturn, 1) := by decide +kernel
theorem dX3_needsStatic_0 : decode cX3_needsStatic 0 = .ok (.aload_n 0, 1) := by decide +kernel
theorem dX3_needsStatic_1 : decode cX3_needsStatic 1 = .ok (.getfield 9, 3) := by decide +kernel
theorem dX3_needsStatic_4 : decode cX3_needsStatic 4 = .ok (.iconst 2, 1) := by decide +kernel
theorem dX3_needsStatic_5 : decode cX3_needsStatic 5 = .ok (.if_icmp .eq 20, 3) := by decide +kernel
theorem dX3_needsStatic_8 : decode cX3_needsStatic 8 = .ok (.aload_n 0, 1) := by decide +kernel
theorem dX3_needsStatic_9 : decode cX3_needsStatic 9 = .ok (.getfield 9, 3) := by decide +kernel
theorem dX3_needsStatic_12 : decode cX3_needsStatic 12 = .ok (.iconst 3, 1) := by decide +kernel
theorem dX3_needsStatic_13 : decode cX3_needsStatic 13 = .ok (.if_icmp .eq 12, 3) := by decide +kernel
theorem dX3_needsStatic_16 : decode cX3_needsStatic 16 = .ok (.aload_n 0, 1) := by decide +kernel
theorem dX3_needsStatic_17 : decode cX3_needsStatic 17 = .ok (.getfield 9, 3) := by decide +kernel
theorem dX3_needsStatic_20 : decode cX3_needsStatic 20 = .ok (.bipush 6, 2) := by decide +kernel
theorem dX3_needsStatic_22 : decode cX3_needsStatic 22 = .ok (.if_icmp .ne 7, 3) := by decide +kernel
theorem dX3_needsStatic_25 : decode cX3_needsStatic 25 = .ok (.iconst 1, 1) := by decide +kernel
theorem dX3_needsStatic_26 : decode cX3_needsStatic 26 = .ok (.goto 4, 3) := by decide +kernel
theorem dX3_needsStatic_29 : decode cX3_needsStatic 29 = .ok (.iconst 0, 1) := by decide +kernel
theorem dX3_needsStatic_30 : decode cX3_needsStatic 30 = .ok (.ireturn, 1) := by decide +kernel
theorem dX3_hasReceiver_0 : decode cX3_hasReceiver 0 = .ok (.aload_n 0, 1) := by decide +kernel
theorem dX3_hasReceiver_1 : decode cX3_hasReceiver 1 = .ok (.getfield 9, 3) := by decide +kernel
theorem dX3_hasReceiver_4 : decode cX3_hasReceiver 4 = .ok (.iconst 4, 1) := by decide +kernel
theorem dX3_hasReceiver_5 : decode cX3_hasReceiver 5 = .ok (.if_icmp .eq 12, 3) := by decide +kernel
theorem dX3_hasReceiver_8 : decode cX3_hasReceiver 8 = .ok (.aload_n 0, 1) := by decide +kernel
theorem dX3_hasReceiver_9 : decode cX3_hasReceiver 9 = .ok (.getfield 9, 3) := by decide +kernel
theorem dX3_hasReceiver_12 : decode cX3_hasReceiver 12 = .ok (.bipush 7, 2) := by decide +kernel
theorem dX3_hasReceiver_14 : decode cX3_hasReceiver 14 = .ok (.if_icmp .ne 7, 3) := by decide +kernel
theorem dX3_hasReceiver_17 : decode cX3_hasReceiver 17 = .ok (.iconst 1, 1) := by decide +kernel
theorem dX3_hasReceiver_18 : decode cX3_hasReceiver 18 = .ok (.goto 4, 3) := by decide +kernel
theorem dX3_hasReceiver_21 : decode cX3_hasReceiver 21 = .ok (.iconst 0, 1) := by decide +kernel
theorem dX3_hasReceiver_22 : decode cX3_hasReceiver 22 = .ok (.ireturn, 1) := by decide +kernel
theorem dX4_init_0 : decode cX4_init 0 = .ok (.aload_n 0, 1) := by decide +kernel
theorem dX4_init_1 : decode cX4_init 1 = .ok (.invokespecial 3, 3) := by decide +kernel
theorem dX4_init_4 : decode cX4_init 4 = .ok (.aload_n 0, 1) := by decide +kernel
theorem dX4_init_5 : decode cX4_init 5 = .ok (.iconst 2, 1) := by decide +kernel
theorem dX4_init_6 : decode cX4_init 6 = .ok (.anewarray 9, 3) := by decide +kernel
theorem dX4_init_9 : decode cX4_init 9 = .ok (.dup, 1) := by decide +kernel
theorem dX4_init_10 : decode cX4_init 10 = .ok (.iconst 0, 1) := by decide +kernel
theorem dX4_init_11 : decode cX4_init 11 = .ok (.new 9, 3) := by decide +kernel
theorem dX4_init_14 : decode cX4_init 14 = .ok (.dup, 1) := by decide +kernel
theorem dX4_init_15 : decode cX4_init 15 = .ok (.invokespecial 11, 3) := by decide +kernel
theorem dX4_init_18 : decode cX4_init 18 = .ok (.aastore, 1) := by decide +kernel
theorem dX4_init_19 : decode cX4_init 19 = .ok (.dup, 1) := by decide +kernel
theorem dX4_init_20 : decode cX4_init 20 = .ok (.iconst 1, 1) := by decide +kernel
theorem dX4_init_21 : decode cX4_init 21 = .ok (.new 9, 3) := by decide +kernel
theorem dX4_init_24 : decode cX4_init 24 = .ok (.dup, 1) := by decide +kernel
theorem dX4_init_25 : decode cX4_init 25 = .ok (.invokespecial 11, 3) := by decide +kernel
theorem dX4_init_28 : decode cX4_init 28 = .ok (.aastore, 1) := by decide +kernel
theorem dX4_init_29 : decode cX4_init 29 = .ok (.putfield 12, 3) := by decide +kernel
theorem dX4_init_32 : decode cX4_init 32 = .ok (.aload_n 0, 1) := by decide +kernel
theorem dX4_init_33 : decode cX4_init 33 = .ok (.bipush 16, 2) := by decide +kernel
theorem dX4_init_35 : decode cX4_init 35 = .ok (.anewarray 16, 3) := by decide +kernel
theorem dX4_init_38 : decode cX4_init 38 = .ok (.putfield 18, 3) := by decide +kernel
theorem dX4_init_41 : decode cX4_init 41 = .ok (.iconst 0, 1) := by decide +kernel
theorem dX4_init_42 : decode cX4_init 42 = .ok (.istore_n 1, 1) := by decide +kernel
theorem dX4_init_43 : decode cX4_init 43 = .ok (.iload_n 1, 1) := by decide +kernel
theorem dX4_init_44 : decode cX4_init 44 = .ok (.bipush 16, 2) := by decide +kernel
theorem dX4_init_46 : decode cX4_init 46 = .ok (.if_icmp .ge 22, 3) := by decide +kernel
theorem dX4_init_49 : decode cX4_init 49 = .ok (.aload_n 0, 1) := by decide +kernel
theorem dX4_init_50 : decode cX4_init 50 = .ok (.getfield 18, 3) := by decide +kernel
theorem dX4_init_53 : decode cX4_init 53 = .ok (.iload_n 1, 1) := by decide +kernel
theorem dX4_init_54 : decode cX4_init 54 = .ok (.new 16, 3) := by decide +kernel
theorem dX4_init_57 : decode cX4_init 57 = .ok (.dup, 1) := by decide +kernel
theorem dX4_init_58 : decode cX4_init 58 = .ok (.invokespecial 22, 3) := by decide +kernel
theorem dX4_init_61 : decode cX4_init 61 = .ok (.aastore, 1) := by decide +kernel
theorem dX4_init_62 : decode cX4_init 62 = .ok (.iinc 1 1, 3) := by decide +kernel
theorem dX4_init_65 : decode cX4_init 65 = .ok (.goto (-22), 3) := by decide +kernel
theorem dX4_init_68 : decode cX4_init 68 = .ok (.aload_n 0, 1) := by decide +kernel
theorem dX4_init_69 : decode cX4_init 69 = .ok (.iconst 0, 1) := by decide +kernel
theorem dX4_init_70 : decode cX4_init 70 = .ok (.putfield 23, 3) := by decide +kernel
theorem dX4_init_73 : decode cX4_init 73 = .ok (.aload_n 0, 1) := by decide +kernel
theorem dX4_init_74 : decode cX4_init 74 = .ok (.iconst 0, 1) := by decide +kernel
theorem dX4_init_75 : decode cX4_init 75 = .ok (.putfield 27, 3) := by decide +kernel
theorem dX4_init_78 : decode cX4_init 78 = .ok (.return_, 1) := by decide +kernel
theorem dX4_type_0 : decode cX4_type 0 = .ok (.iload_n 1, 1) := by decide +kernel
theorem dX4_type_1 : decode cX4_type 1 = .ok (.invokestatic 30, 3) := by decide +kernel
theorem dX4_type_4 : decode cX4_type 4 = .ok (.ifCond .eq 41, 3) := by decide +kernel
theorem dX4_type_7 : decode cX4_type 7 = .ok (.iload_n 2, 1) := by decide +kernel
theorem dX4_type_8 : decode cX4_type 8 = .ok (.bipush 16, 2) := by decide +kernel
theorem dX4_type_10 : decode cX4_type 10 = .ok (.invokestatic 34, 3) := by decide +kernel
theorem dX4_type_13 : decode cX4_type 13 = .ok (.ifCond .eq 32, 3) := by decide +kernel
theorem dX4_type_16 : decode cX4_type 16 = .ok (.iload_n 3, 1) := by decide +kernel
theorem dX4_type_17 : decode cX4_type 17 = .ok (.iconst 4, 1) := by decide +kernel
theorem dX4_type_18 : decode cX4_type 18 = .ok (.invokestatic 34, 3) := by decide +kernel
theorem dX4_type_21 : decode cX4_type 21 = .ok (.ifCond .eq 24, 3) := by decide +kernel
theorem dX4_type_24 : decode cX4_type 24 = .ok (.iload 4, 2) := by decide +kernel
theorem dX4_type_26 : decode cX4_type 26 = .ok (.bipush 12, 2) := by decide +kernel
theorem dX4_type_28 : decode cX4_type 28 = .ok (.invokestatic 34, 3) := by decide +kernel
theorem dX4_type_31 : decode cX4_type 31 = .ok (.ifCond .eq 14, 3) := by decide +kernel
theorem dX4_type_34 : decode cX4_type 34 = .ok (.iload 5, 2) := by decide +kernel
theorem dX4_type_36 : decode cX4_type 36 = .ok (.sipush 4096, 3) := by decide +kernel
theorem dX4_type_39 : decode cX4_type 39 = .ok (.invokestatic 34, 3) := by decide +kernel
theorem dX4_type_42 : decode cX4_type 42 = .ok (.ifCond .ne 5, 3) := by decide +kernel
theorem dX4_type_45 : decode cX4_type 45 = .ok (.iconst 0, 1) := by decide +kernel
theorem dX4_type_46 : decode cX4_type 46 = .ok (.ireturn, 1) := by decide +kernel
theorem dX4_type_47 : decode cX4_type 47 = .ok (.aload_n 0, 1) := by decide +kernel
theorem dX4_type_48 : decode cX4_type 48 = .ok (.getfield 12, 3) := by decide +kernel
theorem dX4_type_51 : decode cX4_type 51 = .ok (.aload_n 0, 1) := by decide +kernel
theorem dX4_type_52 : decode cX4_type 52 = .ok (.getfield 27, 3) := by decide +kernel
theorem dX4_type_55 : decode cX4_type 55 = .ok (.aaload, 1) := by decide +kernel
theorem dX4_type_56 : decode cX4_type 56 = .ok (.getfield 38, 3) := by decide +kernel
theorem dX4_type_59 : decode cX4_type 59 = .ok (.iload_n 1, 1) := by decide +kernel
theorem dX4_type_60 : decode cX4_type 60 = .ok (.iload_n 2, 1) := by decide +kernel
theorem dX4_type_61 : decode cX4_type 61 = .ok (.iload_n 3, 1) := by decide +kernel
theorem dX4_type_62 : decode cX4_type 62 = .ok (.iload 4, 2) := by decide +kernel
theorem dX4_type_64 : decode cX4_type 64 = .ok (.iload 5, 2) := by decide +kernel
theorem dX4_type_66 : decode cX4_type 66 = .ok (.invokevirtual 42, 3) := by decide +kernel
theorem dX4_type_69 : decode cX4_type 69 = .ok (.iconst 1, 1) := by decide +kernel
theorem dX4_type_70 : decode cX4_type 70 = .ok (.ireturn, 1) := by decide +kernel
theorem dX4_nest_0 : decode cX4_nest 0 = .ok (.iload_n 1, 1) := by decide +kernel
theorem dX4_nest_1 : decode cX4_nest 1 = .ok (.invokestatic 30, 3) := by decide +kernel
theorem dX4_nest_4 : decode cX4_nest 4 = .ok (.ifCond .eq 12, 3) := by decide +kernel
theorem dX4_nest_7 : decode cX4_nest 7 = .ok (.iload_n 2, 1) := by decide +kernel
theorem dX4_nest_8 : decode cX4_nest 8 = .ok (.bipush 12, 2) := by decide +kernel
theorem dX4_nest_10 : decode cX4_nest 10 = .ok (.invokestatic 34, 3) := by decide +kernel
theorem dX4_nest_13 : decode cX4_nest 13 = .ok (.ifCond .ne 5, 3) := by decide +kernel
theorem dX4_nest_16 : decode cX4_nest 16 = .ok (.iconst 0, 1) := by decide +kernel
theorem dX4_nest_17 : decode cX4_nest 17 = .ok (.ireturn, 1) := by decide +kernel
theorem dX4_nest_18 : decode cX4_nest 18 = .ok (.aload_n 0, 1) := by decide +kernel
theorem dX4_nest_19 : decode cX4_nest 19 = .ok (.getfield 12, 3) := by decide +kernel
theorem dX4_nest_22 : decode cX4_nest 22 = .ok (.aload_n 0, 1) := by decide +kernel
theorem dX4_nest_23 : decode cX4_nest 23 = .ok (.getfield 27, 3) := by decide +kernel
theorem dX4_nest_26 : decode cX4_nest 26 = .ok (.aaload, 1) := by decide +kernel
theorem dX4_nest_27 : decode cX4_nest 27 = .ok (.getfield 38, 3) := by decide +kernel
theorem dX4_nest_30 : decode cX4_nest 30 = .ok (.iload_n 1, 1) := by decide +kernel
theorem dX4_nest_31 : decode cX4_nest 31 = .ok (.iload_n 2, 1) := by decide +kernel
theorem dX4_nest_32 : decode cX4_nest 32 = .ok (.invokevirtual 48, 3) := by decide +kernel
theorem dX4_nest_35 : decode cX4_nest 35 = .ok (.ireturn, 1) := by decide +kernel
theorem dX4_drop_0 : decode cX4_drop 0 = .ok (.iload_n 1, 1) := by decide +kernel
theorem dX4_drop_1 : decode cX4_drop 1 = .ok (.invokestatic 30, 3) := by decide +kernel
theorem dX4_drop_4 : decode cX4_drop 4 = .ok (.ifCond .ne 5, 3) := by decide +kernel
theorem dX4_drop_7 : decode cX4_drop 7 = .ok (.iconst 0, 1) := by decide +kernel
theorem dX4_drop_8 : decode cX4_drop 8 = .ok (.ireturn, 1) := by decide +kernel
theorem dX4_drop_9 : decode cX4_drop 9 = .ok (.aload_n 0, 1) := by decide +kernel
theorem dX4_drop_10 : decode cX4_drop 10 = .ok (.getfield 12, 3) := by decide +kernel
theorem dX4_drop_13 : decode cX4_drop 13 = .ok (.aload_n 0, 1) := by decide +kernel
theorem dX4_drop_14 : decode cX4_drop 14 = .ok (.getfield 27, 3) := by decide +kernel
theorem dX4_drop_17 : decode cX4_drop 17 = .ok (.aaload, 1) := by decide +kernel
theorem dX4_drop_18 : decode cX4_drop 18 = .ok (.iload_n 1, 1) := by decide +kernel
theorem dX4_drop_19 : decode cX4_drop 19 = .ok (.invokevirtual 51, 3) := by decide +kernel
theorem dX4_drop_22 : decode cX4_drop 22 = .ok (.ireturn, 1) := by decide +kernel
theorem dX4_member_0 : decode cX4_member 0 = .ok (.iload_n 1, 1) := by decide +kernel
theorem dX4_member_1 : decode cX4_member 1 = .ok (.bipush 12, 2) := by decide +kernel
theorem dX4_member_3 : decode cX4_member 3 = .ok (.invokestatic 34, 3) := by decide +kernel
theorem dX4_member_6 : decode cX4_member 6 = .ok (.ifCond .eq 31, 3) := by decide +kernel
theorem dX4_member_9 : decode cX4_member 9 = .ok (.iload_n 3, 1) := by decide +kernel
theorem dX4_member_10 : decode cX4_member 10 = .ok (.bipush 15, 2) := by decide +kernel
theorem dX4_member_12 : decode cX4_member 12 = .ok (.invokestatic 34, 3) := by decide +kernel
theorem dX4_member_15 : decode cX4_member 15 = .ok (.ifCond .eq 22, 3) := by decide +kernel
theorem dX4_member_18 : decode cX4_member 18 = .ok (.iload 4, 2) := by decide +kernel
theorem dX4_member_20 : decode cX4_member 20 = .ok (.iconst 4, 1) := by decide +kernel
theorem dX4_member_21 : decode cX4_member 21 = .ok (.invokestatic 34, 3) := by decide +kernel
theorem dX4_member_24 : decode cX4_member 24 = .ok (.ifCond .eq 13, 3) := by decide +kernel
theorem dX4_member_27 : decode cX4_member 27 = .ok (.iload 5, 2) := by decide +kernel
theorem dX4_member_29 : decode cX4_member 29 = .ok (.bipush 8, 2) := by decide +kernel
theorem dX4_member_31 : decode cX4_member 31 = .ok (.invokestatic 34, 3) := by decide +kernel
theorem dX4_member_34 : decode cX4_member 34 = .ok (.ifCond .ne 5, 3) := by decide +kernel
theorem dX4_member_37 : decode cX4_member 37 = .ok (.iconst (-1), 1) := by decide +kernel
theorem dX4_member_38 : decode cX4_member 38 = .ok (.ireturn, 1) := by decide +kernel
theorem dX4_member_39 : decode cX4_member 39 = .ok (.aload_n 0, 1) := by decide +kernel
theorem dX4_member_40 : decode cX4_member 40 = .ok (.getfield 12, 3) := by decide +kernel
theorem dX4_member_43 : decode cX4_member 43 = .ok (.aload_n 0, 1) := by decide +kernel
theorem dX4_member_44 : decode cX4_member 44 = .ok (.getfield 27, 3) := by decide +kernel
theorem dX4_member_47 : decode cX4_member 47 = .ok (.aaload, 1) := by decide +kernel
theorem dX4_member_48 : decode cX4_member 48 = .ok (.iload_n 1, 1) := by decide +kernel
theorem dX4_member_49 : decode cX4_member 49 = .ok (.iload_n 2, 1) := by decide +kernel
theorem dX4_member_50 : decode cX4_member 50 = .ok (.iload_n 3, 1) := by decide +kernel
theorem dX4_member_51 : decode cX4_member 51 = .ok (.iload 4, 2) := by decide +kernel
theorem dX4_member_53 : decode cX4_member 53 = .ok (.iload 5, 2) := by decide +kernel
theorem dX4_member_55 : decode cX4_member 55 = .ok (.invokevirtual 54, 3) := by decide +kernel
theorem dX4_member_58 : decode cX4_member 58 = .ok (.ireturn, 1) := by decide +kernel
theorem dX4_remake_0 : decode cX4_remake 0 = .ok (.iload_n 2, 1) := by decide +kernel
theorem dX4_remake_1 : decode cX4_remake 1 = .ok (.iconst 4, 1) := by decide +kernel
theorem dX4_remake_2 : decode cX4_remake 2 = .ok (.invokestatic 34, 3) := by decide +kernel
theorem dX4_remake_5 : decode cX4_remake 5 = .ok (.ifCond .eq 12, 3) := by decide +kernel
theorem dX4_remake_8 : decode cX4_remake 8 = .ok (.iload_n 3, 1) := by decide +kernel
theorem dX4_remake_9 : decode cX4_remake 9 = .ok (.bipush 8, 2) := by decide +kernel
theorem dX4_remake_11 : decode cX4_remake 11 = .ok (.invokestatic 34, 3) := by decide +kernel
theorem dX4_remake_14 : decode cX4_remake 14 = .ok (.ifCond .ne 5, 3) := by decide +kernel
theorem dX4_remake_17 : decode cX4_remake 17 = .ok (.iconst 0, 1) := by decide +kernel
theorem dX4_remake_18 : decode cX4_remake 18 = .ok (.ireturn, 1) := by decide +kernel
theorem dX4_remake_19 : decode cX4_remake 19 = .ok (.aload_n 0, 1) := by decide +kernel
theorem dX4_remake_20 : decode cX4_remake 20 = .ok (.getfield 12, 3) := by decide +kernel
theorem dX4_remake_23 : decode cX4_remake 23 = .ok (.aload_n 0, 1) := by decide +kernel
theorem dX4_remake_24 : decode cX4_remake 24 = .ok (.getfield 27, 3) := by decide +kernel
theorem dX4_remake_27 : decode cX4_remake 27 = .ok (.aaload, 1) := by decide +kernel
theorem dX4_remake_28 : decode cX4_remake 28 = .ok (.getfield 58, 3) := by decide +kernel
theorem dX4_remake_31 : decode cX4_remake 31 = .ok (.iload_n 1, 1) := by decide +kernel
theorem dX4_remake_32 : decode cX4_remake 32 = .ok (.iload_n 2, 1) := by decide +kernel
theorem dX4_remake_33 : decode cX4_remake 33 = .ok (.iload_n 3, 1) := by decide +kernel
theorem dX4_remake_34 : decode cX4_remake 34 = .ok (.invokevirtual 62, 3) := by decide +kernel
theorem dX4_remake_37 : decode cX4_remake 37 = .ok (.ireturn, 1) := by decide +kernel
theorem dX4_remove_0 : decode cX4_remove 0 = .ok (.aload_n 0, 1) := by decide +kernel
theorem dX4_remove_1 : decode cX4_remove 1 = .ok (.getfield 12, 3) := by decide +kernel
theorem dX4_remove_4 : decode cX4_remove 4 = .ok (.aload_n 0, 1) := by decide +kernel
theorem dX4_remove_5 : decode cX4_remove 5 = .ok (.getfield 27, 3) := by decide +kernel
theorem dX4_remove_8 : decode cX4_remove 8 = .ok (.aaload, 1) := by decide +kernel
theorem dX4_remove_9 : decode cX4_remove 9 = .ok (.getfield 58, 3) := by decide +kernel
theorem dX4_remove_12 : decode cX4_remove 12 = .ok (.iload_n 1, 1) := by decide +kernel
theorem dX4_remove_13 : decode cX4_remove 13 = .ok (.invokevirtual 68, 3) := by decide +kernel
theorem dX4_remove_16 : decode cX4_remove 16 = .ok (.ireturn, 1) := by decide +kernel
theorem dX4_branch_0 : decode cX4_branch 0 = .ok (.aload_n 0, 1) := by decide +kernel
theorem dX4_branch_1 : decode cX4_branch 1 = .ok (.getfield 12, 3) := by decide +kernel
theorem dX4_branch_4 : decode cX4_branch 4 = .ok (.iconst 1, 1) := by decide +kernel
theorem dX4_branch_5 : decode cX4_branch 5 = .ok (.aaload, 1) := by decide +kernel
theorem dX4_branch_6 : decode cX4_branch 6 = .ok (.aload_n 0, 1) := by decide +kernel
theorem dX4_branch_7 : decode cX4_branch 7 = .ok (.getfield 12, 3) := by decide +kernel
theorem dX4_branch_10 : decode cX4_branch 10 = .ok (.iconst 0, 1) := by decide +kernel
theorem dX4_branch_11 : decode cX4_branch 11 = .ok (.aaload, 1) := by decide +kernel
theorem dX4_branch_12 : decode cX4_branch 12 = .ok (.invokevirtual 71, 3) := by decide +kernel
theorem dX4_branch_15 : decode cX4_branch 15 = .ok (.aload_n 0, 1) := by decide +kernel
theorem dX4_branch_16 : decode cX4_branch 16 = .ok (.iconst 1, 1) := by decide +kernel
theorem dX4_branch_17 : decode cX4_branch 17 = .ok (.putfield 27, 3) := by decide +kernel
theorem dX4_branch_20 : decode cX4_branch 20 = .ok (.aload_n 0, 1) := by decide +kernel
theorem dX4_branch_21 : decode cX4_branch 21 = .ok (.getfield 12, 3) := by decide +kernel
theorem dX4_branch_24 : decode cX4_branch 24 = .ok (.iconst 1, 1) := by decide +kernel
theorem dX4_branch_25 : decode cX4_branch 25 = .ok (.aaload, 1) := by decide +kernel
theorem dX4_branch_26 : decode cX4_branch 26 = .ok (.getfield 38, 3) := by decide +kernel
theorem dX4_branch_29 : decode cX4_branch 29 = .ok (.invokevirtual 75, 3) := by decide +kernel
theorem dX4_branch_32 : decode cX4_branch 32 = .ok (.ireturn, 1) := by decide +kernel
theorem dX4_write_0 : decode cX4_write 0 = .ok (.iload_n 1, 1) := by decide +kernel
theorem dX4_write_1 : decode cX4_write 1 = .ok (.iconst 2, 1) := by decide +kernel
theorem dX4_write_2 : decode cX4_write 2 = .ok (.invokestatic 34, 3) := by decide +kernel
theorem dX4_write_5 : decode cX4_write 5 = .ok (.ifCond .ne 5, 3) := by decide +kernel
theorem dX4_write_8 : decode cX4_write 8 = .ok (.iconst 0, 1) := by decide +kernel
theorem dX4_write_9 : decode cX4_write 9 = .ok (.ireturn, 1) := by decide +kernel
theorem dX4_write_10 : decode cX4_write 10 = .ok (.aload_n 0, 1) := by decide +kernel
theorem dX4_write_11 : decode cX4_write 11 = .ok (.iload_n 1, 1) := by decide +kernel
theorem dX4_write_12 : decode cX4_write 12 = .ok (.putfield 27, 3) := by decide +kernel
theorem dX4_write_15 : decode cX4_write 15 = .ok (.iconst 1, 1) := by decide +kernel
theorem dX4_write_16 : decode cX4_write 16 = .ok (.ireturn, 1) := by decide +kernel
theorem dX4_refer_0 : decode cX4_refer 0 = .ok (.iload_n 1, 1) := by decide +kernel
theorem dX4_refer_1 : decode cX4_refer 1 = .ok (.bipush 9, 2) := by decide +kernel
theorem dX4_refer_3 : decode cX4_refer 3 = .ok (.invokestatic 34, 3) := by decide +kernel
theorem dX4_refer_6 : decode cX4_refer 6 = .ok (.ifCond .eq 31, 3) := by decide +kernel
theorem dX4_refer_9 : decode cX4_refer 9 = .ok (.iload_n 2, 1) := by decide +kernel
theorem dX4_refer_10 : decode cX4_refer 10 = .ok (.bipush 12, 2) := by decide +kernel
theorem dX4_refer_12 : decode cX4_refer 12 = .ok (.invokestatic 34, 3) := by decide +kernel
theorem dX4_refer_15 : decode cX4_refer 15 = .ok (.ifCond .eq 22, 3) := by decide +kernel
theorem dX4_refer_18 : decode cX4_refer 18 = .ok (.iload_n 3, 1) := by decide +kernel
theorem dX4_refer_19 : decode cX4_refer 19 = .ok (.bipush 12, 2) := by decide +kernel
theorem dX4_refer_21 : decode cX4_refer 21 = .ok (.invokestatic 34, 3) := by decide +kernel
theorem dX4_refer_24 : decode cX4_refer 24 = .ok (.ifCond .eq 13, 3) := by decide +kernel
theorem dX4_refer_27 : decode cX4_refer 27 = .ok (.iload 4, 2) := by decide +kernel
theorem dX4_refer_29 : decode cX4_refer 29 = .ok (.bipush 15, 2) := by decide +kernel
theorem dX4_refer_31 : decode cX4_refer 31 = .ok (.invokestatic 34, 3) := by decide +kernel
theorem dX4_refer_34 : decode cX4_refer 34 = .ok (.ifCond .ne 5, 3) := by decide +kernel
theorem dX4_refer_37 : decode cX4_refer 37 = .ok (.iconst (-1), 1) := by decide +kernel
theorem dX4_refer_38 : decode cX4_refer 38 = .ok (.ireturn, 1) := by decide +kernel
theorem dX4_refer_39 : decode cX4_refer 39 = .ok (.aload_n 0, 1) := by decide +kernel
theorem dX4_refer_40 : decode cX4_refer 40 = .ok (.getfield 23, 3) := by decide +kernel
theorem dX4_refer_43 : decode cX4_refer 43 = .ok (.bipush 16, 2) := by decide +kernel
theorem dX4_refer_45 : decode cX4_refer 45 = .ok (.if_icmp .lt 6, 3) := by decide +kernel
theorem dX4_refer_48 : decode cX4_refer 48 = .ok (.bipush (-3), 2) := by decide +kernel
theorem dX4_refer_50 : decode cX4_refer 50 = .ok (.ireturn, 1) := by decide +kernel
theorem dX4_refer_51 : decode cX4_refer 51 = .ok (.aload_n 0, 1) := by decide +kernel
theorem dX4_refer_52 : decode cX4_refer 52 = .ok (.getfield 18, 3) := by decide +kernel
theorem dX4_refer_55 : decode cX4_refer 55 = .ok (.aload_n 0, 1) := by decide +kernel
theorem dX4_refer_56 : decode cX4_refer 56 = .ok (.getfield 23, 3) := by decide +kernel
theorem dX4_refer_59 : decode cX4_refer 59 = .ok (.aaload, 1) := by decide +kernel
theorem dX4_refer_60 : decode cX4_refer 60 = .ok (.iload_n 1, 1) := by decide +kernel
theorem dX4_refer_61 : decode cX4_refer 61 = .ok (.iload_n 2, 1) := by decide +kernel
theorem dX4_refer_62 : decode cX4_refer 62 = .ok (.iload_n 3, 1) := by decide +kernel
theorem dX4_refer_63 : decode cX4_refer 63 = .ok (.iload 4, 2) := by decide +kernel
theorem dX4_refer_65 : decode cX4_refer 65 = .ok (.invokevirtual 79, 3) := by decide +kernel
theorem dX4_refer_68 : decode cX4_refer 68 = .ok (.aload_n 0, 1) := by decide +kernel
theorem dX4_refer_69 : decode cX4_refer 69 = .ok (.dup, 1) := by decide +kernel
theorem dX4_refer_70 : decode cX4_refer 70 = .ok (.getfield 23, 3) := by decide +kernel
theorem dX4_refer_73 : decode cX4_refer 73 = .ok (.iconst 1, 1) := by decide +kernel
theorem dX4_refer_74 : decode cX4_refer 74 = .ok (.iadd, 1) := by decide +kernel
theorem dX4_refer_75 : decode cX4_refer 75 = .ok (.putfield 23, 3) := by decide +kernel
theorem dX4_refer_78 : decode cX4_refer 78 = .ok (.aload_n 0, 1) := by decide +kernel
theorem dX4_refer_79 : decode cX4_refer 79 = .ok (.getfield 23, 3) := by decide +kernel
theorem dX4_refer_82 : decode cX4_refer 82 = .ok (.iconst 1, 1) := by decide +kernel
theorem dX4_refer_83 : decode cX4_refer 83 = .ok (.isub, 1) := by decide +kernel
theorem dX4_refer_84 : decode cX4_refer 84 = .ok (.ireturn, 1) := by decide +kernel
theorem dX4_forget_0 : decode cX4_forget 0 = .ok (.aload_n 0, 1) := by decide +kernel
theorem dX4_forget_1 : decode cX4_forget 1 = .ok (.getfield 23, 3) := by decide +kernel
theorem dX4_forget_4 : decode cX4_forget 4 = .ok (.istore_n 1, 1) := by decide +kernel
theorem dX4_forget_5 : decode cX4_forget 5 = .ok (.aload_n 0, 1) := by decide +kernel
theorem dX4_forget_6 : decode cX4_forget 6 = .ok (.iconst 0, 1) := by decide +kernel
theorem dX4_forget_7 : decode cX4_forget 7 = .ok (.putfield 23, 3) := by decide +kernel
theorem dX4_forget_10 : decode cX4_forget 10 = .ok (.iload_n 1, 1) := by decide +kernel
theorem dX4_forget_11 : decode cX4_forget 11 = .ok (.ireturn, 1) := by decide +kernel
theorem dX4_load_0 : decode cX4_load 0 = .ok (.iload_n 1, 1) := by decide +kernel
theorem dX4_load_1 : decode cX4_load 1 = .ok (.iconst 2, 1) := by decide +kernel
theorem dX4_load_2 : decode cX4_load 2 = .ok (.invokestatic 34, 3) := by decide +kernel
theorem dX4_load_5 : decode cX4_load 5 = .ok (.ifCond .eq 12, 3) := by decide +kernel
theorem dX4_load_8 : decode cX4_load 8 = .ok (.iload_n 2, 1) := by decide +kernel
theorem dX4_load_9 : decode cX4_load 9 = .ok (.bipush 12, 2) := by decide +kernel
theorem dX4_load_11 : decode cX4_load 11 = .ok (.invokestatic 34, 3) := by decide +kernel
theorem dX4_load_14 : decode cX4_load 14 = .ok (.ifCond .ne 5, 3) := by decide +kernel
theorem dX4_load_17 : decode cX4_load 17 = .ok (.iconst (-1), 1) := by decide +kernel
theorem dX4_load_18 : decode cX4_load 18 = .ok (.ireturn, 1) := by decide +kernel
theorem dX4_load_19 : decode cX4_load 19 = .ok (.aload_n 0, 1) := by decide +kernel
theorem dX4_load_20 : decode cX4_load 20 = .ok (.getfield 12, 3) := by decide +kernel
theorem dX4_load_23 : decode cX4_load 23 = .ok (.iload_n 1, 1) := by decide +kernel
theorem dX4_load_24 : decode cX4_load 24 = .ok (.aaload, 1) := by decide +kernel
theorem dX4_load_25 : decode cX4_load 25 = .ok (.getfield 38, 3) := by decide +kernel
theorem dX4_load_28 : decode cX4_load 28 = .ok (.iload_n 2, 1) := by decide +kernel
theorem dX4_load_29 : decode cX4_load 29 = .ok (.invokevirtual 83, 3) := by decide +kernel
theorem dX4_load_32 : decode cX4_load 32 = .ok (.ireturn, 1) := by decide +kernel
theorem dX4_resolve_0 : decode cX4_resolve 0 = .ok (.iload_n 1, 1) := by decide +kernel
theorem dX4_resolve_1 : decode cX4_resolve 1 = .ok (.iconst 2, 1) := by decide +kernel
theorem dX4_resolve_2 : decode cX4_resolve 2 = .ok (.invokestatic 34, 3) := by decide +kernel
theorem dX4_resolve_5 : decode cX4_resolve 5 = .ok (.ifCond .eq 14, 3) := by decide +kernel
theorem dX4_resolve_8 : decode cX4_resolve 8 = .ok (.iload_n 2, 1) := by decide +kernel
theorem dX4_resolve_9 : decode cX4_resolve 9 = .ok (.aload_n 0, 1) := by decide +kernel
theorem dX4_resolve_10 : decode cX4_resolve 10 = .ok (.getfield 23, 3) := by decide +kernel
theorem dX4_resolve_13 : decode cX4_resolve 13 = .ok (.invokestatic 34, 3) := by decide +kernel
theorem dX4_resolve_16 : decode cX4_resolve 16 = .ok (.ifCond .ne 5, 3) := by decide +kernel
theorem dX4_resolve_19 : decode cX4_resolve 19 = .ok (.iconst (-1), 1) := by decide +kernel
theorem dX4_resolve_20 : decode cX4_resolve 20 = .ok (.ireturn, 1) := by decide +kernel
theorem dX4_resolve_21 : decode cX4_resolve 21 = .ok (.aload_n 0, 1) := by decide +kernel
theorem dX4_resolve_22 : decode cX4_resolve 22 = .ok (.getfield 12, 3) := by decide +kernel
theorem dX4_resolve_25 : decode cX4_resolve 25 = .ok (.iload_n 1, 1) := by decide +kernel
theorem dX4_resolve_26 : decode cX4_resolve 26 = .ok (.aaload, 1) := by decide +kernel
theorem dX4_resolve_27 : decode cX4_resolve 27 = .ok (.aload_n 0, 1) := by decide +kernel
theorem dX4_resolve_28 : decode cX4_resolve 28 = .ok (.getfield 18, 3) := by decide +kernel
theorem dX4_resolve_31 : decode cX4_resolve 31 = .ok (.iload_n 2, 1) := by decide +kernel
theorem dX4_resolve_32 : decode cX4_resolve 32 = .ok (.aaload, 1) := by decide +kernel
theorem dX4_resolve_33 : decode cX4_resolve 33 = .ok (.invokevirtual 87, 3) := by decide +kernel
theorem dX4_resolve_36 : decode cX4_resolve 36 = .ok (.ireturn, 1) := by decide +kernel
theorem dX4_select_0 : decode cX4_select 0 = .ok (.iload_n 1, 1) := by decide +kernel
theorem dX4_select_1 : decode cX4_select 1 = .ok (.iconst 2, 1) := by decide +kernel
theorem dX4_select_2 : decode cX4_select 2 = .ok (.invokestatic 34, 3) := by decide +kernel
theorem dX4_select_5 : decode cX4_select 5 = .ok (.ifCond .eq 23, 3) := by decide +kernel
theorem dX4_select_8 : decode cX4_select 8 = .ok (.iload_n 2, 1) := by decide +kernel
theorem dX4_select_9 : decode cX4_select 9 = .ok (.aload_n 0, 1) := by decide +kernel
theorem dX4_select_10 : decode cX4_select 10 = .ok (.getfield 23, 3) := by decide +kernel
theorem dX4_select_13 : decode cX4_select 13 = .ok (.invokestatic 34, 3) := by decide +kernel
theorem dX4_select_16 : decode cX4_select 16 = .ok (.ifCond .eq 12, 3) := by decide +kernel
theorem dX4_select_19 : decode cX4_select 19 = .ok (.iload_n 3, 1) := by decide +kernel
theorem dX4_select_20 : decode cX4_select 20 = .ok (.bipush 12, 2) := by decide +kernel
theorem dX4_select_22 : decode cX4_select 22 = .ok (.invokestatic 34, 3) := by decide +kernel
theorem dX4_select_25 : decode cX4_select 25 = .ok (.ifCond .ne 5, 3) := by decide +kernel
theorem dX4_select_28 : decode cX4_select 28 = .ok (.iconst (-1), 1) := by decide +kernel
theorem dX4_select_29 : decode cX4_select 29 = .ok (.ireturn, 1) := by decide +kernel
theorem dX4_select_30 : decode cX4_select 30 = .ok (.aload_n 0, 1) := by decide +kernel
theorem dX4_select_31 : decode cX4_select 31 = .ok (.getfield 18, 3) := by decide +kernel
theorem dX4_select_34 : decode cX4_select 34 = .ok (.iload_n 2, 1) := by decide +kernel
theorem dX4_select_35 : decode cX4_select 35 = .ok (.aaload, 1) := by decide +kernel
theorem dX4_select_36 : decode cX4_select 36 = .ok (.astore 4, 2) := by decide +kernel
theorem dX4_select_38 : decode cX4_select 38 = .ok (.aload_n 0, 1) := by decide +kernel
theorem dX4_select_39 : decode cX4_select 39 = .ok (.getfield 12, 3) := by decide +kernel
theorem dX4_select_42 : decode cX4_select 42 = .ok (.iload_n 1, 1) := by decide +kernel
theorem dX4_select_43 : decode cX4_select 43 = .ok (.aaload, 1) := by decide +kernel
theorem dX4_select_44 : decode cX4_select 44 = .ok (.aload 4, 2) := by decide +kernel
theorem dX4_select_46 : decode cX4_select 46 = .ok (.aload_n 0, 1) := by decide +kernel
theorem dX4_select_47 : decode cX4_select 47 = .ok (.getfield 12, 3) := by decide +kernel
theorem dX4_select_50 : decode cX4_select 50 = .ok (.iload_n 1, 1) := by decide +kernel
theorem dX4_select_51 : decode cX4_select 51 = .ok (.aaload, 1) := by decide +kernel
theorem dX4_select_52 : decode cX4_select 52 = .ok (.aload 4, 2) := by decide +kernel
theorem dX4_select_54 : decode cX4_select 54 = .ok (.invokevirtual 87, 3) := by decide +kernel
theorem dX4_select_57 : decode cX4_select 57 = .ok (.iload_n 3, 1) := by decide +kernel
theorem dX4_select_58 : decode cX4_select 58 = .ok (.invokevirtual 91, 3) := by decide +kernel
theorem dX4_select_61 : decode cX4_select 61 = .ok (.ireturn, 1) := by decide +kernel
theorem dX4_compare_0 : decode cX4_compare 0 = .ok (.iload_n 1, 1) := by decide +kernel
theorem dX4_compare_1 : decode cX4_compare 1 = .ok (.aload_n 0, 1) := by decide +kernel
theorem dX4_compare_2 : decode cX4_compare 2 = .ok (.getfield 23, 3) := by decide +kernel
theorem dX4_compare_5 : decode cX4_compare 5 = .ok (.invokestatic 34, 3) := by decide +kernel
theorem dX4_compare_8 : decode cX4_compare 8 = .ok (.ifCond .ne 5, 3) := by decide +kernel
theorem dX4_compare_11 : decode cX4_compare 11 = .ok (.iconst (-1), 1) := by decide +kernel
theorem dX4_compare_12 : decode cX4_compare 12 = .ok (.ireturn, 1) := by decide +kernel
theorem dX4_compare_13 : decode cX4_compare 13 = .ok (.aload_n 0, 1) := by decide +kernel
theorem dX4_compare_14 : decode cX4_compare 14 = .ok (.getfield 12, 3) := by decide +kernel
theorem dX4_compare_17 : decode cX4_compare 17 = .ok (.iconst 0, 1) := by decide +kernel
theorem dX4_compare_18 : decode cX4_compare 18 = .ok (.aaload, 1) := by decide +kernel
theorem dX4_compare_19 : decode cX4_compare 19 = .ok (.aload_n 0, 1) := by decide +kernel
theorem dX4_compare_20 : decode cX4_compare 20 = .ok (.getfield 18, 3) := by decide +kernel
theorem dX4_compare_23 : decode cX4_compare 23 = .ok (.iload_n 1, 1) := by decide +kernel
theorem dX4_compare_24 : decode cX4_compare 24 = .ok (.aaload, 1) := by decide +kernel
theorem dX4_compare_25 : decode cX4_compare 25 = .ok (.invokevirtual 87, 3) := by decide +kernel
theorem dX4_compare_28 : decode cX4_compare 28 = .ok (.istore_n 2, 1) := by decide +kernel
theorem dX4_compare_29 : decode cX4_compare 29 = .ok (.aload_n 0, 1) := by decide +kernel
theorem dX4_compare_30 : decode cX4_compare 30 = .ok (.getfield 12, 3) := by decide +kernel
theorem dX4_compare_33 : decode cX4_compare 33 = .ok (.iconst 1, 1) := by decide +kernel
theorem dX4_compare_34 : decode cX4_compare 34 = .ok (.aaload, 1) := by decide +kernel
theorem dX4_compare_35 : decode cX4_compare 35 = .ok (.aload_n 0, 1) := by decide +kernel
theorem dX4_compare_36 : decode cX4_compare 36 = .ok (.getfield 18, 3) := by decide +kernel
theorem dX4_compare_39 : decode cX4_compare 39 = .ok (.iload_n 1, 1) := by decide +kernel
theorem dX4_compare_40 : decode cX4_compare 40 = .ok (.aaload, 1) := by decide +kernel
theorem dX4_compare_41 : decode cX4_compare 41 = .ok (.invokevirtual 87, 3) := by decide +kernel
theorem dX4_compare_44 : decode cX4_compare 44 = .ok (.istore_n 3, 1) := by decide +kernel
theorem dX4_compare_45 : decode cX4_compare 45 = .ok (.aload_n 0, 1) := by decide +kernel
theorem dX4_compare_46 : decode cX4_compare 46 = .ok (.iload_n 2, 1) := by decide +kernel
theorem dX4_compare_47 : decode cX4_compare 47 = .ok (.iload_n 3, 1) := by decide +kernel
theorem dX4_compare_48 : decode cX4_compare 48 = .ok (.invokevirtual 95, 3) := by decide +kernel
theorem dX4_compare_51 : decode cX4_compare 51 = .ok (.ifCond .eq 5, 3) := by decide +kernel
theorem dX4_compare_54 : decode cX4_compare 54 = .ok (.iconst 0, 1) := by decide +kernel
theorem dX4_compare_55 : decode cX4_compare 55 = .ok (.ireturn, 1) := by decide +kernel
theorem dX4_compare_56 : decode cX4_compare 56 = .ok (.iload_n 2, 1) := by decide +kernel
theorem dX4_compare_57 : decode cX4_compare 57 = .ok (.invokestatic 98, 3) := by decide +kernel
theorem dX4_compare_60 : decode cX4_compare 60 = .ok (.ifCond .eq 16, 3) := by decide +kernel
theorem dX4_compare_63 : decode cX4_compare 63 = .ok (.iload_n 3, 1) := by decide +kernel
theorem dX4_compare_64 : decode cX4_compare 64 = .ok (.invokestatic 98, 3) := by decide +kernel
theorem dX4_compare_67 : decode cX4_compare 67 = .ok (.ifCond .eq 7, 3) := by decide +kernel
theorem dX4_compare_70 : decode cX4_compare 70 = .ok (.iconst 3, 1) := by decide +kernel
theorem dX4_compare_71 : decode cX4_compare 71 = .ok (.goto 4, 3) := by decide +kernel
theorem dX4_compare_74 : decode cX4_compare 74 = .ok (.iconst 1, 1) := by decide +kernel
theorem dX4_compare_75 : decode cX4_compare 75 = .ok (.ireturn, 1) := by decide +kernel
theorem dX4_compare_76 : decode cX4_compare 76 = .ok (.iload_n 3, 1) := by decide +kernel
theorem dX4_compare_77 : decode cX4_compare 77 = .ok (.invokestatic 98, 3) := by decide +kernel
theorem dX4_compare_80 : decode cX4_compare 80 = .ok (.ifCond .eq 7, 3) := by decide +kernel
theorem dX4_compare_83 : decode cX4_compare 83 = .ok (.iconst 2, 1) := by decide +kernel
theorem dX4_compare_84 : decode cX4_compare 84 = .ok (.goto 4, 3) := by decide +kernel
theorem dX4_compare_87 : decode cX4_compare 87 = .ok (.iconst 4, 1) := by decide +kernel
theorem dX4_compare_88 : decode cX4_compare 88 = .ok (.ireturn, 1) := by decide +kernel
theorem dX4_receivers_0 : decode cX4_receivers 0 = .ok (.iload_n 1, 1) := by decide +kernel
theorem dX4_receivers_1 : decode cX4_receivers 1 = .ok (.aload_n 0, 1) := by decide +kernel
theorem dX4_receivers_2 : decode cX4_receivers 2 = .ok (.getfield 23, 3) := by decide +kernel
theorem dX4_receivers_5 : decode cX4_receivers 5 = .ok (.invokestatic 34, 3) := by decide +kernel
theorem dX4_receivers_8 : decode cX4_receivers 8 = .ok (.ifCond .eq 11, 3) := by decide +kernel
theorem dX4_receivers_11 : decode cX4_receivers 11 = .ok (.iload_n 2, 1) := by decide +kernel
theorem dX4_receivers_12 : decode cX4_receivers 12 = .ok (.iconst 4, 1) := by decide +kernel
theorem dX4_receivers_13 : decode cX4_receivers 13 = .ok (.invokestatic 34, 3) := by decide +kernel
theorem dX4_receivers_16 : decode cX4_receivers 16 = .ok (.ifCond .ne 5, 3) := by decide +kernel
theorem dX4_receivers_19 : decode cX4_receivers 19 = .ok (.iconst (-1), 1) := by decide +kernel
theorem dX4_receivers_20 : decode cX4_receivers 20 = .ok (.ireturn, 1) := by decide +kernel
theorem dX4_receivers_21 : decode cX4_receivers 21 = .ok (.aload_n 0, 1) := by decide +kernel
theorem dX4_receivers_22 : decode cX4_receivers 22 = .ok (.getfield 18, 3) := by decide +kernel
theorem dX4_receivers_25 : decode cX4_receivers 25 = .ok (.iload_n 1, 1) := by decide +kernel
theorem dX4_receivers_26 : decode cX4_receivers 26 = .ok (.aaload, 1) := by decide +kernel
theorem dX4_receivers_27 : decode cX4_receivers 27 = .ok (.astore_n 3, 1) := by decide +kernel
theorem dX4_receivers_28 : decode cX4_receivers 28 = .ok (.aload_n 0, 1) := by decide +kernel
theorem dX4_receivers_29 : decode cX4_receivers 29 = .ok (.getfield 12, 3) := by decide +kernel
theorem dX4_receivers_32 : decode cX4_receivers 32 = .ok (.iconst 0, 1) := by decide +kernel
theorem dX4_receivers_33 : decode cX4_receivers 33 = .ok (.aaload, 1) := by decide +kernel
theorem dX4_receivers_34 : decode cX4_receivers 34 = .ok (.aload_n 3, 1) := by decide +kernel
theorem dX4_receivers_35 : decode cX4_receivers 35 = .ok (.invokevirtual 87, 3) := by decide +kernel
theorem dX4_receivers_38 : decode cX4_receivers 38 = .ok (.istore 4, 2) := by decide +kernel
theorem dX4_receivers_40 : decode cX4_receivers 40 = .ok (.aload_n 0, 1) := by decide +kernel
theorem dX4_receivers_41 : decode cX4_receivers 41 = .ok (.getfield 12, 3) := by decide +kernel
theorem dX4_receivers_44 : decode cX4_receivers 44 = .ok (.iconst 1, 1) := by decide +kernel
theorem dX4_receivers_45 : decode cX4_receivers 45 = .ok (.aaload, 1) := by decide +kernel
theorem dX4_receivers_46 : decode cX4_receivers 46 = .ok (.aload_n 3, 1) := by decide +kernel
theorem dX4_receivers_47 : decode cX4_receivers 47 = .ok (.invokevirtual 87, 3) := by decide +kernel
theorem dX4_receivers_50 : decode cX4_receivers 50 = .ok (.istore 5, 2) := by decide +kernel
theorem dX4_receivers_52 : decode cX4_receivers 52 = .ok (.iconst 0, 1) := by decide +kernel
theorem dX4_receivers_53 : decode cX4_receivers 53 = .ok (.istore 6, 2) := by decide +kernel
theorem dX4_receivers_55 : decode cX4_receivers 55 = .ok (.iconst 0, 1) := by decide +kernel
theorem dX4_receivers_56 : decode cX4_receivers 56 = .ok (.istore 7, 2) := by decide +kernel
theorem dX4_receivers_58 : decode cX4_receivers 58 = .ok (.iload 7, 2) := by decide +kernel
theorem dX4_receivers_60 : decode cX4_receivers 60 = .ok (.bipush 12, 2) := by decide +kernel
theorem dX4_receivers_62 : decode cX4_receivers 62 = .ok (.if_icmp .ge 63, 3) := by decide +kernel
theorem dX4_receivers_65 : decode cX4_receivers 65 = .ok (.aload_n 0, 1) := by decide +kernel
theorem dX4_receivers_66 : decode cX4_receivers 66 = .ok (.getfield 12, 3) := by decide +kernel
theorem dX4_receivers_69 : decode cX4_receivers 69 = .ok (.iconst 0, 1) := by decide +kernel
theorem dX4_receivers_70 : decode cX4_receivers 70 = .ok (.aaload, 1) := by decide +kernel
theorem dX4_receivers_71 : decode cX4_receivers 71 = .ok (.aload_n 3, 1) := by decide +kernel
theorem dX4_receivers_72 : decode cX4_receivers 72 = .ok (.iload 4, 2) := by decide +kernel
theorem dX4_receivers_74 : decode cX4_receivers 74 = .ok (.iload 7, 2) := by decide +kernel
theorem dX4_receivers_76 : decode cX4_receivers 76 = .ok (.invokevirtual 91, 3) := by decide +kernel
theorem dX4_receivers_79 : decode cX4_receivers 79 = .ok (.istore 8, 2) := by decide +kernel
theorem dX4_receivers_81 : decode cX4_receivers 81 = .ok (.aload_n 0, 1) := by decide +kernel
theorem dX4_receivers_82 : decode cX4_receivers 82 = .ok (.getfield 12, 3) := by decide +kernel
theorem dX4_receivers_85 : decode cX4_receivers 85 = .ok (.iconst 1, 1) := by decide +kernel
theorem dX4_receivers_86 : decode cX4_receivers 86 = .ok (.aaload, 1) := by decide +kernel
theorem dX4_receivers_87 : decode cX4_receivers 87 = .ok (.aload_n 3, 1) := by decide +kernel
theorem dX4_receivers_88 : decode cX4_receivers 88 = .ok (.iload 5, 2) := by decide +kernel
theorem dX4_receivers_90 : decode cX4_receivers 90 = .ok (.iload 7, 2) := by decide +kernel
theorem dX4_receivers_92 : decode cX4_receivers 92 = .ok (.invokevirtual 91, 3) := by decide +kernel
theorem dX4_receivers_95 : decode cX4_receivers 95 = .ok (.istore 9, 2) := by decide +kernel
theorem dX4_receivers_97 : decode cX4_receivers 97 = .ok (.iload 6, 2) := by decide +kernel
theorem dX4_receivers_99 : decode cX4_receivers 99 = .ok (.aload_n 0, 1) := by decide +kernel
theorem dX4_receivers_100 : decode cX4_receivers 100 = .ok (.iload_n 2, 1) := by decide +kernel
theorem dX4_receivers_101 : decode cX4_receivers 101 = .ok (.iload 8, 2) := by decide +kernel
theorem dX4_receivers_103 : decode cX4_receivers 103 = .ok (.iload 9, 2) := by decide +kernel
theorem dX4_receivers_105 : decode cX4_receivers 105 = .ok (.invokevirtual 101, 3) := by decide +kernel
theorem dX4_receivers_108 : decode cX4_receivers 108 = .ok (.ifCond .eq 7, 3) := by decide +kernel
theorem dX4_receivers_111 : decode cX4_receivers 111 = .ok (.iconst 1, 1) := by decide +kernel
theorem dX4_receivers_112 : decode cX4_receivers 112 = .ok (.goto 4, 3) := by decide +kernel
theorem dX4_receivers_115 : decode cX4_receivers 115 = .ok (.iconst 0, 1) := by decide +kernel
theorem dX4_receivers_116 : decode cX4_receivers 116 = .ok (.iadd, 1) := by decide +kernel
theorem dX4_receivers_117 : decode cX4_receivers 117 = .ok (.istore 6, 2) := by decide +kernel
theorem dX4_receivers_119 : decode cX4_receivers 119 = .ok (.iinc 7 1, 3) := by decide +kernel
theorem dX4_receivers_122 : decode cX4_receivers 122 = .ok (.goto (-64), 3) := by decide +kernel
theorem dX4_receivers_125 : decode cX4_receivers 125 = .ok (.iload 6, 2) := by decide +kernel
theorem dX4_receivers_127 : decode cX4_receivers 127 = .ok (.ireturn, 1) := by decide +kernel
theorem dX4_isUnder_0 : decode cX4_isUnder 0 = .ok (.iload_n 1, 1) := by decide +kernel
theorem dX4_isUnder_1 : decode cX4_isUnder 1 = .ok (.iconst 2, 1) := by decide +kernel
theorem dX4_isUnder_2 : decode cX4_isUnder 2 = .ok (.invokestatic 34, 3) := by decide +kernel
theorem dX4_isUnder_5 : decode cX4_isUnder 5 = .ok (.ifCond .eq 21, 3) := by decide +kernel
theorem dX4_isUnder_8 : decode cX4_isUnder 8 = .ok (.iload_n 2, 1) := by decide +kernel
theorem dX4_isUnder_9 : decode cX4_isUnder 9 = .ok (.bipush 12, 2) := by decide +kernel
theorem dX4_isUnder_11 : decode cX4_isUnder 11 = .ok (.invokestatic 34, 3) := by decide +kernel
theorem dX4_isUnder_14 : decode cX4_isUnder 14 = .ok (.ifCond .eq 12, 3) := by decide +kernel
theorem dX4_isUnder_17 : decode cX4_isUnder 17 = .ok (.iload_n 3, 1) := by decide +kernel
theorem dX4_isUnder_18 : decode cX4_isUnder 18 = .ok (.bipush 12, 2) := by decide +kernel
theorem dX4_isUnder_20 : decode cX4_isUnder 20 = .ok (.invokestatic 34, 3) := by decide +kernel
theorem dX4_isUnder_23 : decode cX4_isUnder 23 = .ok (.ifCond .ne 5, 3) := by decide +kernel
theorem dX4_isUnder_26 : decode cX4_isUnder 26 = .ok (.iconst 0, 1) := by decide +kernel
theorem dX4_isUnder_27 : decode cX4_isUnder 27 = .ok (.ireturn, 1) := by decide +kernel
theorem dX4_isUnder_28 : decode cX4_isUnder 28 = .ok (.aload_n 0, 1) := by decide +kernel
theorem dX4_isUnder_29 : decode cX4_isUnder 29 = .ok (.getfield 12, 3) := by decide +kernel
theorem dX4_isUnder_32 : decode cX4_isUnder 32 = .ok (.iload_n 1, 1) := by decide +kernel
theorem dX4_isUnder_33 : decode cX4_isUnder 33 = .ok (.aaload, 1) := by decide +kernel
theorem dX4_isUnder_34 : decode cX4_isUnder 34 = .ok (.getfield 38, 3) := by decide +kernel
theorem dX4_isUnder_37 : decode cX4_isUnder 37 = .ok (.astore 4, 2) := by decide +kernel
theorem dX4_isUnder_39 : decode cX4_isUnder 39 = .ok (.aload 4, 2) := by decide +kernel
theorem dX4_isUnder_41 : decode cX4_isUnder 41 = .ok (.iload_n 2, 1) := by decide +kernel
theorem dX4_isUnder_42 : decode cX4_isUnder 42 = .ok (.invokevirtual 83, 3) := by decide +kernel
theorem dX4_isUnder_45 : decode cX4_isUnder 45 = .ok (.invokestatic 98, 3) := by decide +kernel
theorem dX4_isUnder_48 : decode cX4_isUnder 48 = .ok (.ifCond .eq 29, 3) := by decide +kernel
theorem dX4_isUnder_51 : decode cX4_isUnder 51 = .ok (.aload 4, 2) := by decide +kernel
theorem dX4_isUnder_53 : decode cX4_isUnder 53 = .ok (.iload_n 3, 1) := by decide +kernel
theorem dX4_isUnder_54 : decode cX4_isUnder 54 = .ok (.invokevirtual 83, 3) := by decide +kernel
theorem dX4_isUnder_57 : decode cX4_isUnder 57 = .ok (.invokestatic 98, 3) := by decide +kernel
theorem dX4_isUnder_60 : decode cX4_isUnder 60 = .ok (.ifCond .eq 17, 3) := by decide +kernel
theorem dX4_isUnder_63 : decode cX4_isUnder 63 = .ok (.aload 4, 2) := by decide +kernel
theorem dX4_isUnder_65 : decode cX4_isUnder 65 = .ok (.iload_n 2, 1) := by decide +kernel
theorem dX4_isUnder_66 : decode cX4_isUnder 66 = .ok (.iload_n 3, 1) := by decide +kernel
theorem dX4_isUnder_67 : decode cX4_isUnder 67 = .ok (.invokevirtual 104, 3) := by decide +kernel
theorem dX4_isUnder_70 : decode cX4_isUnder 70 = .ok (.ifCond .eq 7, 3) := by decide +kernel
theorem dX4_isUnder_73 : decode cX4_isUnder 73 = .ok (.iconst 1, 1) := by decide +kernel
theorem dX4_isUnder_74 : decode cX4_isUnder 74 = .ok (.goto 4, 3) := by decide +kernel
theorem dX4_isUnder_77 : decode cX4_isUnder 77 = .ok (.iconst 0, 1) := by decide +kernel
theorem dX4_isUnder_78 : decode cX4_isUnder 78 = .ok (.ireturn, 1) := by decide +kernel
theorem dX4_count_0 : decode cX4_count 0 = .ok (.iload_n 1, 1) := by decide +kernel
theorem dX4_count_1 : decode cX4_count 1 = .ok (.iconst 2, 1) := by decide +kernel
theorem dX4_count_2 : decode cX4_count 2 = .ok (.invokestatic 34, 3) := by decide +kernel
theorem dX4_count_5 : decode cX4_count 5 = .ok (.ifCond .ne 5, 3) := by decide +kernel
theorem dX4_count_8 : decode cX4_count 8 = .ok (.iconst (-1), 1) := by decide +kernel
theorem dX4_count_9 : decode cX4_count 9 = .ok (.ireturn, 1) := by decide +kernel
theorem dX4_count_10 : decode cX4_count 10 = .ok (.aload_n 0, 1) := by decide +kernel
theorem dX4_count_11 : decode cX4_count 11 = .ok (.getfield 12, 3) := by decide +kernel
theorem dX4_count_14 : decode cX4_count 14 = .ok (.iload_n 1, 1) := by decide +kernel
theorem dX4_count_15 : decode cX4_count 15 = .ok (.aaload, 1) := by decide +kernel
theorem dX4_count_16 : decode cX4_count 16 = .ok (.astore_n 3, 1) := by decide +kernel
theorem dX4_count_17 : decode cX4_count 17 = .ok (.iload_n 2, 1) := by decide +kernel
theorem dX4_count_18 : decode cX4_count 18 = .ok (.tableswitch 96 0 6 #[42, 50, 58, 66, 72, 80, 88], 42) := by decide +kernel
theorem dX4_count_60 : decode cX4_count 60 = .ok (.aload_n 3, 1) := by decide +kernel
theorem dX4_count_61 : decode cX4_count 61 = .ok (.getfield 38, 3) := by decide +kernel
theorem dX4_count_64 : decode cX4_count 64 = .ok (.invokevirtual 75, 3) := by decide +kernel
theorem dX4_count_67 : decode cX4_count 67 = .ok (.ireturn, 1) := by decide +kernel
theorem dX4_count_68 : decode cX4_count 68 = .ok (.aload_n 3, 1) := by decide +kernel
theorem dX4_count_69 : decode cX4_count 69 = .ok (.getfield 58, 3) := by decide +kernel
theorem dX4_count_72 : decode cX4_count 72 = .ok (.invokevirtual 107, 3) := by decide +kernel
theorem dX4_count_75 : decode cX4_count 75 = .ok (.ireturn, 1) := by decide +kernel
theorem dX4_count_76 : decode cX4_count 76 = .ok (.aload_n 3, 1) := by decide +kernel
theorem dX4_count_77 : decode cX4_count 77 = .ok (.getfield 58, 3) := by decide +kernel
theorem dX4_count_80 : decode cX4_count 80 = .ok (.invokevirtual 110, 3) := by decide +kernel
theorem dX4_count_83 : decode cX4_count 83 = .ok (.ireturn, 1) := by decide +kernel
theorem dX4_count_84 : decode cX4_count 84 = .ok (.aload_n 0, 1) := by decide +kernel
theorem dX4_count_85 : decode cX4_count 85 = .ok (.aload_n 3, 1) := by decide +kernel
theorem dX4_count_86 : decode cX4_count 86 = .ok (.invokevirtual 113, 3) := by decide +kernel
theorem dX4_count_89 : decode cX4_count 89 = .ok (.ireturn, 1) := by decide +kernel
theorem dX4_count_90 : decode cX4_count 90 = .ok (.aload_n 3, 1) := by decide +kernel
theorem dX4_count_91 : decode cX4_count 91 = .ok (.getfield 38, 3) := by decide +kernel
theorem dX4_count_94 : decode cX4_count 94 = .ok (.invokevirtual 117, 3) := by decide +kernel
theorem dX4_count_97 : decode cX4_count 97 = .ok (.ireturn, 1) := by decide +kernel
theorem dX4_count_98 : decode cX4_count 98 = .ok (.aload_n 3, 1) := by decide +kernel
theorem dX4_count_99 : decode cX4_count 99 = .ok (.getfield 58, 3) := by decide +kernel
theorem dX4_count_102 : decode cX4_count 102 = .ok (.invokevirtual 120, 3) := by decide +kernel
theorem dX4_count_105 : decode cX4_count 105 = .ok (.ireturn, 1) := by decide +kernel
theorem dX4_count_106 : decode cX4_count 106 = .ok (.aload_n 3, 1) := by decide +kernel
theorem dX4_count_107 : decode cX4_count 107 = .ok (.getfield 38, 3) := by decide +kernel
theorem dX4_count_110 : decode cX4_count 110 = .ok (.invokevirtual 123, 3) := by decide +kernel
theorem dX4_count_113 : decode cX4_count 113 = .ok (.ireturn, 1) := by decide +kernel
theorem dX4_count_114 : decode cX4_count 114 = .ok (.iconst (-1), 1) := by decide +kernel
theorem dX4_count_115 : decode cX4_count 115 = .ok (.ireturn, 1) := by decide +kernel
theorem dX4_countGoodReferences_0 : decode cX4_countGoodReferences 0 = .ok (.iconst 0, 1) := by decide +kernel
theorem dX4_countGoodReferences_1 : decode cX4_countGoodReferences 1 = .ok (.istore_n 2, 1) := by decide +kernel
theorem dX4_countGoodReferences_2 : decode cX4_countGoodReferences 2 = .ok (.iconst 0, 1) := by decide +kernel
theorem dX4_countGoodReferences_3 : decode cX4_countGoodReferences 3 = .ok (.istore_n 3, 1) := by decide +kernel
theorem dX4_countGoodReferences_4 : decode cX4_countGoodReferences 4 = .ok (.iload_n 3, 1) := by decide +kernel
theorem dX4_countGoodReferences_5 : decode cX4_countGoodReferences 5 = .ok (.aload_n 0, 1) := by decide +kernel
theorem dX4_countGoodReferences_6 : decode cX4_countGoodReferences 6 = .ok (.getfield 23, 3) := by decide +kernel
theorem dX4_countGoodReferences_9 : decode cX4_countGoodReferences 9 = .ok (.if_icmp .ge 33, 3) := by decide +kernel
theorem dX4_countGoodReferences_12 : decode cX4_countGoodReferences 12 = .ok (.iload_n 2, 1) := by decide +kernel
theorem dX4_countGoodReferences_13 : decode cX4_countGoodReferences 13 = .ok (.aload_n 1, 1) := by decide +kernel
theorem dX4_countGoodReferences_14 : decode cX4_countGoodReferences 14 = .ok (.aload_n 0, 1) := by decide +kernel
theorem dX4_countGoodReferences_15 : decode cX4_countGoodReferences 15 = .ok (.getfield 18, 3) := by decide +kernel
theorem dX4_countGoodReferences_18 : decode cX4_countGoodReferences 18 = .ok (.iload_n 3, 1) := by decide +kernel
theorem dX4_countGoodReferences_19 : decode cX4_countGoodReferences 19 = .ok (.aaload, 1) := by decide +kernel
theorem dX4_countGoodReferences_20 : decode cX4_countGoodReferences 20 = .ok (.invokevirtual 87, 3) := by decide +kernel
theorem dX4_countGoodReferences_23 : decode cX4_countGoodReferences 23 = .ok (.invokestatic 98, 3) := by decide +kernel
theorem dX4_countGoodReferences_26 : decode cX4_countGoodReferences 26 = .ok (.ifCond .eq 7, 3) := by decide +kernel
theorem dX4_countGoodReferences_29 : decode cX4_countGoodReferences 29 = .ok (.iconst 1, 1) := by decide +kernel
theorem dX4_countGoodReferences_30 : decode cX4_countGoodReferences 30 = .ok (.goto 4, 3) := by decide +kernel
theorem dX4_countGoodReferences_33 : decode cX4_countGoodReferences 33 = .ok (.iconst 0, 1) := by decide +kernel
theorem dX4_countGoodReferences_34 : decode cX4_countGoodReferences 34 = .ok (.iadd, 1) := by decide +kernel
theorem dX4_countGoodReferences_35 : decode cX4_countGoodReferences 35 = .ok (.istore_n 2, 1) := by decide +kernel
theorem dX4_countGoodReferences_36 : decode cX4_countGoodReferences 36 = .ok (.iinc 3 1, 3) := by decide +kernel
theorem dX4_countGoodReferences_39 : decode cX4_countGoodReferences 39 = .ok (.goto (-35), 3) := by decide +kernel
theorem dX4_countGoodReferences_42 : decode cX4_countGoodReferences 42 = .ok (.iload_n 2, 1) := by decide +kernel
theorem dX4_countGoodReferences_43 : decode cX4_countGoodReferences 43 = .ok (.ireturn, 1) := by decide +kernel
theorem dX4_isSuchReceiver_0 : decode cX4_isSuchReceiver 0 = .ok (.iload_n 1, 1) := by decide +kernel
theorem dX4_isSuchReceiver_1 : decode cX4_isSuchReceiver 1 = .ok (.tableswitch 57 0 2 #[27, 32, 37], 27) := by decide +kernel
theorem dX4_isSuchReceiver_28 : decode cX4_isSuchReceiver 28 = .ok (.iload_n 2, 1) := by decide +kernel
theorem dX4_isSuchReceiver_29 : decode cX4_isSuchReceiver 29 = .ok (.invokestatic 98, 3) := by decide +kernel
theorem dX4_isSuchReceiver_32 : decode cX4_isSuchReceiver 32 = .ok (.ireturn, 1) := by decide +kernel
theorem dX4_isSuchReceiver_33 : decode cX4_isSuchReceiver 33 = .ok (.iload_n 3, 1) := by decide +kernel
theorem dX4_isSuchReceiver_34 : decode cX4_isSuchReceiver 34 = .ok (.invokestatic 98, 3) := by decide +kernel
theorem dX4_isSuchReceiver_37 : decode cX4_isSuchReceiver 37 = .ok (.ireturn, 1) := by decide +kernel
theorem dX4_isSuchReceiver_38 : decode cX4_isSuchReceiver 38 = .ok (.iload_n 2, 1) := by decide +kernel
theorem dX4_isSuchReceiver_39 : decode cX4_isSuchReceiver 39 = .ok (.invokestatic 98, 3) := by decide +kernel
theorem dX4_isSuchReceiver_42 : decode cX4_isSuchReceiver 42 = .ok (.ifCond .eq 14, 3) := by decide +kernel
theorem dX4_isSuchReceiver_45 : decode cX4_isSuchReceiver 45 = .ok (.iload_n 3, 1) := by decide +kernel
theorem dX4_isSuchReceiver_46 : decode cX4_isSuchReceiver 46 = .ok (.invokestatic 98, 3) := by decide +kernel
theorem dX4_isSuchReceiver_49 : decode cX4_isSuchReceiver 49 = .ok (.ifCond .ne 7, 3) := by decide +kernel
theorem dX4_isSuchReceiver_52 : decode cX4_isSuchReceiver 52 = .ok (.iconst 1, 1) := by decide +kernel
theorem dX4_isSuchReceiver_53 : decode cX4_isSuchReceiver 53 = .ok (.goto 4, 3) := by decide +kernel
theorem dX4_isSuchReceiver_56 : decode cX4_isSuchReceiver 56 = .ok (.iconst 0, 1) := by decide +kernel
theorem dX4_isSuchReceiver_57 : decode cX4_isSuchReceiver 57 = .ok (.ireturn, 1) := by decide +kernel
theorem dX4_isSuchReceiver_58 : decode cX4_isSuchReceiver 58 = .ok (.iload_n 2, 1) := by decide +kernel
theorem dX4_isSuchReceiver_59 : decode cX4_isSuchReceiver 59 = .ok (.invokestatic 98, 3) := by decide +kernel
theorem dX4_isSuchReceiver_62 : decode cX4_isSuchReceiver 62 = .ok (.ifCond .eq 23, 3) := by decide +kernel
theorem dX4_isSuchReceiver_65 : decode cX4_isSuchReceiver 65 = .ok (.iload_n 3, 1) := by decide +kernel
theorem dX4_isSuchReceiver_66 : decode cX4_isSuchReceiver 66 = .ok (.invokestatic 98, 3) := by decide +kernel
theorem dX4_isSuchReceiver_69 : decode cX4_isSuchReceiver 69 = .ok (.ifCond .eq 16, 3) := by decide +kernel
theorem dX4_isSuchReceiver_72 : decode cX4_isSuchReceiver 72 = .ok (.aload_n 0, 1) := by decide +kernel
theorem dX4_isSuchReceiver_73 : decode cX4_isSuchReceiver 73 = .ok (.iload_n 2, 1) := by decide +kernel
theorem dX4_isSuchReceiver_74 : decode cX4_isSuchReceiver 74 = .ok (.iload_n 3, 1) := by decide +kernel
theorem dX4_isSuchReceiver_75 : decode cX4_isSuchReceiver 75 = .ok (.invokevirtual 95, 3) := by decide +kernel
theorem dX4_isSuchReceiver_78 : decode cX4_isSuchReceiver 78 = .ok (.ifCond .ne 7, 3) := by decide +kernel
theorem dX4_isSuchReceiver_81 : decode cX4_isSuchReceiver 81 = .ok (.iconst 1, 1) := by decide +kernel
theorem dX4_isSuchReceiver_82 : decode cX4_isSuchReceiver 82 = .ok (.goto 4, 3) := by decide +kernel
theorem dX4_isSuchReceiver_85 : decode cX4_isSuchReceiver 85 = .ok (.iconst 0, 1) := by decide +kernel
theorem dX4_isSuchReceiver_86 : decode cX4_isSuchReceiver 86 = .ok (.ireturn, 1) := by decide +kernel
theorem dX4_areAlike_0 : decode cX4_areAlike 0 = .ok (.iload_n 1, 1) := by decide +kernel
theorem dX4_areAlike_1 : decode cX4_areAlike 1 = .ok (.bipush 64, 2) := by decide +kernel
theorem dX4_areAlike_3 : decode cX4_areAlike 3 = .ok (.idiv, 1) := by decide +kernel
theorem dX4_areAlike_4 : decode cX4_areAlike 4 = .ok (.iload_n 2, 1) := by decide +kernel
theorem dX4_areAlike_5 : decode cX4_areAlike 5 = .ok (.bipush 64, 2) := by decide +kernel
theorem dX4_areAlike_7 : decode cX4_areAlike 7 = .ok (.idiv, 1) := by decide +kernel
theorem dX4_areAlike_8 : decode cX4_areAlike 8 = .ok (.if_icmp .eq 5, 3) := by decide +kernel
theorem dX4_areAlike_11 : decode cX4_areAlike 11 = .ok (.iconst 0, 1) := by decide +kernel
theorem dX4_areAlike_12 : decode cX4_areAlike 12 = .ok (.ireturn, 1) := by decide +kernel
theorem dX4_areAlike_13 : decode cX4_areAlike 13 = .ok (.iload_n 1, 1) := by decide +kernel
theorem dX4_areAlike_14 : decode cX4_areAlike 14 = .ok (.bipush 64, 2) := by decide +kernel
theorem dX4_areAlike_16 : decode cX4_areAlike 16 = .ok (.irem, 1) := by decide +kernel
theorem dX4_areAlike_17 : decode cX4_areAlike 17 = .ok (.istore_n 3, 1) := by decide +kernel
theorem dX4_areAlike_18 : decode cX4_areAlike 18 = .ok (.iload_n 2, 1) := by decide +kernel
theorem dX4_areAlike_19 : decode cX4_areAlike 19 = .ok (.bipush 64, 2) := by decide +kernel
theorem dX4_areAlike_21 : decode cX4_areAlike 21 = .ok (.irem, 1) := by decide +kernel
theorem dX4_areAlike_22 : decode cX4_areAlike 22 = .ok (.istore 4, 2) := by decide +kernel
theorem dX4_areAlike_24 : decode cX4_areAlike 24 = .ok (.iload_n 3, 1) := by decide +kernel
theorem dX4_areAlike_25 : decode cX4_areAlike 25 = .ok (.bipush 16, 2) := by decide +kernel
theorem dX4_areAlike_27 : decode cX4_areAlike 27 = .ok (.if_icmp .lt 10, 3) := by decide +kernel
theorem dX4_areAlike_30 : decode cX4_areAlike 30 = .ok (.iload 4, 2) := by decide +kernel
theorem dX4_areAlike_32 : decode cX4_areAlike 32 = .ok (.bipush 16, 2) := by decide +kernel
theorem dX4_areAlike_34 : decode cX4_areAlike 34 = .ok (.if_icmp .ge 15, 3) := by decide +kernel
theorem dX4_areAlike_37 : decode cX4_areAlike 37 = .ok (.iload_n 3, 1) := by decide +kernel
theorem dX4_areAlike_38 : decode cX4_areAlike 38 = .ok (.iload 4, 2) := by decide +kernel
theorem dX4_areAlike_40 : decode cX4_areAlike 40 = .ok (.if_icmp .ne 7, 3) := by decide +kernel
theorem dX4_areAlike_43 : decode cX4_areAlike 43 = .ok (.iconst 1, 1) := by decide +kernel
theorem dX4_areAlike_44 : decode cX4_areAlike 44 = .ok (.goto 4, 3) := by decide +kernel
theorem dX4_areAlike_47 : decode cX4_areAlike 47 = .ok (.iconst 0, 1) := by decide +kernel
theorem dX4_areAlike_48 : decode cX4_areAlike 48 = .ok (.ireturn, 1) := by decide +kernel
theorem dX4_areAlike_49 : decode cX4_areAlike 49 = .ok (.aload_n 0, 1) := by decide +kernel
theorem dX4_areAlike_50 : decode cX4_areAlike 50 = .ok (.getfield 12, 3) := by decide +kernel
theorem dX4_areAlike_53 : decode cX4_areAlike 53 = .ok (.iconst 0, 1) := by decide +kernel
theorem dX4_areAlike_54 : decode cX4_areAlike 54 = .ok (.aaload, 1) := by decide +kernel
theorem dX4_areAlike_55 : decode cX4_areAlike 55 = .ok (.getfield 58, 3) := by decide +kernel
theorem dX4_areAlike_58 : decode cX4_areAlike 58 = .ok (.iload_n 3, 1) := by decide +kernel
theorem dX4_areAlike_59 : decode cX4_areAlike 59 = .ok (.bipush 16, 2) := by decide +kernel
theorem dX4_areAlike_61 : decode cX4_areAlike 61 = .ok (.isub, 1) := by decide +kernel
theorem dX4_areAlike_62 : decode cX4_areAlike 62 = .ok (.aload_n 0, 1) := by decide +kernel
theorem dX4_areAlike_63 : decode cX4_areAlike 63 = .ok (.getfield 12, 3) := by decide +kernel
theorem dX4_areAlike_66 : decode cX4_areAlike 66 = .ok (.iconst 1, 1) := by decide +kernel
theorem dX4_areAlike_67 : decode cX4_areAlike 67 = .ok (.aaload, 1) := by decide +kernel
theorem dX4_areAlike_68 : decode cX4_areAlike 68 = .ok (.getfield 58, 3) := by decide +kernel
theorem dX4_areAlike_71 : decode cX4_areAlike 71 = .ok (.iload 4, 2) := by decide +kernel
theorem dX4_areAlike_73 : decode cX4_areAlike 73 = .ok (.bipush 16, 2) := by decide +kernel
theorem dX4_areAlike_75 : decode cX4_areAlike 75 = .ok (.isub, 1) := by decide +kernel
theorem dX4_areAlike_76 : decode cX4_areAlike 76 = .ok (.invokevirtual 126, 3) := by decide +kernel
theorem dX4_areAlike_79 : decode cX4_areAlike 79 = .ok (.ireturn, 1) := by decide +kernel
theorem dX4_isWithin_0 : decode cX4_isWithin 0 = .ok (.iload_n 0, 1) := by decide +kernel
theorem dX4_isWithin_1 : decode cX4_isWithin 1 = .ok (.ifCond .lt 12, 3) := by decide +kernel
theorem dX4_isWithin_4 : decode cX4_isWithin 4 = .ok (.iload_n 0, 1) := by decide +kernel
theorem dX4_isWithin_5 : decode cX4_isWithin 5 = .ok (.iload_n 1, 1) := by decide +kernel
theorem dX4_isWithin_6 : decode cX4_isWithin 6 = .ok (.if_icmp .ge 7, 3) := by decide +kernel
theorem dX4_isWithin_9 : decode cX4_isWithin 9 = .ok (.iconst 1, 1) := by decide +kernel
theorem dX4_isWithin_10 : decode cX4_isWithin 10 = .ok (.goto 4, 3) := by decide +kernel
theorem dX4_isWithin_13 : decode cX4_isWithin 13 = .ok (.iconst 0, 1) := by decide +kernel
theorem dX4_isWithin_14 : decode cX4_isWithin 14 = .ok (.ireturn, 1) := by decide +kernel
theorem dX4_isOrdinaryType_0 : decode cX4_isOrdinaryType 0 = .ok (.iload_n 0, 1) := by decide +kernel
theorem dX4_isOrdinaryType_1 : decode cX4_isOrdinaryType 1 = .ok (.ifCond .eq 16, 3) := by decide +kernel
theorem dX4_isOrdinaryType_4 : decode cX4_isOrdinaryType 4 = .ok (.iload_n 0, 1) := by decide +kernel
theorem dX4_isOrdinaryType_5 : decode cX4_isOrdinaryType 5 = .ok (.bipush 12, 2) := by decide +kernel
theorem dX4_isOrdinaryType_7 : decode cX4_isOrdinaryType 7 = .ok (.invokestatic 34, 3) := by decide +kernel
theorem dX4_isOrdinaryType_10 : decode cX4_isOrdinaryType 10 = .ok (.ifCond .eq 7, 3) := by decide +kernel
theorem dX4_isOrdinaryType_13 : decode cX4_isOrdinaryType 13 = .ok (.iconst 1, 1) := by decide +kernel
theorem dX4_isOrdinaryType_14 : decode cX4_isOrdinaryType 14 = .ok (.goto 4, 3) := by decide +kernel
theorem dX4_isOrdinaryType_17 : decode cX4_isOrdinaryType 17 = .ok (.iconst 0, 1) := by decide +kernel
theorem dX4_isOrdinaryType_18 : decode cX4_isOrdinaryType 18 = .ok (.ireturn, 1) := by decide +kernel
theorem dX4_isGood_0 : decode cX4_isGood 0 = .ok (.iload_n 0, 1) := by decide +kernel
theorem dX4_isGood_1 : decode cX4_isGood 1 = .ok (.bipush 64, 2) := by decide +kernel
theorem dX4_isGood_3 : decode cX4_isGood 3 = .ok (.invokestatic 34, 3) := by decide +kernel
theorem dX4_isGood_6 : decode cX4_isGood 6 = .ok (.ireturn, 1) := by decide +kernel
theorem dX4_bit_0 : decode cX4_bit 0 = .ok (.iconst 1, 1) := by decide +kernel
theorem dX4_bit_1 : decode cX4_bit 1 = .ok (.iload_n 0, 1) := by decide +kernel
theorem dX4_bit_2 : decode cX4_bit 2 = .ok (.ishl, 1) := by decide +kernel
theorem dX4_bit_3 : decode cX4_bit 3 = .ok (.ireturn, 1) := by decide +kernel
theorem dX4_contains_0 : decode cX4_contains 0 = .ok (.iload_n 0, 1) := by decide +kernel
theorem dX4_contains_1 : decode cX4_contains 1 = .ok (.iconst 1, 1) := by decide +kernel
theorem dX4_contains_2 : decode cX4_contains 2 = .ok (.iload_n 1, 1) := by decide +kernel
theorem dX4_contains_3 : decode cX4_contains 3 = .ok (.ishl, 1) := by decide +kernel
theorem dX4_contains_4 : decode cX4_contains 4 = .ok (.iand, 1) := by decide +kernel
theorem dX4_contains_5 : decode cX4_contains 5 = .ok (.ifCond .eq 7, 3) := by decide +kernel
theorem dX4_contains_8 : decode cX4_contains 8 = .ok (.iconst 1, 1) := by decide +kernel
theorem dX4_contains_9 : decode cX4_contains 9 = .ok (.goto 4, 3) := by decide +kernel
theorem dX4_contains_12 : decode cX4_contains 12 = .ok (.iconst 0, 1) := by decide +kernel
theorem dX4_contains_13 : decode cX4_contains 13 = .ok (.ireturn, 1) := by decide +kernel
theorem dX5_init_0 : decode cX5_init 0 = .ok (.aload_n 0, 1) := by decide +kernel
theorem dX5_init_1 : decode cX5_init 1 = .ok (.invokespecial 1, 3) := by decide +kernel
theorem dX5_init_4 : decode cX5_init 4 = .ok (.aload_n 0, 1) := by decide +kernel
theorem dX5_init_5 : decode cX5_init 5 = .ok (.bipush 24, 2) := by decide +kernel
theorem dX5_init_7 : decode cX5_init 7 = .ok (.newarray .boolean, 2) := by decide +kernel
theorem dX5_init_9 : decode cX5_init 9 = .ok (.putfield 7, 3) := by decide +kernel
theorem dX5_init_12 : decode cX5_init 12 = .ok (.aload_n 0, 1) := by decide +kernel
theorem dX5_init_13 : decode cX5_init 13 = .ok (.bipush 24, 2) := by decide +kernel
theorem dX5_init_15 : decode cX5_init 15 = .ok (.newarray .int, 2) := by decide +kernel
theorem dX5_init_17 : decode cX5_init 17 = .ok (.putfield 13, 3) := by decide +kernel
theorem dX5_init_20 : decode cX5_init 20 = .ok (.aload_n 0, 1) := by decide +kernel
theorem dX5_init_21 : decode cX5_init 21 = .ok (.bipush 24, 2) := by decide +kernel
theorem dX5_init_23 : decode cX5_init 23 = .ok (.newarray .int, 2) := by decide +kernel
theorem dX5_init_25 : decode cX5_init 25 = .ok (.putfield 17, 3) := by decide +kernel
theorem dX5_init_28 : decode cX5_init 28 = .ok (.aload_n 0, 1) := by decide +kernel
theorem dX5_init_29 : decode cX5_init 29 = .ok (.bipush 24, 2) := by decide +kernel
theorem dX5_init_31 : decode cX5_init 31 = .ok (.newarray .int, 2) := by decide +kernel
theorem dX5_init_33 : decode cX5_init 33 = .ok (.putfield 20, 3) := by decide +kernel
theorem dX5_init_36 : decode cX5_init 36 = .ok (.aload_n 0, 1) := by decide +kernel
theorem dX5_init_37 : decode cX5_init 37 = .ok (.bipush 24, 2) := by decide +kernel
theorem dX5_init_39 : decode cX5_init 39 = .ok (.newarray .int, 2) := by decide +kernel
theorem dX5_init_41 : decode cX5_init 41 = .ok (.putfield 23, 3) := by decide +kernel
theorem dX5_init_44 : decode cX5_init 44 = .ok (.aload_n 0, 1) := by decide +kernel
theorem dX5_init_45 : decode cX5_init 45 = .ok (.bipush 24, 2) := by decide +kernel
theorem dX5_init_47 : decode cX5_init 47 = .ok (.newarray .int, 2) := by decide +kernel
theorem dX5_init_49 : decode cX5_init 49 = .ok (.putfield 26, 3) := by decide +kernel
theorem dX5_init_52 : decode cX5_init 52 = .ok (.aload_n 0, 1) := by decide +kernel
theorem dX5_init_53 : decode cX5_init 53 = .ok (.bipush 60, 2) := by decide +kernel
theorem dX5_init_55 : decode cX5_init 55 = .ok (.newarray .boolean, 2) := by decide +kernel
theorem dX5_init_57 : decode cX5_init 57 = .ok (.putfield 29, 3) := by decide +kernel
theorem dX5_init_60 : decode cX5_init 60 = .ok (.aload_n 0, 1) := by decide +kernel
theorem dX5_init_61 : decode cX5_init 61 = .ok (.bipush 60, 2) := by decide +kernel
theorem dX5_init_63 : decode cX5_init 63 = .ok (.newarray .boolean, 2) := by decide +kernel
theorem dX5_init_65 : decode cX5_init 65 = .ok (.putfield 32, 3) := by decide +kernel
theorem dX5_init_68 : decode cX5_init 68 = .ok (.aload_n 0, 1) := by decide +kernel
theorem dX5_init_69 : decode cX5_init 69 = .ok (.iconst 2, 1) := by decide +kernel
theorem dX5_init_70 : decode cX5_init 70 = .ok (.newarray .int, 2) := by decide +kernel
theorem dX5_init_72 : decode cX5_init 72 = .ok (.putfield 35, 3) := by decide +kernel
theorem dX5_init_75 : decode cX5_init 75 = .ok (.aload_n 0, 1) := by decide +kernel
theorem dX5_init_76 : decode cX5_init 76 = .ok (.bipush 60, 2) := by decide +kernel
theorem dX5_init_78 : decode cX5_init 78 = .ok (.newarray .int, 2) := by decide +kernel
theorem dX5_init_80 : decode cX5_init 80 = .ok (.putfield 38, 3) := by decide +kernel
theorem dX5_init_83 : decode cX5_init 83 = .ok (.aload_n 0, 1) := by decide +kernel
theorem dX5_init_84 : decode cX5_init 84 = .ok (.bipush 60, 2) := by decide +kernel
theorem dX5_init_86 : decode cX5_init 86 = .ok (.newarray .int, 2) := by decide +kernel
theorem dX5_init_88 : decode cX5_init 88 = .ok (.putfield 41, 3) := by decide +kernel
theorem dX5_init_91 : decode cX5_init 91 = .ok (.aload_n 0, 1) := by decide +kernel
theorem dX5_init_92 : decode cX5_init 92 = .ok (.bipush 60, 2) := by decide +kernel
theorem dX5_init_94 : decode cX5_init 94 = .ok (.newarray .int, 2) := by decide +kernel
theorem dX5_init_96 : decode cX5_init 96 = .ok (.putfield 44, 3) := by decide +kernel
theorem dX5_init_99 : decode cX5_init 99 = .ok (.aload_n 0, 1) := by decide +kernel
theorem dX5_init_100 : decode cX5_init 100 = .ok (.bipush 60, 2) := by decide +kernel
theorem dX5_init_102 : decode cX5_init 102 = .ok (.newarray .int, 2) := by decide +kernel
theorem dX5_init_104 : decode cX5_init 104 = .ok (.putfield 47, 3) := by decide +kernel
theorem dX5_init_107 : decode cX5_init 107 = .ok (.aload_n 0, 1) := by decide +kernel
theorem dX5_init_108 : decode cX5_init 108 = .ok (.bipush 16, 2) := by decide +kernel
theorem dX5_init_110 : decode cX5_init 110 = .ok (.newarray .int, 2) := by decide +kernel
theorem dX5_init_112 : decode cX5_init 112 = .ok (.putfield 50, 3) := by decide +kernel
theorem dX5_init_115 : decode cX5_init 115 = .ok (.aload_n 0, 1) := by decide +kernel
theorem dX5_init_116 : decode cX5_init 116 = .ok (.bipush 16, 2) := by decide +kernel
theorem dX5_init_118 : decode cX5_init 118 = .ok (.newarray .int, 2) := by decide +kernel
theorem dX5_init_120 : decode cX5_init 120 = .ok (.putfield 53, 3) := by decide +kernel
theorem dX5_init_123 : decode cX5_init 123 = .ok (.aload_n 0, 1) := by decide +kernel
theorem dX5_init_124 : decode cX5_init 124 = .ok (.bipush 16, 2) := by decide +kernel
theorem dX5_init_126 : decode cX5_init 126 = .ok (.newarray .int, 2) := by decide +kernel
theorem dX5_init_128 : decode cX5_init 128 = .ok (.putfield 56, 3) := by decide +kernel
theorem dX5_init_131 : decode cX5_init 131 = .ok (.aload_n 0, 1) := by decide +kernel
theorem dX5_init_132 : decode cX5_init 132 = .ok (.bipush 16, 2) := by decide +kernel
theorem dX5_init_134 : decode cX5_init 134 = .ok (.newarray .int, 2) := by decide +kernel
theorem dX5_init_136 : decode cX5_init 136 = .ok (.putfield 59, 3) := by decide +kernel
theorem dX5_init_139 : decode cX5_init 139 = .ok (.aload_n 0, 1) := by decide +kernel
theorem dX5_init_140 : decode cX5_init 140 = .ok (.bipush 40, 2) := by decide +kernel
theorem dX5_init_142 : decode cX5_init 142 = .ok (.newarray .int, 2) := by decide +kernel
theorem dX5_init_144 : decode cX5_init 144 = .ok (.putfield 62, 3) := by decide +kernel
theorem dX5_init_147 : decode cX5_init 147 = .ok (.aload_n 0, 1) := by decide +kernel
theorem dX5_init_148 : decode cX5_init 148 = .ok (.bipush 14, 2) := by decide +kernel
theorem dX5_init_150 : decode cX5_init 150 = .ok (.newarray .int, 2) := by decide +kernel
theorem dX5_init_152 : decode cX5_init 152 = .ok (.putfield 65, 3) := by decide +kernel
theorem dX5_init_155 : decode cX5_init 155 = .ok (.iconst 0, 1) := by decide +kernel
theorem dX5_init_156 : decode cX5_init 156 = .ok (.istore_n 1, 1) := by decide +kernel
theorem dX5_init_157 : decode cX5_init 157 = .ok (.iload_n 1, 1) := by decide +kernel
theorem dX5_init_158 : decode cX5_init 158 = .ok (.iconst 2, 1) := by decide +kernel
theorem dX5_init_159 : decode cX5_init 159 = .ok (.if_icmp .ge 65, 3) := by decide +kernel
theorem dX5_init_162 : decode cX5_init 162 = .ok (.iconst 0, 1) := by decide +kernel
theorem dX5_init_163 : decode cX5_init 163 = .ok (.istore_n 2, 1) := by decide +kernel
theorem dX5_init_164 : decode cX5_init 164 = .ok (.iload_n 2, 1) := by decide +kernel
theorem dX5_init_165 : decode cX5_init 165 = .ok (.bipush 12, 2) := by decide +kernel
theorem dX5_init_167 : decode cX5_init 167 = .ok (.if_icmp .ge 21, 3) := by decide +kernel
theorem dX5_init_170 : decode cX5_init 170 = .ok (.aload_n 0, 1) := by decide +kernel
theorem dX5_init_171 : decode cX5_init 171 = .ok (.getfield 26, 3) := by decide +kernel
theorem dX5_init_174 : decode cX5_init 174 = .ok (.bipush 12, 2) := by decide +kernel
theorem dX5_init_176 : decode cX5_init 176 = .ok (.iload_n 1, 1) := by decide +kernel
theorem dX5_init_177 : decode cX5_init 177 = .ok (.imul, 1) := by decide +kernel
theorem dX5_init_178 : decode cX5_init 178 = .ok (.iload_n 2, 1) := by decide +kernel
theorem dX5_init_179 : decode cX5_init 179 = .ok (.iadd, 1) := by decide +kernel
theorem dX5_init_180 : decode cX5_init 180 = .ok (.iload_n 2, 1) := by decide +kernel
theorem dX5_init_181 : decode cX5_init 181 = .ok (.iastore, 1) := by decide +kernel
theorem dX5_init_182 : decode cX5_init 182 = .ok (.iinc 2 1, 3) := by decide +kernel
theorem dX5_init_185 : decode cX5_init 185 = .ok (.goto (-21), 3) := by decide +kernel
theorem dX5_init_188 : decode cX5_init 188 = .ok (.aload_n 0, 1) := by decide +kernel
theorem dX5_init_189 : decode cX5_init 189 = .ok (.getfield 7, 3) := by decide +kernel
theorem dX5_init_192 : decode cX5_init 192 = .ok (.bipush 12, 2) := by decide +kernel
theorem dX5_init_194 : decode cX5_init 194 = .ok (.iload_n 1, 1) := by decide +kernel
theorem dX5_init_195 : decode cX5_init 195 = .ok (.imul, 1) := by decide +kernel
theorem dX5_init_196 : decode cX5_init 196 = .ok (.iconst 1, 1) := by decide +kernel
theorem dX5_init_197 : decode cX5_init 197 = .ok (.bastore, 1) := by decide +kernel
theorem dX5_init_198 : decode cX5_init 198 = .ok (.aload_n 0, 1) := by decide +kernel
theorem dX5_init_199 : decode cX5_init 199 = .ok (.getfield 13, 3) := by decide +kernel
theorem dX5_init_202 : decode cX5_init 202 = .ok (.bipush 12, 2) := by decide +kernel
theorem dX5_init_204 : decode cX5_init 204 = .ok (.iload_n 1, 1) := by decide +kernel
theorem dX5_init_205 : decode cX5_init 205 = .ok (.imul, 1) := by decide +kernel
theorem dX5_init_206 : decode cX5_init 206 = .ok (.iconst 1, 1) := by decide +kernel
theorem dX5_init_207 : decode cX5_init 207 = .ok (.iastore, 1) := by decide +kernel
theorem dX5_init_208 : decode cX5_init 208 = .ok (.aload_n 0, 1) := by decide +kernel
theorem dX5_init_209 : decode cX5_init 209 = .ok (.getfield 20, 3) := by decide +kernel
theorem dX5_init_212 : decode cX5_init 212 = .ok (.bipush 12, 2) := by decide +kernel
theorem dX5_init_214 : decode cX5_init 214 = .ok (.iload_n 1, 1) := by decide +kernel
theorem dX5_init_215 : decode cX5_init 215 = .ok (.imul, 1) := by decide +kernel
theorem dX5_init_216 : decode cX5_init 216 = .ok (.iconst (-1), 1) := by decide +kernel
theorem dX5_init_217 : decode cX5_init 217 = .ok (.iastore, 1) := by decide +kernel
theorem dX5_init_218 : decode cX5_init 218 = .ok (.iinc 1 1, 3) := by decide +kernel
theorem dX5_init_221 : decode cX5_init 221 = .ok (.goto (-64), 3) := by decide +kernel
theorem dX5_init_224 : decode cX5_init 224 = .ok (.return_, 1) := by decide +kernel
theorem dX5_in_0 : decode cX5_in 0 = .ok (.iload_n 0, 1) := by decide +kernel
theorem dX5_in_1 : decode cX5_in 1 = .ok (.ifCond .lt 12, 3) := by decide +kernel
theorem dX5_in_4 : decode cX5_in 4 = .ok (.iload_n 0, 1) := by decide +kernel
theorem dX5_in_5 : decode cX5_in 5 = .ok (.iload_n 1, 1) := by decide +kernel
theorem dX5_in_6 : decode cX5_in 6 = .ok (.if_icmp .ge 7, 3) := by decide +kernel
theorem dX5_in_9 : decode cX5_in 9 = .ok (.iconst 1, 1) := by decide +kernel
theorem dX5_in_10 : decode cX5_in 10 = .ok (.goto 4, 3) := by decide +kernel
theorem dX5_in_13 : decode cX5_in 13 = .ok (.iconst 0, 1) := by decide +kernel
theorem dX5_in_14 : decode cX5_in 14 = .ok (.ireturn, 1) := by decide +kernel
theorem dX5_has_0 : decode cX5_has 0 = .ok (.iload_n 0, 1) := by decide +kernel
theorem dX5_has_1 : decode cX5_has 1 = .ok (.iload_n 1, 1) := by decide +kernel
theorem dX5_has_2 : decode cX5_has 2 = .ok (.ishr, 1) := by decide +kernel
theorem dX5_has_3 : decode cX5_has 3 = .ok (.iconst 1, 1) := by decide +kernel
theorem dX5_has_4 : decode cX5_has 4 = .ok (.iand, 1) := by decide +kernel
theorem dX5_has_5 : decode cX5_has 5 = .ok (.iconst 1, 1) := by decide +kernel
theorem dX5_has_6 : decode cX5_has 6 = .ok (.if_icmp .ne 7, 3) := by decide +kernel
theorem dX5_has_9 : decode cX5_has 9 = .ok (.iconst 1, 1) := by decide +kernel
theorem dX5_has_10 : decode cX5_has 10 = .ok (.goto 4, 3) := by decide +kernel
theorem dX5_has_13 : decode cX5_has 13 = .ok (.iconst 0, 1) := by decide +kernel
theorem dX5_has_14 : decode cX5_has 14 = .ok (.ireturn, 1) := by decide +kernel
theorem dX5_at_0 : decode cX5_at 0 = .ok (.bipush 12, 2) := by decide +kernel
theorem dX5_at_2 : decode cX5_at 2 = .ok (.aload_n 0, 1) := by decide +kernel
theorem dX5_at_3 : decode cX5_at 3 = .ok (.getfield 68, 3) := by decide +kernel
theorem dX5_at_6 : decode cX5_at 6 = .ok (.imul, 1) := by decide +kernel
theorem dX5_at_7 : decode cX5_at 7 = .ok (.iload_n 1, 1) := by decide +kernel
theorem dX5_at_8 : decode cX5_at 8 = .ok (.iadd, 1) := by decide +kernel
theorem dX5_at_9 : decode cX5_at 9 = .ok (.ireturn, 1) := by decide +kernel
theorem dX5_isThere_0 : decode cX5_isThere 0 = .ok (.iload_n 1, 1) := by decide +kernel
theorem dX5_isThere_1 : decode cX5_isThere 1 = .ok (.bipush 12, 2) := by decide +kernel
theorem dX5_isThere_3 : decode cX5_isThere 3 = .ok (.invokestatic 72, 3) := by decide +kernel
theorem dX5_isThere_6 : decode cX5_isThere 6 = .ok (.ifCond .eq 20, 3) := by decide +kernel
theorem dX5_isThere_9 : decode cX5_isThere 9 = .ok (.aload_n 0, 1) := by decide +kernel
theorem dX5_isThere_10 : decode cX5_isThere 10 = .ok (.getfield 7, 3) := by decide +kernel
theorem dX5_isThere_13 : decode cX5_isThere 13 = .ok (.aload_n 0, 1) := by decide +kernel
theorem dX5_isThere_14 : decode cX5_isThere 14 = .ok (.iload_n 1, 1) := by decide +kernel
theorem dX5_isThere_15 : decode cX5_isThere 15 = .ok (.invokevirtual 76, 3) := by decide +kernel
theorem dX5_isThere_18 : decode cX5_isThere 18 = .ok (.baload, 1) := by decide +kernel
theorem dX5_isThere_19 : decode cX5_isThere 19 = .ok (.ifCond .eq 7, 3) := by decide +kernel
theorem dX5_isThere_22 : decode cX5_isThere 22 = .ok (.iconst 1, 1) := by decide +kernel
theorem dX5_isThere_23 : decode cX5_isThere 23 = .ok (.goto 4, 3) := by decide +kernel
theorem dX5_isThere_26 : decode cX5_isThere 26 = .ok (.iconst 0, 1) := by decide +kernel
theorem dX5_isThere_27 : decode cX5_isThere 27 = .ok (.ireturn, 1) := by decide +kernel
theorem dX5_type_0 : decode cX5_type 0 = .ok (.iload_n 1, 1) := by decide +kernel
theorem dX5_type_1 : decode cX5_type 1 = .ok (.ifCond .eq 50, 3) := by decide +kernel
theorem dX5_type_4 : decode cX5_type 4 = .ok (.iload_n 1, 1) := by decide +kernel
theorem dX5_type_5 : decode cX5_type 5 = .ok (.bipush 12, 2) := by decide +kernel
theorem dX5_type_7 : decode cX5_type 7 = .ok (.invokestatic 72, 3) := by decide +kernel
theorem dX5_type_10 : decode cX5_type 10 = .ok (.ifCond .eq 41, 3) := by decide +kernel
theorem dX5_type_13 : decode cX5_type 13 = .ok (.iload_n 2, 1) := by decide +kernel
theorem dX5_type_14 : decode cX5_type 14 = .ok (.bipush 16, 2) := by decide +kernel
theorem dX5_type_16 : decode cX5_type 16 = .ok (.invokestatic 72, 3) := by decide +kernel
theorem dX5_type_19 : decode cX5_type 19 = .ok (.ifCond .eq 32, 3) := by decide +kernel
theorem dX5_type_22 : decode cX5_type 22 = .ok (.iload_n 3, 1) := by decide +kernel
theorem dX5_type_23 : decode cX5_type 23 = .ok (.iconst 4, 1) := by decide +kernel
theorem dX5_type_24 : decode cX5_type 24 = .ok (.invokestatic 72, 3) := by decide +kernel
theorem dX5_type_27 : decode cX5_type 27 = .ok (.ifCond .eq 24, 3) := by decide +kernel
theorem dX5_type_30 : decode cX5_type 30 = .ok (.iload 4, 2) := by decide +kernel
theorem dX5_type_32 : decode cX5_type 32 = .ok (.bipush 12, 2) := by decide +kernel
theorem dX5_type_34 : decode cX5_type 34 = .ok (.invokestatic 72, 3) := by decide +kernel
theorem dX5_type_37 : decode cX5_type 37 = .ok (.ifCond .eq 14, 3) := by decide +kernel
theorem dX5_type_40 : decode cX5_type 40 = .ok (.iload 5, 2) := by decide +kernel
theorem dX5_type_42 : decode cX5_type 42 = .ok (.sipush 4096, 3) := by decide +kernel
theorem dX5_type_45 : decode cX5_type 45 = .ok (.invokestatic 72, 3) := by decide +kernel
theorem dX5_type_48 : decode cX5_type 48 = .ok (.ifCond .ne 5, 3) := by decide +kernel
theorem dX5_type_51 : decode cX5_type 51 = .ok (.iconst 0, 1) := by decide +kernel
theorem dX5_type_52 : decode cX5_type 52 = .ok (.ireturn, 1) := by decide +kernel
theorem dX5_type_53 : decode cX5_type 53 = .ok (.aload_n 0, 1) := by decide +kernel
theorem dX5_type_54 : decode cX5_type 54 = .ok (.iload_n 1, 1) := by decide +kernel
theorem dX5_type_55 : decode cX5_type 55 = .ok (.invokevirtual 76, 3) := by decide +kernel
theorem dX5_type_58 : decode cX5_type 58 = .ok (.istore 6, 2) := by decide +kernel
theorem dX5_type_60 : decode cX5_type 60 = .ok (.aload_n 0, 1) := by decide +kernel
theorem dX5_type_61 : decode cX5_type 61 = .ok (.getfield 7, 3) := by decide +kernel
theorem dX5_type_64 : decode cX5_type 64 = .ok (.iload 6, 2) := by decide +kernel
theorem dX5_type_66 : decode cX5_type 66 = .ok (.iconst 1, 1) := by decide +kernel
theorem dX5_type_67 : decode cX5_type 67 = .ok (.bastore, 1) := by decide +kernel
theorem dX5_type_68 : decode cX5_type 68 = .ok (.aload_n 0, 1) := by decide +kernel
theorem dX5_type_69 : decode cX5_type 69 = .ok (.getfield 13, 3) := by decide +kernel
theorem dX5_type_72 : decode cX5_type 72 = .ok (.iload 6, 2) := by decide +kernel
theorem dX5_type_74 : decode cX5_type 74 = .ok (.iload_n 2, 1) := by decide +kernel
theorem dX5_type_75 : decode cX5_type 75 = .ok (.iastore, 1) := by decide +kernel
theorem dX5_type_76 : decode cX5_type 76 = .ok (.aload_n 0, 1) := by decide +kernel
theorem dX5_type_77 : decode cX5_type 77 = .ok (.getfield 17, 3) := by decide +kernel
theorem dX5_type_80 : decode cX5_type 80 = .ok (.iload 6, 2) := by decide +kernel
theorem dX5_type_82 : decode cX5_type 82 = .ok (.iload_n 3, 1) := by decide +kernel
theorem dX5_type_83 : decode cX5_type 83 = .ok (.iastore, 1) := by decide +kernel
theorem dX5_type_84 : decode cX5_type 84 = .ok (.aload_n 0, 1) := by decide +kernel
theorem dX5_type_85 : decode cX5_type 85 = .ok (.getfield 20, 3) := by decide +kernel
theorem dX5_type_88 : decode cX5_type 88 = .ok (.iload 6, 2) := by decide +kernel
theorem dX5_type_90 : decode cX5_type 90 = .ok (.iload 4, 2) := by decide +kernel
theorem dX5_type_92 : decode cX5_type 92 = .ok (.iastore, 1) := by decide +kernel
theorem dX5_type_93 : decode cX5_type 93 = .ok (.aload_n 0, 1) := by decide +kernel
theorem dX5_type_94 : decode cX5_type 94 = .ok (.getfield 23, 3) := by decide +kernel
theorem dX5_type_97 : decode cX5_type 97 = .ok (.iload 6, 2) := by decide +kernel
theorem dX5_type_99 : decode cX5_type 99 = .ok (.iload 5, 2) := by decide +kernel
theorem dX5_type_101 : decode cX5_type 101 = .ok (.iastore, 1) := by decide +kernel
theorem dX5_type_102 : decode cX5_type 102 = .ok (.aload_n 0, 1) := by decide +kernel
theorem dX5_type_103 : decode cX5_type 103 = .ok (.getfield 26, 3) := by decide +kernel
theorem dX5_type_106 : decode cX5_type 106 = .ok (.iload 6, 2) := by decide +kernel
theorem dX5_type_108 : decode cX5_type 108 = .ok (.iload_n 1, 1) := by decide +kernel
theorem dX5_type_109 : decode cX5_type 109 = .ok (.iastore, 1) := by decide +kernel
theorem dX5_type_110 : decode cX5_type 110 = .ok (.iconst 1, 1) := by decide +kernel
theorem dX5_type_111 : decode cX5_type 111 = .ok (.ireturn, 1) := by decide +kernel
theorem dX5_nest_0 : decode cX5_nest 0 = .ok (.iload_n 1, 1) := by decide +kernel
theorem dX5_nest_1 : decode cX5_nest 1 = .ok (.ifCond .eq 20, 3) := by decide +kernel
theorem dX5_nest_4 : decode cX5_nest 4 = .ok (.aload_n 0, 1) := by decide +kernel
theorem dX5_nest_5 : decode cX5_nest 5 = .ok (.iload_n 1, 1) := by decide +kernel
theorem dX5_nest_6 : decode cX5_nest 6 = .ok (.invokevirtual 80, 3) := by decide +kernel
theorem dX5_nest_9 : decode cX5_nest 9 = .ok (.ifCond .eq 12, 3) := by decide +kernel
theorem dX5_nest_12 : decode cX5_nest 12 = .ok (.iload_n 2, 1) := by decide +kernel
theorem dX5_nest_13 : decode cX5_nest 13 = .ok (.bipush 12, 2) := by decide +kernel
theorem dX5_nest_15 : decode cX5_nest 15 = .ok (.invokestatic 72, 3) := by decide +kernel
theorem dX5_nest_18 : decode cX5_nest 18 = .ok (.ifCond .ne 5, 3) := by decide +kernel
theorem dX5_nest_21 : decode cX5_nest 21 = .ok (.iconst 0, 1) := by decide +kernel
theorem dX5_nest_22 : decode cX5_nest 22 = .ok (.ireturn, 1) := by decide +kernel
theorem dX5_nest_23 : decode cX5_nest 23 = .ok (.aload_n 0, 1) := by decide +kernel
theorem dX5_nest_24 : decode cX5_nest 24 = .ok (.getfield 26, 3) := by decide +kernel
theorem dX5_nest_27 : decode cX5_nest 27 = .ok (.aload_n 0, 1) := by decide +kernel
theorem dX5_nest_28 : decode cX5_nest 28 = .ok (.iload_n 1, 1) := by decide +kernel
theorem dX5_nest_29 : decode cX5_nest 29 = .ok (.invokevirtual 76, 3) := by decide +kernel
theorem dX5_nest_32 : decode cX5_nest 32 = .ok (.iload_n 2, 1) := by decide +kernel
theorem dX5_nest_33 : decode cX5_nest 33 = .ok (.iastore, 1) := by decide +kernel
theorem dX5_nest_34 : decode cX5_nest 34 = .ok (.iconst 1, 1) := by decide +kernel
theorem dX5_nest_35 : decode cX5_nest 35 = .ok (.ireturn, 1) := by decide +kernel
theorem dX5_drop_0 : decode cX5_drop 0 = .ok (.iload_n 1, 1) := by decide +kernel
theorem dX5_drop_1 : decode cX5_drop 1 = .ok (.ifCond .eq 11, 3) := by decide +kernel
theorem dX5_drop_4 : decode cX5_drop 4 = .ok (.aload_n 0, 1) := by decide +kernel
theorem dX5_drop_5 : decode cX5_drop 5 = .ok (.iload_n 1, 1) := by decide +kernel
theorem dX5_drop_6 : decode cX5_drop 6 = .ok (.invokevirtual 80, 3) := by decide +kernel
theorem dX5_drop_9 : decode cX5_drop 9 = .ok (.ifCond .ne 5, 3) := by decide +kernel
theorem dX5_drop_12 : decode cX5_drop 12 = .ok (.iconst 0, 1) := by decide +kernel
theorem dX5_drop_13 : decode cX5_drop 13 = .ok (.ireturn, 1) := by decide +kernel
theorem dX5_drop_14 : decode cX5_drop 14 = .ok (.aload_n 0, 1) := by decide +kernel
theorem dX5_drop_15 : decode cX5_drop 15 = .ok (.getfield 7, 3) := by decide +kernel
theorem dX5_drop_18 : decode cX5_drop 18 = .ok (.aload_n 0, 1) := by decide +kernel
theorem dX5_drop_19 : decode cX5_drop 19 = .ok (.iload_n 1, 1) := by decide +kernel
theorem dX5_drop_20 : decode cX5_drop 20 = .ok (.invokevirtual 76, 3) := by decide +kernel
theorem dX5_drop_23 : decode cX5_drop 23 = .ok (.iconst 0, 1) := by decide +kernel
theorem dX5_drop_24 : decode cX5_drop 24 = .ok (.bastore, 1) := by decide +kernel
theorem dX5_drop_25 : decode cX5_drop 25 = .ok (.bipush 30, 2) := by decide +kernel
theorem dX5_drop_27 : decode cX5_drop 27 = .ok (.aload_n 0, 1) := by decide +kernel
theorem dX5_drop_28 : decode cX5_drop 28 = .ok (.getfield 68, 3) := by decide +kernel
theorem dX5_drop_31 : decode cX5_drop 31 = .ok (.imul, 1) := by decide +kernel
theorem dX5_drop_32 : decode cX5_drop 32 = .ok (.istore_n 2, 1) := by decide +kernel
theorem dX5_drop_33 : decode cX5_drop 33 = .ok (.iload_n 2, 1) := by decide +kernel
theorem dX5_drop_34 : decode cX5_drop 34 = .ok (.bipush 30, 2) := by decide +kernel
theorem dX5_drop_36 : decode cX5_drop 36 = .ok (.aload_n 0, 1) := by decide +kernel
theorem dX5_drop_37 : decode cX5_drop 37 = .ok (.getfield 68, 3) := by decide +kernel
theorem dX5_drop_40 : decode cX5_drop 40 = .ok (.imul, 1) := by decide +kernel
theorem dX5_drop_41 : decode cX5_drop 41 = .ok (.aload_n 0, 1) := by decide +kernel
theorem dX5_drop_42 : decode cX5_drop 42 = .ok (.getfield 35, 3) := by decide +kernel
theorem dX5_drop_45 : decode cX5_drop 45 = .ok (.aload_n 0, 1) := by decide +kernel
theorem dX5_drop_46 : decode cX5_drop 46 = .ok (.getfield 68, 3) := by decide +kernel
theorem dX5_drop_49 : decode cX5_drop 49 = .ok (.iaload, 1) := by decide +kernel
theorem dX5_drop_50 : decode cX5_drop 50 = .ok (.iadd, 1) := by decide +kernel
theorem dX5_drop_51 : decode cX5_drop 51 = .ok (.if_icmp .ge 26, 3) := by decide +kernel
theorem dX5_drop_54 : decode cX5_drop 54 = .ok (.aload_n 0, 1) := by decide +kernel
theorem dX5_drop_55 : decode cX5_drop 55 = .ok (.getfield 38, 3) := by decide +kernel
theorem dX5_drop_58 : decode cX5_drop 58 = .ok (.iload_n 2, 1) := by decide +kernel
theorem dX5_drop_59 : decode cX5_drop 59 = .ok (.iaload, 1) := by decide +kernel
theorem dX5_drop_60 : decode cX5_drop 60 = .ok (.iload_n 1, 1) := by decide +kernel
theorem dX5_drop_61 : decode cX5_drop 61 = .ok (.if_icmp .ne 10, 3) := by decide +kernel
theorem dX5_drop_64 : decode cX5_drop 64 = .ok (.aload_n 0, 1) := by decide +kernel
theorem dX5_drop_65 : decode cX5_drop 65 = .ok (.getfield 32, 3) := by decide +kernel
theorem dX5_drop_68 : decode cX5_drop 68 = .ok (.iload_n 2, 1) := by decide +kernel
theorem dX5_drop_69 : decode cX5_drop 69 = .ok (.iconst 1, 1) := by decide +kernel
theorem dX5_drop_70 : decode cX5_drop 70 = .ok (.bastore, 1) := by decide +kernel
theorem dX5_drop_71 : decode cX5_drop 71 = .ok (.iinc 2 1, 3) := by decide +kernel
theorem dX5_drop_74 : decode cX5_drop 74 = .ok (.goto (-41), 3) := by decide +kernel
theorem dX5_drop_77 : decode cX5_drop 77 = .ok (.iconst 1, 1) := by decide +kernel
theorem dX5_drop_78 : decode cX5_drop 78 = .ok (.ireturn, 1) := by decide +kernel
theorem dX5_own_0 : decode cX5_own 0 = .ok (.iconst 0, 1) := by decide +kernel
theorem dX5_own_1 : decode cX5_own 1 = .ok (.istore 5, 2) := by decide +kernel
theorem dX5_own_3 : decode cX5_own 3 = .ok (.iload 5, 2) := by decide +kernel
theorem dX5_own_5 : decode cX5_own 5 = .ok (.aload_n 0, 1) := by decide +kernel
theorem dX5_own_6 : decode cX5_own 6 = .ok (.getfield 35, 3) := by decide +kernel
theorem dX5_own_9 : decode cX5_own 9 = .ok (.iload_n 1, 1) := by decide +kernel
theorem dX5_own_10 : decode cX5_own 10 = .ok (.iaload, 1) := by decide +kernel
theorem dX5_own_11 : decode cX5_own 11 = .ok (.if_icmp .ge 65, 3) := by decide +kernel
theorem dX5_own_14 : decode cX5_own 14 = .ok (.bipush 30, 2) := by decide +kernel
theorem dX5_own_16 : decode cX5_own 16 = .ok (.iload_n 1, 1) := by decide +kernel
theorem dX5_own_17 : decode cX5_own 17 = .ok (.imul, 1) := by decide +kernel
theorem dX5_own_18 : decode cX5_own 18 = .ok (.iload 5, 2) := by decide +kernel
theorem dX5_own_20 : decode cX5_own 20 = .ok (.iadd, 1) := by decide +kernel
theorem dX5_own_21 : decode cX5_own 21 = .ok (.istore 6, 2) := by decide +kernel
theorem dX5_own_23 : decode cX5_own 23 = .ok (.aload_n 0, 1) := by decide +kernel
theorem dX5_own_24 : decode cX5_own 24 = .ok (.getfield 32, 3) := by decide +kernel
theorem dX5_own_27 : decode cX5_own 27 = .ok (.iload 6, 2) := by decide +kernel
theorem dX5_own_29 : decode cX5_own 29 = .ok (.baload, 1) := by decide +kernel
theorem dX5_own_30 : decode cX5_own 30 = .ok (.ifCond .ne 40, 3) := by decide +kernel
theorem dX5_own_33 : decode cX5_own 33 = .ok (.aload_n 0, 1) := by decide +kernel
theorem dX5_own_34 : decode cX5_own 34 = .ok (.getfield 38, 3) := by decide +kernel
theorem dX5_own_37 : decode cX5_own 37 = .ok (.iload 6, 2) := by decide +kernel
theorem dX5_own_39 : decode cX5_own 39 = .ok (.iaload, 1) := by decide +kernel
theorem dX5_own_40 : decode cX5_own 40 = .ok (.iload_n 2, 1) := by decide +kernel
theorem dX5_own_41 : decode cX5_own 41 = .ok (.if_icmp .ne 29, 3) := by decide +kernel
theorem dX5_own_44 : decode cX5_own 44 = .ok (.aload_n 0, 1) := by decide +kernel
theorem dX5_own_45 : decode cX5_own 45 = .ok (.getfield 29, 3) := by decide +kernel
theorem dX5_own_48 : decode cX5_own 48 = .ok (.iload 6, 2) := by decide +kernel
theorem dX5_own_50 : decode cX5_own 50 = .ok (.baload, 1) := by decide +kernel
theorem dX5_own_51 : decode cX5_own 51 = .ok (.iload_n 3, 1) := by decide +kernel
theorem dX5_own_52 : decode cX5_own 52 = .ok (.if_icmp .ne 18, 3) := by decide +kernel
theorem dX5_own_55 : decode cX5_own 55 = .ok (.aload_n 0, 1) := by decide +kernel
theorem dX5_own_56 : decode cX5_own 56 = .ok (.getfield 41, 3) := by decide +kernel
theorem dX5_own_59 : decode cX5_own 59 = .ok (.iload 6, 2) := by decide +kernel
theorem dX5_own_61 : decode cX5_own 61 = .ok (.iaload, 1) := by decide +kernel
theorem dX5_own_62 : decode cX5_own 62 = .ok (.iload 4, 2) := by decide +kernel
theorem dX5_own_64 : decode cX5_own 64 = .ok (.if_icmp .ne 6, 3) := by decide +kernel
theorem dX5_own_67 : decode cX5_own 67 = .ok (.iload 5, 2) := by decide +kernel
theorem dX5_own_69 : decode cX5_own 69 = .ok (.ireturn, 1) := by decide +kernel
theorem dX5_own_70 : decode cX5_own 70 = .ok (.iinc 5 1, 3) := by decide +kernel
theorem dX5_own_73 : decode cX5_own 73 = .ok (.goto (-70), 3) := by decide +kernel
theorem dX5_own_76 : decode cX5_own 76 = .ok (.iconst (-1), 1) := by decide +kernel
theorem dX5_own_77 : decode cX5_own 77 = .ok (.ireturn, 1) := by decide +kernel
theorem dX5_member_0 : decode cX5_member 0 = .ok (.aload_n 0, 1) := by decide +kernel
theorem dX5_member_1 : decode cX5_member 1 = .ok (.iload_n 1, 1) := by decide +kernel
theorem dX5_member_2 : decode cX5_member 2 = .ok (.invokevirtual 80, 3) := by decide +kernel
theorem dX5_member_5 : decode cX5_member 5 = .ok (.ifCond .eq 45, 3) := by decide +kernel
theorem dX5_member_8 : decode cX5_member 8 = .ok (.iload_n 3, 1) := by decide +kernel
theorem dX5_member_9 : decode cX5_member 9 = .ok (.bipush 15, 2) := by decide +kernel
theorem dX5_member_11 : decode cX5_member 11 = .ok (.invokestatic 72, 3) := by decide +kernel
theorem dX5_member_14 : decode cX5_member 14 = .ok (.ifCond .eq 36, 3) := by decide +kernel
theorem dX5_member_17 : decode cX5_member 17 = .ok (.iload 4, 2) := by decide +kernel
theorem dX5_member_19 : decode cX5_member 19 = .ok (.iconst 4, 1) := by decide +kernel
theorem dX5_member_20 : decode cX5_member 20 = .ok (.invokestatic 72, 3) := by decide +kernel
theorem dX5_member_23 : decode cX5_member 23 = .ok (.ifCond .eq 27, 3) := by decide +kernel
theorem dX5_member_26 : decode cX5_member 26 = .ok (.iload 5, 2) := by decide +kernel
theorem dX5_member_28 : decode cX5_member 28 = .ok (.bipush 8, 2) := by decide +kernel
theorem dX5_member_30 : decode cX5_member 30 = .ok (.invokestatic 72, 3) := by decide +kernel
theorem dX5_member_33 : decode cX5_member 33 = .ok (.ifCond .eq 17, 3) := by decide +kernel
theorem dX5_member_36 : decode cX5_member 36 = .ok (.aload_n 0, 1) := by decide +kernel
theorem dX5_member_37 : decode cX5_member 37 = .ok (.aload_n 0, 1) := by decide +kernel
theorem dX5_member_38 : decode cX5_member 38 = .ok (.getfield 68, 3) := by decide +kernel
theorem dX5_member_41 : decode cX5_member 41 = .ok (.iload_n 1, 1) := by decide +kernel
theorem dX5_member_42 : decode cX5_member 42 = .ok (.iload_n 2, 1) := by decide +kernel
theorem dX5_member_43 : decode cX5_member 43 = .ok (.iload_n 3, 1) := by decide +kernel
theorem dX5_member_44 : decode cX5_member 44 = .ok (.invokevirtual 84, 3) := by decide +kernel
theorem dX5_member_47 : decode cX5_member 47 = .ok (.ifCond .lt 5, 3) := by decide +kernel
theorem dX5_member_50 : decode cX5_member 50 = .ok (.iconst (-1), 1) := by decide +kernel
theorem dX5_member_51 : decode cX5_member 51 = .ok (.ireturn, 1) := by decide +kernel
theorem dX5_member_52 : decode cX5_member 52 = .ok (.aload_n 0, 1) := by decide +kernel
theorem dX5_member_53 : decode cX5_member 53 = .ok (.getfield 35, 3) := by decide +kernel
theorem dX5_member_56 : decode cX5_member 56 = .ok (.aload_n 0, 1) := by decide +kernel
theorem dX5_member_57 : decode cX5_member 57 = .ok (.getfield 68, 3) := by decide +kernel
theorem dX5_member_60 : decode cX5_member 60 = .ok (.iaload, 1) := by decide +kernel
theorem dX5_member_61 : decode cX5_member 61 = .ok (.bipush 30, 2) := by decide +kernel
theorem dX5_member_63 : decode cX5_member 63 = .ok (.if_icmp .ne 6, 3) := by decide +kernel
theorem dX5_member_66 : decode cX5_member 66 = .ok (.bipush (-3), 2) := by decide +kernel
theorem dX5_member_68 : decode cX5_member 68 = .ok (.ireturn, 1) := by decide +kernel
theorem dX5_member_69 : decode cX5_member 69 = .ok (.bipush 30, 2) := by decide +kernel
theorem dX5_member_71 : decode cX5_member 71 = .ok (.aload_n 0, 1) := by decide +kernel
theorem dX5_member_72 : decode cX5_member 72 = .ok (.getfield 68, 3) := by decide +kernel
theorem dX5_member_75 : decode cX5_member 75 = .ok (.imul, 1) := by decide +kernel
theorem dX5_member_76 : decode cX5_member 76 = .ok (.aload_n 0, 1) := by decide +kernel
theorem dX5_member_77 : decode cX5_member 77 = .ok (.getfield 35, 3) := by decide +kernel
theorem dX5_member_80 : decode cX5_member 80 = .ok (.aload_n 0, 1) := by decide +kernel
theorem dX5_member_81 : decode cX5_member 81 = .ok (.getfield 68, 3) := by decide +kernel
theorem dX5_member_84 : decode cX5_member 84 = .ok (.iaload, 1) := by decide +kernel
theorem dX5_member_85 : decode cX5_member 85 = .ok (.iadd, 1) := by decide +kernel
theorem dX5_member_86 : decode cX5_member 86 = .ok (.istore 6, 2) := by decide +kernel
theorem dX5_member_88 : decode cX5_member 88 = .ok (.aload_n 0, 1) := by decide +kernel
theorem dX5_member_89 : decode cX5_member 89 = .ok (.getfield 32, 3) := by decide +kernel
theorem dX5_member_92 : decode cX5_member 92 = .ok (.iload 6, 2) := by decide +kernel
theorem dX5_member_94 : decode cX5_member 94 = .ok (.iconst 0, 1) := by decide +kernel
theorem dX5_member_95 : decode cX5_member 95 = .ok (.bastore, 1) := by decide +kernel
theorem dX5_member_96 : decode cX5_member 96 = .ok (.aload_n 0, 1) := by decide +kernel
theorem dX5_member_97 : decode cX5_member 97 = .ok (.getfield 38, 3) := by decide +kernel
theorem dX5_member_100 : decode cX5_member 100 = .ok (.iload 6, 2) := by decide +kernel
theorem dX5_member_102 : decode cX5_member 102 = .ok (.iload_n 1, 1) := by decide +kernel
theorem dX5_member_103 : decode cX5_member 103 = .ok (.iastore, 1) := by decide +kernel
theorem dX5_member_104 : decode cX5_member 104 = .ok (.aload_n 0, 1) := by decide +kernel
theorem dX5_member_105 : decode cX5_member 105 = .ok (.getfield 29, 3) := by decide +kernel
theorem dX5_member_108 : decode cX5_member 108 = .ok (.iload 6, 2) := by decide +kernel
theorem dX5_member_110 : decode cX5_member 110 = .ok (.iload_n 2, 1) := by decide +kernel
theorem dX5_member_111 : decode cX5_member 111 = .ok (.bastore, 1) := by decide +kernel
theorem dX5_member_112 : decode cX5_member 112 = .ok (.aload_n 0, 1) := by decide +kernel
theorem dX5_member_113 : decode cX5_member 113 = .ok (.getfield 41, 3) := by decide +kernel
theorem dX5_member_116 : decode cX5_member 116 = .ok (.iload 6, 2) := by decide +kernel
theorem dX5_member_118 : decode cX5_member 118 = .ok (.iload_n 3, 1) := by decide +kernel
theorem dX5_member_119 : decode cX5_member 119 = .ok (.iastore, 1) := by decide +kernel
theorem dX5_member_120 : decode cX5_member 120 = .ok (.aload_n 0, 1) := by decide +kernel
theorem dX5_member_121 : decode cX5_member 121 = .ok (.getfield 44, 3) := by decide +kernel
theorem dX5_member_124 : decode cX5_member 124 = .ok (.iload 6, 2) := by decide +kernel
theorem dX5_member_126 : decode cX5_member 126 = .ok (.iload 4, 2) := by decide +kernel
theorem dX5_member_128 : decode cX5_member 128 = .ok (.iastore, 1) := by decide +kernel
theorem dX5_member_129 : decode cX5_member 129 = .ok (.aload_n 0, 1) := by decide +kernel
theorem dX5_member_130 : decode cX5_member 130 = .ok (.getfield 47, 3) := by decide +kernel
theorem dX5_member_133 : decode cX5_member 133 = .ok (.iload 6, 2) := by decide +kernel
theorem dX5_member_135 : decode cX5_member 135 = .ok (.iload 5, 2) := by decide +kernel
theorem dX5_member_137 : decode cX5_member 137 = .ok (.iastore, 1) := by decide +kernel
theorem dX5_member_138 : decode cX5_member 138 = .ok (.aload_n 0, 1) := by decide +kernel
theorem dX5_member_139 : decode cX5_member 139 = .ok (.getfield 35, 3) := by decide +kernel
theorem dX5_member_142 : decode cX5_member 142 = .ok (.aload_n 0, 1) := by decide +kernel
theorem dX5_member_143 : decode cX5_member 143 = .ok (.getfield 68, 3) := by decide +kernel
theorem dX5_member_146 : decode cX5_member 146 = .ok (.dup2, 1) := by decide +kernel
theorem dX5_member_147 : decode cX5_member 147 = .ok (.iaload, 1) := by decide +kernel
theorem dX5_member_148 : decode cX5_member 148 = .ok (.iconst 1, 1) := by decide +kernel
theorem dX5_member_149 : decode cX5_member 149 = .ok (.iadd, 1) := by decide +kernel
theorem dX5_member_150 : decode cX5_member 150 = .ok (.iastore, 1) := by decide +kernel
theorem dX5_member_151 : decode cX5_member 151 = .ok (.aload_n 0, 1) := by decide +kernel
theorem dX5_member_152 : decode cX5_member 152 = .ok (.getfield 35, 3) := by decide +kernel
theorem dX5_member_155 : decode cX5_member 155 = .ok (.aload_n 0, 1) := by decide +kernel
theorem dX5_member_156 : decode cX5_member 156 = .ok (.getfield 68, 3) := by decide +kernel
theorem dX5_member_159 : decode cX5_member 159 = .ok (.iaload, 1) := by decide +kernel
theorem dX5_member_160 : decode cX5_member 160 = .ok (.iconst 1, 1) := by decide +kernel
theorem dX5_member_161 : decode cX5_member 161 = .ok (.isub, 1) := by decide +kernel
theorem dX5_member_162 : decode cX5_member 162 = .ok (.ireturn, 1) := by decide +kernel
theorem dX5_isMember_0 : decode cX5_isMember 0 = .ok (.iload_n 1, 1) := by decide +kernel
theorem dX5_isMember_1 : decode cX5_isMember 1 = .ok (.aload_n 0, 1) := by decide +kernel
theorem dX5_isMember_2 : decode cX5_isMember 2 = .ok (.getfield 35, 3) := by decide +kernel
theorem dX5_isMember_5 : decode cX5_isMember 5 = .ok (.aload_n 0, 1) := by decide +kernel
theorem dX5_isMember_6 : decode cX5_isMember 6 = .ok (.getfield 68, 3) := by decide +kernel
theorem dX5_isMember_9 : decode cX5_isMember 9 = .ok (.iaload, 1) := by decide +kernel
theorem dX5_isMember_10 : decode cX5_isMember 10 = .ok (.invokestatic 72, 3) := by decide +kernel
theorem dX5_isMember_13 : decode cX5_isMember 13 = .ok (.ifCond .eq 24, 3) := by decide +kernel
theorem dX5_isMember_16 : decode cX5_isMember 16 = .ok (.aload_n 0, 1) := by decide +kernel
theorem dX5_isMember_17 : decode cX5_isMember 17 = .ok (.getfield 32, 3) := by decide +kernel
theorem dX5_isMember_20 : decode cX5_isMember 20 = .ok (.bipush 30, 2) := by decide +kernel
theorem dX5_isMember_22 : decode cX5_isMember 22 = .ok (.aload_n 0, 1) := by decide +kernel
theorem dX5_isMember_23 : decode cX5_isMember 23 = .ok (.getfield 68, 3) := by decide +kernel
theorem dX5_isMember_26 : decode cX5_isMember 26 = .ok (.imul, 1) := by decide +kernel
theorem dX5_isMember_27 : decode cX5_isMember 27 = .ok (.iload_n 1, 1) := by decide +kernel
theorem dX5_isMember_28 : decode cX5_isMember 28 = .ok (.iadd, 1) := by decide +kernel
theorem dX5_isMember_29 : decode cX5_isMember 29 = .ok (.baload, 1) := by decide +kernel
theorem dX5_isMember_30 : decode cX5_isMember 30 = .ok (.ifCond .ne 7, 3) := by decide +kernel
theorem dX5_isMember_33 : decode cX5_isMember 33 = .ok (.iconst 1, 1) := by decide +kernel
theorem dX5_isMember_34 : decode cX5_isMember 34 = .ok (.goto 4, 3) := by decide +kernel
theorem dX5_isMember_37 : decode cX5_isMember 37 = .ok (.iconst 0, 1) := by decide +kernel
theorem dX5_isMember_38 : decode cX5_isMember 38 = .ok (.ireturn, 1) := by decide +kernel
theorem dX5_remake_0 : decode cX5_remake 0 = .ok (.aload_n 0, 1) := by decide +kernel
theorem dX5_remake_1 : decode cX5_remake 1 = .ok (.iload_n 1, 1) := by decide +kernel
theorem dX5_remake_2 : decode cX5_remake 2 = .ok (.invokevirtual 88, 3) := by decide +kernel
theorem dX5_remake_5 : decode cX5_remake 5 = .ok (.ifCond .eq 20, 3) := by decide +kernel
theorem dX5_remake_8 : decode cX5_remake 8 = .ok (.iload_n 2, 1) := by decide +kernel
theorem dX5_remake_9 : decode cX5_remake 9 = .ok (.iconst 4, 1) := by decide +kernel
theorem dX5_remake_10 : decode cX5_remake 10 = .ok (.invokestatic 72, 3) := by decide +kernel
theorem dX5_remake_13 : decode cX5_remake 13 = .ok (.ifCond .eq 12, 3) := by decide +kernel
theorem dX5_remake_16 : decode cX5_remake 16 = .ok (.iload_n 3, 1) := by decide +kernel
theorem dX5_remake_17 : decode cX5_remake 17 = .ok (.bipush 8, 2) := by decide +kernel
theorem dX5_remake_19 : decode cX5_remake 19 = .ok (.invokestatic 72, 3) := by decide +kernel
theorem dX5_remake_22 : decode cX5_remake 22 = .ok (.ifCond .ne 5, 3) := by decide +kernel
theorem dX5_remake_25 : decode cX5_remake 25 = .ok (.iconst 0, 1) := by decide +kernel
theorem dX5_remake_26 : decode cX5_remake 26 = .ok (.ireturn, 1) := by decide +kernel
theorem dX5_remake_27 : decode cX5_remake 27 = .ok (.aload_n 0, 1) := by decide +kernel
theorem dX5_remake_28 : decode cX5_remake 28 = .ok (.getfield 44, 3) := by decide +kernel
theorem dX5_remake_31 : decode cX5_remake 31 = .ok (.bipush 30, 2) := by decide +kernel
theorem dX5_remake_33 : decode cX5_remake 33 = .ok (.aload_n 0, 1) := by decide +kernel
theorem dX5_remake_34 : decode cX5_remake 34 = .ok (.getfield 68, 3) := by decide +kernel
theorem dX5_remake_37 : decode cX5_remake 37 = .ok (.imul, 1) := by decide +kernel
theorem dX5_remake_38 : decode cX5_remake 38 = .ok (.iload_n 1, 1) := by decide +kernel
theorem dX5_remake_39 : decode cX5_remake 39 = .ok (.iadd, 1) := by decide +kernel
theorem dX5_remake_40 : decode cX5_remake 40 = .ok (.iload_n 2, 1) := by decide +kernel
theorem dX5_remake_41 : decode cX5_remake 41 = .ok (.iastore, 1) := by decide +kernel
theorem dX5_remake_42 : decode cX5_remake 42 = .ok (.aload_n 0, 1) := by decide +kernel
theorem dX5_remake_43 : decode cX5_remake 43 = .ok (.getfield 47, 3) := by decide +kernel
theorem dX5_remake_46 : decode cX5_remake 46 = .ok (.bipush 30, 2) := by decide +kernel
theorem dX5_remake_48 : decode cX5_remake 48 = .ok (.aload_n 0, 1) := by decide +kernel
theorem dX5_remake_49 : decode cX5_remake 49 = .ok (.getfield 68, 3) := by decide +kernel
theorem dX5_remake_52 : decode cX5_remake 52 = .ok (.imul, 1) := by decide +kernel
theorem dX5_remake_53 : decode cX5_remake 53 = .ok (.iload_n 1, 1) := by decide +kernel
theorem dX5_remake_54 : decode cX5_remake 54 = .ok (.iadd, 1) := by decide +kernel
theorem dX5_remake_55 : decode cX5_remake 55 = .ok (.iload_n 3, 1) := by decide +kernel
theorem dX5_remake_56 : decode cX5_remake 56 = .ok (.iastore, 1) := by decide +kernel
theorem dX5_remake_57 : decode cX5_remake 57 = .ok (.iconst 1, 1) := by decide +kernel
theorem dX5_remake_58 : decode cX5_remake 58 = .ok (.ireturn, 1) := by decide +kernel
theorem dX5_remove_0 : decode cX5_remove 0 = .ok (.aload_n 0, 1) := by decide +kernel
theorem dX5_remove_1 : decode cX5_remove 1 = .ok (.iload_n 1, 1) := by decide +kernel
theorem dX5_remove_2 : decode cX5_remove 2 = .ok (.invokevirtual 88, 3) := by decide +kernel
theorem dX5_remove_5 : decode cX5_remove 5 = .ok (.ifCond .ne 5, 3) := by decide +kernel
theorem dX5_remove_8 : decode cX5_remove 8 = .ok (.iconst 0, 1) := by decide +kernel
theorem dX5_remove_9 : decode cX5_remove 9 = .ok (.ireturn, 1) := by decide +kernel
theorem dX5_remove_10 : decode cX5_remove 10 = .ok (.aload_n 0, 1) := by decide +kernel
theorem dX5_remove_11 : decode cX5_remove 11 = .ok (.getfield 32, 3) := by decide +kernel
theorem dX5_remove_14 : decode cX5_remove 14 = .ok (.bipush 30, 2) := by decide +kernel
theorem dX5_remove_16 : decode cX5_remove 16 = .ok (.aload_n 0, 1) := by decide +kernel
theorem dX5_remove_17 : decode cX5_remove 17 = .ok (.getfield 68, 3) := by decide +kernel
theorem dX5_remove_20 : decode cX5_remove 20 = .ok (.imul, 1) := by decide +kernel
theorem dX5_remove_21 : decode cX5_remove 21 = .ok (.iload_n 1, 1) := by decide +kernel
theorem dX5_remove_22 : decode cX5_remove 22 = .ok (.iadd, 1) := by decide +kernel
theorem dX5_remove_23 : decode cX5_remove 23 = .ok (.iconst 1, 1) := by decide +kernel
theorem dX5_remove_24 : decode cX5_remove 24 = .ok (.bastore, 1) := by decide +kernel
theorem dX5_remove_25 : decode cX5_remove 25 = .ok (.iconst 1, 1) := by decide +kernel
theorem dX5_remove_26 : decode cX5_remove 26 = .ok (.ireturn, 1) := by decide +kernel
theorem dX5_branch_0 : decode cX5_branch 0 = .ok (.iconst 0, 1) := by decide +kernel
theorem dX5_branch_1 : decode cX5_branch 1 = .ok (.istore_n 1, 1) := by decide +kernel
theorem dX5_branch_2 : decode cX5_branch 2 = .ok (.iconst 0, 1) := by decide +kernel
theorem dX5_branch_3 : decode cX5_branch 3 = .ok (.istore_n 2, 1) := by decide +kernel
theorem dX5_branch_4 : decode cX5_branch 4 = .ok (.iload_n 2, 1) := by decide +kernel
theorem dX5_branch_5 : decode cX5_branch 5 = .ok (.bipush 12, 2) := by decide +kernel
theorem dX5_branch_7 : decode cX5_branch 7 = .ok (.if_icmp .ge 111, 3) := by decide +kernel
theorem dX5_branch_10 : decode cX5_branch 10 = .ok (.aload_n 0, 1) := by decide +kernel
theorem dX5_branch_11 : decode cX5_branch 11 = .ok (.getfield 7, 3) := by decide +kernel
theorem dX5_branch_14 : decode cX5_branch 14 = .ok (.bipush 12, 2) := by decide +kernel
theorem dX5_branch_16 : decode cX5_branch 16 = .ok (.iload_n 2, 1) := by decide +kernel
theorem dX5_branch_17 : decode cX5_branch 17 = .ok (.iadd, 1) := by decide +kernel
theorem dX5_branch_18 : decode cX5_branch 18 = .ok (.aload_n 0, 1) := by decide +kernel
theorem dX5_branch_19 : decode cX5_branch 19 = .ok (.getfield 7, 3) := by decide +kernel
theorem dX5_branch_22 : decode cX5_branch 22 = .ok (.iload_n 2, 1) := by decide +kernel
theorem dX5_branch_23 : decode cX5_branch 23 = .ok (.baload, 1) := by decide +kernel
theorem dX5_branch_24 : decode cX5_branch 24 = .ok (.bastore, 1) := by decide +kernel
theorem dX5_branch_25 : decode cX5_branch 25 = .ok (.aload_n 0, 1) := by decide +kernel
theorem dX5_branch_26 : decode cX5_branch 26 = .ok (.getfield 13, 3) := by decide +kernel
theorem dX5_branch_29 : decode cX5_branch 29 = .ok (.bipush 12, 2) := by decide +kernel
theorem dX5_branch_31 : decode cX5_branch 31 = .ok (.iload_n 2, 1) := by decide +kernel
theorem dX5_branch_32 : decode cX5_branch 32 = .ok (.iadd, 1) := by decide +kernel
theorem dX5_branch_33 : decode cX5_branch 33 = .ok (.aload_n 0, 1) := by decide +kernel
theorem dX5_branch_34 : decode cX5_branch 34 = .ok (.getfield 13, 3) := by decide +kernel
theorem dX5_branch_37 : decode cX5_branch 37 = .ok (.iload_n 2, 1) := by decide +kernel
theorem dX5_branch_38 : decode cX5_branch 38 = .ok (.iaload, 1) := by decide +kernel
theorem dX5_branch_39 : decode cX5_branch 39 = .ok (.iastore, 1) := by decide +kernel
theorem dX5_branch_40 : decode cX5_branch 40 = .ok (.aload_n 0, 1) := by decide +kernel
theorem dX5_branch_41 : decode cX5_branch 41 = .ok (.getfield 17, 3) := by decide +kernel
theorem dX5_branch_44 : decode cX5_branch 44 = .ok (.bipush 12, 2) := by decide +kernel
theorem dX5_branch_46 : decode cX5_branch 46 = .ok (.iload_n 2, 1) := by decide +kernel
theorem dX5_branch_47 : decode cX5_branch 47 = .ok (.iadd, 1) := by decide +kernel
theorem dX5_branch_48 : decode cX5_branch 48 = .ok (.aload_n 0, 1) := by decide +kernel
theorem dX5_branch_49 : decode cX5_branch 49 = .ok (.getfield 17, 3) := by decide +kernel
theorem dX5_branch_52 : decode cX5_branch 52 = .ok (.iload_n 2, 1) := by decide +kernel
theorem dX5_branch_53 : decode cX5_branch 53 = .ok (.iaload, 1) := by decide +kernel
theorem dX5_branch_54 : decode cX5_branch 54 = .ok (.iastore, 1) := by decide +kernel
theorem dX5_branch_55 : decode cX5_branch 55 = .ok (.aload_n 0, 1) := by decide +kernel
theorem dX5_branch_56 : decode cX5_branch 56 = .ok (.getfield 20, 3) := by decide +kernel
theorem dX5_branch_59 : decode cX5_branch 59 = .ok (.bipush 12, 2) := by decide +kernel
theorem dX5_branch_61 : decode cX5_branch 61 = .ok (.iload_n 2, 1) := by decide +kernel
theorem dX5_branch_62 : decode cX5_branch 62 = .ok (.iadd, 1) := by decide +kernel
theorem dX5_branch_63 : decode cX5_branch 63 = .ok (.aload_n 0, 1) := by decide +kernel
theorem dX5_branch_64 : decode cX5_branch 64 = .ok (.getfield 20, 3) := by decide +kernel
theorem dX5_branch_67 : decode cX5_branch 67 = .ok (.iload_n 2, 1) := by decide +kernel
theorem dX5_branch_68 : decode cX5_branch 68 = .ok (.iaload, 1) := by decide +kernel
theorem dX5_branch_69 : decode cX5_branch 69 = .ok (.iastore, 1) := by decide +kernel
theorem dX5_branch_70 : decode cX5_branch 70 = .ok (.aload_n 0, 1) := by decide +kernel
theorem dX5_branch_71 : decode cX5_branch 71 = .ok (.getfield 23, 3) := by decide +kernel
theorem dX5_branch_74 : decode cX5_branch 74 = .ok (.bipush 12, 2) := by decide +kernel
theorem dX5_branch_76 : decode cX5_branch 76 = .ok (.iload_n 2, 1) := by decide +kernel
theorem dX5_branch_77 : decode cX5_branch 77 = .ok (.iadd, 1) := by decide +kernel
theorem dX5_branch_78 : decode cX5_branch 78 = .ok (.aload_n 0, 1) := by decide +kernel
theorem dX5_branch_79 : decode cX5_branch 79 = .ok (.getfield 23, 3) := by decide +kernel
theorem dX5_branch_82 : decode cX5_branch 82 = .ok (.iload_n 2, 1) := by decide +kernel
theorem dX5_branch_83 : decode cX5_branch 83 = .ok (.iaload, 1) := by decide +kernel
theorem dX5_branch_84 : decode cX5_branch 84 = .ok (.iastore, 1) := by decide +kernel
theorem dX5_branch_85 : decode cX5_branch 85 = .ok (.aload_n 0, 1) := by decide +kernel
theorem dX5_branch_86 : decode cX5_branch 86 = .ok (.getfield 26, 3) := by decide +kernel
theorem dX5_branch_89 : decode cX5_branch 89 = .ok (.bipush 12, 2) := by decide +kernel
theorem dX5_branch_91 : decode cX5_branch 91 = .ok (.iload_n 2, 1) := by decide +kernel
theorem dX5_branch_92 : decode cX5_branch 92 = .ok (.iadd, 1) := by decide +kernel
theorem dX5_branch_93 : decode cX5_branch 93 = .ok (.aload_n 0, 1) := by decide +kernel
theorem dX5_branch_94 : decode cX5_branch 94 = .ok (.getfield 26, 3) := by decide +kernel
theorem dX5_branch_97 : decode cX5_branch 97 = .ok (.iload_n 2, 1) := by decide +kernel
theorem dX5_branch_98 : decode cX5_branch 98 = .ok (.iaload, 1) := by decide +kernel
theorem dX5_branch_99 : decode cX5_branch 99 = .ok (.iastore, 1) := by decide +kernel
theorem dX5_branch_100 : decode cX5_branch 100 = .ok (.aload_n 0, 1) := by decide +kernel
theorem dX5_branch_101 : decode cX5_branch 101 = .ok (.getfield 7, 3) := by decide +kernel
theorem dX5_branch_104 : decode cX5_branch 104 = .ok (.iload_n 2, 1) := by decide +kernel
theorem dX5_branch_105 : decode cX5_branch 105 = .ok (.baload, 1) := by decide +kernel
theorem dX5_branch_106 : decode cX5_branch 106 = .ok (.ifCond .eq 6, 3) := by decide +kernel
theorem dX5_branch_109 : decode cX5_branch 109 = .ok (.iinc 1 1, 3) := by decide +kernel
theorem dX5_branch_112 : decode cX5_branch 112 = .ok (.iinc 2 1, 3) := by decide +kernel
theorem dX5_branch_115 : decode cX5_branch 115 = .ok (.goto (-111), 3) := by decide +kernel
theorem dX5_branch_118 : decode cX5_branch 118 = .ok (.iconst 0, 1) := by decide +kernel
theorem dX5_branch_119 : decode cX5_branch 119 = .ok (.istore_n 2, 1) := by decide +kernel
theorem dX5_branch_120 : decode cX5_branch 120 = .ok (.iload_n 2, 1) := by decide +kernel
theorem dX5_branch_121 : decode cX5_branch 121 = .ok (.aload_n 0, 1) := by decide +kernel
theorem dX5_branch_122 : decode cX5_branch 122 = .ok (.getfield 35, 3) := by decide +kernel
theorem dX5_branch_125 : decode cX5_branch 125 = .ok (.iconst 0, 1) := by decide +kernel
theorem dX5_branch_126 : decode cX5_branch 126 = .ok (.iaload, 1) := by decide +kernel
theorem dX5_branch_127 : decode cX5_branch 127 = .ok (.if_icmp .ge 99, 3) := by decide +kernel
theorem dX5_branch_130 : decode cX5_branch 130 = .ok (.aload_n 0, 1) := by decide +kernel
theorem dX5_branch_131 : decode cX5_branch 131 = .ok (.getfield 32, 3) := by decide +kernel
theorem dX5_branch_134 : decode cX5_branch 134 = .ok (.bipush 30, 2) := by decide +kernel
theorem dX5_branch_136 : decode cX5_branch 136 = .ok (.iload_n 2, 1) := by decide +kernel
theorem dX5_branch_137 : decode cX5_branch 137 = .ok (.iadd, 1) := by decide +kernel
theorem dX5_branch_138 : decode cX5_branch 138 = .ok (.aload_n 0, 1) := by decide +kernel
theorem dX5_branch_139 : decode cX5_branch 139 = .ok (.getfield 32, 3) := by decide +kernel
theorem dX5_branch_142 : decode cX5_branch 142 = .ok (.iload_n 2, 1) := by decide +kernel
theorem dX5_branch_143 : decode cX5_branch 143 = .ok (.baload, 1) := by decide +kernel
theorem dX5_branch_144 : decode cX5_branch 144 = .ok (.bastore, 1) := by decide +kernel
theorem dX5_branch_145 : decode cX5_branch 145 = .ok (.aload_n 0, 1) := by decide +kernel
theorem dX5_branch_146 : decode cX5_branch 146 = .ok (.getfield 38, 3) := by decide +kernel
theorem dX5_branch_149 : decode cX5_branch 149 = .ok (.bipush 30, 2) := by decide +kernel
theorem dX5_branch_151 : decode cX5_branch 151 = .ok (.iload_n 2, 1) := by decide +kernel
theorem dX5_branch_152 : decode cX5_branch 152 = .ok (.iadd, 1) := by decide +kernel
theorem dX5_branch_153 : decode cX5_branch 153 = .ok (.aload_n 0, 1) := by decide +kernel
theorem dX5_branch_154 : decode cX5_branch 154 = .ok (.getfield 38, 3) := by decide +kernel
theorem dX5_branch_157 : decode cX5_branch 157 = .ok (.iload_n 2, 1) := by decide +kernel
theorem dX5_branch_158 : decode cX5_branch 158 = .ok (.iaload, 1) := by decide +kernel
theorem dX5_branch_159 : decode cX5_branch 159 = .ok (.iastore, 1) := by decide +kernel
theorem dX5_branch_160 : decode cX5_branch 160 = .ok (.aload_n 0, 1) := by decide +kernel
theorem dX5_branch_161 : decode cX5_branch 161 = .ok (.getfield 29, 3) := by decide +kernel
theorem dX5_branch_164 : decode cX5_branch 164 = .ok (.bipush 30, 2) := by decide +kernel
theorem dX5_branch_166 : decode cX5_branch 166 = .ok (.iload_n 2, 1) := by decide +kernel
theorem dX5_branch_167 : decode cX5_branch 167 = .ok (.iadd, 1) := by decide +kernel
theorem dX5_branch_168 : decode cX5_branch 168 = .ok (.aload_n 0, 1) := by decide +kernel
theorem dX5_branch_169 : decode cX5_branch 169 = .ok (.getfield 29, 3) := by decide +kernel
theorem dX5_branch_172 : decode cX5_branch 172 = .ok (.iload_n 2, 1) := by decide +kernel
theorem dX5_branch_173 : decode cX5_branch 173 = .ok (.baload, 1) := by decide +kernel
theorem dX5_branch_174 : decode cX5_branch 174 = .ok (.bastore, 1) := by decide +kernel
theorem dX5_branch_175 : decode cX5_branch 175 = .ok (.aload_n 0, 1) := by decide +kernel
theorem dX5_branch_176 : decode cX5_branch 176 = .ok (.getfield 41, 3) := by decide +kernel
theorem dX5_branch_179 : decode cX5_branch 179 = .ok (.bipush 30, 2) := by decide +kernel
theorem dX5_branch_181 : decode cX5_branch 181 = .ok (.iload_n 2, 1) := by decide +kernel
theorem dX5_branch_182 : decode cX5_branch 182 = .ok (.iadd, 1) := by decide +kernel
theorem dX5_branch_183 : decode cX5_branch 183 = .ok (.aload_n 0, 1) := by decide +kernel
theorem dX5_branch_184 : decode cX5_branch 184 = .ok (.getfield 41, 3) := by decide +kernel
theorem dX5_branch_187 : decode cX5_branch 187 = .ok (.iload_n 2, 1) := by decide +kernel
theorem dX5_branch_188 : decode cX5_branch 188 = .ok (.iaload, 1) := by decide +kernel
theorem dX5_branch_189 : decode cX5_branch 189 = .ok (.iastore, 1) := by decide +kernel
theorem dX5_branch_190 : decode cX5_branch 190 = .ok (.aload_n 0, 1) := by decide +kernel
theorem dX5_branch_191 : decode cX5_branch 191 = .ok (.getfield 44, 3) := by decide +kernel
theorem dX5_branch_194 : decode cX5_branch 194 = .ok (.bipush 30, 2) := by decide +kernel
theorem dX5_branch_196 : decode cX5_branch 196 = .ok (.iload_n 2, 1) := by decide +kernel
theorem dX5_branch_197 : decode cX5_branch 197 = .ok (.iadd, 1) := by decide +kernel
theorem dX5_branch_198 : decode cX5_branch 198 = .ok (.aload_n 0, 1) := by decide +kernel
theorem dX5_branch_199 : decode cX5_branch 199 = .ok (.getfield 44, 3) := by decide +kernel
theorem dX5_branch_202 : decode cX5_branch 202 = .ok (.iload_n 2, 1) := by decide +kernel
theorem dX5_branch_203 : decode cX5_branch 203 = .ok (.iaload, 1) := by decide +kernel
theorem dX5_branch_204 : decode cX5_branch 204 = .ok (.iastore, 1) := by decide +kernel
theorem dX5_branch_205 : decode cX5_branch 205 = .ok (.aload_n 0, 1) := by decide +kernel
theorem dX5_branch_206 : decode cX5_branch 206 = .ok (.getfield 47, 3) := by decide +kernel
theorem dX5_branch_209 : decode cX5_branch 209 = .ok (.bipush 30, 2) := by decide +kernel
theorem dX5_branch_211 : decode cX5_branch 211 = .ok (.iload_n 2, 1) := by decide +kernel
theorem dX5_branch_212 : decode cX5_branch 212 = .ok (.iadd, 1) := by decide +kernel
theorem dX5_branch_213 : decode cX5_branch 213 = .ok (.aload_n 0, 1) := by decide +kernel
theorem dX5_branch_214 : decode cX5_branch 214 = .ok (.getfield 47, 3) := by decide +kernel
theorem dX5_branch_217 : decode cX5_branch 217 = .ok (.iload_n 2, 1) := by decide +kernel
theorem dX5_branch_218 : decode cX5_branch 218 = .ok (.iaload, 1) := by decide +kernel
theorem dX5_branch_219 : decode cX5_branch 219 = .ok (.iastore, 1) := by decide +kernel
theorem dX5_branch_220 : decode cX5_branch 220 = .ok (.iinc 2 1, 3) := by decide +kernel
theorem dX5_branch_223 : decode cX5_branch 223 = .ok (.goto (-103), 3) := by decide +kernel
theorem dX5_branch_226 : decode cX5_branch 226 = .ok (.aload_n 0, 1) := by decide +kernel
theorem dX5_branch_227 : decode cX5_branch 227 = .ok (.getfield 35, 3) := by decide +kernel
theorem dX5_branch_230 : decode cX5_branch 230 = .ok (.iconst 1, 1) := by decide +kernel
theorem dX5_branch_231 : decode cX5_branch 231 = .ok (.aload_n 0, 1) := by decide +kernel
theorem dX5_branch_232 : decode cX5_branch 232 = .ok (.getfield 35, 3) := by decide +kernel
theorem dX5_branch_235 : decode cX5_branch 235 = .ok (.iconst 0, 1) := by decide +kernel
theorem dX5_branch_236 : decode cX5_branch 236 = .ok (.iaload, 1) := by decide +kernel
theorem dX5_branch_237 : decode cX5_branch 237 = .ok (.iastore, 1) := by decide +kernel
theorem dX5_branch_238 : decode cX5_branch 238 = .ok (.aload_n 0, 1) := by decide +kernel
theorem dX5_branch_239 : decode cX5_branch 239 = .ok (.iconst 1, 1) := by decide +kernel
theorem dX5_branch_240 : decode cX5_branch 240 = .ok (.putfield 68, 3) := by decide +kernel
theorem dX5_branch_243 : decode cX5_branch 243 = .ok (.iload_n 1, 1) := by decide +kernel
theorem dX5_branch_244 : decode cX5_branch 244 = .ok (.ireturn, 1) := by decide +kernel
theorem dX5_write_0 : decode cX5_write 0 = .ok (.iload_n 1, 1) := by decide +kernel
theorem dX5_write_1 : decode cX5_write 1 = .ok (.iconst 2, 1) := by decide +kernel
theorem dX5_write_2 : decode cX5_write 2 = .ok (.invokestatic 72, 3) := by decide +kernel
theorem dX5_write_5 : decode cX5_write 5 = .ok (.ifCond .ne 5, 3) := by decide +kernel
theorem dX5_write_8 : decode cX5_write 8 = .ok (.iconst 0, 1) := by decide +kernel
theorem dX5_write_9 : decode cX5_write 9 = .ok (.ireturn, 1) := by decide +kernel
theorem dX5_write_10 : decode cX5_write 10 = .ok (.aload_n 0, 1) := by decide +kernel
theorem dX5_write_11 : decode cX5_write 11 = .ok (.iload_n 1, 1) := by decide +kernel
theorem dX5_write_12 : decode cX5_write 12 = .ok (.putfield 68, 3) := by decide +kernel
theorem dX5_write_15 : decode cX5_write 15 = .ok (.iconst 1, 1) := by decide +kernel
theorem dX5_write_16 : decode cX5_write 16 = .ok (.ireturn, 1) := by decide +kernel
theorem dX5_refer_0 : decode cX5_refer 0 = .ok (.iload_n 1, 1) := by decide +kernel
theorem dX5_refer_1 : decode cX5_refer 1 = .ok (.bipush 9, 2) := by decide +kernel
theorem dX5_refer_3 : decode cX5_refer 3 = .ok (.invokestatic 72, 3) := by decide +kernel
theorem dX5_refer_6 : decode cX5_refer 6 = .ok (.ifCond .eq 31, 3) := by decide +kernel
theorem dX5_refer_9 : decode cX5_refer 9 = .ok (.iload_n 2, 1) := by decide +kernel
theorem dX5_refer_10 : decode cX5_refer 10 = .ok (.bipush 12, 2) := by decide +kernel
theorem dX5_refer_12 : decode cX5_refer 12 = .ok (.invokestatic 72, 3) := by decide +kernel
theorem dX5_refer_15 : decode cX5_refer 15 = .ok (.ifCond .eq 22, 3) := by decide +kernel
theorem dX5_refer_18 : decode cX5_refer 18 = .ok (.iload_n 3, 1) := by decide +kernel
theorem dX5_refer_19 : decode cX5_refer 19 = .ok (.bipush 12, 2) := by decide +kernel
theorem dX5_refer_21 : decode cX5_refer 21 = .ok (.invokestatic 72, 3) := by decide +kernel
theorem dX5_refer_24 : decode cX5_refer 24 = .ok (.ifCond .eq 13, 3) := by decide +kernel
theorem dX5_refer_27 : decode cX5_refer 27 = .ok (.iload 4, 2) := by decide +kernel
theorem dX5_refer_29 : decode cX5_refer 29 = .ok (.bipush 15, 2) := by decide +kernel
theorem dX5_refer_31 : decode cX5_refer 31 = .ok (.invokestatic 72, 3) := by decide +kernel
theorem dX5_refer_34 : decode cX5_refer 34 = .ok (.ifCond .ne 5, 3) := by decide +kernel
theorem dX5_refer_37 : decode cX5_refer 37 = .ok (.iconst (-1), 1) := by decide +kernel
theorem dX5_refer_38 : decode cX5_refer 38 = .ok (.ireturn, 1) := by decide +kernel
theorem dX5_refer_39 : decode cX5_refer 39 = .ok (.aload_n 0, 1) := by decide +kernel
theorem dX5_refer_40 : decode cX5_refer 40 = .ok (.getfield 91, 3) := by decide +kernel
theorem dX5_refer_43 : decode cX5_refer 43 = .ok (.bipush 16, 2) := by decide +kernel
theorem dX5_refer_45 : decode cX5_refer 45 = .ok (.if_icmp .ne 6, 3) := by decide +kernel
theorem dX5_refer_48 : decode cX5_refer 48 = .ok (.bipush (-3), 2) := by decide +kernel
theorem dX5_refer_50 : decode cX5_refer 50 = .ok (.ireturn, 1) := by decide +kernel
theorem dX5_refer_51 : decode cX5_refer 51 = .ok (.aload_n 0, 1) := by decide +kernel
theorem dX5_refer_52 : decode cX5_refer 52 = .ok (.getfield 50, 3) := by decide +kernel
theorem dX5_refer_55 : decode cX5_refer 55 = .ok (.aload_n 0, 1) := by decide +kernel
theorem dX5_refer_56 : decode cX5_refer 56 = .ok (.getfield 91, 3) := by decide +kernel
theorem dX5_refer_59 : decode cX5_refer 59 = .ok (.iload_n 1, 1) := by decide +kernel
theorem dX5_refer_60 : decode cX5_refer 60 = .ok (.iastore, 1) := by decide +kernel
theorem dX5_refer_61 : decode cX5_refer 61 = .ok (.aload_n 0, 1) := by decide +kernel
theorem dX5_refer_62 : decode cX5_refer 62 = .ok (.getfield 53, 3) := by decide +kernel
theorem dX5_refer_65 : decode cX5_refer 65 = .ok (.aload_n 0, 1) := by decide +kernel
theorem dX5_refer_66 : decode cX5_refer 66 = .ok (.getfield 91, 3) := by decide +kernel
theorem dX5_refer_69 : decode cX5_refer 69 = .ok (.iload_n 2, 1) := by decide +kernel
theorem dX5_refer_70 : decode cX5_refer 70 = .ok (.iastore, 1) := by decide +kernel
theorem dX5_refer_71 : decode cX5_refer 71 = .ok (.aload_n 0, 1) := by decide +kernel
theorem dX5_refer_72 : decode cX5_refer 72 = .ok (.getfield 56, 3) := by decide +kernel
theorem dX5_refer_75 : decode cX5_refer 75 = .ok (.aload_n 0, 1) := by decide +kernel
theorem dX5_refer_76 : decode cX5_refer 76 = .ok (.getfield 91, 3) := by decide +kernel
theorem dX5_refer_79 : decode cX5_refer 79 = .ok (.iload_n 3, 1) := by decide +kernel
theorem dX5_refer_80 : decode cX5_refer 80 = .ok (.iastore, 1) := by decide +kernel
theorem dX5_refer_81 : decode cX5_refer 81 = .ok (.aload_n 0, 1) := by decide +kernel
theorem dX5_refer_82 : decode cX5_refer 82 = .ok (.getfield 59, 3) := by decide +kernel
theorem dX5_refer_85 : decode cX5_refer 85 = .ok (.aload_n 0, 1) := by decide +kernel
theorem dX5_refer_86 : decode cX5_refer 86 = .ok (.getfield 91, 3) := by decide +kernel
theorem dX5_refer_89 : decode cX5_refer 89 = .ok (.iload 4, 2) := by decide +kernel
theorem dX5_refer_91 : decode cX5_refer 91 = .ok (.iastore, 1) := by decide +kernel
theorem dX5_refer_92 : decode cX5_refer 92 = .ok (.aload_n 0, 1) := by decide +kernel
theorem dX5_refer_93 : decode cX5_refer 93 = .ok (.dup, 1) := by decide +kernel
theorem dX5_refer_94 : decode cX5_refer 94 = .ok (.getfield 91, 3) := by decide +kernel
theorem dX5_refer_97 : decode cX5_refer 97 = .ok (.iconst 1, 1) := by decide +kernel
theorem dX5_refer_98 : decode cX5_refer 98 = .ok (.iadd, 1) := by decide +kernel
theorem dX5_refer_99 : decode cX5_refer 99 = .ok (.putfield 91, 3) := by decide +kernel
theorem dX5_refer_102 : decode cX5_refer 102 = .ok (.aload_n 0, 1) := by decide +kernel
theorem dX5_refer_103 : decode cX5_refer 103 = .ok (.getfield 91, 3) := by decide +kernel
theorem dX5_refer_106 : decode cX5_refer 106 = .ok (.iconst 1, 1) := by decide +kernel
theorem dX5_refer_107 : decode cX5_refer 107 = .ok (.isub, 1) := by decide +kernel
theorem dX5_refer_108 : decode cX5_refer 108 = .ok (.ireturn, 1) := by decide +kernel
theorem dX5_forget_0 : decode cX5_forget 0 = .ok (.aload_n 0, 1) := by decide +kernel
theorem dX5_forget_1 : decode cX5_forget 1 = .ok (.getfield 91, 3) := by decide +kernel
theorem dX5_forget_4 : decode cX5_forget 4 = .ok (.istore_n 1, 1) := by decide +kernel
theorem dX5_forget_5 : decode cX5_forget 5 = .ok (.aload_n 0, 1) := by decide +kernel
theorem dX5_forget_6 : decode cX5_forget 6 = .ok (.iconst 0, 1) := by decide +kernel
theorem dX5_forget_7 : decode cX5_forget 7 = .ok (.putfield 91, 3) := by decide +kernel
theorem dX5_forget_10 : decode cX5_forget 10 = .ok (.iload_n 1, 1) := by decide +kernel
theorem dX5_forget_11 : decode cX5_forget 11 = .ok (.ireturn, 1) := by decide +kernel
theorem dX5_verdict_0 : decode cX5_verdict 0 = .ok (.bipush 64, 2) := by decide +kernel
theorem dX5_verdict_2 : decode cX5_verdict 2 = .ok (.iload_n 0, 1) := by decide +kernel
theorem dX5_verdict_3 : decode cX5_verdict 3 = .ok (.imul, 1) := by decide +kernel
theorem dX5_verdict_4 : decode cX5_verdict 4 = .ok (.iload_n 1, 1) := by decide +kernel
theorem dX5_verdict_5 : decode cX5_verdict 5 = .ok (.iadd, 1) := by decide +kernel
theorem dX5_verdict_6 : decode cX5_verdict 6 = .ok (.ireturn, 1) := by decide +kernel
theorem dX5_isChanged_0 : decode cX5_isChanged 0 = .ok (.bipush 12, 2) := by decide +kernel
theorem dX5_isChanged_2 : decode cX5_isChanged 2 = .ok (.iload_n 1, 1) := by decide +kernel
theorem dX5_isChanged_3 : decode cX5_isChanged 3 = .ok (.imul, 1) := by decide +kernel
theorem dX5_isChanged_4 : decode cX5_isChanged 4 = .ok (.iload_n 2, 1) := by decide +kernel
theorem dX5_isChanged_5 : decode cX5_isChanged 5 = .ok (.iadd, 1) := by decide +kernel
theorem dX5_isChanged_6 : decode cX5_isChanged 6 = .ok (.istore_n 3, 1) := by decide +kernel
theorem dX5_isChanged_7 : decode cX5_isChanged 7 = .ok (.aload_n 0, 1) := by decide +kernel
theorem dX5_isChanged_8 : decode cX5_isChanged 8 = .ok (.getfield 20, 3) := by decide +kernel
theorem dX5_isChanged_11 : decode cX5_isChanged 11 = .ok (.iload_n 3, 1) := by decide +kernel
theorem dX5_isChanged_12 : decode cX5_isChanged 12 = .ok (.iaload, 1) := by decide +kernel
theorem dX5_isChanged_13 : decode cX5_isChanged 13 = .ok (.istore 4, 2) := by decide +kernel
theorem dX5_isChanged_15 : decode cX5_isChanged 15 = .ok (.iload 4, 2) := by decide +kernel
theorem dX5_isChanged_17 : decode cX5_isChanged 17 = .ok (.ifCond .lt 39, 3) := by decide +kernel
theorem dX5_isChanged_20 : decode cX5_isChanged 20 = .ok (.aload_n 0, 1) := by decide +kernel
theorem dX5_isChanged_21 : decode cX5_isChanged 21 = .ok (.getfield 13, 3) := by decide +kernel
theorem dX5_isChanged_24 : decode cX5_isChanged 24 = .ok (.bipush 12, 2) := by decide +kernel
theorem dX5_isChanged_26 : decode cX5_isChanged 26 = .ok (.iload_n 1, 1) := by decide +kernel
theorem dX5_isChanged_27 : decode cX5_isChanged 27 = .ok (.imul, 1) := by decide +kernel
theorem dX5_isChanged_28 : decode cX5_isChanged 28 = .ok (.iload 4, 2) := by decide +kernel
theorem dX5_isChanged_30 : decode cX5_isChanged 30 = .ok (.iadd, 1) := by decide +kernel
theorem dX5_isChanged_31 : decode cX5_isChanged 31 = .ok (.iaload, 1) := by decide +kernel
theorem dX5_isChanged_32 : decode cX5_isChanged 32 = .ok (.bipush 10, 2) := by decide +kernel
theorem dX5_isChanged_34 : decode cX5_isChanged 34 = .ok (.iand, 1) := by decide +kernel
theorem dX5_isChanged_35 : decode cX5_isChanged 35 = .ok (.ifCond .ne 19, 3) := by decide +kernel
theorem dX5_isChanged_38 : decode cX5_isChanged 38 = .ok (.aload_n 0, 1) := by decide +kernel
theorem dX5_isChanged_39 : decode cX5_isChanged 39 = .ok (.getfield 13, 3) := by decide +kernel
theorem dX5_isChanged_42 : decode cX5_isChanged 42 = .ok (.iload_n 3, 1) := by decide +kernel
theorem dX5_isChanged_43 : decode cX5_isChanged 43 = .ok (.iaload, 1) := by decide +kernel
theorem dX5_isChanged_44 : decode cX5_isChanged 44 = .ok (.iconst 2, 1) := by decide +kernel
theorem dX5_isChanged_45 : decode cX5_isChanged 45 = .ok (.iand, 1) := by decide +kernel
theorem dX5_isChanged_46 : decode cX5_isChanged 46 = .ok (.ifCond .eq 10, 3) := by decide +kernel
theorem dX5_isChanged_49 : decode cX5_isChanged 49 = .ok (.iload 4, 2) := by decide +kernel
theorem dX5_isChanged_51 : decode cX5_isChanged 51 = .ok (.ifCond .eq 5, 3) := by decide +kernel
theorem dX5_isChanged_54 : decode cX5_isChanged 54 = .ok (.iconst 1, 1) := by decide +kernel
theorem dX5_isChanged_55 : decode cX5_isChanged 55 = .ok (.ireturn, 1) := by decide +kernel
theorem dX5_isChanged_56 : decode cX5_isChanged 56 = .ok (.iconst 0, 1) := by decide +kernel
theorem dX5_isChanged_57 : decode cX5_isChanged 57 = .ok (.istore 5, 2) := by decide +kernel
theorem dX5_isChanged_59 : decode cX5_isChanged 59 = .ok (.iload 5, 2) := by decide +kernel
theorem dX5_isChanged_61 : decode cX5_isChanged 61 = .ok (.bipush 12, 2) := by decide +kernel
theorem dX5_isChanged_63 : decode cX5_isChanged 63 = .ok (.if_icmp .ge 42, 3) := by decide +kernel
theorem dX5_isChanged_66 : decode cX5_isChanged 66 = .ok (.aload_n 0, 1) := by decide +kernel
theorem dX5_isChanged_67 : decode cX5_isChanged 67 = .ok (.getfield 23, 3) := by decide +kernel
theorem dX5_isChanged_70 : decode cX5_isChanged 70 = .ok (.iload_n 3, 1) := by decide +kernel
theorem dX5_isChanged_71 : decode cX5_isChanged 71 = .ok (.iaload, 1) := by decide +kernel
theorem dX5_isChanged_72 : decode cX5_isChanged 72 = .ok (.iload 5, 2) := by decide +kernel
theorem dX5_isChanged_74 : decode cX5_isChanged 74 = .ok (.invokestatic 94, 3) := by decide +kernel
theorem dX5_isChanged_77 : decode cX5_isChanged 77 = .ok (.ifCond .eq 22, 3) := by decide +kernel
theorem dX5_isChanged_80 : decode cX5_isChanged 80 = .ok (.aload_n 0, 1) := by decide +kernel
theorem dX5_isChanged_81 : decode cX5_isChanged 81 = .ok (.getfield 13, 3) := by decide +kernel
theorem dX5_isChanged_84 : decode cX5_isChanged 84 = .ok (.bipush 12, 2) := by decide +kernel
theorem dX5_isChanged_86 : decode cX5_isChanged 86 = .ok (.iload_n 1, 1) := by decide +kernel
theorem dX5_isChanged_87 : decode cX5_isChanged 87 = .ok (.imul, 1) := by decide +kernel
theorem dX5_isChanged_88 : decode cX5_isChanged 88 = .ok (.iload 5, 2) := by decide +kernel
theorem dX5_isChanged_90 : decode cX5_isChanged 90 = .ok (.iadd, 1) := by decide +kernel
theorem dX5_isChanged_91 : decode cX5_isChanged 91 = .ok (.iaload, 1) := by decide +kernel
theorem dX5_isChanged_92 : decode cX5_isChanged 92 = .ok (.iconst 2, 1) := by decide +kernel
theorem dX5_isChanged_93 : decode cX5_isChanged 93 = .ok (.iand, 1) := by decide +kernel
theorem dX5_isChanged_94 : decode cX5_isChanged 94 = .ok (.ifCond .ne 5, 3) := by decide +kernel
theorem dX5_isChanged_97 : decode cX5_isChanged 97 = .ok (.iconst 1, 1) := by decide +kernel
theorem dX5_isChanged_98 : decode cX5_isChanged 98 = .ok (.ireturn, 1) := by decide +kernel
theorem dX5_isChanged_99 : decode cX5_isChanged 99 = .ok (.iinc 5 1, 3) := by decide +kernel
theorem dX5_isChanged_102 : decode cX5_isChanged 102 = .ok (.goto (-43), 3) := by decide +kernel
theorem dX5_isChanged_105 : decode cX5_isChanged 105 = .ok (.iconst 0, 1) := by decide +kernel
theorem dX5_isChanged_106 : decode cX5_isChanged 106 = .ok (.ireturn, 1) := by decide +kernel
theorem dX5_loaded_0 : decode cX5_loaded 0 = .ok (.iconst 1, 1) := by decide +kernel
theorem dX5_loaded_1 : decode cX5_loaded 1 = .ok (.istore_n 3, 1) := by decide +kernel
theorem dX5_loaded_2 : decode cX5_loaded 2 = .ok (.iconst 0, 1) := by decide +kernel
theorem dX5_loaded_3 : decode cX5_loaded 3 = .ok (.istore 4, 2) := by decide +kernel
theorem dX5_loaded_5 : decode cX5_loaded 5 = .ok (.iconst 0, 1) := by decide +kernel
theorem dX5_loaded_6 : decode cX5_loaded 6 = .ok (.istore 5, 2) := by decide +kernel
theorem dX5_loaded_8 : decode cX5_loaded 8 = .ok (.aload_n 0, 1) := by decide +kernel
theorem dX5_loaded_9 : decode cX5_loaded 9 = .ok (.getfield 62, 3) := by decide +kernel
theorem dX5_loaded_12 : decode cX5_loaded 12 = .ok (.iconst 0, 1) := by decide +kernel
theorem dX5_loaded_13 : decode cX5_loaded 13 = .ok (.iload_n 2, 1) := by decide +kernel
theorem dX5_loaded_14 : decode cX5_loaded 14 = .ok (.iastore, 1) := by decide +kernel
theorem dX5_loaded_15 : decode cX5_loaded 15 = .ok (.aload_n 0, 1) := by decide +kernel
theorem dX5_loaded_16 : decode cX5_loaded 16 = .ok (.getfield 65, 3) := by decide +kernel
theorem dX5_loaded_19 : decode cX5_loaded 19 = .ok (.iconst 0, 1) := by decide +kernel
theorem dX5_loaded_20 : decode cX5_loaded 20 = .ok (.bipush (-2), 2) := by decide +kernel
theorem dX5_loaded_22 : decode cX5_loaded 22 = .ok (.iastore, 1) := by decide +kernel
theorem dX5_loaded_23 : decode cX5_loaded 23 = .ok (.iload_n 3, 1) := by decide +kernel
theorem dX5_loaded_24 : decode cX5_loaded 24 = .ok (.ifCond .le 248, 3) := by decide +kernel
theorem dX5_loaded_27 : decode cX5_loaded 27 = .ok (.aload_n 0, 1) := by decide +kernel
theorem dX5_loaded_28 : decode cX5_loaded 28 = .ok (.getfield 62, 3) := by decide +kernel
theorem dX5_loaded_31 : decode cX5_loaded 31 = .ok (.iload_n 3, 1) := by decide +kernel
theorem dX5_loaded_32 : decode cX5_loaded 32 = .ok (.iconst 1, 1) := by decide +kernel
theorem dX5_loaded_33 : decode cX5_loaded 33 = .ok (.isub, 1) := by decide +kernel
theorem dX5_loaded_34 : decode cX5_loaded 34 = .ok (.iaload, 1) := by decide +kernel
theorem dX5_loaded_35 : decode cX5_loaded 35 = .ok (.istore 6, 2) := by decide +kernel
theorem dX5_loaded_37 : decode cX5_loaded 37 = .ok (.bipush 12, 2) := by decide +kernel
theorem dX5_loaded_39 : decode cX5_loaded 39 = .ok (.iload_n 1, 1) := by decide +kernel
theorem dX5_loaded_40 : decode cX5_loaded 40 = .ok (.imul, 1) := by decide +kernel
theorem dX5_loaded_41 : decode cX5_loaded 41 = .ok (.iload 6, 2) := by decide +kernel
theorem dX5_loaded_43 : decode cX5_loaded 43 = .ok (.iadd, 1) := by decide +kernel
theorem dX5_loaded_44 : decode cX5_loaded 44 = .ok (.istore 7, 2) := by decide +kernel
theorem dX5_loaded_46 : decode cX5_loaded 46 = .ok (.aload_n 0, 1) := by decide +kernel
theorem dX5_loaded_47 : decode cX5_loaded 47 = .ok (.getfield 65, 3) := by decide +kernel
theorem dX5_loaded_50 : decode cX5_loaded 50 = .ok (.iload_n 3, 1) := by decide +kernel
theorem dX5_loaded_51 : decode cX5_loaded 51 = .ok (.iconst 1, 1) := by decide +kernel
theorem dX5_loaded_52 : decode cX5_loaded 52 = .ok (.isub, 1) := by decide +kernel
theorem dX5_loaded_53 : decode cX5_loaded 53 = .ok (.iaload, 1) := by decide +kernel
theorem dX5_loaded_54 : decode cX5_loaded 54 = .ok (.bipush (-2), 2) := by decide +kernel
theorem dX5_loaded_56 : decode cX5_loaded 56 = .ok (.if_icmp .ne 46, 3) := by decide +kernel
theorem dX5_loaded_59 : decode cX5_loaded 59 = .ok (.aload_n 0, 1) := by decide +kernel
theorem dX5_loaded_60 : decode cX5_loaded 60 = .ok (.getfield 7, 3) := by decide +kernel
theorem dX5_loaded_63 : decode cX5_loaded 63 = .ok (.iload 7, 2) := by decide +kernel
theorem dX5_loaded_65 : decode cX5_loaded 65 = .ok (.baload, 1) := by decide +kernel
theorem dX5_loaded_66 : decode cX5_loaded 66 = .ok (.ifCond .ne 10, 3) := by decide +kernel
theorem dX5_loaded_69 : decode cX5_loaded 69 = .ok (.iconst 1, 1) := by decide +kernel
theorem dX5_loaded_70 : decode cX5_loaded 70 = .ok (.iload 6, 2) := by decide +kernel
theorem dX5_loaded_72 : decode cX5_loaded 72 = .ok (.invokestatic 97, 3) := by decide +kernel
theorem dX5_loaded_75 : decode cX5_loaded 75 = .ok (.ireturn, 1) := by decide +kernel
theorem dX5_loaded_76 : decode cX5_loaded 76 = .ok (.iload 4, 2) := by decide +kernel
theorem dX5_loaded_78 : decode cX5_loaded 78 = .ok (.iload 6, 2) := by decide +kernel
theorem dX5_loaded_80 : decode cX5_loaded 80 = .ok (.invokestatic 94, 3) := by decide +kernel
theorem dX5_loaded_83 : decode cX5_loaded 83 = .ok (.ifCond .eq 10, 3) := by decide +kernel
theorem dX5_loaded_86 : decode cX5_loaded 86 = .ok (.iconst 2, 1) := by decide +kernel
theorem dX5_loaded_87 : decode cX5_loaded 87 = .ok (.iload 6, 2) := by decide +kernel
theorem dX5_loaded_89 : decode cX5_loaded 89 = .ok (.invokestatic 97, 3) := by decide +kernel
theorem dX5_loaded_92 : decode cX5_loaded 92 = .ok (.ireturn, 1) := by decide +kernel
theorem dX5_loaded_93 : decode cX5_loaded 93 = .ok (.iload 4, 2) := by decide +kernel
theorem dX5_loaded_95 : decode cX5_loaded 95 = .ok (.iconst 1, 1) := by decide +kernel
theorem dX5_loaded_96 : decode cX5_loaded 96 = .ok (.iload 6, 2) := by decide +kernel
theorem dX5_loaded_98 : decode cX5_loaded 98 = .ok (.ishl, 1) := by decide +kernel
theorem dX5_loaded_99 : decode cX5_loaded 99 = .ok (.ior, 1) := by decide +kernel
theorem dX5_loaded_100 : decode cX5_loaded 100 = .ok (.istore 4, 2) := by decide +kernel
theorem dX5_loaded_102 : decode cX5_loaded 102 = .ok (.iconst (-1), 1) := by decide +kernel
theorem dX5_loaded_103 : decode cX5_loaded 103 = .ok (.istore 8, 2) := by decide +kernel
theorem dX5_loaded_105 : decode cX5_loaded 105 = .ok (.iload 8, 2) := by decide +kernel
theorem dX5_loaded_107 : decode cX5_loaded 107 = .ok (.ifCond .ge 95, 3) := by decide +kernel
theorem dX5_loaded_110 : decode cX5_loaded 110 = .ok (.aload_n 0, 1) := by decide +kernel
theorem dX5_loaded_111 : decode cX5_loaded 111 = .ok (.getfield 65, 3) := by decide +kernel
theorem dX5_loaded_114 : decode cX5_loaded 114 = .ok (.iload_n 3, 1) := by decide +kernel
theorem dX5_loaded_115 : decode cX5_loaded 115 = .ok (.iconst 1, 1) := by decide +kernel
theorem dX5_loaded_116 : decode cX5_loaded 116 = .ok (.isub, 1) := by decide +kernel
theorem dX5_loaded_117 : decode cX5_loaded 117 = .ok (.iaload, 1) := by decide +kernel
theorem dX5_loaded_118 : decode cX5_loaded 118 = .ok (.bipush 11, 2) := by decide +kernel
theorem dX5_loaded_120 : decode cX5_loaded 120 = .ok (.if_icmp .ge 82, 3) := by decide +kernel
theorem dX5_loaded_123 : decode cX5_loaded 123 = .ok (.aload_n 0, 1) := by decide +kernel
theorem dX5_loaded_124 : decode cX5_loaded 124 = .ok (.getfield 65, 3) := by decide +kernel
theorem dX5_loaded_127 : decode cX5_loaded 127 = .ok (.iload_n 3, 1) := by decide +kernel
theorem dX5_loaded_128 : decode cX5_loaded 128 = .ok (.iconst 1, 1) := by decide +kernel
theorem dX5_loaded_129 : decode cX5_loaded 129 = .ok (.isub, 1) := by decide +kernel
theorem dX5_loaded_130 : decode cX5_loaded 130 = .ok (.dup2, 1) := by decide +kernel
theorem dX5_loaded_131 : decode cX5_loaded 131 = .ok (.iaload, 1) := by decide +kernel
theorem dX5_loaded_132 : decode cX5_loaded 132 = .ok (.iconst 1, 1) := by decide +kernel
theorem dX5_loaded_133 : decode cX5_loaded 133 = .ok (.iadd, 1) := by decide +kernel
theorem dX5_loaded_134 : decode cX5_loaded 134 = .ok (.iastore, 1) := by decide +kernel
theorem dX5_loaded_135 : decode cX5_loaded 135 = .ok (.aload_n 0, 1) := by decide +kernel
theorem dX5_loaded_136 : decode cX5_loaded 136 = .ok (.getfield 65, 3) := by decide +kernel
theorem dX5_loaded_139 : decode cX5_loaded 139 = .ok (.iload_n 3, 1) := by decide +kernel
theorem dX5_loaded_140 : decode cX5_loaded 140 = .ok (.iconst 1, 1) := by decide +kernel
theorem dX5_loaded_141 : decode cX5_loaded 141 = .ok (.isub, 1) := by decide +kernel
theorem dX5_loaded_142 : decode cX5_loaded 142 = .ok (.iaload, 1) := by decide +kernel
theorem dX5_loaded_143 : decode cX5_loaded 143 = .ok (.istore 9, 2) := by decide +kernel
theorem dX5_loaded_145 : decode cX5_loaded 145 = .ok (.iload 9, 2) := by decide +kernel
theorem dX5_loaded_147 : decode cX5_loaded 147 = .ok (.ifCond .ge 15, 3) := by decide +kernel
theorem dX5_loaded_150 : decode cX5_loaded 150 = .ok (.aload_n 0, 1) := by decide +kernel
theorem dX5_loaded_151 : decode cX5_loaded 151 = .ok (.getfield 20, 3) := by decide +kernel
theorem dX5_loaded_154 : decode cX5_loaded 154 = .ok (.iload 7, 2) := by decide +kernel
theorem dX5_loaded_156 : decode cX5_loaded 156 = .ok (.iaload, 1) := by decide +kernel
theorem dX5_loaded_157 : decode cX5_loaded 157 = .ok (.istore 8, 2) := by decide +kernel
theorem dX5_loaded_159 : decode cX5_loaded 159 = .ok (.goto 22, 3) := by decide +kernel
theorem dX5_loaded_162 : decode cX5_loaded 162 = .ok (.aload_n 0, 1) := by decide +kernel
theorem dX5_loaded_163 : decode cX5_loaded 163 = .ok (.getfield 23, 3) := by decide +kernel
theorem dX5_loaded_166 : decode cX5_loaded 166 = .ok (.iload 7, 2) := by decide +kernel
theorem dX5_loaded_168 : decode cX5_loaded 168 = .ok (.iaload, 1) := by decide +kernel
theorem dX5_loaded_169 : decode cX5_loaded 169 = .ok (.iload 9, 2) := by decide +kernel
theorem dX5_loaded_171 : decode cX5_loaded 171 = .ok (.invokestatic 94, 3) := by decide +kernel
theorem dX5_loaded_174 : decode cX5_loaded 174 = .ok (.ifCond .eq 7, 3) := by decide +kernel
theorem dX5_loaded_177 : decode cX5_loaded 177 = .ok (.iload 9, 2) := by decide +kernel
theorem dX5_loaded_179 : decode cX5_loaded 179 = .ok (.istore 8, 2) := by decide +kernel
theorem dX5_loaded_181 : decode cX5_loaded 181 = .ok (.iload 8, 2) := by decide +kernel
theorem dX5_loaded_183 : decode cX5_loaded 183 = .ok (.ifCond .lt 16, 3) := by decide +kernel
theorem dX5_loaded_186 : decode cX5_loaded 186 = .ok (.iload 5, 2) := by decide +kernel
theorem dX5_loaded_188 : decode cX5_loaded 188 = .ok (.iload 8, 2) := by decide +kernel
theorem dX5_loaded_190 : decode cX5_loaded 190 = .ok (.invokestatic 94, 3) := by decide +kernel
theorem dX5_loaded_193 : decode cX5_loaded 193 = .ok (.ifCond .eq 6, 3) := by decide +kernel
theorem dX5_loaded_196 : decode cX5_loaded 196 = .ok (.iconst (-1), 1) := by decide +kernel
theorem dX5_loaded_197 : decode cX5_loaded 197 = .ok (.istore 8, 2) := by decide +kernel
theorem dX5_loaded_199 : decode cX5_loaded 199 = .ok (.goto (-94), 3) := by decide +kernel
theorem dX5_loaded_202 : decode cX5_loaded 202 = .ok (.iload 8, 2) := by decide +kernel
theorem dX5_loaded_204 : decode cX5_loaded 204 = .ok (.ifCond .lt 25, 3) := by decide +kernel
theorem dX5_loaded_207 : decode cX5_loaded 207 = .ok (.aload_n 0, 1) := by decide +kernel
theorem dX5_loaded_208 : decode cX5_loaded 208 = .ok (.getfield 62, 3) := by decide +kernel
theorem dX5_loaded_211 : decode cX5_loaded 211 = .ok (.iload_n 3, 1) := by decide +kernel
theorem dX5_loaded_212 : decode cX5_loaded 212 = .ok (.iload 8, 2) := by decide +kernel
theorem dX5_loaded_214 : decode cX5_loaded 214 = .ok (.iastore, 1) := by decide +kernel
theorem dX5_loaded_215 : decode cX5_loaded 215 = .ok (.aload_n 0, 1) := by decide +kernel
theorem dX5_loaded_216 : decode cX5_loaded 216 = .ok (.getfield 65, 3) := by decide +kernel
theorem dX5_loaded_219 : decode cX5_loaded 219 = .ok (.iload_n 3, 1) := by decide +kernel
theorem dX5_loaded_220 : decode cX5_loaded 220 = .ok (.bipush (-2), 2) := by decide +kernel
theorem dX5_loaded_222 : decode cX5_loaded 222 = .ok (.iastore, 1) := by decide +kernel
theorem dX5_loaded_223 : decode cX5_loaded 223 = .ok (.iinc 3 1, 3) := by decide +kernel
theorem dX5_loaded_226 : decode cX5_loaded 226 = .ok (.goto (-203), 3) := by decide +kernel
theorem dX5_loaded_229 : decode cX5_loaded 229 = .ok (.aload_n 0, 1) := by decide +kernel
theorem dX5_loaded_230 : decode cX5_loaded 230 = .ok (.iload_n 1, 1) := by decide +kernel
theorem dX5_loaded_231 : decode cX5_loaded 231 = .ok (.iload 6, 2) := by decide +kernel
theorem dX5_loaded_233 : decode cX5_loaded 233 = .ok (.invokevirtual 101, 3) := by decide +kernel
theorem dX5_loaded_236 : decode cX5_loaded 236 = .ok (.ifCond .eq 10, 3) := by decide +kernel
theorem dX5_loaded_239 : decode cX5_loaded 239 = .ok (.iconst 3, 1) := by decide +kernel
theorem dX5_loaded_240 : decode cX5_loaded 240 = .ok (.iload 6, 2) := by decide +kernel
theorem dX5_loaded_242 : decode cX5_loaded 242 = .ok (.invokestatic 97, 3) := by decide +kernel
theorem dX5_loaded_245 : decode cX5_loaded 245 = .ok (.ireturn, 1) := by decide +kernel
theorem dX5_loaded_246 : decode cX5_loaded 246 = .ok (.iload 4, 2) := by decide +kernel
theorem dX5_loaded_248 : decode cX5_loaded 248 = .ok (.iconst 1, 1) := by decide +kernel
theorem dX5_loaded_249 : decode cX5_loaded 249 = .ok (.iload 6, 2) := by decide +kernel
theorem dX5_loaded_251 : decode cX5_loaded 251 = .ok (.ishl, 1) := by decide +kernel
theorem dX5_loaded_252 : decode cX5_loaded 252 = .ok (.iconst (-1), 1) := by decide +kernel
theorem dX5_loaded_253 : decode cX5_loaded 253 = .ok (.ixor, 1) := by decide +kernel
theorem dX5_loaded_254 : decode cX5_loaded 254 = .ok (.iand, 1) := by decide +kernel
theorem dX5_loaded_255 : decode cX5_loaded 255 = .ok (.istore 4, 2) := by decide +kernel
theorem dX5_loaded_257 : decode cX5_loaded 257 = .ok (.iload 5, 2) := by decide +kernel
theorem dX5_loaded_259 : decode cX5_loaded 259 = .ok (.iconst 1, 1) := by decide +kernel
theorem dX5_loaded_260 : decode cX5_loaded 260 = .ok (.iload 6, 2) := by decide +kernel
theorem dX5_loaded_262 : decode cX5_loaded 262 = .ok (.ishl, 1) := by decide +kernel
theorem dX5_loaded_263 : decode cX5_loaded 263 = .ok (.ior, 1) := by decide +kernel
theorem dX5_loaded_264 : decode cX5_loaded 264 = .ok (.istore 5, 2) := by decide +kernel
theorem dX5_loaded_266 : decode cX5_loaded 266 = .ok (.iinc 3 (-1), 3) := by decide +kernel
theorem dX5_loaded_269 : decode cX5_loaded 269 = .ok (.goto (-246), 3) := by decide +kernel
theorem dX5_loaded_272 : decode cX5_loaded 272 = .ok (.iconst 0, 1) := by decide +kernel
theorem dX5_loaded_273 : decode cX5_loaded 273 = .ok (.iload_n 2, 1) := by decide +kernel
theorem dX5_loaded_274 : decode cX5_loaded 274 = .ok (.invokestatic 97, 3) := by decide +kernel
theorem dX5_loaded_277 : decode cX5_loaded 277 = .ok (.ireturn, 1) := by decide +kernel
theorem dX5_isLoaded_0 : decode cX5_isLoaded 0 = .ok (.aload_n 0, 1) := by decide +kernel
theorem dX5_isLoaded_1 : decode cX5_isLoaded 1 = .ok (.iload_n 1, 1) := by decide +kernel
theorem dX5_isLoaded_2 : decode cX5_isLoaded 2 = .ok (.iload_n 2, 1) := by decide +kernel
theorem dX5_isLoaded_3 : decode cX5_isLoaded 3 = .ok (.invokevirtual 104, 3) := by decide +kernel
theorem dX5_isLoaded_6 : decode cX5_isLoaded 6 = .ok (.bipush 64, 2) := by decide +kernel
theorem dX5_isLoaded_8 : decode cX5_isLoaded 8 = .ok (.if_icmp .ge 7, 3) := by decide +kernel
theorem dX5_isLoaded_11 : decode cX5_isLoaded 11 = .ok (.iconst 1, 1) := by decide +kernel
theorem dX5_isLoaded_12 : decode cX5_isLoaded 12 = .ok (.goto 4, 3) := by decide +kernel
theorem dX5_isLoaded_15 : decode cX5_isLoaded 15 = .ok (.iconst 0, 1) := by decide +kernel
theorem dX5_isLoaded_16 : decode cX5_isLoaded 16 = .ok (.ireturn, 1) := by decide +kernel
theorem dX5_aboveOf_0 : decode cX5_aboveOf 0 = .ok (.iconst 0, 1) := by decide +kernel
theorem dX5_aboveOf_1 : decode cX5_aboveOf 1 = .ok (.istore_n 3, 1) := by decide +kernel
theorem dX5_aboveOf_2 : decode cX5_aboveOf 2 = .ok (.iload_n 2, 1) := by decide +kernel
theorem dX5_aboveOf_3 : decode cX5_aboveOf 3 = .ok (.istore 4, 2) := by decide +kernel
theorem dX5_aboveOf_5 : decode cX5_aboveOf 5 = .ok (.iload 4, 2) := by decide +kernel
theorem dX5_aboveOf_7 : decode cX5_aboveOf 7 = .ok (.ifCond .lt 27, 3) := by decide +kernel
theorem dX5_aboveOf_10 : decode cX5_aboveOf 10 = .ok (.iload_n 3, 1) := by decide +kernel
theorem dX5_aboveOf_11 : decode cX5_aboveOf 11 = .ok (.iconst 1, 1) := by decide +kernel
theorem dX5_aboveOf_12 : decode cX5_aboveOf 12 = .ok (.iload 4, 2) := by decide +kernel
theorem dX5_aboveOf_14 : decode cX5_aboveOf 14 = .ok (.ishl, 1) := by decide +kernel
theorem dX5_aboveOf_15 : decode cX5_aboveOf 15 = .ok (.ior, 1) := by decide +kernel
theorem dX5_aboveOf_16 : decode cX5_aboveOf 16 = .ok (.istore_n 3, 1) := by decide +kernel
theorem dX5_aboveOf_17 : decode cX5_aboveOf 17 = .ok (.aload_n 0, 1) := by decide +kernel
theorem dX5_aboveOf_18 : decode cX5_aboveOf 18 = .ok (.getfield 20, 3) := by decide +kernel
theorem dX5_aboveOf_21 : decode cX5_aboveOf 21 = .ok (.bipush 12, 2) := by decide +kernel
theorem dX5_aboveOf_23 : decode cX5_aboveOf 23 = .ok (.iload_n 1, 1) := by decide +kernel
theorem dX5_aboveOf_24 : decode cX5_aboveOf 24 = .ok (.imul, 1) := by decide +kernel
theorem dX5_aboveOf_25 : decode cX5_aboveOf 25 = .ok (.iload 4, 2) := by decide +kernel
theorem dX5_aboveOf_27 : decode cX5_aboveOf 27 = .ok (.iadd, 1) := by decide +kernel
theorem dX5_aboveOf_28 : decode cX5_aboveOf 28 = .ok (.iaload, 1) := by decide +kernel
theorem dX5_aboveOf_29 : decode cX5_aboveOf 29 = .ok (.istore 4, 2) := by decide +kernel
theorem dX5_aboveOf_31 : decode cX5_aboveOf 31 = .ok (.goto (-26), 3) := by decide +kernel
theorem dX5_aboveOf_34 : decode cX5_aboveOf 34 = .ok (.iload_n 3, 1) := by decide +kernel
theorem dX5_aboveOf_35 : decode cX5_aboveOf 35 = .ok (.ireturn, 1) := by decide +kernel
theorem dX5_facesOf_0 : decode cX5_facesOf 0 = .ok (.iconst 0, 1) := by decide +kernel
theorem dX5_facesOf_1 : decode cX5_facesOf 1 = .ok (.istore_n 3, 1) := by decide +kernel
theorem dX5_facesOf_2 : decode cX5_facesOf 2 = .ok (.aload_n 0, 1) := by decide +kernel
theorem dX5_facesOf_3 : decode cX5_facesOf 3 = .ok (.iload_n 1, 1) := by decide +kernel
theorem dX5_facesOf_4 : decode cX5_facesOf 4 = .ok (.iload_n 2, 1) := by decide +kernel
theorem dX5_facesOf_5 : decode cX5_facesOf 5 = .ok (.invokevirtual 107, 3) := by decide +kernel
theorem dX5_facesOf_8 : decode cX5_facesOf 8 = .ok (.istore 4, 2) := by decide +kernel
theorem dX5_facesOf_10 : decode cX5_facesOf 10 = .ok (.iload 4, 2) := by decide +kernel
theorem dX5_facesOf_12 : decode cX5_facesOf 12 = .ok (.ifCond .eq 69, 3) := by decide +kernel
theorem dX5_facesOf_15 : decode cX5_facesOf 15 = .ok (.iconst 0, 1) := by decide +kernel
theorem dX5_facesOf_16 : decode cX5_facesOf 16 = .ok (.istore 5, 2) := by decide +kernel
theorem dX5_facesOf_18 : decode cX5_facesOf 18 = .ok (.iconst 0, 1) := by decide +kernel
theorem dX5_facesOf_19 : decode cX5_facesOf 19 = .ok (.istore 6, 2) := by decide +kernel
theorem dX5_facesOf_21 : decode cX5_facesOf 21 = .ok (.iload 6, 2) := by decide +kernel
theorem dX5_facesOf_23 : decode cX5_facesOf 23 = .ok (.bipush 12, 2) := by decide +kernel
theorem dX5_facesOf_25 : decode cX5_facesOf 25 = .ok (.if_icmp .ge 36, 3) := by decide +kernel
theorem dX5_facesOf_28 : decode cX5_facesOf 28 = .ok (.iload 4, 2) := by decide +kernel
theorem dX5_facesOf_30 : decode cX5_facesOf 30 = .ok (.iload 6, 2) := by decide +kernel
theorem dX5_facesOf_32 : decode cX5_facesOf 32 = .ok (.invokestatic 94, 3) := by decide +kernel
theorem dX5_facesOf_35 : decode cX5_facesOf 35 = .ok (.ifCond .eq 20, 3) := by decide +kernel
theorem dX5_facesOf_38 : decode cX5_facesOf 38 = .ok (.iload 5, 2) := by decide +kernel
theorem dX5_facesOf_40 : decode cX5_facesOf 40 = .ok (.aload_n 0, 1) := by decide +kernel
theorem dX5_facesOf_41 : decode cX5_facesOf 41 = .ok (.getfield 23, 3) := by decide +kernel
theorem dX5_facesOf_44 : decode cX5_facesOf 44 = .ok (.bipush 12, 2) := by decide +kernel
theorem dX5_facesOf_46 : decode cX5_facesOf 46 = .ok (.iload_n 1, 1) := by decide +kernel
theorem dX5_facesOf_47 : decode cX5_facesOf 47 = .ok (.imul, 1) := by decide +kernel
theorem dX5_facesOf_48 : decode cX5_facesOf 48 = .ok (.iload 6, 2) := by decide +kernel
theorem dX5_facesOf_50 : decode cX5_facesOf 50 = .ok (.iadd, 1) := by decide +kernel
theorem dX5_facesOf_51 : decode cX5_facesOf 51 = .ok (.iaload, 1) := by decide +kernel
theorem dX5_facesOf_52 : decode cX5_facesOf 52 = .ok (.ior, 1) := by decide +kernel
theorem dX5_facesOf_53 : decode cX5_facesOf 53 = .ok (.istore 5, 2) := by decide +kernel
theorem dX5_facesOf_55 : decode cX5_facesOf 55 = .ok (.iinc 6 1, 3) := by decide +kernel
theorem dX5_facesOf_58 : decode cX5_facesOf 58 = .ok (.goto (-37), 3) := by decide +kernel
theorem dX5_facesOf_61 : decode cX5_facesOf 61 = .ok (.iload 5, 2) := by decide +kernel
theorem dX5_facesOf_63 : decode cX5_facesOf 63 = .ok (.iload_n 3, 1) := by decide +kernel
theorem dX5_facesOf_64 : decode cX5_facesOf 64 = .ok (.iconst (-1), 1) := by decide +kernel
theorem dX5_facesOf_65 : decode cX5_facesOf 65 = .ok (.ixor, 1) := by decide +kernel
theorem dX5_facesOf_66 : decode cX5_facesOf 66 = .ok (.iand, 1) := by decide +kernel
theorem dX5_facesOf_67 : decode cX5_facesOf 67 = .ok (.istore 5, 2) := by decide +kernel
theorem dX5_facesOf_69 : decode cX5_facesOf 69 = .ok (.iload_n 3, 1) := by decide +kernel
theorem dX5_facesOf_70 : decode cX5_facesOf 70 = .ok (.iload 5, 2) := by decide +kernel
theorem dX5_facesOf_72 : decode cX5_facesOf 72 = .ok (.ior, 1) := by decide +kernel
theorem dX5_facesOf_73 : decode cX5_facesOf 73 = .ok (.istore_n 3, 1) := by decide +kernel
theorem dX5_facesOf_74 : decode cX5_facesOf 74 = .ok (.iload 5, 2) := by decide +kernel
theorem dX5_facesOf_76 : decode cX5_facesOf 76 = .ok (.istore 4, 2) := by decide +kernel
theorem dX5_facesOf_78 : decode cX5_facesOf 78 = .ok (.goto (-68), 3) := by decide +kernel
theorem dX5_facesOf_81 : decode cX5_facesOf 81 = .ok (.iload_n 3, 1) := by decide +kernel
theorem dX5_facesOf_82 : decode cX5_facesOf 82 = .ok (.ireturn, 1) := by decide +kernel
theorem dX5_under_0 : decode cX5_under 0 = .ok (.aload_n 0, 1) := by decide +kernel
theorem dX5_under_1 : decode cX5_under 1 = .ok (.iload_n 1, 1) := by decide +kernel
theorem dX5_under_2 : decode cX5_under 2 = .ok (.iload_n 2, 1) := by decide +kernel
theorem dX5_under_3 : decode cX5_under 3 = .ok (.invokevirtual 107, 3) := by decide +kernel
theorem dX5_under_6 : decode cX5_under 6 = .ok (.aload_n 0, 1) := by decide +kernel
theorem dX5_under_7 : decode cX5_under 7 = .ok (.iload_n 1, 1) := by decide +kernel
theorem dX5_under_8 : decode cX5_under 8 = .ok (.iload_n 2, 1) := by decide +kernel
theorem dX5_under_9 : decode cX5_under 9 = .ok (.invokevirtual 110, 3) := by decide +kernel
theorem dX5_under_12 : decode cX5_under 12 = .ok (.ior, 1) := by decide +kernel
theorem dX5_under_13 : decode cX5_under 13 = .ok (.iload_n 3, 1) := by decide +kernel
theorem dX5_under_14 : decode cX5_under 14 = .ok (.invokestatic 94, 3) := by decide +kernel
theorem dX5_under_17 : decode cX5_under 17 = .ok (.ireturn, 1) := by decide +kernel
theorem dX5_nestOf_0 : decode cX5_nestOf 0 = .ok (.aload_n 0, 1) := by decide +kernel
theorem dX5_nestOf_1 : decode cX5_nestOf 1 = .ok (.getfield 26, 3) := by decide +kernel
theorem dX5_nestOf_4 : decode cX5_nestOf 4 = .ok (.bipush 12, 2) := by decide +kernel
theorem dX5_nestOf_6 : decode cX5_nestOf 6 = .ok (.iload_n 1, 1) := by decide +kernel
theorem dX5_nestOf_7 : decode cX5_nestOf 7 = .ok (.imul, 1) := by decide +kernel
theorem dX5_nestOf_8 : decode cX5_nestOf 8 = .ok (.iload_n 2, 1) := by decide +kernel
theorem dX5_nestOf_9 : decode cX5_nestOf 9 = .ok (.iadd, 1) := by decide +kernel
theorem dX5_nestOf_10 : decode cX5_nestOf 10 = .ok (.iaload, 1) := by decide +kernel
theorem dX5_nestOf_11 : decode cX5_nestOf 11 = .ok (.istore_n 3, 1) := by decide +kernel
theorem dX5_nestOf_12 : decode cX5_nestOf 12 = .ok (.bipush 12, 2) := by decide +kernel
theorem dX5_nestOf_14 : decode cX5_nestOf 14 = .ok (.iload_n 1, 1) := by decide +kernel
theorem dX5_nestOf_15 : decode cX5_nestOf 15 = .ok (.imul, 1) := by decide +kernel
theorem dX5_nestOf_16 : decode cX5_nestOf 16 = .ok (.iload_n 3, 1) := by decide +kernel
theorem dX5_nestOf_17 : decode cX5_nestOf 17 = .ok (.iadd, 1) := by decide +kernel
theorem dX5_nestOf_18 : decode cX5_nestOf 18 = .ok (.istore 4, 2) := by decide +kernel
theorem dX5_nestOf_20 : decode cX5_nestOf 20 = .ok (.aload_n 0, 1) := by decide +kernel
theorem dX5_nestOf_21 : decode cX5_nestOf 21 = .ok (.getfield 7, 3) := by decide +kernel
theorem dX5_nestOf_24 : decode cX5_nestOf 24 = .ok (.iload 4, 2) := by decide +kernel
theorem dX5_nestOf_26 : decode cX5_nestOf 26 = .ok (.baload, 1) := by decide +kernel
theorem dX5_nestOf_27 : decode cX5_nestOf 27 = .ok (.ifCond .eq 39, 3) := by decide +kernel
theorem dX5_nestOf_30 : decode cX5_nestOf 30 = .ok (.aload_n 0, 1) := by decide +kernel
theorem dX5_nestOf_31 : decode cX5_nestOf 31 = .ok (.getfield 17, 3) := by decide +kernel
theorem dX5_nestOf_34 : decode cX5_nestOf 34 = .ok (.iload 4, 2) := by decide +kernel
theorem dX5_nestOf_36 : decode cX5_nestOf 36 = .ok (.iaload, 1) := by decide +kernel
theorem dX5_nestOf_37 : decode cX5_nestOf 37 = .ok (.aload_n 0, 1) := by decide +kernel
theorem dX5_nestOf_38 : decode cX5_nestOf 38 = .ok (.getfield 17, 3) := by decide +kernel
theorem dX5_nestOf_41 : decode cX5_nestOf 41 = .ok (.bipush 12, 2) := by decide +kernel
theorem dX5_nestOf_43 : decode cX5_nestOf 43 = .ok (.iload_n 1, 1) := by decide +kernel
theorem dX5_nestOf_44 : decode cX5_nestOf 44 = .ok (.imul, 1) := by decide +kernel
theorem dX5_nestOf_45 : decode cX5_nestOf 45 = .ok (.iload_n 2, 1) := by decide +kernel
theorem dX5_nestOf_46 : decode cX5_nestOf 46 = .ok (.iadd, 1) := by decide +kernel
theorem dX5_nestOf_47 : decode cX5_nestOf 47 = .ok (.iaload, 1) := by decide +kernel
theorem dX5_nestOf_48 : decode cX5_nestOf 48 = .ok (.if_icmp .ne 18, 3) := by decide +kernel
theorem dX5_nestOf_51 : decode cX5_nestOf 51 = .ok (.aload_n 0, 1) := by decide +kernel
theorem dX5_nestOf_52 : decode cX5_nestOf 52 = .ok (.getfield 26, 3) := by decide +kernel
theorem dX5_nestOf_55 : decode cX5_nestOf 55 = .ok (.iload 4, 2) := by decide +kernel
theorem dX5_nestOf_57 : decode cX5_nestOf 57 = .ok (.iaload, 1) := by decide +kernel
theorem dX5_nestOf_58 : decode cX5_nestOf 58 = .ok (.iload_n 3, 1) := by decide +kernel
theorem dX5_nestOf_59 : decode cX5_nestOf 59 = .ok (.if_icmp .ne 7, 3) := by decide +kernel
theorem dX5_nestOf_62 : decode cX5_nestOf 62 = .ok (.iload_n 3, 1) := by decide +kernel
theorem dX5_nestOf_63 : decode cX5_nestOf 63 = .ok (.goto 4, 3) := by decide +kernel
theorem dX5_nestOf_66 : decode cX5_nestOf 66 = .ok (.iload_n 2, 1) := by decide +kernel
theorem dX5_nestOf_67 : decode cX5_nestOf 67 = .ok (.ireturn, 1) := by decide +kernel
theorem dX5_isOpen_0 : decode cX5_isOpen 0 = .ok (.bipush 30, 2) := by decide +kernel
theorem dX5_isOpen_2 : decode cX5_isOpen 2 = .ok (.iload_n 1, 1) := by decide +kernel
theorem dX5_isOpen_3 : decode cX5_isOpen 3 = .ok (.imul, 1) := by decide +kernel
theorem dX5_isOpen_4 : decode cX5_isOpen 4 = .ok (.iload_n 2, 1) := by decide +kernel
theorem dX5_isOpen_5 : decode cX5_isOpen 5 = .ok (.iadd, 1) := by decide +kernel
theorem dX5_isOpen_6 : decode cX5_isOpen 6 = .ok (.istore 5, 2) := by decide +kernel
theorem dX5_isOpen_8 : decode cX5_isOpen 8 = .ok (.aload_n 0, 1) := by decide +kernel
theorem dX5_isOpen_9 : decode cX5_isOpen 9 = .ok (.getfield 38, 3) := by decide +kernel
theorem dX5_isOpen_12 : decode cX5_isOpen 12 = .ok (.iload 5, 2) := by decide +kernel
theorem dX5_isOpen_14 : decode cX5_isOpen 14 = .ok (.iaload, 1) := by decide +kernel
theorem dX5_isOpen_15 : decode cX5_isOpen 15 = .ok (.istore 6, 2) := by decide +kernel
theorem dX5_isOpen_17 : decode cX5_isOpen 17 = .ok (.aload_n 0, 1) := by decide +kernel
theorem dX5_isOpen_18 : decode cX5_isOpen 18 = .ok (.getfield 44, 3) := by decide +kernel
theorem dX5_isOpen_21 : decode cX5_isOpen 21 = .ok (.iload 5, 2) := by decide +kernel
theorem dX5_isOpen_23 : decode cX5_isOpen 23 = .ok (.iaload, 1) := by decide +kernel
theorem dX5_isOpen_24 : decode cX5_isOpen 24 = .ok (.istore 7, 2) := by decide +kernel
theorem dX5_isOpen_26 : decode cX5_isOpen 26 = .ok (.aload_n 0, 1) := by decide +kernel
theorem dX5_isOpen_27 : decode cX5_isOpen 27 = .ok (.getfield 17, 3) := by decide +kernel
theorem dX5_isOpen_30 : decode cX5_isOpen 30 = .ok (.bipush 12, 2) := by decide +kernel
theorem dX5_isOpen_32 : decode cX5_isOpen 32 = .ok (.iload_n 1, 1) := by decide +kernel
theorem dX5_isOpen_33 : decode cX5_isOpen 33 = .ok (.imul, 1) := by decide +kernel
theorem dX5_isOpen_34 : decode cX5_isOpen 34 = .ok (.iload 6, 2) := by decide +kernel
theorem dX5_isOpen_36 : decode cX5_isOpen 36 = .ok (.iadd, 1) := by decide +kernel
theorem dX5_isOpen_37 : decode cX5_isOpen 37 = .ok (.iaload, 1) := by decide +kernel
theorem dX5_isOpen_38 : decode cX5_isOpen 38 = .ok (.aload_n 0, 1) := by decide +kernel
theorem dX5_isOpen_39 : decode cX5_isOpen 39 = .ok (.getfield 17, 3) := by decide +kernel
theorem dX5_isOpen_42 : decode cX5_isOpen 42 = .ok (.bipush 12, 2) := by decide +kernel
theorem dX5_isOpen_44 : decode cX5_isOpen 44 = .ok (.iload_n 1, 1) := by decide +kernel
theorem dX5_isOpen_45 : decode cX5_isOpen 45 = .ok (.imul, 1) := by decide +kernel
theorem dX5_isOpen_46 : decode cX5_isOpen 46 = .ok (.iload 4, 2) := by decide +kernel
theorem dX5_isOpen_48 : decode cX5_isOpen 48 = .ok (.iadd, 1) := by decide +kernel
theorem dX5_isOpen_49 : decode cX5_isOpen 49 = .ok (.iaload, 1) := by decide +kernel
theorem dX5_isOpen_50 : decode cX5_isOpen 50 = .ok (.if_icmp .ne 7, 3) := by decide +kernel
theorem dX5_isOpen_53 : decode cX5_isOpen 53 = .ok (.iconst 1, 1) := by decide +kernel
theorem dX5_isOpen_54 : decode cX5_isOpen 54 = .ok (.goto 4, 3) := by decide +kernel
theorem dX5_isOpen_57 : decode cX5_isOpen 57 = .ok (.iconst 0, 1) := by decide +kernel
theorem dX5_isOpen_58 : decode cX5_isOpen 58 = .ok (.istore 8, 2) := by decide +kernel
theorem dX5_isOpen_60 : decode cX5_isOpen 60 = .ok (.iload 7, 2) := by decide +kernel
theorem dX5_isOpen_62 : decode cX5_isOpen 62 = .ok (.iconst 3, 1) := by decide +kernel
theorem dX5_isOpen_63 : decode cX5_isOpen 63 = .ok (.if_icmp .ne 5, 3) := by decide +kernel
theorem dX5_isOpen_66 : decode cX5_isOpen 66 = .ok (.iconst 1, 1) := by decide +kernel
theorem dX5_isOpen_67 : decode cX5_isOpen 67 = .ok (.ireturn, 1) := by decide +kernel
theorem dX5_isOpen_68 : decode cX5_isOpen 68 = .ok (.iload 7, 2) := by decide +kernel
theorem dX5_isOpen_70 : decode cX5_isOpen 70 = .ok (.ifCond .ne 26, 3) := by decide +kernel
theorem dX5_isOpen_73 : decode cX5_isOpen 73 = .ok (.aload_n 0, 1) := by decide +kernel
theorem dX5_isOpen_74 : decode cX5_isOpen 74 = .ok (.iload_n 1, 1) := by decide +kernel
theorem dX5_isOpen_75 : decode cX5_isOpen 75 = .ok (.iload 6, 2) := by decide +kernel
theorem dX5_isOpen_77 : decode cX5_isOpen 77 = .ok (.invokevirtual 113, 3) := by decide +kernel
theorem dX5_isOpen_80 : decode cX5_isOpen 80 = .ok (.aload_n 0, 1) := by decide +kernel
theorem dX5_isOpen_81 : decode cX5_isOpen 81 = .ok (.iload_n 1, 1) := by decide +kernel
theorem dX5_isOpen_82 : decode cX5_isOpen 82 = .ok (.iload 4, 2) := by decide +kernel
theorem dX5_isOpen_84 : decode cX5_isOpen 84 = .ok (.invokevirtual 113, 3) := by decide +kernel
theorem dX5_isOpen_87 : decode cX5_isOpen 87 = .ok (.if_icmp .ne 7, 3) := by decide +kernel
theorem dX5_isOpen_90 : decode cX5_isOpen 90 = .ok (.iconst 1, 1) := by decide +kernel
theorem dX5_isOpen_91 : decode cX5_isOpen 91 = .ok (.goto 4, 3) := by decide +kernel
theorem dX5_isOpen_94 : decode cX5_isOpen 94 = .ok (.iconst 0, 1) := by decide +kernel
theorem dX5_isOpen_95 : decode cX5_isOpen 95 = .ok (.ireturn, 1) := by decide +kernel
theorem dX5_isOpen_96 : decode cX5_isOpen 96 = .ok (.iload 8, 2) := by decide +kernel
theorem dX5_isOpen_98 : decode cX5_isOpen 98 = .ok (.ifCond .eq 5, 3) := by decide +kernel
theorem dX5_isOpen_101 : decode cX5_isOpen 101 = .ok (.iconst 1, 1) := by decide +kernel
theorem dX5_isOpen_102 : decode cX5_isOpen 102 = .ok (.ireturn, 1) := by decide +kernel
theorem dX5_isOpen_103 : decode cX5_isOpen 103 = .ok (.iload 7, 2) := by decide +kernel
theorem dX5_isOpen_105 : decode cX5_isOpen 105 = .ok (.iconst 2, 1) := by decide +kernel
theorem dX5_isOpen_106 : decode cX5_isOpen 106 = .ok (.if_icmp .ne 56, 3) := by decide +kernel
theorem dX5_isOpen_109 : decode cX5_isOpen 109 = .ok (.aload_n 0, 1) := by decide +kernel
theorem dX5_isOpen_110 : decode cX5_isOpen 110 = .ok (.iload_n 1, 1) := by decide +kernel
theorem dX5_isOpen_111 : decode cX5_isOpen 111 = .ok (.iload 4, 2) := by decide +kernel
theorem dX5_isOpen_113 : decode cX5_isOpen 113 = .ok (.invokevirtual 107, 3) := by decide +kernel
theorem dX5_isOpen_116 : decode cX5_isOpen 116 = .ok (.iload 6, 2) := by decide +kernel
theorem dX5_isOpen_118 : decode cX5_isOpen 118 = .ok (.invokestatic 94, 3) := by decide +kernel
theorem dX5_isOpen_121 : decode cX5_isOpen 121 = .ok (.ifCond .eq 41, 3) := by decide +kernel
theorem dX5_isOpen_124 : decode cX5_isOpen 124 = .ok (.aload_n 0, 1) := by decide +kernel
theorem dX5_isOpen_125 : decode cX5_isOpen 125 = .ok (.getfield 47, 3) := by decide +kernel
theorem dX5_isOpen_128 : decode cX5_isOpen 128 = .ok (.iload 5, 2) := by decide +kernel
theorem dX5_isOpen_130 : decode cX5_isOpen 130 = .ok (.iaload, 1) := by decide +kernel
theorem dX5_isOpen_131 : decode cX5_isOpen 131 = .ok (.iconst 1, 1) := by decide +kernel
theorem dX5_isOpen_132 : decode cX5_isOpen 132 = .ok (.iand, 1) := by decide +kernel
theorem dX5_isOpen_133 : decode cX5_isOpen 133 = .ok (.ifCond .ne 25, 3) := by decide +kernel
theorem dX5_isOpen_136 : decode cX5_isOpen 136 = .ok (.aload_n 0, 1) := by decide +kernel
theorem dX5_isOpen_137 : decode cX5_isOpen 137 = .ok (.iload_n 1, 1) := by decide +kernel
theorem dX5_isOpen_138 : decode cX5_isOpen 138 = .ok (.iload_n 3, 1) := by decide +kernel
theorem dX5_isOpen_139 : decode cX5_isOpen 139 = .ok (.iload 4, 2) := by decide +kernel
theorem dX5_isOpen_141 : decode cX5_isOpen 141 = .ok (.invokevirtual 116, 3) := by decide +kernel
theorem dX5_isOpen_144 : decode cX5_isOpen 144 = .ok (.ifCond .ne 14, 3) := by decide +kernel
theorem dX5_isOpen_147 : decode cX5_isOpen 147 = .ok (.aload_n 0, 1) := by decide +kernel
theorem dX5_isOpen_148 : decode cX5_isOpen 148 = .ok (.iload_n 1, 1) := by decide +kernel
theorem dX5_isOpen_149 : decode cX5_isOpen 149 = .ok (.iload 4, 2) := by decide +kernel
theorem dX5_isOpen_151 : decode cX5_isOpen 151 = .ok (.iload_n 3, 1) := by decide +kernel
theorem dX5_isOpen_152 : decode cX5_isOpen 152 = .ok (.invokevirtual 116, 3) := by decide +kernel
theorem dX5_isOpen_155 : decode cX5_isOpen 155 = .ok (.ifCond .eq 7, 3) := by decide +kernel
theorem dX5_isOpen_158 : decode cX5_isOpen 158 = .ok (.iconst 1, 1) := by decide +kernel
theorem dX5_isOpen_159 : decode cX5_isOpen 159 = .ok (.goto 4, 3) := by decide +kernel
theorem dX5_isOpen_162 : decode cX5_isOpen 162 = .ok (.iconst 0, 1) := by decide +kernel
theorem dX5_isOpen_163 : decode cX5_isOpen 163 = .ok (.ireturn, 1) := by decide +kernel
theorem dX5_field_0 : decode cX5_field 0 = .ok (.iconst 1, 1) := by decide +kernel
theorem dX5_field_1 : decode cX5_field 1 = .ok (.istore 4, 2) := by decide +kernel
theorem dX5_field_3 : decode cX5_field 3 = .ok (.iconst 0, 1) := by decide +kernel
theorem dX5_field_4 : decode cX5_field 4 = .ok (.istore 5, 2) := by decide +kernel
theorem dX5_field_6 : decode cX5_field 6 = .ok (.aload_n 0, 1) := by decide +kernel
theorem dX5_field_7 : decode cX5_field 7 = .ok (.getfield 62, 3) := by decide +kernel
theorem dX5_field_10 : decode cX5_field 10 = .ok (.iconst 0, 1) := by decide +kernel
theorem dX5_field_11 : decode cX5_field 11 = .ok (.iload_n 2, 1) := by decide +kernel
theorem dX5_field_12 : decode cX5_field 12 = .ok (.iastore, 1) := by decide +kernel
theorem dX5_field_13 : decode cX5_field 13 = .ok (.iload 4, 2) := by decide +kernel
theorem dX5_field_15 : decode cX5_field 15 = .ok (.ifCond .le 143, 3) := by decide +kernel
theorem dX5_field_18 : decode cX5_field 18 = .ok (.iinc 4 (-1), 3) := by decide +kernel
theorem dX5_field_21 : decode cX5_field 21 = .ok (.aload_n 0, 1) := by decide +kernel
theorem dX5_field_22 : decode cX5_field 22 = .ok (.getfield 62, 3) := by decide +kernel
theorem dX5_field_25 : decode cX5_field 25 = .ok (.iload 4, 2) := by decide +kernel
theorem dX5_field_27 : decode cX5_field 27 = .ok (.iaload, 1) := by decide +kernel
theorem dX5_field_28 : decode cX5_field 28 = .ok (.istore 6, 2) := by decide +kernel
theorem dX5_field_30 : decode cX5_field 30 = .ok (.bipush 12, 2) := by decide +kernel
theorem dX5_field_32 : decode cX5_field 32 = .ok (.iload_n 1, 1) := by decide +kernel
theorem dX5_field_33 : decode cX5_field 33 = .ok (.imul, 1) := by decide +kernel
theorem dX5_field_34 : decode cX5_field 34 = .ok (.iload 6, 2) := by decide +kernel
theorem dX5_field_36 : decode cX5_field 36 = .ok (.iadd, 1) := by decide +kernel
theorem dX5_field_37 : decode cX5_field 37 = .ok (.istore 7, 2) := by decide +kernel
theorem dX5_field_39 : decode cX5_field 39 = .ok (.iload 5, 2) := by decide +kernel
theorem dX5_field_41 : decode cX5_field 41 = .ok (.iload 6, 2) := by decide +kernel
theorem dX5_field_43 : decode cX5_field 43 = .ok (.invokestatic 94, 3) := by decide +kernel
theorem dX5_field_46 : decode cX5_field 46 = .ok (.ifCond .eq 6, 3) := by decide +kernel
theorem dX5_field_49 : decode cX5_field 49 = .ok (.goto (-36), 3) := by decide +kernel
theorem dX5_field_52 : decode cX5_field 52 = .ok (.iload 5, 2) := by decide +kernel
theorem dX5_field_54 : decode cX5_field 54 = .ok (.iconst 1, 1) := by decide +kernel
theorem dX5_field_55 : decode cX5_field 55 = .ok (.iload 6, 2) := by decide +kernel
theorem dX5_field_57 : decode cX5_field 57 = .ok (.ishl, 1) := by decide +kernel
theorem dX5_field_58 : decode cX5_field 58 = .ok (.ior, 1) := by decide +kernel
theorem dX5_field_59 : decode cX5_field 59 = .ok (.istore 5, 2) := by decide +kernel
theorem dX5_field_61 : decode cX5_field 61 = .ok (.aload_n 0, 1) := by decide +kernel
theorem dX5_field_62 : decode cX5_field 62 = .ok (.iload_n 1, 1) := by decide +kernel
theorem dX5_field_63 : decode cX5_field 63 = .ok (.iload 6, 2) := by decide +kernel
theorem dX5_field_65 : decode cX5_field 65 = .ok (.iconst 0, 1) := by decide +kernel
theorem dX5_field_66 : decode cX5_field 66 = .ok (.iload_n 3, 1) := by decide +kernel
theorem dX5_field_67 : decode cX5_field 67 = .ok (.invokevirtual 84, 3) := by decide +kernel
theorem dX5_field_70 : decode cX5_field 70 = .ok (.istore 8, 2) := by decide +kernel
theorem dX5_field_72 : decode cX5_field 72 = .ok (.iload 8, 2) := by decide +kernel
theorem dX5_field_74 : decode cX5_field 74 = .ok (.ifCond .lt 6, 3) := by decide +kernel
theorem dX5_field_77 : decode cX5_field 77 = .ok (.iload 8, 2) := by decide +kernel
theorem dX5_field_79 : decode cX5_field 79 = .ok (.ireturn, 1) := by decide +kernel
theorem dX5_field_80 : decode cX5_field 80 = .ok (.aload_n 0, 1) := by decide +kernel
theorem dX5_field_81 : decode cX5_field 81 = .ok (.getfield 20, 3) := by decide +kernel
theorem dX5_field_84 : decode cX5_field 84 = .ok (.iload 7, 2) := by decide +kernel
theorem dX5_field_86 : decode cX5_field 86 = .ok (.iaload, 1) := by decide +kernel
theorem dX5_field_87 : decode cX5_field 87 = .ok (.ifCond .lt 18, 3) := by decide +kernel
theorem dX5_field_90 : decode cX5_field 90 = .ok (.aload_n 0, 1) := by decide +kernel
theorem dX5_field_91 : decode cX5_field 91 = .ok (.iload 4, 2) := by decide +kernel
theorem dX5_field_93 : decode cX5_field 93 = .ok (.aload_n 0, 1) := by decide +kernel
theorem dX5_field_94 : decode cX5_field 94 = .ok (.getfield 20, 3) := by decide +kernel
theorem dX5_field_97 : decode cX5_field 97 = .ok (.iload 7, 2) := by decide +kernel
theorem dX5_field_99 : decode cX5_field 99 = .ok (.iaload, 1) := by decide +kernel
theorem dX5_field_100 : decode cX5_field 100 = .ok (.invokevirtual 120, 3) := by decide +kernel
theorem dX5_field_103 : decode cX5_field 103 = .ok (.istore 4, 2) := by decide +kernel
theorem dX5_field_105 : decode cX5_field 105 = .ok (.bipush 11, 2) := by decide +kernel
theorem dX5_field_107 : decode cX5_field 107 = .ok (.istore 9, 2) := by decide +kernel
theorem dX5_field_109 : decode cX5_field 109 = .ok (.iload 9, 2) := by decide +kernel
theorem dX5_field_111 : decode cX5_field 111 = .ok (.ifCond .lt 44, 3) := by decide +kernel
theorem dX5_field_114 : decode cX5_field 114 = .ok (.aload_n 0, 1) := by decide +kernel
theorem dX5_field_115 : decode cX5_field 115 = .ok (.getfield 23, 3) := by decide +kernel
theorem dX5_field_118 : decode cX5_field 118 = .ok (.iload 7, 2) := by decide +kernel
theorem dX5_field_120 : decode cX5_field 120 = .ok (.iaload, 1) := by decide +kernel
theorem dX5_field_121 : decode cX5_field 121 = .ok (.iload 9, 2) := by decide +kernel
theorem dX5_field_123 : decode cX5_field 123 = .ok (.invokestatic 94, 3) := by decide +kernel
theorem dX5_field_126 : decode cX5_field 126 = .ok (.ifCond .eq 23, 3) := by decide +kernel
theorem dX5_field_129 : decode cX5_field 129 = .ok (.iload 5, 2) := by decide +kernel
theorem dX5_field_131 : decode cX5_field 131 = .ok (.iload 9, 2) := by decide +kernel
theorem dX5_field_133 : decode cX5_field 133 = .ok (.invokestatic 94, 3) := by decide +kernel
theorem dX5_field_136 : decode cX5_field 136 = .ok (.ifCond .ne 13, 3) := by decide +kernel
theorem dX5_field_139 : decode cX5_field 139 = .ok (.aload_n 0, 1) := by decide +kernel
theorem dX5_field_140 : decode cX5_field 140 = .ok (.iload 4, 2) := by decide +kernel
theorem dX5_field_142 : decode cX5_field 142 = .ok (.iload 9, 2) := by decide +kernel
theorem dX5_field_144 : decode cX5_field 144 = .ok (.invokevirtual 120, 3) := by decide +kernel
theorem dX5_field_147 : decode cX5_field 147 = .ok (.istore 4, 2) := by decide +kernel
theorem dX5_field_149 : decode cX5_field 149 = .ok (.iinc 9 (-1), 3) := by decide +kernel
theorem dX5_field_152 : decode cX5_field 152 = .ok (.goto (-43), 3) := by decide +kernel
theorem dX5_field_155 : decode cX5_field 155 = .ok (.goto (-142), 3) := by decide +kernel
theorem dX5_field_158 : decode cX5_field 158 = .ok (.iconst (-1), 1) := by decide +kernel
theorem dX5_field_159 : decode cX5_field 159 = .ok (.ireturn, 1) := by decide +kernel
theorem dX5_lay_0 : decode cX5_lay 0 = .ok (.iconst 0, 1) := by decide +kernel
theorem dX5_lay_1 : decode cX5_lay 1 = .ok (.istore_n 3, 1) := by decide +kernel
theorem dX5_lay_2 : decode cX5_lay 2 = .ok (.iconst 0, 1) := by decide +kernel
theorem dX5_lay_3 : decode cX5_lay 3 = .ok (.istore 4, 2) := by decide +kernel
theorem dX5_lay_5 : decode cX5_lay 5 = .ok (.iload 4, 2) := by decide +kernel
theorem dX5_lay_7 : decode cX5_lay 7 = .ok (.iload_n 1, 1) := by decide +kernel
theorem dX5_lay_8 : decode cX5_lay 8 = .ok (.if_icmp .ge 39, 3) := by decide +kernel
theorem dX5_lay_11 : decode cX5_lay 11 = .ok (.aload_n 0, 1) := by decide +kernel
theorem dX5_lay_12 : decode cX5_lay 12 = .ok (.getfield 62, 3) := by decide +kernel
theorem dX5_lay_15 : decode cX5_lay 15 = .ok (.iload 4, 2) := by decide +kernel
theorem dX5_lay_17 : decode cX5_lay 17 = .ok (.iaload, 1) := by decide +kernel
theorem dX5_lay_18 : decode cX5_lay 18 = .ok (.iload_n 2, 1) := by decide +kernel
theorem dX5_lay_19 : decode cX5_lay 19 = .ok (.if_icmp .ne 6, 3) := by decide +kernel
theorem dX5_lay_22 : decode cX5_lay 22 = .ok (.goto 19, 3) := by decide +kernel
theorem dX5_lay_25 : decode cX5_lay 25 = .ok (.aload_n 0, 1) := by decide +kernel
theorem dX5_lay_26 : decode cX5_lay 26 = .ok (.getfield 62, 3) := by decide +kernel
theorem dX5_lay_29 : decode cX5_lay 29 = .ok (.iload_n 3, 1) := by decide +kernel
theorem dX5_lay_30 : decode cX5_lay 30 = .ok (.aload_n 0, 1) := by decide +kernel
theorem dX5_lay_31 : decode cX5_lay 31 = .ok (.getfield 62, 3) := by decide +kernel
theorem dX5_lay_34 : decode cX5_lay 34 = .ok (.iload 4, 2) := by decide +kernel
theorem dX5_lay_36 : decode cX5_lay 36 = .ok (.iaload, 1) := by decide +kernel
theorem dX5_lay_37 : decode cX5_lay 37 = .ok (.iastore, 1) := by decide +kernel
theorem dX5_lay_38 : decode cX5_lay 38 = .ok (.iinc 3 1, 3) := by decide +kernel
theorem dX5_lay_41 : decode cX5_lay 41 = .ok (.iinc 4 1, 3) := by decide +kernel
theorem dX5_lay_44 : decode cX5_lay 44 = .ok (.goto (-39), 3) := by decide +kernel
theorem dX5_lay_47 : decode cX5_lay 47 = .ok (.aload_n 0, 1) := by decide +kernel
theorem dX5_lay_48 : decode cX5_lay 48 = .ok (.getfield 62, 3) := by decide +kernel
theorem dX5_lay_51 : decode cX5_lay 51 = .ok (.iload_n 3, 1) := by decide +kernel
theorem dX5_lay_52 : decode cX5_lay 52 = .ok (.iload_n 2, 1) := by decide +kernel
theorem dX5_lay_53 : decode cX5_lay 53 = .ok (.iastore, 1) := by decide +kernel
theorem dX5_lay_54 : decode cX5_lay 54 = .ok (.iload_n 3, 1) := by decide +kernel
theorem dX5_lay_55 : decode cX5_lay 55 = .ok (.iconst 1, 1) := by decide +kernel
theorem dX5_lay_56 : decode cX5_lay 56 = .ok (.iadd, 1) := by decide +kernel
theorem dX5_lay_57 : decode cX5_lay 57 = .ok (.ireturn, 1) := by decide +kernel
theorem dX5_offers_0 : decode cX5_offers 0 = .ok (.aload_n 0, 1) := by decide +kernel
theorem dX5_offers_1 : decode cX5_offers 1 = .ok (.iload_n 1, 1) := by decide +kernel
theorem dX5_offers_2 : decode cX5_offers 2 = .ok (.iload_n 2, 1) := by decide +kernel
theorem dX5_offers_3 : decode cX5_offers 3 = .ok (.iconst 1, 1) := by decide +kernel
theorem dX5_offers_4 : decode cX5_offers 4 = .ok (.iload_n 3, 1) := by decide +kernel
theorem dX5_offers_5 : decode cX5_offers 5 = .ok (.invokevirtual 84, 3) := by decide +kernel
theorem dX5_offers_8 : decode cX5_offers 8 = .ok (.istore 4, 2) := by decide +kernel
theorem dX5_offers_10 : decode cX5_offers 10 = .ok (.iload 4, 2) := by decide +kernel
theorem dX5_offers_12 : decode cX5_offers 12 = .ok (.ifCond .lt 39, 3) := by decide +kernel
theorem dX5_offers_15 : decode cX5_offers 15 = .ok (.aload_n 0, 1) := by decide +kernel
theorem dX5_offers_16 : decode cX5_offers 16 = .ok (.getfield 44, 3) := by decide +kernel
theorem dX5_offers_19 : decode cX5_offers 19 = .ok (.bipush 30, 2) := by decide +kernel
theorem dX5_offers_21 : decode cX5_offers 21 = .ok (.iload_n 1, 1) := by decide +kernel
theorem dX5_offers_22 : decode cX5_offers 22 = .ok (.imul, 1) := by decide +kernel
theorem dX5_offers_23 : decode cX5_offers 23 = .ok (.iload 4, 2) := by decide +kernel
theorem dX5_offers_25 : decode cX5_offers 25 = .ok (.iadd, 1) := by decide +kernel
theorem dX5_offers_26 : decode cX5_offers 26 = .ok (.iaload, 1) := by decide +kernel
theorem dX5_offers_27 : decode cX5_offers 27 = .ok (.ifCond .eq 24, 3) := by decide +kernel
theorem dX5_offers_30 : decode cX5_offers 30 = .ok (.aload_n 0, 1) := by decide +kernel
theorem dX5_offers_31 : decode cX5_offers 31 = .ok (.getfield 47, 3) := by decide +kernel
theorem dX5_offers_34 : decode cX5_offers 34 = .ok (.bipush 30, 2) := by decide +kernel
theorem dX5_offers_36 : decode cX5_offers 36 = .ok (.iload_n 1, 1) := by decide +kernel
theorem dX5_offers_37 : decode cX5_offers 37 = .ok (.imul, 1) := by decide +kernel
theorem dX5_offers_38 : decode cX5_offers 38 = .ok (.iload 4, 2) := by decide +kernel
theorem dX5_offers_40 : decode cX5_offers 40 = .ok (.iadd, 1) := by decide +kernel
theorem dX5_offers_41 : decode cX5_offers 41 = .ok (.iaload, 1) := by decide +kernel
theorem dX5_offers_42 : decode cX5_offers 42 = .ok (.iconst 1, 1) := by decide +kernel
theorem dX5_offers_43 : decode cX5_offers 43 = .ok (.iand, 1) := by decide +kernel
theorem dX5_offers_44 : decode cX5_offers 44 = .ok (.ifCond .ne 7, 3) := by decide +kernel
theorem dX5_offers_47 : decode cX5_offers 47 = .ok (.iconst 1, 1) := by decide +kernel
theorem dX5_offers_48 : decode cX5_offers 48 = .ok (.goto 4, 3) := by decide +kernel
theorem dX5_offers_51 : decode cX5_offers 51 = .ok (.iconst 0, 1) := by decide +kernel
theorem dX5_offers_52 : decode cX5_offers 52 = .ok (.ireturn, 1) := by decide +kernel
theorem dX5_specific_0 : decode cX5_specific 0 = .ok (.iconst 0, 1) := by decide +kernel
theorem dX5_specific_1 : decode cX5_specific 1 = .ok (.istore 4, 2) := by decide +kernel
theorem dX5_specific_3 : decode cX5_specific 3 = .ok (.iconst 0, 1) := by decide +kernel
theorem dX5_specific_4 : decode cX5_specific 4 = .ok (.istore 5, 2) := by decide +kernel
theorem dX5_specific_6 : decode cX5_specific 6 = .ok (.aload_n 0, 1) := by decide +kernel
theorem dX5_specific_7 : decode cX5_specific 7 = .ok (.iload_n 1, 1) := by decide +kernel
theorem dX5_specific_8 : decode cX5_specific 8 = .ok (.iload_n 2, 1) := by decide +kernel
theorem dX5_specific_9 : decode cX5_specific 9 = .ok (.invokevirtual 110, 3) := by decide +kernel
theorem dX5_specific_12 : decode cX5_specific 12 = .ok (.istore 6, 2) := by decide +kernel
theorem dX5_specific_14 : decode cX5_specific 14 = .ok (.iconst 0, 1) := by decide +kernel
theorem dX5_specific_15 : decode cX5_specific 15 = .ok (.istore 7, 2) := by decide +kernel
theorem dX5_specific_17 : decode cX5_specific 17 = .ok (.iload 7, 2) := by decide +kernel
theorem dX5_specific_19 : decode cX5_specific 19 = .ok (.bipush 12, 2) := by decide +kernel
theorem dX5_specific_21 : decode cX5_specific 21 = .ok (.if_icmp .ge 39, 3) := by decide +kernel
theorem dX5_specific_24 : decode cX5_specific 24 = .ok (.iload 6, 2) := by decide +kernel
theorem dX5_specific_26 : decode cX5_specific 26 = .ok (.iload 7, 2) := by decide +kernel
theorem dX5_specific_28 : decode cX5_specific 28 = .ok (.invokestatic 94, 3) := by decide +kernel
theorem dX5_specific_31 : decode cX5_specific 31 = .ok (.ifCond .eq 23, 3) := by decide +kernel
theorem dX5_specific_34 : decode cX5_specific 34 = .ok (.aload_n 0, 1) := by decide +kernel
theorem dX5_specific_35 : decode cX5_specific 35 = .ok (.iload_n 1, 1) := by decide +kernel
theorem dX5_specific_36 : decode cX5_specific 36 = .ok (.iload 7, 2) := by decide +kernel
theorem dX5_specific_38 : decode cX5_specific 38 = .ok (.iload_n 3, 1) := by decide +kernel
theorem dX5_specific_39 : decode cX5_specific 39 = .ok (.invokevirtual 123, 3) := by decide +kernel
theorem dX5_specific_42 : decode cX5_specific 42 = .ok (.ifCond .eq 12, 3) := by decide +kernel
theorem dX5_specific_45 : decode cX5_specific 45 = .ok (.iload 4, 2) := by decide +kernel
theorem dX5_specific_47 : decode cX5_specific 47 = .ok (.iconst 1, 1) := by decide +kernel
theorem dX5_specific_48 : decode cX5_specific 48 = .ok (.iload 7, 2) := by decide +kernel
theorem dX5_specific_50 : decode cX5_specific 50 = .ok (.ishl, 1) := by decide +kernel
theorem dX5_specific_51 : decode cX5_specific 51 = .ok (.ior, 1) := by decide +kernel
theorem dX5_specific_52 : decode cX5_specific 52 = .ok (.istore 4, 2) := by decide +kernel
theorem dX5_specific_54 : decode cX5_specific 54 = .ok (.iinc 7 1, 3) := by decide +kernel
theorem dX5_specific_57 : decode cX5_specific 57 = .ok (.goto (-40), 3) := by decide +kernel
theorem dX5_specific_60 : decode cX5_specific 60 = .ok (.iconst 0, 1) := by decide +kernel
theorem dX5_specific_61 : decode cX5_specific 61 = .ok (.istore 7, 2) := by decide +kernel
theorem dX5_specific_63 : decode cX5_specific 63 = .ok (.iload 7, 2) := by decide +kernel
theorem dX5_specific_65 : decode cX5_specific 65 = .ok (.bipush 12, 2) := by decide +kernel
theorem dX5_specific_67 : decode cX5_specific 67 = .ok (.if_icmp .ge 80, 3) := by decide +kernel
theorem dX5_specific_70 : decode cX5_specific 70 = .ok (.iload 4, 2) := by decide +kernel
theorem dX5_specific_72 : decode cX5_specific 72 = .ok (.iload 7, 2) := by decide +kernel
theorem dX5_specific_74 : decode cX5_specific 74 = .ok (.invokestatic 94, 3) := by decide +kernel
theorem dX5_specific_77 : decode cX5_specific 77 = .ok (.istore 8, 2) := by decide +kernel
theorem dX5_specific_79 : decode cX5_specific 79 = .ok (.iconst 0, 1) := by decide +kernel
theorem dX5_specific_80 : decode cX5_specific 80 = .ok (.istore 9, 2) := by decide +kernel
theorem dX5_specific_82 : decode cX5_specific 82 = .ok (.iload 9, 2) := by decide +kernel
theorem dX5_specific_84 : decode cX5_specific 84 = .ok (.bipush 12, 2) := by decide +kernel
theorem dX5_specific_86 : decode cX5_specific 86 = .ok (.if_icmp .ge 41, 3) := by decide +kernel
theorem dX5_specific_89 : decode cX5_specific 89 = .ok (.iload 9, 2) := by decide +kernel
theorem dX5_specific_91 : decode cX5_specific 91 = .ok (.iload 7, 2) := by decide +kernel
theorem dX5_specific_93 : decode cX5_specific 93 = .ok (.if_icmp .eq 28, 3) := by decide +kernel
theorem dX5_specific_96 : decode cX5_specific 96 = .ok (.iload 4, 2) := by decide +kernel
theorem dX5_specific_98 : decode cX5_specific 98 = .ok (.iload 9, 2) := by decide +kernel
theorem dX5_specific_100 : decode cX5_specific 100 = .ok (.invokestatic 94, 3) := by decide +kernel
theorem dX5_specific_103 : decode cX5_specific 103 = .ok (.ifCond .eq 18, 3) := by decide +kernel
theorem dX5_specific_106 : decode cX5_specific 106 = .ok (.aload_n 0, 1) := by decide +kernel
theorem dX5_specific_107 : decode cX5_specific 107 = .ok (.iload_n 1, 1) := by decide +kernel
theorem dX5_specific_108 : decode cX5_specific 108 = .ok (.iload 9, 2) := by decide +kernel
theorem dX5_specific_110 : decode cX5_specific 110 = .ok (.iload 7, 2) := by decide +kernel
theorem dX5_specific_112 : decode cX5_specific 112 = .ok (.invokevirtual 116, 3) := by decide +kernel
theorem dX5_specific_115 : decode cX5_specific 115 = .ok (.ifCond .eq 6, 3) := by decide +kernel
theorem dX5_specific_118 : decode cX5_specific 118 = .ok (.iconst 0, 1) := by decide +kernel
theorem dX5_specific_119 : decode cX5_specific 119 = .ok (.istore 8, 2) := by decide +kernel
theorem dX5_specific_121 : decode cX5_specific 121 = .ok (.iinc 9 1, 3) := by decide +kernel
theorem dX5_specific_124 : decode cX5_specific 124 = .ok (.goto (-42), 3) := by decide +kernel
theorem dX5_specific_127 : decode cX5_specific 127 = .ok (.iload 8, 2) := by decide +kernel
theorem dX5_specific_129 : decode cX5_specific 129 = .ok (.ifCond .eq 12, 3) := by decide +kernel
theorem dX5_specific_132 : decode cX5_specific 132 = .ok (.iload 5, 2) := by decide +kernel
theorem dX5_specific_134 : decode cX5_specific 134 = .ok (.iconst 1, 1) := by decide +kernel
theorem dX5_specific_135 : decode cX5_specific 135 = .ok (.iload 7, 2) := by decide +kernel
theorem dX5_specific_137 : decode cX5_specific 137 = .ok (.ishl, 1) := by decide +kernel
theorem dX5_specific_138 : decode cX5_specific 138 = .ok (.ior, 1) := by decide +kernel
theorem dX5_specific_139 : decode cX5_specific 139 = .ok (.istore 5, 2) := by decide +kernel
theorem dX5_specific_141 : decode cX5_specific 141 = .ok (.iinc 7 1, 3) := by decide +kernel
theorem dX5_specific_144 : decode cX5_specific 144 = .ok (.goto (-81), 3) := by decide +kernel
theorem dX5_specific_147 : decode cX5_specific 147 = .ok (.iload 5, 2) := by decide +kernel
theorem dX5_specific_149 : decode cX5_specific 149 = .ok (.ireturn, 1) := by decide +kernel
theorem dX5_bodied_0 : decode cX5_bodied 0 = .ok (.iconst (-1), 1) := by decide +kernel
theorem dX5_bodied_1 : decode cX5_bodied 1 = .ok (.istore 4, 2) := by decide +kernel
theorem dX5_bodied_3 : decode cX5_bodied 3 = .ok (.iconst 0, 1) := by decide +kernel
theorem dX5_bodied_4 : decode cX5_bodied 4 = .ok (.istore 5, 2) := by decide +kernel
theorem dX5_bodied_6 : decode cX5_bodied 6 = .ok (.iload 5, 2) := by decide +kernel
theorem dX5_bodied_8 : decode cX5_bodied 8 = .ok (.bipush 12, 2) := by decide +kernel
theorem dX5_bodied_10 : decode cX5_bodied 10 = .ok (.if_icmp .ge 67, 3) := by decide +kernel
theorem dX5_bodied_13 : decode cX5_bodied 13 = .ok (.iload_n 2, 1) := by decide +kernel
theorem dX5_bodied_14 : decode cX5_bodied 14 = .ok (.iload 5, 2) := by decide +kernel
theorem dX5_bodied_16 : decode cX5_bodied 16 = .ok (.invokestatic 94, 3) := by decide +kernel
theorem dX5_bodied_19 : decode cX5_bodied 19 = .ok (.ifCond .ne 6, 3) := by decide +kernel
theorem dX5_bodied_22 : decode cX5_bodied 22 = .ok (.goto 49, 3) := by decide +kernel
theorem dX5_bodied_25 : decode cX5_bodied 25 = .ok (.aload_n 0, 1) := by decide +kernel
theorem dX5_bodied_26 : decode cX5_bodied 26 = .ok (.iload_n 1, 1) := by decide +kernel
theorem dX5_bodied_27 : decode cX5_bodied 27 = .ok (.iload 5, 2) := by decide +kernel
theorem dX5_bodied_29 : decode cX5_bodied 29 = .ok (.iconst 1, 1) := by decide +kernel
theorem dX5_bodied_30 : decode cX5_bodied 30 = .ok (.iload_n 3, 1) := by decide +kernel
theorem dX5_bodied_31 : decode cX5_bodied 31 = .ok (.invokevirtual 84, 3) := by decide +kernel
theorem dX5_bodied_34 : decode cX5_bodied 34 = .ok (.istore 6, 2) := by decide +kernel
theorem dX5_bodied_36 : decode cX5_bodied 36 = .ok (.aload_n 0, 1) := by decide +kernel
theorem dX5_bodied_37 : decode cX5_bodied 37 = .ok (.getfield 47, 3) := by decide +kernel
theorem dX5_bodied_40 : decode cX5_bodied 40 = .ok (.bipush 30, 2) := by decide +kernel
theorem dX5_bodied_42 : decode cX5_bodied 42 = .ok (.iload_n 1, 1) := by decide +kernel
theorem dX5_bodied_43 : decode cX5_bodied 43 = .ok (.imul, 1) := by decide +kernel
theorem dX5_bodied_44 : decode cX5_bodied 44 = .ok (.iload 6, 2) := by decide +kernel
theorem dX5_bodied_46 : decode cX5_bodied 46 = .ok (.iadd, 1) := by decide +kernel
theorem dX5_bodied_47 : decode cX5_bodied 47 = .ok (.iaload, 1) := by decide +kernel
theorem dX5_bodied_48 : decode cX5_bodied 48 = .ok (.iconst 2, 1) := by decide +kernel
theorem dX5_bodied_49 : decode cX5_bodied 49 = .ok (.iand, 1) := by decide +kernel
theorem dX5_bodied_50 : decode cX5_bodied 50 = .ok (.ifCond .eq 6, 3) := by decide +kernel
theorem dX5_bodied_53 : decode cX5_bodied 53 = .ok (.goto 18, 3) := by decide +kernel
theorem dX5_bodied_56 : decode cX5_bodied 56 = .ok (.iload 4, 2) := by decide +kernel
theorem dX5_bodied_58 : decode cX5_bodied 58 = .ok (.iconst (-1), 1) := by decide +kernel
theorem dX5_bodied_59 : decode cX5_bodied 59 = .ok (.if_icmp .ne 8, 3) := by decide +kernel
theorem dX5_bodied_62 : decode cX5_bodied 62 = .ok (.iload 6, 2) := by decide +kernel
theorem dX5_bodied_64 : decode cX5_bodied 64 = .ok (.goto 5, 3) := by decide +kernel
theorem dX5_bodied_67 : decode cX5_bodied 67 = .ok (.bipush (-2), 2) := by decide +kernel
theorem dX5_bodied_69 : decode cX5_bodied 69 = .ok (.istore 4, 2) := by decide +kernel
theorem dX5_bodied_71 : decode cX5_bodied 71 = .ok (.iinc 5 1, 3) := by decide +kernel
theorem dX5_bodied_74 : decode cX5_bodied 74 = .ok (.goto (-68), 3) := by decide +kernel
theorem dX5_bodied_77 : decode cX5_bodied 77 = .ok (.iload 4, 2) := by decide +kernel
theorem dX5_bodied_79 : decode cX5_bodied 79 = .ok (.ireturn, 1) := by decide +kernel
theorem dX5_find_0 : decode cX5_find 0 = .ok (.aload_n 0, 1) := by decide +kernel
theorem dX5_find_1 : decode cX5_find 1 = .ok (.getfield 13, 3) := by decide +kernel
theorem dX5_find_4 : decode cX5_find 4 = .ok (.bipush 12, 2) := by decide +kernel
theorem dX5_find_6 : decode cX5_find 6 = .ok (.iload_n 1, 1) := by decide +kernel
theorem dX5_find_7 : decode cX5_find 7 = .ok (.imul, 1) := by decide +kernel
theorem dX5_find_8 : decode cX5_find 8 = .ok (.iload_n 2, 1) := by decide +kernel
theorem dX5_find_9 : decode cX5_find 9 = .ok (.iadd, 1) := by decide +kernel
theorem dX5_find_10 : decode cX5_find 10 = .ok (.iaload, 1) := by decide +kernel
theorem dX5_find_11 : decode cX5_find 11 = .ok (.iconst 2, 1) := by decide +kernel
theorem dX5_find_12 : decode cX5_find 12 = .ok (.iand, 1) := by decide +kernel
theorem dX5_find_13 : decode cX5_find 13 = .ok (.ifCond .eq 7, 3) := by decide +kernel
theorem dX5_find_16 : decode cX5_find 16 = .ok (.iconst 1, 1) := by decide +kernel
theorem dX5_find_17 : decode cX5_find 17 = .ok (.goto 4, 3) := by decide +kernel
theorem dX5_find_20 : decode cX5_find 20 = .ok (.iconst 0, 1) := by decide +kernel
theorem dX5_find_21 : decode cX5_find 21 = .ok (.istore 4, 2) := by decide +kernel
theorem dX5_find_23 : decode cX5_find 23 = .ok (.iload_n 2, 1) := by decide +kernel
theorem dX5_find_24 : decode cX5_find 24 = .ok (.istore 5, 2) := by decide +kernel
theorem dX5_find_26 : decode cX5_find 26 = .ok (.iload 5, 2) := by decide +kernel
theorem dX5_find_28 : decode cX5_find 28 = .ok (.ifCond .lt 86, 3) := by decide +kernel
theorem dX5_find_31 : decode cX5_find 31 = .ok (.aload_n 0, 1) := by decide +kernel
theorem dX5_find_32 : decode cX5_find 32 = .ok (.iload_n 1, 1) := by decide +kernel
theorem dX5_find_33 : decode cX5_find 33 = .ok (.iload 5, 2) := by decide +kernel
theorem dX5_find_35 : decode cX5_find 35 = .ok (.iconst 1, 1) := by decide +kernel
theorem dX5_find_36 : decode cX5_find 36 = .ok (.iload_n 3, 1) := by decide +kernel
theorem dX5_find_37 : decode cX5_find 37 = .ok (.invokevirtual 84, 3) := by decide +kernel
theorem dX5_find_40 : decode cX5_find 40 = .ok (.istore 6, 2) := by decide +kernel
theorem dX5_find_42 : decode cX5_find 42 = .ok (.iload 6, 2) := by decide +kernel
theorem dX5_find_44 : decode cX5_find 44 = .ok (.ifCond .ge 6, 3) := by decide +kernel
theorem dX5_find_47 : decode cX5_find 47 = .ok (.goto 50, 3) := by decide +kernel
theorem dX5_find_50 : decode cX5_find 50 = .ok (.iload 4, 2) := by decide +kernel
theorem dX5_find_52 : decode cX5_find 52 = .ok (.ifCond .eq 42, 3) := by decide +kernel
theorem dX5_find_55 : decode cX5_find 55 = .ok (.iload 5, 2) := by decide +kernel
theorem dX5_find_57 : decode cX5_find 57 = .ok (.iload_n 2, 1) := by decide +kernel
theorem dX5_find_58 : decode cX5_find 58 = .ok (.if_icmp .eq 36, 3) := by decide +kernel
theorem dX5_find_61 : decode cX5_find 61 = .ok (.aload_n 0, 1) := by decide +kernel
theorem dX5_find_62 : decode cX5_find 62 = .ok (.getfield 44, 3) := by decide +kernel
theorem dX5_find_65 : decode cX5_find 65 = .ok (.bipush 30, 2) := by decide +kernel
theorem dX5_find_67 : decode cX5_find 67 = .ok (.iload_n 1, 1) := by decide +kernel
theorem dX5_find_68 : decode cX5_find 68 = .ok (.imul, 1) := by decide +kernel
theorem dX5_find_69 : decode cX5_find 69 = .ok (.iload 6, 2) := by decide +kernel
theorem dX5_find_71 : decode cX5_find 71 = .ok (.iadd, 1) := by decide +kernel
theorem dX5_find_72 : decode cX5_find 72 = .ok (.iaload, 1) := by decide +kernel
theorem dX5_find_73 : decode cX5_find 73 = .ok (.iconst 3, 1) := by decide +kernel
theorem dX5_find_74 : decode cX5_find 74 = .ok (.if_icmp .ne 23, 3) := by decide +kernel
theorem dX5_find_77 : decode cX5_find 77 = .ok (.aload_n 0, 1) := by decide +kernel
theorem dX5_find_78 : decode cX5_find 78 = .ok (.getfield 47, 3) := by decide +kernel
theorem dX5_find_81 : decode cX5_find 81 = .ok (.bipush 30, 2) := by decide +kernel
theorem dX5_find_83 : decode cX5_find 83 = .ok (.iload_n 1, 1) := by decide +kernel
theorem dX5_find_84 : decode cX5_find 84 = .ok (.imul, 1) := by decide +kernel
theorem dX5_find_85 : decode cX5_find 85 = .ok (.iload 6, 2) := by decide +kernel
theorem dX5_find_87 : decode cX5_find 87 = .ok (.iadd, 1) := by decide +kernel
theorem dX5_find_88 : decode cX5_find 88 = .ok (.iaload, 1) := by decide +kernel
theorem dX5_find_89 : decode cX5_find 89 = .ok (.iconst 1, 1) := by decide +kernel
theorem dX5_find_90 : decode cX5_find 90 = .ok (.iand, 1) := by decide +kernel
theorem dX5_find_91 : decode cX5_find 91 = .ok (.ifCond .ne 6, 3) := by decide +kernel
theorem dX5_find_94 : decode cX5_find 94 = .ok (.iload 6, 2) := by decide +kernel
theorem dX5_find_96 : decode cX5_find 96 = .ok (.ireturn, 1) := by decide +kernel
theorem dX5_find_97 : decode cX5_find 97 = .ok (.aload_n 0, 1) := by decide +kernel
theorem dX5_find_98 : decode cX5_find 98 = .ok (.getfield 20, 3) := by decide +kernel
theorem dX5_find_101 : decode cX5_find 101 = .ok (.bipush 12, 2) := by decide +kernel
theorem dX5_find_103 : decode cX5_find 103 = .ok (.iload_n 1, 1) := by decide +kernel
theorem dX5_find_104 : decode cX5_find 104 = .ok (.imul, 1) := by decide +kernel
theorem dX5_find_105 : decode cX5_find 105 = .ok (.iload 5, 2) := by decide +kernel
theorem dX5_find_107 : decode cX5_find 107 = .ok (.iadd, 1) := by decide +kernel
theorem dX5_find_108 : decode cX5_find 108 = .ok (.iaload, 1) := by decide +kernel
theorem dX5_find_109 : decode cX5_find 109 = .ok (.istore 5, 2) := by decide +kernel
theorem dX5_find_111 : decode cX5_find 111 = .ok (.goto (-85), 3) := by decide +kernel
theorem dX5_find_114 : decode cX5_find 114 = .ok (.aload_n 0, 1) := by decide +kernel
theorem dX5_find_115 : decode cX5_find 115 = .ok (.iload_n 1, 1) := by decide +kernel
theorem dX5_find_116 : decode cX5_find 116 = .ok (.aload_n 0, 1) := by decide +kernel
theorem dX5_find_117 : decode cX5_find 117 = .ok (.iload_n 1, 1) := by decide +kernel
theorem dX5_find_118 : decode cX5_find 118 = .ok (.iload_n 2, 1) := by decide +kernel
theorem dX5_find_119 : decode cX5_find 119 = .ok (.iload_n 3, 1) := by decide +kernel
theorem dX5_find_120 : decode cX5_find 120 = .ok (.invokevirtual 126, 3) := by decide +kernel
theorem dX5_find_123 : decode cX5_find 123 = .ok (.iload_n 3, 1) := by decide +kernel
theorem dX5_find_124 : decode cX5_find 124 = .ok (.invokevirtual 130, 3) := by decide +kernel
theorem dX5_find_127 : decode cX5_find 127 = .ok (.istore 5, 2) := by decide +kernel
theorem dX5_find_129 : decode cX5_find 129 = .ok (.iload 5, 2) := by decide +kernel
theorem dX5_find_131 : decode cX5_find 131 = .ok (.ifCond .lt 6, 3) := by decide +kernel
theorem dX5_find_134 : decode cX5_find 134 = .ok (.iload 5, 2) := by decide +kernel
theorem dX5_find_136 : decode cX5_find 136 = .ok (.ireturn, 1) := by decide +kernel
theorem dX5_find_137 : decode cX5_find 137 = .ok (.aload_n 0, 1) := by decide +kernel
theorem dX5_find_138 : decode cX5_find 138 = .ok (.iload_n 1, 1) := by decide +kernel
theorem dX5_find_139 : decode cX5_find 139 = .ok (.iload_n 2, 1) := by decide +kernel
theorem dX5_find_140 : decode cX5_find 140 = .ok (.invokevirtual 110, 3) := by decide +kernel
theorem dX5_find_143 : decode cX5_find 143 = .ok (.istore 6, 2) := by decide +kernel
theorem dX5_find_145 : decode cX5_find 145 = .ok (.iconst 0, 1) := by decide +kernel
theorem dX5_find_146 : decode cX5_find 146 = .ok (.istore 7, 2) := by decide +kernel
theorem dX5_find_148 : decode cX5_find 148 = .ok (.iload 7, 2) := by decide +kernel
theorem dX5_find_150 : decode cX5_find 150 = .ok (.aload_n 0, 1) := by decide +kernel
theorem dX5_find_151 : decode cX5_find 151 = .ok (.getfield 35, 3) := by decide +kernel
theorem dX5_find_154 : decode cX5_find 154 = .ok (.iload_n 1, 1) := by decide +kernel
theorem dX5_find_155 : decode cX5_find 155 = .ok (.iaload, 1) := by decide +kernel
theorem dX5_find_156 : decode cX5_find 156 = .ok (.if_icmp .ge 89, 3) := by decide +kernel
theorem dX5_find_159 : decode cX5_find 159 = .ok (.bipush 30, 2) := by decide +kernel
theorem dX5_find_161 : decode cX5_find 161 = .ok (.iload_n 1, 1) := by decide +kernel
theorem dX5_find_162 : decode cX5_find 162 = .ok (.imul, 1) := by decide +kernel
theorem dX5_find_163 : decode cX5_find 163 = .ok (.iload 7, 2) := by decide +kernel
theorem dX5_find_165 : decode cX5_find 165 = .ok (.iadd, 1) := by decide +kernel
theorem dX5_find_166 : decode cX5_find 166 = .ok (.istore 8, 2) := by decide +kernel
theorem dX5_find_168 : decode cX5_find 168 = .ok (.aload_n 0, 1) := by decide +kernel
theorem dX5_find_169 : decode cX5_find 169 = .ok (.getfield 32, 3) := by decide +kernel
theorem dX5_find_172 : decode cX5_find 172 = .ok (.iload 8, 2) := by decide +kernel
theorem dX5_find_174 : decode cX5_find 174 = .ok (.baload, 1) := by decide +kernel
theorem dX5_find_175 : decode cX5_find 175 = .ok (.ifCond .ne 64, 3) := by decide +kernel
theorem dX5_find_178 : decode cX5_find 178 = .ok (.aload_n 0, 1) := by decide +kernel
theorem dX5_find_179 : decode cX5_find 179 = .ok (.getfield 29, 3) := by decide +kernel
theorem dX5_find_182 : decode cX5_find 182 = .ok (.iload 8, 2) := by decide +kernel
theorem dX5_find_184 : decode cX5_find 184 = .ok (.baload, 1) := by decide +kernel
theorem dX5_find_185 : decode cX5_find 185 = .ok (.ifCond .eq 54, 3) := by decide +kernel
theorem dX5_find_188 : decode cX5_find 188 = .ok (.aload_n 0, 1) := by decide +kernel
theorem dX5_find_189 : decode cX5_find 189 = .ok (.getfield 41, 3) := by decide +kernel
theorem dX5_find_192 : decode cX5_find 192 = .ok (.iload 8, 2) := by decide +kernel
theorem dX5_find_194 : decode cX5_find 194 = .ok (.iaload, 1) := by decide +kernel
theorem dX5_find_195 : decode cX5_find 195 = .ok (.iload_n 3, 1) := by decide +kernel
theorem dX5_find_196 : decode cX5_find 196 = .ok (.if_icmp .ne 43, 3) := by decide +kernel
theorem dX5_find_199 : decode cX5_find 199 = .ok (.iload 6, 2) := by decide +kernel
theorem dX5_find_201 : decode cX5_find 201 = .ok (.aload_n 0, 1) := by decide +kernel
theorem dX5_find_202 : decode cX5_find 202 = .ok (.getfield 38, 3) := by decide +kernel
theorem dX5_find_205 : decode cX5_find 205 = .ok (.iload 8, 2) := by decide +kernel
theorem dX5_find_207 : decode cX5_find 207 = .ok (.iaload, 1) := by decide +kernel
theorem dX5_find_208 : decode cX5_find 208 = .ok (.invokestatic 94, 3) := by decide +kernel
theorem dX5_find_211 : decode cX5_find 211 = .ok (.ifCond .eq 28, 3) := by decide +kernel
theorem dX5_find_214 : decode cX5_find 214 = .ok (.aload_n 0, 1) := by decide +kernel
theorem dX5_find_215 : decode cX5_find 215 = .ok (.getfield 44, 3) := by decide +kernel
theorem dX5_find_218 : decode cX5_find 218 = .ok (.iload 8, 2) := by decide +kernel
theorem dX5_find_220 : decode cX5_find 220 = .ok (.iaload, 1) := by decide +kernel
theorem dX5_find_221 : decode cX5_find 221 = .ok (.ifCond .eq 18, 3) := by decide +kernel
theorem dX5_find_224 : decode cX5_find 224 = .ok (.aload_n 0, 1) := by decide +kernel
theorem dX5_find_225 : decode cX5_find 225 = .ok (.getfield 47, 3) := by decide +kernel
theorem dX5_find_228 : decode cX5_find 228 = .ok (.iload 8, 2) := by decide +kernel
theorem dX5_find_230 : decode cX5_find 230 = .ok (.iaload, 1) := by decide +kernel
theorem dX5_find_231 : decode cX5_find 231 = .ok (.iconst 1, 1) := by decide +kernel
theorem dX5_find_232 : decode cX5_find 232 = .ok (.iand, 1) := by decide +kernel
theorem dX5_find_233 : decode cX5_find 233 = .ok (.ifCond .ne 6, 3) := by decide +kernel
theorem dX5_find_236 : decode cX5_find 236 = .ok (.iload 7, 2) := by decide +kernel
theorem dX5_find_238 : decode cX5_find 238 = .ok (.ireturn, 1) := by decide +kernel
theorem dX5_find_239 : decode cX5_find 239 = .ok (.iinc 7 1, 3) := by decide +kernel
theorem dX5_find_242 : decode cX5_find 242 = .ok (.goto (-94), 3) := by decide +kernel
theorem dX5_find_245 : decode cX5_find 245 = .ok (.iconst (-1), 1) := by decide +kernel
theorem dX5_find_246 : decode cX5_find 246 = .ok (.ireturn, 1) := by decide +kernel
theorem dX5_resolved_0 : decode cX5_resolved 0 = .ok (.aload_n 0, 1) := by decide +kernel
theorem dX5_resolved_1 : decode cX5_resolved 1 = .ok (.getfield 50, 3) := by decide +kernel
theorem dX5_resolved_4 : decode cX5_resolved 4 = .ok (.iload_n 2, 1) := by decide +kernel
theorem dX5_resolved_5 : decode cX5_resolved 5 = .ok (.iaload, 1) := by decide +kernel
theorem dX5_resolved_6 : decode cX5_resolved 6 = .ok (.istore_n 3, 1) := by decide +kernel
theorem dX5_resolved_7 : decode cX5_resolved 7 = .ok (.aload_n 0, 1) := by decide +kernel
theorem dX5_resolved_8 : decode cX5_resolved 8 = .ok (.getfield 53, 3) := by decide +kernel
theorem dX5_resolved_11 : decode cX5_resolved 11 = .ok (.iload_n 2, 1) := by decide +kernel
theorem dX5_resolved_12 : decode cX5_resolved 12 = .ok (.iaload, 1) := by decide +kernel
theorem dX5_resolved_13 : decode cX5_resolved 13 = .ok (.istore 4, 2) := by decide +kernel
theorem dX5_resolved_15 : decode cX5_resolved 15 = .ok (.aload_n 0, 1) := by decide +kernel
theorem dX5_resolved_16 : decode cX5_resolved 16 = .ok (.getfield 56, 3) := by decide +kernel
theorem dX5_resolved_19 : decode cX5_resolved 19 = .ok (.iload_n 2, 1) := by decide +kernel
theorem dX5_resolved_20 : decode cX5_resolved 20 = .ok (.iaload, 1) := by decide +kernel
theorem dX5_resolved_21 : decode cX5_resolved 21 = .ok (.istore 5, 2) := by decide +kernel
theorem dX5_resolved_23 : decode cX5_resolved 23 = .ok (.bipush 12, 2) := by decide +kernel
theorem dX5_resolved_25 : decode cX5_resolved 25 = .ok (.iload_n 1, 1) := by decide +kernel
theorem dX5_resolved_26 : decode cX5_resolved 26 = .ok (.imul, 1) := by decide +kernel
theorem dX5_resolved_27 : decode cX5_resolved 27 = .ok (.iload 5, 2) := by decide +kernel
theorem dX5_resolved_29 : decode cX5_resolved 29 = .ok (.iadd, 1) := by decide +kernel
theorem dX5_resolved_30 : decode cX5_resolved 30 = .ok (.istore 6, 2) := by decide +kernel
theorem dX5_resolved_32 : decode cX5_resolved 32 = .ok (.aload_n 0, 1) := by decide +kernel
theorem dX5_resolved_33 : decode cX5_resolved 33 = .ok (.iload_n 1, 1) := by decide +kernel
theorem dX5_resolved_34 : decode cX5_resolved 34 = .ok (.iload 4, 2) := by decide +kernel
theorem dX5_resolved_36 : decode cX5_resolved 36 = .ok (.invokevirtual 104, 3) := by decide +kernel
theorem dX5_resolved_39 : decode cX5_resolved 39 = .ok (.istore 7, 2) := by decide +kernel
theorem dX5_resolved_41 : decode cX5_resolved 41 = .ok (.iload 7, 2) := by decide +kernel
theorem dX5_resolved_43 : decode cX5_resolved 43 = .ok (.bipush 64, 2) := by decide +kernel
theorem dX5_resolved_45 : decode cX5_resolved 45 = .ok (.if_icmp .lt 6, 3) := by decide +kernel
theorem dX5_resolved_48 : decode cX5_resolved 48 = .ok (.iload 7, 2) := by decide +kernel
theorem dX5_resolved_50 : decode cX5_resolved 50 = .ok (.ireturn, 1) := by decide +kernel
theorem dX5_resolved_51 : decode cX5_resolved 51 = .ok (.aload_n 0, 1) := by decide +kernel
theorem dX5_resolved_52 : decode cX5_resolved 52 = .ok (.iload_n 1, 1) := by decide +kernel
theorem dX5_resolved_53 : decode cX5_resolved 53 = .ok (.iload 5, 2) := by decide +kernel
theorem dX5_resolved_55 : decode cX5_resolved 55 = .ok (.invokevirtual 104, 3) := by decide +kernel
theorem dX5_resolved_58 : decode cX5_resolved 58 = .ok (.istore 7, 2) := by decide +kernel
theorem dX5_resolved_60 : decode cX5_resolved 60 = .ok (.iload 7, 2) := by decide +kernel
theorem dX5_resolved_62 : decode cX5_resolved 62 = .ok (.bipush 64, 2) := by decide +kernel
theorem dX5_resolved_64 : decode cX5_resolved 64 = .ok (.if_icmp .lt 6, 3) := by decide +kernel
theorem dX5_resolved_67 : decode cX5_resolved 67 = .ok (.iload 7, 2) := by decide +kernel
theorem dX5_resolved_69 : decode cX5_resolved 69 = .ok (.ireturn, 1) := by decide +kernel
theorem dX5_resolved_70 : decode cX5_resolved 70 = .ok (.aload_n 0, 1) := by decide +kernel
theorem dX5_resolved_71 : decode cX5_resolved 71 = .ok (.getfield 13, 3) := by decide +kernel
theorem dX5_resolved_74 : decode cX5_resolved 74 = .ok (.iload 6, 2) := by decide +kernel
theorem dX5_resolved_76 : decode cX5_resolved 76 = .ok (.iaload, 1) := by decide +kernel
theorem dX5_resolved_77 : decode cX5_resolved 77 = .ok (.iconst 1, 1) := by decide +kernel
theorem dX5_resolved_78 : decode cX5_resolved 78 = .ok (.iand, 1) := by decide +kernel
theorem dX5_resolved_79 : decode cX5_resolved 79 = .ok (.ifCond .ne 32, 3) := by decide +kernel
theorem dX5_resolved_82 : decode cX5_resolved 82 = .ok (.aload_n 0, 1) := by decide +kernel
theorem dX5_resolved_83 : decode cX5_resolved 83 = .ok (.getfield 17, 3) := by decide +kernel
theorem dX5_resolved_86 : decode cX5_resolved 86 = .ok (.iload 6, 2) := by decide +kernel
theorem dX5_resolved_88 : decode cX5_resolved 88 = .ok (.iaload, 1) := by decide +kernel
theorem dX5_resolved_89 : decode cX5_resolved 89 = .ok (.aload_n 0, 1) := by decide +kernel
theorem dX5_resolved_90 : decode cX5_resolved 90 = .ok (.getfield 17, 3) := by decide +kernel
theorem dX5_resolved_93 : decode cX5_resolved 93 = .ok (.bipush 12, 2) := by decide +kernel
theorem dX5_resolved_95 : decode cX5_resolved 95 = .ok (.iload_n 1, 1) := by decide +kernel
theorem dX5_resolved_96 : decode cX5_resolved 96 = .ok (.imul, 1) := by decide +kernel
theorem dX5_resolved_97 : decode cX5_resolved 97 = .ok (.iload 4, 2) := by decide +kernel
theorem dX5_resolved_99 : decode cX5_resolved 99 = .ok (.iadd, 1) := by decide +kernel
theorem dX5_resolved_100 : decode cX5_resolved 100 = .ok (.iaload, 1) := by decide +kernel
theorem dX5_resolved_101 : decode cX5_resolved 101 = .ok (.if_icmp .eq 10, 3) := by decide +kernel
theorem dX5_resolved_104 : decode cX5_resolved 104 = .ok (.iconst 4, 1) := by decide +kernel
theorem dX5_resolved_105 : decode cX5_resolved 105 = .ok (.iload 5, 2) := by decide +kernel
theorem dX5_resolved_107 : decode cX5_resolved 107 = .ok (.invokestatic 97, 3) := by decide +kernel
theorem dX5_resolved_110 : decode cX5_resolved 110 = .ok (.ireturn, 1) := by decide +kernel
theorem dX5_resolved_111 : decode cX5_resolved 111 = .ok (.iload_n 3, 1) := by decide +kernel
theorem dX5_resolved_112 : decode cX5_resolved 112 = .ok (.bipush 8, 2) := by decide +kernel
theorem dX5_resolved_114 : decode cX5_resolved 114 = .ok (.if_icmp .ne 10, 3) := by decide +kernel
theorem dX5_resolved_117 : decode cX5_resolved 117 = .ok (.iconst 0, 1) := by decide +kernel
theorem dX5_resolved_118 : decode cX5_resolved 118 = .ok (.iload 5, 2) := by decide +kernel
theorem dX5_resolved_120 : decode cX5_resolved 120 = .ok (.invokestatic 97, 3) := by decide +kernel
theorem dX5_resolved_123 : decode cX5_resolved 123 = .ok (.ireturn, 1) := by decide +kernel
theorem dX5_resolved_124 : decode cX5_resolved 124 = .ok (.aload_n 0, 1) := by decide +kernel
theorem dX5_resolved_125 : decode cX5_resolved 125 = .ok (.getfield 13, 3) := by decide +kernel
theorem dX5_resolved_128 : decode cX5_resolved 128 = .ok (.iload 6, 2) := by decide +kernel
theorem dX5_resolved_130 : decode cX5_resolved 130 = .ok (.iaload, 1) := by decide +kernel
theorem dX5_resolved_131 : decode cX5_resolved 131 = .ok (.iconst 2, 1) := by decide +kernel
theorem dX5_resolved_132 : decode cX5_resolved 132 = .ok (.iand, 1) := by decide +kernel
theorem dX5_resolved_133 : decode cX5_resolved 133 = .ok (.ifCond .eq 7, 3) := by decide +kernel
theorem dX5_resolved_136 : decode cX5_resolved 136 = .ok (.iconst 1, 1) := by decide +kernel
theorem dX5_resolved_137 : decode cX5_resolved 137 = .ok (.goto 4, 3) := by decide +kernel
theorem dX5_resolved_140 : decode cX5_resolved 140 = .ok (.iconst 0, 1) := by decide +kernel
theorem dX5_resolved_141 : decode cX5_resolved 141 = .ok (.istore 8, 2) := by decide +kernel
theorem dX5_resolved_143 : decode cX5_resolved 143 = .ok (.iload_n 3, 1) := by decide +kernel
theorem dX5_resolved_144 : decode cX5_resolved 144 = .ok (.iconst 4, 1) := by decide +kernel
theorem dX5_resolved_145 : decode cX5_resolved 145 = .ok (.if_icmp .ne 8, 3) := by decide +kernel
theorem dX5_resolved_148 : decode cX5_resolved 148 = .ok (.iload 8, 2) := by decide +kernel
theorem dX5_resolved_150 : decode cX5_resolved 150 = .ok (.ifCond .ne 14, 3) := by decide +kernel
theorem dX5_resolved_153 : decode cX5_resolved 153 = .ok (.iload_n 3, 1) := by decide +kernel
theorem dX5_resolved_154 : decode cX5_resolved 154 = .ok (.bipush 7, 2) := by decide +kernel
theorem dX5_resolved_156 : decode cX5_resolved 156 = .ok (.if_icmp .ne 15, 3) := by decide +kernel
theorem dX5_resolved_159 : decode cX5_resolved 159 = .ok (.iload 8, 2) := by decide +kernel
theorem dX5_resolved_161 : decode cX5_resolved 161 = .ok (.ifCond .ne 10, 3) := by decide +kernel
theorem dX5_resolved_164 : decode cX5_resolved 164 = .ok (.iconst 3, 1) := by decide +kernel
theorem dX5_resolved_165 : decode cX5_resolved 165 = .ok (.iload 5, 2) := by decide +kernel
theorem dX5_resolved_167 : decode cX5_resolved 167 = .ok (.invokestatic 97, 3) := by decide +kernel
theorem dX5_resolved_170 : decode cX5_resolved 170 = .ok (.ireturn, 1) := by decide +kernel
theorem dX5_resolved_171 : decode cX5_resolved 171 = .ok (.iload_n 3, 1) := by decide +kernel
theorem dX5_resolved_172 : decode cX5_resolved 172 = .ok (.iconst 4, 1) := by decide +kernel
theorem dX5_resolved_173 : decode cX5_resolved 173 = .ok (.if_icmp .ge 19, 3) := by decide +kernel
theorem dX5_resolved_176 : decode cX5_resolved 176 = .ok (.aload_n 0, 1) := by decide +kernel
theorem dX5_resolved_177 : decode cX5_resolved 177 = .ok (.iload_n 1, 1) := by decide +kernel
theorem dX5_resolved_178 : decode cX5_resolved 178 = .ok (.iload 5, 2) := by decide +kernel
theorem dX5_resolved_180 : decode cX5_resolved 180 = .ok (.aload_n 0, 1) := by decide +kernel
theorem dX5_resolved_181 : decode cX5_resolved 181 = .ok (.getfield 59, 3) := by decide +kernel
theorem dX5_resolved_184 : decode cX5_resolved 184 = .ok (.iload_n 2, 1) := by decide +kernel
theorem dX5_resolved_185 : decode cX5_resolved 185 = .ok (.iaload, 1) := by decide +kernel
theorem dX5_resolved_186 : decode cX5_resolved 186 = .ok (.invokevirtual 133, 3) := by decide +kernel
theorem dX5_resolved_189 : decode cX5_resolved 189 = .ok (.goto 16, 3) := by decide +kernel
theorem dX5_resolved_192 : decode cX5_resolved 192 = .ok (.aload_n 0, 1) := by decide +kernel
theorem dX5_resolved_193 : decode cX5_resolved 193 = .ok (.iload_n 1, 1) := by decide +kernel
theorem dX5_resolved_194 : decode cX5_resolved 194 = .ok (.iload 5, 2) := by decide +kernel
theorem dX5_resolved_196 : decode cX5_resolved 196 = .ok (.aload_n 0, 1) := by decide +kernel
theorem dX5_resolved_197 : decode cX5_resolved 197 = .ok (.getfield 59, 3) := by decide +kernel
theorem dX5_resolved_200 : decode cX5_resolved 200 = .ok (.iload_n 2, 1) := by decide +kernel
theorem dX5_resolved_201 : decode cX5_resolved 201 = .ok (.iaload, 1) := by decide +kernel
theorem dX5_resolved_202 : decode cX5_resolved 202 = .ok (.invokevirtual 136, 3) := by decide +kernel
theorem dX5_resolved_205 : decode cX5_resolved 205 = .ok (.istore 9, 2) := by decide +kernel
theorem dX5_resolved_207 : decode cX5_resolved 207 = .ok (.iload 9, 2) := by decide +kernel
theorem dX5_resolved_209 : decode cX5_resolved 209 = .ok (.ifCond .ge 20, 3) := by decide +kernel
theorem dX5_resolved_212 : decode cX5_resolved 212 = .ok (.iload_n 3, 1) := by decide +kernel
theorem dX5_resolved_213 : decode cX5_resolved 213 = .ok (.iconst 4, 1) := by decide +kernel
theorem dX5_resolved_214 : decode cX5_resolved 214 = .ok (.if_icmp .ge 7, 3) := by decide +kernel
theorem dX5_resolved_217 : decode cX5_resolved 217 = .ok (.iconst 5, 1) := by decide +kernel
theorem dX5_resolved_218 : decode cX5_resolved 218 = .ok (.goto 5, 3) := by decide +kernel
theorem dX5_resolved_221 : decode cX5_resolved 221 = .ok (.bipush 6, 2) := by decide +kernel
theorem dX5_resolved_223 : decode cX5_resolved 223 = .ok (.iload 5, 2) := by decide +kernel
theorem dX5_resolved_225 : decode cX5_resolved 225 = .ok (.invokestatic 97, 3) := by decide +kernel
theorem dX5_resolved_228 : decode cX5_resolved 228 = .ok (.ireturn, 1) := by decide +kernel
theorem dX5_resolved_229 : decode cX5_resolved 229 = .ok (.bipush 30, 2) := by decide +kernel
theorem dX5_resolved_231 : decode cX5_resolved 231 = .ok (.iload_n 1, 1) := by decide +kernel
theorem dX5_resolved_232 : decode cX5_resolved 232 = .ok (.imul, 1) := by decide +kernel
theorem dX5_resolved_233 : decode cX5_resolved 233 = .ok (.iload 9, 2) := by decide +kernel
theorem dX5_resolved_235 : decode cX5_resolved 235 = .ok (.iadd, 1) := by decide +kernel
theorem dX5_resolved_236 : decode cX5_resolved 236 = .ok (.istore 10, 2) := by decide +kernel
theorem dX5_resolved_238 : decode cX5_resolved 238 = .ok (.aload_n 0, 1) := by decide +kernel
theorem dX5_resolved_239 : decode cX5_resolved 239 = .ok (.iload_n 1, 1) := by decide +kernel
theorem dX5_resolved_240 : decode cX5_resolved 240 = .ok (.iload 9, 2) := by decide +kernel
theorem dX5_resolved_242 : decode cX5_resolved 242 = .ok (.iload 5, 2) := by decide +kernel
theorem dX5_resolved_244 : decode cX5_resolved 244 = .ok (.iload 4, 2) := by decide +kernel
theorem dX5_resolved_246 : decode cX5_resolved 246 = .ok (.invokevirtual 139, 3) := by decide +kernel
theorem dX5_resolved_249 : decode cX5_resolved 249 = .ok (.ifCond .ne 13, 3) := by decide +kernel
theorem dX5_resolved_252 : decode cX5_resolved 252 = .ok (.iconst 4, 1) := by decide +kernel
theorem dX5_resolved_253 : decode cX5_resolved 253 = .ok (.bipush 16, 2) := by decide +kernel
theorem dX5_resolved_255 : decode cX5_resolved 255 = .ok (.iload 9, 2) := by decide +kernel
theorem dX5_resolved_257 : decode cX5_resolved 257 = .ok (.iadd, 1) := by decide +kernel
theorem dX5_resolved_258 : decode cX5_resolved 258 = .ok (.invokestatic 97, 3) := by decide +kernel
theorem dX5_resolved_261 : decode cX5_resolved 261 = .ok (.ireturn, 1) := by decide +kernel
theorem dX5_resolved_262 : decode cX5_resolved 262 = .ok (.iload_n 3, 1) := by decide +kernel
theorem dX5_resolved_263 : decode cX5_resolved 263 = .ok (.iconst 2, 1) := by decide +kernel
theorem dX5_resolved_264 : decode cX5_resolved 264 = .ok (.if_icmp .eq 14, 3) := by decide +kernel
theorem dX5_resolved_267 : decode cX5_resolved 267 = .ok (.iload_n 3, 1) := by decide +kernel
theorem dX5_resolved_268 : decode cX5_resolved 268 = .ok (.iconst 3, 1) := by decide +kernel
theorem dX5_resolved_269 : decode cX5_resolved 269 = .ok (.if_icmp .eq 9, 3) := by decide +kernel
theorem dX5_resolved_272 : decode cX5_resolved 272 = .ok (.iload_n 3, 1) := by decide +kernel
theorem dX5_resolved_273 : decode cX5_resolved 273 = .ok (.bipush 6, 2) := by decide +kernel
theorem dX5_resolved_275 : decode cX5_resolved 275 = .ok (.if_icmp .ne 7, 3) := by decide +kernel
theorem dX5_resolved_278 : decode cX5_resolved 278 = .ok (.iconst 1, 1) := by decide +kernel
theorem dX5_resolved_279 : decode cX5_resolved 279 = .ok (.goto 4, 3) := by decide +kernel
theorem dX5_resolved_282 : decode cX5_resolved 282 = .ok (.iconst 0, 1) := by decide +kernel
theorem dX5_resolved_283 : decode cX5_resolved 283 = .ok (.istore 11, 2) := by decide +kernel
theorem dX5_resolved_285 : decode cX5_resolved 285 = .ok (.aload_n 0, 1) := by decide +kernel
theorem dX5_resolved_286 : decode cX5_resolved 286 = .ok (.getfield 47, 3) := by decide +kernel
theorem dX5_resolved_289 : decode cX5_resolved 289 = .ok (.iload 10, 2) := by decide +kernel
theorem dX5_resolved_291 : decode cX5_resolved 291 = .ok (.iaload, 1) := by decide +kernel
theorem dX5_resolved_292 : decode cX5_resolved 292 = .ok (.iconst 1, 1) := by decide +kernel
theorem dX5_resolved_293 : decode cX5_resolved 293 = .ok (.iand, 1) := by decide +kernel
theorem dX5_resolved_294 : decode cX5_resolved 294 = .ok (.ifCond .eq 7, 3) := by decide +kernel
theorem dX5_resolved_297 : decode cX5_resolved 297 = .ok (.iconst 1, 1) := by decide +kernel
theorem dX5_resolved_298 : decode cX5_resolved 298 = .ok (.goto 4, 3) := by decide +kernel
theorem dX5_resolved_301 : decode cX5_resolved 301 = .ok (.iconst 0, 1) := by decide +kernel
theorem dX5_resolved_302 : decode cX5_resolved 302 = .ok (.iload 11, 2) := by decide +kernel
theorem dX5_resolved_304 : decode cX5_resolved 304 = .ok (.if_icmp .eq 13, 3) := by decide +kernel
theorem dX5_resolved_307 : decode cX5_resolved 307 = .ok (.iconst 3, 1) := by decide +kernel
theorem dX5_resolved_308 : decode cX5_resolved 308 = .ok (.bipush 16, 2) := by decide +kernel
theorem dX5_resolved_310 : decode cX5_resolved 310 = .ok (.iload 9, 2) := by decide +kernel
theorem dX5_resolved_312 : decode cX5_resolved 312 = .ok (.iadd, 1) := by decide +kernel
theorem dX5_resolved_313 : decode cX5_resolved 313 = .ok (.invokestatic 97, 3) := by decide +kernel
theorem dX5_resolved_316 : decode cX5_resolved 316 = .ok (.ireturn, 1) := by decide +kernel
theorem dX5_resolved_317 : decode cX5_resolved 317 = .ok (.iload_n 3, 1) := by decide +kernel
theorem dX5_resolved_318 : decode cX5_resolved 318 = .ok (.iconst 1, 1) := by decide +kernel
theorem dX5_resolved_319 : decode cX5_resolved 319 = .ok (.if_icmp .eq 8, 3) := by decide +kernel
theorem dX5_resolved_322 : decode cX5_resolved 322 = .ok (.iload_n 3, 1) := by decide +kernel
theorem dX5_resolved_323 : decode cX5_resolved 323 = .ok (.iconst 3, 1) := by decide +kernel
theorem dX5_resolved_324 : decode cX5_resolved 324 = .ok (.if_icmp .ne 37, 3) := by decide +kernel
theorem dX5_resolved_327 : decode cX5_resolved 327 = .ok (.aload_n 0, 1) := by decide +kernel
theorem dX5_resolved_328 : decode cX5_resolved 328 = .ok (.getfield 47, 3) := by decide +kernel
theorem dX5_resolved_331 : decode cX5_resolved 331 = .ok (.iload 10, 2) := by decide +kernel
theorem dX5_resolved_333 : decode cX5_resolved 333 = .ok (.iaload, 1) := by decide +kernel
theorem dX5_resolved_334 : decode cX5_resolved 334 = .ok (.iconst 4, 1) := by decide +kernel
theorem dX5_resolved_335 : decode cX5_resolved 335 = .ok (.iand, 1) := by decide +kernel
theorem dX5_resolved_336 : decode cX5_resolved 336 = .ok (.ifCond .eq 25, 3) := by decide +kernel
theorem dX5_resolved_339 : decode cX5_resolved 339 = .ok (.iload 4, 2) := by decide +kernel
theorem dX5_resolved_341 : decode cX5_resolved 341 = .ok (.aload_n 0, 1) := by decide +kernel
theorem dX5_resolved_342 : decode cX5_resolved 342 = .ok (.getfield 38, 3) := by decide +kernel
theorem dX5_resolved_345 : decode cX5_resolved 345 = .ok (.iload 10, 2) := by decide +kernel
theorem dX5_resolved_347 : decode cX5_resolved 347 = .ok (.iaload, 1) := by decide +kernel
theorem dX5_resolved_348 : decode cX5_resolved 348 = .ok (.if_icmp .eq 13, 3) := by decide +kernel
theorem dX5_resolved_351 : decode cX5_resolved 351 = .ok (.iconst 4, 1) := by decide +kernel
theorem dX5_resolved_352 : decode cX5_resolved 352 = .ok (.bipush 16, 2) := by decide +kernel
theorem dX5_resolved_354 : decode cX5_resolved 354 = .ok (.iload 9, 2) := by decide +kernel
theorem dX5_resolved_356 : decode cX5_resolved 356 = .ok (.iadd, 1) := by decide +kernel
theorem dX5_resolved_357 : decode cX5_resolved 357 = .ok (.invokestatic 97, 3) := by decide +kernel
theorem dX5_resolved_360 : decode cX5_resolved 360 = .ok (.ireturn, 1) := by decide +kernel
theorem dX5_resolved_361 : decode cX5_resolved 361 = .ok (.iload_n 3, 1) := by decide +kernel
theorem dX5_resolved_362 : decode cX5_resolved 362 = .ok (.iconst 5, 1) := by decide +kernel
theorem dX5_resolved_363 : decode cX5_resolved 363 = .ok (.if_icmp .ne 22, 3) := by decide +kernel
theorem dX5_resolved_366 : decode cX5_resolved 366 = .ok (.aload_n 0, 1) := by decide +kernel
theorem dX5_resolved_367 : decode cX5_resolved 367 = .ok (.iload_n 1, 1) := by decide +kernel
theorem dX5_resolved_368 : decode cX5_resolved 368 = .ok (.iload 4, 2) := by decide +kernel
theorem dX5_resolved_370 : decode cX5_resolved 370 = .ok (.iload 5, 2) := by decide +kernel
theorem dX5_resolved_372 : decode cX5_resolved 372 = .ok (.invokevirtual 116, 3) := by decide +kernel
theorem dX5_resolved_375 : decode cX5_resolved 375 = .ok (.ifCond .ne 10, 3) := by decide +kernel
theorem dX5_resolved_378 : decode cX5_resolved 378 = .ok (.iconst 3, 1) := by decide +kernel
theorem dX5_resolved_379 : decode cX5_resolved 379 = .ok (.iload 5, 2) := by decide +kernel
theorem dX5_resolved_381 : decode cX5_resolved 381 = .ok (.invokestatic 97, 3) := by decide +kernel
theorem dX5_resolved_384 : decode cX5_resolved 384 = .ok (.ireturn, 1) := by decide +kernel
theorem dX5_resolved_385 : decode cX5_resolved 385 = .ok (.iload_n 3, 1) := by decide +kernel
theorem dX5_resolved_386 : decode cX5_resolved 386 = .ok (.iconst 5, 1) := by decide +kernel
theorem dX5_resolved_387 : decode cX5_resolved 387 = .ok (.if_icmp .ne 26, 3) := by decide +kernel
theorem dX5_resolved_390 : decode cX5_resolved 390 = .ok (.aload_n 0, 1) := by decide +kernel
theorem dX5_resolved_391 : decode cX5_resolved 391 = .ok (.getfield 47, 3) := by decide +kernel
theorem dX5_resolved_394 : decode cX5_resolved 394 = .ok (.iload 10, 2) := by decide +kernel
theorem dX5_resolved_396 : decode cX5_resolved 396 = .ok (.iaload, 1) := by decide +kernel
theorem dX5_resolved_397 : decode cX5_resolved 397 = .ok (.iconst 2, 1) := by decide +kernel
theorem dX5_resolved_398 : decode cX5_resolved 398 = .ok (.iand, 1) := by decide +kernel
theorem dX5_resolved_399 : decode cX5_resolved 399 = .ok (.ifCond .eq 14, 3) := by decide +kernel
theorem dX5_resolved_402 : decode cX5_resolved 402 = .ok (.bipush 7, 2) := by decide +kernel
theorem dX5_resolved_404 : decode cX5_resolved 404 = .ok (.bipush 16, 2) := by decide +kernel
theorem dX5_resolved_406 : decode cX5_resolved 406 = .ok (.iload 9, 2) := by decide +kernel
theorem dX5_resolved_408 : decode cX5_resolved 408 = .ok (.iadd, 1) := by decide +kernel
theorem dX5_resolved_409 : decode cX5_resolved 409 = .ok (.invokestatic 97, 3) := by decide +kernel
theorem dX5_resolved_412 : decode cX5_resolved 412 = .ok (.ireturn, 1) := by decide +kernel
theorem dX5_resolved_413 : decode cX5_resolved 413 = .ok (.iconst 0, 1) := by decide +kernel
theorem dX5_resolved_414 : decode cX5_resolved 414 = .ok (.bipush 16, 2) := by decide +kernel
theorem dX5_resolved_416 : decode cX5_resolved 416 = .ok (.iload 9, 2) := by decide +kernel
theorem dX5_resolved_418 : decode cX5_resolved 418 = .ok (.iadd, 1) := by decide +kernel
theorem dX5_resolved_419 : decode cX5_resolved 419 = .ok (.invokestatic 97, 3) := by decide +kernel
theorem dX5_resolved_422 : decode cX5_resolved 422 = .ok (.ireturn, 1) := by decide +kernel
theorem dX5_overrides_0 : decode cX5_overrides 0 = .ok (.bipush 30, 2) := by decide +kernel
theorem dX5_overrides_2 : decode cX5_overrides 2 = .ok (.iload_n 1, 1) := by decide +kernel
theorem dX5_overrides_3 : decode cX5_overrides 3 = .ok (.imul, 1) := by decide +kernel
theorem dX5_overrides_4 : decode cX5_overrides 4 = .ok (.iload_n 2, 1) := by decide +kernel
theorem dX5_overrides_5 : decode cX5_overrides 5 = .ok (.iadd, 1) := by decide +kernel
theorem dX5_overrides_6 : decode cX5_overrides 6 = .ok (.istore 4, 2) := by decide +kernel
theorem dX5_overrides_8 : decode cX5_overrides 8 = .ok (.bipush 30, 2) := by decide +kernel
theorem dX5_overrides_10 : decode cX5_overrides 10 = .ok (.iload_n 1, 1) := by decide +kernel
theorem dX5_overrides_11 : decode cX5_overrides 11 = .ok (.imul, 1) := by decide +kernel
theorem dX5_overrides_12 : decode cX5_overrides 12 = .ok (.iload_n 3, 1) := by decide +kernel
theorem dX5_overrides_13 : decode cX5_overrides 13 = .ok (.iadd, 1) := by decide +kernel
theorem dX5_overrides_14 : decode cX5_overrides 14 = .ok (.istore 5, 2) := by decide +kernel
theorem dX5_overrides_16 : decode cX5_overrides 16 = .ok (.iload_n 2, 1) := by decide +kernel
theorem dX5_overrides_17 : decode cX5_overrides 17 = .ok (.iload_n 3, 1) := by decide +kernel
theorem dX5_overrides_18 : decode cX5_overrides 18 = .ok (.if_icmp .eq 25, 3) := by decide +kernel
theorem dX5_overrides_21 : decode cX5_overrides 21 = .ok (.aload_n 0, 1) := by decide +kernel
theorem dX5_overrides_22 : decode cX5_overrides 22 = .ok (.getfield 44, 3) := by decide +kernel
theorem dX5_overrides_25 : decode cX5_overrides 25 = .ok (.iload 5, 2) := by decide +kernel
theorem dX5_overrides_27 : decode cX5_overrides 27 = .ok (.iaload, 1) := by decide +kernel
theorem dX5_overrides_28 : decode cX5_overrides 28 = .ok (.iconst 3, 1) := by decide +kernel
theorem dX5_overrides_29 : decode cX5_overrides 29 = .ok (.if_icmp .eq 14, 3) := by decide +kernel
theorem dX5_overrides_32 : decode cX5_overrides 32 = .ok (.aload_n 0, 1) := by decide +kernel
theorem dX5_overrides_33 : decode cX5_overrides 33 = .ok (.getfield 44, 3) := by decide +kernel
theorem dX5_overrides_36 : decode cX5_overrides 36 = .ok (.iload 5, 2) := by decide +kernel
theorem dX5_overrides_38 : decode cX5_overrides 38 = .ok (.iaload, 1) := by decide +kernel
theorem dX5_overrides_39 : decode cX5_overrides 39 = .ok (.iconst 2, 1) := by decide +kernel
theorem dX5_overrides_40 : decode cX5_overrides 40 = .ok (.if_icmp .ne 5, 3) := by decide +kernel
theorem dX5_overrides_43 : decode cX5_overrides 43 = .ok (.iconst 1, 1) := by decide +kernel
theorem dX5_overrides_44 : decode cX5_overrides 44 = .ok (.ireturn, 1) := by decide +kernel
theorem dX5_overrides_45 : decode cX5_overrides 45 = .ok (.aload_n 0, 1) := by decide +kernel
theorem dX5_overrides_46 : decode cX5_overrides 46 = .ok (.getfield 44, 3) := by decide +kernel
theorem dX5_overrides_49 : decode cX5_overrides 49 = .ok (.iload 5, 2) := by decide +kernel
theorem dX5_overrides_51 : decode cX5_overrides 51 = .ok (.iaload, 1) := by decide +kernel
theorem dX5_overrides_52 : decode cX5_overrides 52 = .ok (.iconst 1, 1) := by decide +kernel
theorem dX5_overrides_53 : decode cX5_overrides 53 = .ok (.if_icmp .ne 44, 3) := by decide +kernel
theorem dX5_overrides_56 : decode cX5_overrides 56 = .ok (.aload_n 0, 1) := by decide +kernel
theorem dX5_overrides_57 : decode cX5_overrides 57 = .ok (.getfield 17, 3) := by decide +kernel
theorem dX5_overrides_60 : decode cX5_overrides 60 = .ok (.bipush 12, 2) := by decide +kernel
theorem dX5_overrides_62 : decode cX5_overrides 62 = .ok (.iload_n 1, 1) := by decide +kernel
theorem dX5_overrides_63 : decode cX5_overrides 63 = .ok (.imul, 1) := by decide +kernel
theorem dX5_overrides_64 : decode cX5_overrides 64 = .ok (.aload_n 0, 1) := by decide +kernel
theorem dX5_overrides_65 : decode cX5_overrides 65 = .ok (.getfield 38, 3) := by decide +kernel
theorem dX5_overrides_68 : decode cX5_overrides 68 = .ok (.iload 4, 2) := by decide +kernel
theorem dX5_overrides_70 : decode cX5_overrides 70 = .ok (.iaload, 1) := by decide +kernel
theorem dX5_overrides_71 : decode cX5_overrides 71 = .ok (.iadd, 1) := by decide +kernel
theorem dX5_overrides_72 : decode cX5_overrides 72 = .ok (.iaload, 1) := by decide +kernel
theorem dX5_overrides_73 : decode cX5_overrides 73 = .ok (.aload_n 0, 1) := by decide +kernel
theorem dX5_overrides_74 : decode cX5_overrides 74 = .ok (.getfield 17, 3) := by decide +kernel
theorem dX5_overrides_77 : decode cX5_overrides 77 = .ok (.bipush 12, 2) := by decide +kernel
theorem dX5_overrides_79 : decode cX5_overrides 79 = .ok (.iload_n 1, 1) := by decide +kernel
theorem dX5_overrides_80 : decode cX5_overrides 80 = .ok (.imul, 1) := by decide +kernel
theorem dX5_overrides_81 : decode cX5_overrides 81 = .ok (.aload_n 0, 1) := by decide +kernel
theorem dX5_overrides_82 : decode cX5_overrides 82 = .ok (.getfield 38, 3) := by decide +kernel
theorem dX5_overrides_85 : decode cX5_overrides 85 = .ok (.iload 5, 2) := by decide +kernel
theorem dX5_overrides_87 : decode cX5_overrides 87 = .ok (.iaload, 1) := by decide +kernel
theorem dX5_overrides_88 : decode cX5_overrides 88 = .ok (.iadd, 1) := by decide +kernel
theorem dX5_overrides_89 : decode cX5_overrides 89 = .ok (.iaload, 1) := by decide +kernel
theorem dX5_overrides_90 : decode cX5_overrides 90 = .ok (.if_icmp .ne 7, 3) := by decide +kernel
theorem dX5_overrides_93 : decode cX5_overrides 93 = .ok (.iconst 1, 1) := by decide +kernel
theorem dX5_overrides_94 : decode cX5_overrides 94 = .ok (.goto 4, 3) := by decide +kernel
theorem dX5_overrides_97 : decode cX5_overrides 97 = .ok (.iconst 0, 1) := by decide +kernel
theorem dX5_overrides_98 : decode cX5_overrides 98 = .ok (.ireturn, 1) := by decide +kernel
theorem dX5_selected_0 : decode cX5_selected 0 = .ok (.aload_n 0, 1) := by decide +kernel
theorem dX5_selected_1 : decode cX5_selected 1 = .ok (.iload_n 1, 1) := by decide +kernel
theorem dX5_selected_2 : decode cX5_selected 2 = .ok (.iload_n 2, 1) := by decide +kernel
theorem dX5_selected_3 : decode cX5_selected 3 = .ok (.invokevirtual 143, 3) := by decide +kernel
theorem dX5_selected_6 : decode cX5_selected 6 = .ok (.bipush 16, 2) := by decide +kernel
theorem dX5_selected_8 : decode cX5_selected 8 = .ok (.isub, 1) := by decide +kernel
theorem dX5_selected_9 : decode cX5_selected 9 = .ok (.istore 4, 2) := by decide +kernel
theorem dX5_selected_11 : decode cX5_selected 11 = .ok (.aload_n 0, 1) := by decide +kernel
theorem dX5_selected_12 : decode cX5_selected 12 = .ok (.getfield 59, 3) := by decide +kernel
theorem dX5_selected_15 : decode cX5_selected 15 = .ok (.iload_n 2, 1) := by decide +kernel
theorem dX5_selected_16 : decode cX5_selected 16 = .ok (.iaload, 1) := by decide +kernel
theorem dX5_selected_17 : decode cX5_selected 17 = .ok (.istore 5, 2) := by decide +kernel
theorem dX5_selected_19 : decode cX5_selected 19 = .ok (.bipush 12, 2) := by decide +kernel
theorem dX5_selected_21 : decode cX5_selected 21 = .ok (.iload_n 1, 1) := by decide +kernel
theorem dX5_selected_22 : decode cX5_selected 22 = .ok (.imul, 1) := by decide +kernel
theorem dX5_selected_23 : decode cX5_selected 23 = .ok (.iload_n 3, 1) := by decide +kernel
theorem dX5_selected_24 : decode cX5_selected 24 = .ok (.iadd, 1) := by decide +kernel
theorem dX5_selected_25 : decode cX5_selected 25 = .ok (.istore 6, 2) := by decide +kernel
theorem dX5_selected_27 : decode cX5_selected 27 = .ok (.aload_n 0, 1) := by decide +kernel
theorem dX5_selected_28 : decode cX5_selected 28 = .ok (.iload_n 1, 1) := by decide +kernel
theorem dX5_selected_29 : decode cX5_selected 29 = .ok (.iload_n 3, 1) := by decide +kernel
theorem dX5_selected_30 : decode cX5_selected 30 = .ok (.invokevirtual 146, 3) := by decide +kernel
theorem dX5_selected_33 : decode cX5_selected 33 = .ok (.ifCond .eq 31, 3) := by decide +kernel
theorem dX5_selected_36 : decode cX5_selected 36 = .ok (.aload_n 0, 1) := by decide +kernel
theorem dX5_selected_37 : decode cX5_selected 37 = .ok (.getfield 13, 3) := by decide +kernel
theorem dX5_selected_40 : decode cX5_selected 40 = .ok (.iload 6, 2) := by decide +kernel
theorem dX5_selected_42 : decode cX5_selected 42 = .ok (.iaload, 1) := by decide +kernel
theorem dX5_selected_43 : decode cX5_selected 43 = .ok (.bipush 6, 2) := by decide +kernel
theorem dX5_selected_45 : decode cX5_selected 45 = .ok (.iand, 1) := by decide +kernel
theorem dX5_selected_46 : decode cX5_selected 46 = .ok (.ifCond .ne 18, 3) := by decide +kernel
theorem dX5_selected_49 : decode cX5_selected 49 = .ok (.aload_n 0, 1) := by decide +kernel
theorem dX5_selected_50 : decode cX5_selected 50 = .ok (.iload_n 1, 1) := by decide +kernel
theorem dX5_selected_51 : decode cX5_selected 51 = .ok (.iload_n 3, 1) := by decide +kernel
theorem dX5_selected_52 : decode cX5_selected 52 = .ok (.aload_n 0, 1) := by decide +kernel
theorem dX5_selected_53 : decode cX5_selected 53 = .ok (.getfield 56, 3) := by decide +kernel
theorem dX5_selected_56 : decode cX5_selected 56 = .ok (.iload_n 2, 1) := by decide +kernel
theorem dX5_selected_57 : decode cX5_selected 57 = .ok (.iaload, 1) := by decide +kernel
theorem dX5_selected_58 : decode cX5_selected 58 = .ok (.invokevirtual 116, 3) := by decide +kernel
theorem dX5_selected_61 : decode cX5_selected 61 = .ok (.ifCond .ne 10, 3) := by decide +kernel
theorem dX5_selected_64 : decode cX5_selected 64 = .ok (.bipush 8, 2) := by decide +kernel
theorem dX5_selected_66 : decode cX5_selected 66 = .ok (.iload_n 3, 1) := by decide +kernel
theorem dX5_selected_67 : decode cX5_selected 67 = .ok (.invokestatic 97, 3) := by decide +kernel
theorem dX5_selected_70 : decode cX5_selected 70 = .ok (.ireturn, 1) := by decide +kernel
theorem dX5_selected_71 : decode cX5_selected 71 = .ok (.aload_n 0, 1) := by decide +kernel
theorem dX5_selected_72 : decode cX5_selected 72 = .ok (.getfield 44, 3) := by decide +kernel
theorem dX5_selected_75 : decode cX5_selected 75 = .ok (.bipush 30, 2) := by decide +kernel
theorem dX5_selected_77 : decode cX5_selected 77 = .ok (.iload_n 1, 1) := by decide +kernel
theorem dX5_selected_78 : decode cX5_selected 78 = .ok (.imul, 1) := by decide +kernel
theorem dX5_selected_79 : decode cX5_selected 79 = .ok (.iload 4, 2) := by decide +kernel
theorem dX5_selected_81 : decode cX5_selected 81 = .ok (.iadd, 1) := by decide +kernel
theorem dX5_selected_82 : decode cX5_selected 82 = .ok (.iaload, 1) := by decide +kernel
theorem dX5_selected_83 : decode cX5_selected 83 = .ok (.ifCond .ne 8, 3) := by decide +kernel
theorem dX5_selected_86 : decode cX5_selected 86 = .ok (.iload 4, 2) := by decide +kernel
theorem dX5_selected_88 : decode cX5_selected 88 = .ok (.goto 4, 3) := by decide +kernel
theorem dX5_selected_91 : decode cX5_selected 91 = .ok (.iconst (-1), 1) := by decide +kernel
theorem dX5_selected_92 : decode cX5_selected 92 = .ok (.istore 7, 2) := by decide +kernel
theorem dX5_selected_94 : decode cX5_selected 94 = .ok (.iload_n 3, 1) := by decide +kernel
theorem dX5_selected_95 : decode cX5_selected 95 = .ok (.istore 8, 2) := by decide +kernel
theorem dX5_selected_97 : decode cX5_selected 97 = .ok (.iload 8, 2) := by decide +kernel
theorem dX5_selected_99 : decode cX5_selected 99 = .ok (.ifCond .lt 70, 3) := by decide +kernel
theorem dX5_selected_102 : decode cX5_selected 102 = .ok (.iload 7, 2) := by decide +kernel
theorem dX5_selected_104 : decode cX5_selected 104 = .ok (.ifCond .ge 65, 3) := by decide +kernel
theorem dX5_selected_107 : decode cX5_selected 107 = .ok (.aload_n 0, 1) := by decide +kernel
theorem dX5_selected_108 : decode cX5_selected 108 = .ok (.iload_n 1, 1) := by decide +kernel
theorem dX5_selected_109 : decode cX5_selected 109 = .ok (.iload 8, 2) := by decide +kernel
theorem dX5_selected_111 : decode cX5_selected 111 = .ok (.iconst 1, 1) := by decide +kernel
theorem dX5_selected_112 : decode cX5_selected 112 = .ok (.iload 5, 2) := by decide +kernel
theorem dX5_selected_114 : decode cX5_selected 114 = .ok (.invokevirtual 84, 3) := by decide +kernel
theorem dX5_selected_117 : decode cX5_selected 117 = .ok (.istore 9, 2) := by decide +kernel
theorem dX5_selected_119 : decode cX5_selected 119 = .ok (.iload 9, 2) := by decide +kernel
theorem dX5_selected_121 : decode cX5_selected 121 = .ok (.ifCond .lt 31, 3) := by decide +kernel
theorem dX5_selected_124 : decode cX5_selected 124 = .ok (.aload_n 0, 1) := by decide +kernel
theorem dX5_selected_125 : decode cX5_selected 125 = .ok (.iload_n 1, 1) := by decide +kernel
theorem dX5_selected_126 : decode cX5_selected 126 = .ok (.iload 8, 2) := by decide +kernel
theorem dX5_selected_128 : decode cX5_selected 128 = .ok (.iload 5, 2) := by decide +kernel
theorem dX5_selected_130 : decode cX5_selected 130 = .ok (.invokevirtual 123, 3) := by decide +kernel
theorem dX5_selected_133 : decode cX5_selected 133 = .ok (.ifCond .eq 19, 3) := by decide +kernel
theorem dX5_selected_136 : decode cX5_selected 136 = .ok (.aload_n 0, 1) := by decide +kernel
theorem dX5_selected_137 : decode cX5_selected 137 = .ok (.iload_n 1, 1) := by decide +kernel
theorem dX5_selected_138 : decode cX5_selected 138 = .ok (.iload 9, 2) := by decide +kernel
theorem dX5_selected_140 : decode cX5_selected 140 = .ok (.iload 4, 2) := by decide +kernel
theorem dX5_selected_142 : decode cX5_selected 142 = .ok (.invokevirtual 149, 3) := by decide +kernel
theorem dX5_selected_145 : decode cX5_selected 145 = .ok (.ifCond .eq 7, 3) := by decide +kernel
theorem dX5_selected_148 : decode cX5_selected 148 = .ok (.iload 9, 2) := by decide +kernel
theorem dX5_selected_150 : decode cX5_selected 150 = .ok (.istore 7, 2) := by decide +kernel
theorem dX5_selected_152 : decode cX5_selected 152 = .ok (.aload_n 0, 1) := by decide +kernel
theorem dX5_selected_153 : decode cX5_selected 153 = .ok (.getfield 20, 3) := by decide +kernel
theorem dX5_selected_156 : decode cX5_selected 156 = .ok (.bipush 12, 2) := by decide +kernel
theorem dX5_selected_158 : decode cX5_selected 158 = .ok (.iload_n 1, 1) := by decide +kernel
theorem dX5_selected_159 : decode cX5_selected 159 = .ok (.imul, 1) := by decide +kernel
theorem dX5_selected_160 : decode cX5_selected 160 = .ok (.iload 8, 2) := by decide +kernel
theorem dX5_selected_162 : decode cX5_selected 162 = .ok (.iadd, 1) := by decide +kernel
theorem dX5_selected_163 : decode cX5_selected 163 = .ok (.iaload, 1) := by decide +kernel
theorem dX5_selected_164 : decode cX5_selected 164 = .ok (.istore 8, 2) := by decide +kernel
theorem dX5_selected_166 : decode cX5_selected 166 = .ok (.goto (-69), 3) := by decide +kernel
theorem dX5_selected_169 : decode cX5_selected 169 = .ok (.iload 7, 2) := by decide +kernel
theorem dX5_selected_171 : decode cX5_selected 171 = .ok (.ifCond .ge 43, 3) := by decide +kernel
theorem dX5_selected_174 : decode cX5_selected 174 = .ok (.aload_n 0, 1) := by decide +kernel
theorem dX5_selected_175 : decode cX5_selected 175 = .ok (.iload_n 1, 1) := by decide +kernel
theorem dX5_selected_176 : decode cX5_selected 176 = .ok (.aload_n 0, 1) := by decide +kernel
theorem dX5_selected_177 : decode cX5_selected 177 = .ok (.iload_n 1, 1) := by decide +kernel
theorem dX5_selected_178 : decode cX5_selected 178 = .ok (.iload_n 3, 1) := by decide +kernel
theorem dX5_selected_179 : decode cX5_selected 179 = .ok (.iload 5, 2) := by decide +kernel
theorem dX5_selected_181 : decode cX5_selected 181 = .ok (.invokevirtual 126, 3) := by decide +kernel
theorem dX5_selected_184 : decode cX5_selected 184 = .ok (.iload 5, 2) := by decide +kernel
theorem dX5_selected_186 : decode cX5_selected 186 = .ok (.invokevirtual 130, 3) := by decide +kernel
theorem dX5_selected_189 : decode cX5_selected 189 = .ok (.istore 7, 2) := by decide +kernel
theorem dX5_selected_191 : decode cX5_selected 191 = .ok (.iload 7, 2) := by decide +kernel
theorem dX5_selected_193 : decode cX5_selected 193 = .ok (.ifCond .ge 21, 3) := by decide +kernel
theorem dX5_selected_196 : decode cX5_selected 196 = .ok (.iload 7, 2) := by decide +kernel
theorem dX5_selected_198 : decode cX5_selected 198 = .ok (.bipush (-2), 2) := by decide +kernel
theorem dX5_selected_200 : decode cX5_selected 200 = .ok (.if_icmp .ne 7, 3) := by decide +kernel
theorem dX5_selected_203 : decode cX5_selected 203 = .ok (.iconst 3, 1) := by decide +kernel
theorem dX5_selected_204 : decode cX5_selected 204 = .ok (.goto 5, 3) := by decide +kernel
theorem dX5_selected_207 : decode cX5_selected 207 = .ok (.bipush 7, 2) := by decide +kernel
theorem dX5_selected_209 : decode cX5_selected 209 = .ok (.iload_n 3, 1) := by decide +kernel
theorem dX5_selected_210 : decode cX5_selected 210 = .ok (.invokestatic 97, 3) := by decide +kernel
theorem dX5_selected_213 : decode cX5_selected 213 = .ok (.ireturn, 1) := by decide +kernel
theorem dX5_selected_214 : decode cX5_selected 214 = .ok (.bipush 30, 2) := by decide +kernel
theorem dX5_selected_216 : decode cX5_selected 216 = .ok (.iload_n 1, 1) := by decide +kernel
theorem dX5_selected_217 : decode cX5_selected 217 = .ok (.imul, 1) := by decide +kernel
theorem dX5_selected_218 : decode cX5_selected 218 = .ok (.iload 7, 2) := by decide +kernel
theorem dX5_selected_220 : decode cX5_selected 220 = .ok (.iadd, 1) := by decide +kernel
theorem dX5_selected_221 : decode cX5_selected 221 = .ok (.istore 8, 2) := by decide +kernel
theorem dX5_selected_223 : decode cX5_selected 223 = .ok (.aload_n 0, 1) := by decide +kernel
theorem dX5_selected_224 : decode cX5_selected 224 = .ok (.getfield 47, 3) := by decide +kernel
theorem dX5_selected_227 : decode cX5_selected 227 = .ok (.iload 8, 2) := by decide +kernel
theorem dX5_selected_229 : decode cX5_selected 229 = .ok (.iaload, 1) := by decide +kernel
theorem dX5_selected_230 : decode cX5_selected 230 = .ok (.iconst 2, 1) := by decide +kernel
theorem dX5_selected_231 : decode cX5_selected 231 = .ok (.iand, 1) := by decide +kernel
theorem dX5_selected_232 : decode cX5_selected 232 = .ok (.ifCond .eq 14, 3) := by decide +kernel
theorem dX5_selected_235 : decode cX5_selected 235 = .ok (.bipush 7, 2) := by decide +kernel
theorem dX5_selected_237 : decode cX5_selected 237 = .ok (.bipush 16, 2) := by decide +kernel
theorem dX5_selected_239 : decode cX5_selected 239 = .ok (.iload 7, 2) := by decide +kernel
theorem dX5_selected_241 : decode cX5_selected 241 = .ok (.iadd, 1) := by decide +kernel
theorem dX5_selected_242 : decode cX5_selected 242 = .ok (.invokestatic 97, 3) := by decide +kernel
theorem dX5_selected_245 : decode cX5_selected 245 = .ok (.ireturn, 1) := by decide +kernel
theorem dX5_selected_246 : decode cX5_selected 246 = .ok (.aload_n 0, 1) := by decide +kernel
theorem dX5_selected_247 : decode cX5_selected 247 = .ok (.getfield 50, 3) := by decide +kernel
theorem dX5_selected_250 : decode cX5_selected 250 = .ok (.iload_n 2, 1) := by decide +kernel
theorem dX5_selected_251 : decode cX5_selected 251 = .ok (.iaload, 1) := by decide +kernel
theorem dX5_selected_252 : decode cX5_selected 252 = .ok (.bipush 7, 2) := by decide +kernel
theorem dX5_selected_254 : decode cX5_selected 254 = .ok (.if_icmp .ne 34, 3) := by decide +kernel
theorem dX5_selected_257 : decode cX5_selected 257 = .ok (.aload_n 0, 1) := by decide +kernel
theorem dX5_selected_258 : decode cX5_selected 258 = .ok (.getfield 44, 3) := by decide +kernel
theorem dX5_selected_261 : decode cX5_selected 261 = .ok (.iload 8, 2) := by decide +kernel
theorem dX5_selected_263 : decode cX5_selected 263 = .ok (.iaload, 1) := by decide +kernel
theorem dX5_selected_264 : decode cX5_selected 264 = .ok (.iconst 3, 1) := by decide +kernel
theorem dX5_selected_265 : decode cX5_selected 265 = .ok (.if_icmp .eq 23, 3) := by decide +kernel
theorem dX5_selected_268 : decode cX5_selected 268 = .ok (.aload_n 0, 1) := by decide +kernel
theorem dX5_selected_269 : decode cX5_selected 269 = .ok (.getfield 44, 3) := by decide +kernel
theorem dX5_selected_272 : decode cX5_selected 272 = .ok (.iload 8, 2) := by decide +kernel
theorem dX5_selected_274 : decode cX5_selected 274 = .ok (.iaload, 1) := by decide +kernel
theorem dX5_selected_275 : decode cX5_selected 275 = .ok (.ifCond .eq 13, 3) := by decide +kernel
theorem dX5_selected_278 : decode cX5_selected 278 = .ok (.iconst 4, 1) := by decide +kernel
theorem dX5_selected_279 : decode cX5_selected 279 = .ok (.bipush 16, 2) := by decide +kernel
theorem dX5_selected_281 : decode cX5_selected 281 = .ok (.iload 7, 2) := by decide +kernel
theorem dX5_selected_283 : decode cX5_selected 283 = .ok (.iadd, 1) := by decide +kernel
theorem dX5_selected_284 : decode cX5_selected 284 = .ok (.invokestatic 97, 3) := by decide +kernel
theorem dX5_selected_287 : decode cX5_selected 287 = .ok (.ireturn, 1) := by decide +kernel
theorem dX5_selected_288 : decode cX5_selected 288 = .ok (.iconst 0, 1) := by decide +kernel
theorem dX5_selected_289 : decode cX5_selected 289 = .ok (.bipush 16, 2) := by decide +kernel
theorem dX5_selected_291 : decode cX5_selected 291 = .ok (.iload 7, 2) := by decide +kernel
theorem dX5_selected_293 : decode cX5_selected 293 = .ok (.iadd, 1) := by decide +kernel
theorem dX5_selected_294 : decode cX5_selected 294 = .ok (.invokestatic 97, 3) := by decide +kernel
theorem dX5_selected_297 : decode cX5_selected 297 = .ok (.ireturn, 1) := by decide +kernel
theorem dX5_isAsk_0 : decode cX5_isAsk 0 = .ok (.iload_n 1, 1) := by decide +kernel
theorem dX5_isAsk_1 : decode cX5_isAsk 1 = .ok (.iconst 2, 1) := by decide +kernel
theorem dX5_isAsk_2 : decode cX5_isAsk 2 = .ok (.invokestatic 72, 3) := by decide +kernel
theorem dX5_isAsk_5 : decode cX5_isAsk 5 = .ok (.ifCond .eq 18, 3) := by decide +kernel
theorem dX5_isAsk_8 : decode cX5_isAsk 8 = .ok (.iload_n 2, 1) := by decide +kernel
theorem dX5_isAsk_9 : decode cX5_isAsk 9 = .ok (.aload_n 0, 1) := by decide +kernel
theorem dX5_isAsk_10 : decode cX5_isAsk 10 = .ok (.getfield 91, 3) := by decide +kernel
theorem dX5_isAsk_13 : decode cX5_isAsk 13 = .ok (.invokestatic 72, 3) := by decide +kernel
theorem dX5_isAsk_16 : decode cX5_isAsk 16 = .ok (.ifCond .eq 7, 3) := by decide +kernel
theorem dX5_isAsk_19 : decode cX5_isAsk 19 = .ok (.iconst 1, 1) := by decide +kernel
theorem dX5_isAsk_20 : decode cX5_isAsk 20 = .ok (.goto 4, 3) := by decide +kernel
theorem dX5_isAsk_23 : decode cX5_isAsk 23 = .ok (.iconst 0, 1) := by decide +kernel
theorem dX5_isAsk_24 : decode cX5_isAsk 24 = .ok (.ireturn, 1) := by decide +kernel
theorem dX5_load_0 : decode cX5_load 0 = .ok (.iload_n 1, 1) := by decide +kernel
theorem dX5_load_1 : decode cX5_load 1 = .ok (.iconst 2, 1) := by decide +kernel
theorem dX5_load_2 : decode cX5_load 2 = .ok (.invokestatic 72, 3) := by decide +kernel
theorem dX5_load_5 : decode cX5_load 5 = .ok (.ifCond .eq 21, 3) := by decide +kernel
theorem dX5_load_8 : decode cX5_load 8 = .ok (.iload_n 2, 1) := by decide +kernel
theorem dX5_load_9 : decode cX5_load 9 = .ok (.bipush 12, 2) := by decide +kernel
theorem dX5_load_11 : decode cX5_load 11 = .ok (.invokestatic 72, 3) := by decide +kernel
theorem dX5_load_14 : decode cX5_load 14 = .ok (.ifCond .eq 12, 3) := by decide +kernel
theorem dX5_load_17 : decode cX5_load 17 = .ok (.aload_n 0, 1) := by decide +kernel
theorem dX5_load_18 : decode cX5_load 18 = .ok (.iload_n 1, 1) := by decide +kernel
theorem dX5_load_19 : decode cX5_load 19 = .ok (.iload_n 2, 1) := by decide +kernel
theorem dX5_load_20 : decode cX5_load 20 = .ok (.invokevirtual 104, 3) := by decide +kernel
theorem dX5_load_23 : decode cX5_load 23 = .ok (.goto 4, 3) := by decide +kernel
theorem dX5_load_26 : decode cX5_load 26 = .ok (.iconst (-1), 1) := by decide +kernel
theorem dX5_load_27 : decode cX5_load 27 = .ok (.ireturn, 1) := by decide +kernel
theorem dX5_resolve_0 : decode cX5_resolve 0 = .ok (.aload_n 0, 1) := by decide +kernel
theorem dX5_resolve_1 : decode cX5_resolve 1 = .ok (.iload_n 1, 1) := by decide +kernel
theorem dX5_resolve_2 : decode cX5_resolve 2 = .ok (.iload_n 2, 1) := by decide +kernel
theorem dX5_resolve_3 : decode cX5_resolve 3 = .ok (.invokevirtual 152, 3) := by decide +kernel
theorem dX5_resolve_6 : decode cX5_resolve 6 = .ok (.ifCond .eq 12, 3) := by decide +kernel
theorem dX5_resolve_9 : decode cX5_resolve 9 = .ok (.aload_n 0, 1) := by decide +kernel
theorem dX5_resolve_10 : decode cX5_resolve 10 = .ok (.iload_n 1, 1) := by decide +kernel
theorem dX5_resolve_11 : decode cX5_resolve 11 = .ok (.iload_n 2, 1) := by decide +kernel
theorem dX5_resolve_12 : decode cX5_resolve 12 = .ok (.invokevirtual 143, 3) := by decide +kernel
theorem dX5_resolve_15 : decode cX5_resolve 15 = .ok (.goto 4, 3) := by decide +kernel
theorem dX5_resolve_18 : decode cX5_resolve 18 = .ok (.iconst (-1), 1) := by decide +kernel
theorem dX5_resolve_19 : decode cX5_resolve 19 = .ok (.ireturn, 1) := by decide +kernel
theorem dX5_selects_0 : decode cX5_selects 0 = .ok (.aload_n 0, 1) := by decide +kernel
theorem dX5_selects_1 : decode cX5_selects 1 = .ok (.getfield 50, 3) := by decide +kernel
theorem dX5_selects_4 : decode cX5_selects 4 = .ok (.iload_n 2, 1) := by decide +kernel
theorem dX5_selects_5 : decode cX5_selects 5 = .ok (.iaload, 1) := by decide +kernel
theorem dX5_selects_6 : decode cX5_selects 6 = .ok (.iconst 4, 1) := by decide +kernel
theorem dX5_selects_7 : decode cX5_selects 7 = .ok (.if_icmp .eq 14, 3) := by decide +kernel
theorem dX5_selects_10 : decode cX5_selects 10 = .ok (.aload_n 0, 1) := by decide +kernel
theorem dX5_selects_11 : decode cX5_selects 11 = .ok (.getfield 50, 3) := by decide +kernel
theorem dX5_selects_14 : decode cX5_selects 14 = .ok (.iload_n 2, 1) := by decide +kernel
theorem dX5_selects_15 : decode cX5_selects 15 = .ok (.iaload, 1) := by decide +kernel
theorem dX5_selects_16 : decode cX5_selects 16 = .ok (.bipush 7, 2) := by decide +kernel
theorem dX5_selects_18 : decode cX5_selects 18 = .ok (.if_icmp .ne 18, 3) := by decide +kernel
theorem dX5_selects_21 : decode cX5_selects 21 = .ok (.aload_n 0, 1) := by decide +kernel
theorem dX5_selects_22 : decode cX5_selects 22 = .ok (.iload_n 1, 1) := by decide +kernel
theorem dX5_selects_23 : decode cX5_selects 23 = .ok (.iload_n 2, 1) := by decide +kernel
theorem dX5_selects_24 : decode cX5_selects 24 = .ok (.invokevirtual 143, 3) := by decide +kernel
theorem dX5_selects_27 : decode cX5_selects 27 = .ok (.bipush 64, 2) := by decide +kernel
theorem dX5_selects_29 : decode cX5_selects 29 = .ok (.if_icmp .ge 7, 3) := by decide +kernel
theorem dX5_selects_32 : decode cX5_selects 32 = .ok (.iconst 1, 1) := by decide +kernel
theorem dX5_selects_33 : decode cX5_selects 33 = .ok (.goto 4, 3) := by decide +kernel
theorem dX5_selects_36 : decode cX5_selects 36 = .ok (.iconst 0, 1) := by decide +kernel
theorem dX5_selects_37 : decode cX5_selects 37 = .ok (.ireturn, 1) := by decide +kernel
theorem dX5_select_0 : decode cX5_select 0 = .ok (.aload_n 0, 1) := by decide +kernel
theorem dX5_select_1 : decode cX5_select 1 = .ok (.iload_n 1, 1) := by decide +kernel
theorem dX5_select_2 : decode cX5_select 2 = .ok (.iload_n 2, 1) := by decide +kernel
theorem dX5_select_3 : decode cX5_select 3 = .ok (.invokevirtual 152, 3) := by decide +kernel
theorem dX5_select_6 : decode cX5_select 6 = .ok (.ifCond .eq 12, 3) := by decide +kernel
theorem dX5_select_9 : decode cX5_select 9 = .ok (.iload_n 3, 1) := by decide +kernel
theorem dX5_select_10 : decode cX5_select 10 = .ok (.bipush 12, 2) := by decide +kernel
theorem dX5_select_12 : decode cX5_select 12 = .ok (.invokestatic 72, 3) := by decide +kernel
theorem dX5_select_15 : decode cX5_select 15 = .ok (.ifCond .ne 5, 3) := by decide +kernel
theorem dX5_select_18 : decode cX5_select 18 = .ok (.iconst (-1), 1) := by decide +kernel
theorem dX5_select_19 : decode cX5_select 19 = .ok (.ireturn, 1) := by decide +kernel
theorem dX5_select_20 : decode cX5_select 20 = .ok (.aload_n 0, 1) := by decide +kernel
theorem dX5_select_21 : decode cX5_select 21 = .ok (.iload_n 1, 1) := by decide +kernel
theorem dX5_select_22 : decode cX5_select 22 = .ok (.iload_n 2, 1) := by decide +kernel
theorem dX5_select_23 : decode cX5_select 23 = .ok (.invokevirtual 155, 3) := by decide +kernel
theorem dX5_select_26 : decode cX5_select 26 = .ok (.ifCond .eq 13, 3) := by decide +kernel
theorem dX5_select_29 : decode cX5_select 29 = .ok (.aload_n 0, 1) := by decide +kernel
theorem dX5_select_30 : decode cX5_select 30 = .ok (.iload_n 1, 1) := by decide +kernel
theorem dX5_select_31 : decode cX5_select 31 = .ok (.iload_n 2, 1) := by decide +kernel
theorem dX5_select_32 : decode cX5_select 32 = .ok (.iload_n 3, 1) := by decide +kernel
theorem dX5_select_33 : decode cX5_select 33 = .ok (.invokevirtual 158, 3) := by decide +kernel
theorem dX5_select_36 : decode cX5_select 36 = .ok (.goto 5, 3) := by decide +kernel
theorem dX5_select_39 : decode cX5_select 39 = .ok (.bipush (-2), 2) := by decide +kernel
theorem dX5_select_41 : decode cX5_select 41 = .ok (.ireturn, 1) := by decide +kernel
theorem dX5_areAlike_0 : decode cX5_areAlike 0 = .ok (.iload_n 1, 1) := by decide +kernel
theorem dX5_areAlike_1 : decode cX5_areAlike 1 = .ok (.bipush 64, 2) := by decide +kernel
theorem dX5_areAlike_3 : decode cX5_areAlike 3 = .ok (.idiv, 1) := by decide +kernel
theorem dX5_areAlike_4 : decode cX5_areAlike 4 = .ok (.iload_n 2, 1) := by decide +kernel
theorem dX5_areAlike_5 : decode cX5_areAlike 5 = .ok (.bipush 64, 2) := by decide +kernel
theorem dX5_areAlike_7 : decode cX5_areAlike 7 = .ok (.idiv, 1) := by decide +kernel
theorem dX5_areAlike_8 : decode cX5_areAlike 8 = .ok (.if_icmp .eq 5, 3) := by decide +kernel
theorem dX5_areAlike_11 : decode cX5_areAlike 11 = .ok (.iconst 0, 1) := by decide +kernel
theorem dX5_areAlike_12 : decode cX5_areAlike 12 = .ok (.ireturn, 1) := by decide +kernel
theorem dX5_areAlike_13 : decode cX5_areAlike 13 = .ok (.iload_n 1, 1) := by decide +kernel
theorem dX5_areAlike_14 : decode cX5_areAlike 14 = .ok (.bipush 64, 2) := by decide +kernel
theorem dX5_areAlike_16 : decode cX5_areAlike 16 = .ok (.irem, 1) := by decide +kernel
theorem dX5_areAlike_17 : decode cX5_areAlike 17 = .ok (.istore_n 3, 1) := by decide +kernel
theorem dX5_areAlike_18 : decode cX5_areAlike 18 = .ok (.iload_n 2, 1) := by decide +kernel
theorem dX5_areAlike_19 : decode cX5_areAlike 19 = .ok (.bipush 64, 2) := by decide +kernel
theorem dX5_areAlike_21 : decode cX5_areAlike 21 = .ok (.irem, 1) := by decide +kernel
theorem dX5_areAlike_22 : decode cX5_areAlike 22 = .ok (.istore 4, 2) := by decide +kernel
theorem dX5_areAlike_24 : decode cX5_areAlike 24 = .ok (.iload_n 3, 1) := by decide +kernel
theorem dX5_areAlike_25 : decode cX5_areAlike 25 = .ok (.bipush 16, 2) := by decide +kernel
theorem dX5_areAlike_27 : decode cX5_areAlike 27 = .ok (.if_icmp .lt 10, 3) := by decide +kernel
theorem dX5_areAlike_30 : decode cX5_areAlike 30 = .ok (.iload 4, 2) := by decide +kernel
theorem dX5_areAlike_32 : decode cX5_areAlike 32 = .ok (.bipush 16, 2) := by decide +kernel
theorem dX5_areAlike_34 : decode cX5_areAlike 34 = .ok (.if_icmp .ge 15, 3) := by decide +kernel
theorem dX5_areAlike_37 : decode cX5_areAlike 37 = .ok (.iload_n 3, 1) := by decide +kernel
theorem dX5_areAlike_38 : decode cX5_areAlike 38 = .ok (.iload 4, 2) := by decide +kernel
theorem dX5_areAlike_40 : decode cX5_areAlike 40 = .ok (.if_icmp .ne 7, 3) := by decide +kernel
theorem dX5_areAlike_43 : decode cX5_areAlike 43 = .ok (.iconst 1, 1) := by decide +kernel
theorem dX5_areAlike_44 : decode cX5_areAlike 44 = .ok (.goto 4, 3) := by decide +kernel
theorem dX5_areAlike_47 : decode cX5_areAlike 47 = .ok (.iconst 0, 1) := by decide +kernel
theorem dX5_areAlike_48 : decode cX5_areAlike 48 = .ok (.ireturn, 1) := by decide +kernel
theorem dX5_areAlike_49 : decode cX5_areAlike 49 = .ok (.iload_n 3, 1) := by decide +kernel
theorem dX5_areAlike_50 : decode cX5_areAlike 50 = .ok (.bipush 16, 2) := by decide +kernel
theorem dX5_areAlike_52 : decode cX5_areAlike 52 = .ok (.isub, 1) := by decide +kernel
theorem dX5_areAlike_53 : decode cX5_areAlike 53 = .ok (.istore 5, 2) := by decide +kernel
theorem dX5_areAlike_55 : decode cX5_areAlike 55 = .ok (.bipush 30, 2) := by decide +kernel
theorem dX5_areAlike_57 : decode cX5_areAlike 57 = .ok (.iload 4, 2) := by decide +kernel
theorem dX5_areAlike_59 : decode cX5_areAlike 59 = .ok (.iadd, 1) := by decide +kernel
theorem dX5_areAlike_60 : decode cX5_areAlike 60 = .ok (.bipush 16, 2) := by decide +kernel
theorem dX5_areAlike_62 : decode cX5_areAlike 62 = .ok (.isub, 1) := by decide +kernel
theorem dX5_areAlike_63 : decode cX5_areAlike 63 = .ok (.istore 6, 2) := by decide +kernel
theorem dX5_areAlike_65 : decode cX5_areAlike 65 = .ok (.aload_n 0, 1) := by decide +kernel
theorem dX5_areAlike_66 : decode cX5_areAlike 66 = .ok (.getfield 38, 3) := by decide +kernel
theorem dX5_areAlike_69 : decode cX5_areAlike 69 = .ok (.iload 5, 2) := by decide +kernel
theorem dX5_areAlike_71 : decode cX5_areAlike 71 = .ok (.iaload, 1) := by decide +kernel
theorem dX5_areAlike_72 : decode cX5_areAlike 72 = .ok (.aload_n 0, 1) := by decide +kernel
theorem dX5_areAlike_73 : decode cX5_areAlike 73 = .ok (.getfield 38, 3) := by decide +kernel
theorem dX5_areAlike_76 : decode cX5_areAlike 76 = .ok (.iload 6, 2) := by decide +kernel
theorem dX5_areAlike_78 : decode cX5_areAlike 78 = .ok (.iaload, 1) := by decide +kernel
theorem dX5_areAlike_79 : decode cX5_areAlike 79 = .ok (.if_icmp .ne 41, 3) := by decide +kernel
theorem dX5_areAlike_82 : decode cX5_areAlike 82 = .ok (.aload_n 0, 1) := by decide +kernel
theorem dX5_areAlike_83 : decode cX5_areAlike 83 = .ok (.getfield 29, 3) := by decide +kernel
theorem dX5_areAlike_86 : decode cX5_areAlike 86 = .ok (.iload 5, 2) := by decide +kernel
theorem dX5_areAlike_88 : decode cX5_areAlike 88 = .ok (.baload, 1) := by decide +kernel
theorem dX5_areAlike_89 : decode cX5_areAlike 89 = .ok (.aload_n 0, 1) := by decide +kernel
theorem dX5_areAlike_90 : decode cX5_areAlike 90 = .ok (.getfield 29, 3) := by decide +kernel
theorem dX5_areAlike_93 : decode cX5_areAlike 93 = .ok (.iload 6, 2) := by decide +kernel
theorem dX5_areAlike_95 : decode cX5_areAlike 95 = .ok (.baload, 1) := by decide +kernel
theorem dX5_areAlike_96 : decode cX5_areAlike 96 = .ok (.if_icmp .ne 24, 3) := by decide +kernel
theorem dX5_areAlike_99 : decode cX5_areAlike 99 = .ok (.aload_n 0, 1) := by decide +kernel
theorem dX5_areAlike_100 : decode cX5_areAlike 100 = .ok (.getfield 41, 3) := by decide +kernel
theorem dX5_areAlike_103 : decode cX5_areAlike 103 = .ok (.iload 5, 2) := by decide +kernel
theorem dX5_areAlike_105 : decode cX5_areAlike 105 = .ok (.iaload, 1) := by decide +kernel
theorem dX5_areAlike_106 : decode cX5_areAlike 106 = .ok (.aload_n 0, 1) := by decide +kernel
theorem dX5_areAlike_107 : decode cX5_areAlike 107 = .ok (.getfield 41, 3) := by decide +kernel
theorem dX5_areAlike_110 : decode cX5_areAlike 110 = .ok (.iload 6, 2) := by decide +kernel
theorem dX5_areAlike_112 : decode cX5_areAlike 112 = .ok (.iaload, 1) := by decide +kernel
theorem dX5_areAlike_113 : decode cX5_areAlike 113 = .ok (.if_icmp .ne 7, 3) := by decide +kernel
theorem dX5_areAlike_116 : decode cX5_areAlike 116 = .ok (.iconst 1, 1) := by decide +kernel
theorem dX5_areAlike_117 : decode cX5_areAlike 117 = .ok (.goto 4, 3) := by decide +kernel
theorem dX5_areAlike_120 : decode cX5_areAlike 120 = .ok (.iconst 0, 1) := by decide +kernel
theorem dX5_areAlike_121 : decode cX5_areAlike 121 = .ok (.ireturn, 1) := by decide +kernel
theorem dX5_compare_0 : decode cX5_compare 0 = .ok (.iload_n 1, 1) := by decide +kernel
theorem dX5_compare_1 : decode cX5_compare 1 = .ok (.aload_n 0, 1) := by decide +kernel
theorem dX5_compare_2 : decode cX5_compare 2 = .ok (.getfield 91, 3) := by decide +kernel
theorem dX5_compare_5 : decode cX5_compare 5 = .ok (.invokestatic 72, 3) := by decide +kernel
theorem dX5_compare_8 : decode cX5_compare 8 = .ok (.ifCond .ne 5, 3) := by decide +kernel
theorem dX5_compare_11 : decode cX5_compare 11 = .ok (.iconst (-1), 1) := by decide +kernel
theorem dX5_compare_12 : decode cX5_compare 12 = .ok (.ireturn, 1) := by decide +kernel
theorem dX5_compare_13 : decode cX5_compare 13 = .ok (.aload_n 0, 1) := by decide +kernel
theorem dX5_compare_14 : decode cX5_compare 14 = .ok (.iconst 0, 1) := by decide +kernel
theorem dX5_compare_15 : decode cX5_compare 15 = .ok (.iload_n 1, 1) := by decide +kernel
theorem dX5_compare_16 : decode cX5_compare 16 = .ok (.invokevirtual 143, 3) := by decide +kernel
theorem dX5_compare_19 : decode cX5_compare 19 = .ok (.istore_n 2, 1) := by decide +kernel
theorem dX5_compare_20 : decode cX5_compare 20 = .ok (.aload_n 0, 1) := by decide +kernel
theorem dX5_compare_21 : decode cX5_compare 21 = .ok (.iconst 1, 1) := by decide +kernel
theorem dX5_compare_22 : decode cX5_compare 22 = .ok (.iload_n 1, 1) := by decide +kernel
theorem dX5_compare_23 : decode cX5_compare 23 = .ok (.invokevirtual 143, 3) := by decide +kernel
theorem dX5_compare_26 : decode cX5_compare 26 = .ok (.istore_n 3, 1) := by decide +kernel
theorem dX5_compare_27 : decode cX5_compare 27 = .ok (.aload_n 0, 1) := by decide +kernel
theorem dX5_compare_28 : decode cX5_compare 28 = .ok (.iload_n 2, 1) := by decide +kernel
theorem dX5_compare_29 : decode cX5_compare 29 = .ok (.iload_n 3, 1) := by decide +kernel
theorem dX5_compare_30 : decode cX5_compare 30 = .ok (.invokevirtual 161, 3) := by decide +kernel
theorem dX5_compare_33 : decode cX5_compare 33 = .ok (.ifCond .eq 5, 3) := by decide +kernel
theorem dX5_compare_36 : decode cX5_compare 36 = .ok (.iconst 0, 1) := by decide +kernel
theorem dX5_compare_37 : decode cX5_compare 37 = .ok (.ireturn, 1) := by decide +kernel
theorem dX5_compare_38 : decode cX5_compare 38 = .ok (.iload_n 2, 1) := by decide +kernel
theorem dX5_compare_39 : decode cX5_compare 39 = .ok (.bipush 64, 2) := by decide +kernel
theorem dX5_compare_41 : decode cX5_compare 41 = .ok (.if_icmp .ge 17, 3) := by decide +kernel
theorem dX5_compare_44 : decode cX5_compare 44 = .ok (.iload_n 3, 1) := by decide +kernel
theorem dX5_compare_45 : decode cX5_compare 45 = .ok (.bipush 64, 2) := by decide +kernel
theorem dX5_compare_47 : decode cX5_compare 47 = .ok (.if_icmp .ge 7, 3) := by decide +kernel
theorem dX5_compare_50 : decode cX5_compare 50 = .ok (.iconst 3, 1) := by decide +kernel
theorem dX5_compare_51 : decode cX5_compare 51 = .ok (.goto 18, 3) := by decide +kernel
theorem dX5_compare_54 : decode cX5_compare 54 = .ok (.iconst 1, 1) := by decide +kernel
theorem dX5_compare_55 : decode cX5_compare 55 = .ok (.goto 14, 3) := by decide +kernel
theorem dX5_compare_58 : decode cX5_compare 58 = .ok (.iload_n 3, 1) := by decide +kernel
theorem dX5_compare_59 : decode cX5_compare 59 = .ok (.bipush 64, 2) := by decide +kernel
theorem dX5_compare_61 : decode cX5_compare 61 = .ok (.if_icmp .ge 7, 3) := by decide +kernel
theorem dX5_compare_64 : decode cX5_compare 64 = .ok (.iconst 2, 1) := by decide +kernel
theorem dX5_compare_65 : decode cX5_compare 65 = .ok (.goto 4, 3) := by decide +kernel
theorem dX5_compare_68 : decode cX5_compare 68 = .ok (.iconst 4, 1) := by decide +kernel
theorem dX5_compare_69 : decode cX5_compare 69 = .ok (.ireturn, 1) := by decide +kernel
theorem dX5_receivers_0 : decode cX5_receivers 0 = .ok (.iload_n 1, 1) := by decide +kernel
theorem dX5_receivers_1 : decode cX5_receivers 1 = .ok (.aload_n 0, 1) := by decide +kernel
theorem dX5_receivers_2 : decode cX5_receivers 2 = .ok (.getfield 91, 3) := by decide +kernel
theorem dX5_receivers_5 : decode cX5_receivers 5 = .ok (.invokestatic 72, 3) := by decide +kernel
theorem dX5_receivers_8 : decode cX5_receivers 8 = .ok (.ifCond .eq 11, 3) := by decide +kernel
theorem dX5_receivers_11 : decode cX5_receivers 11 = .ok (.iload_n 2, 1) := by decide +kernel
theorem dX5_receivers_12 : decode cX5_receivers 12 = .ok (.iconst 4, 1) := by decide +kernel
theorem dX5_receivers_13 : decode cX5_receivers 13 = .ok (.invokestatic 72, 3) := by decide +kernel
theorem dX5_receivers_16 : decode cX5_receivers 16 = .ok (.ifCond .ne 5, 3) := by decide +kernel
theorem dX5_receivers_19 : decode cX5_receivers 19 = .ok (.iconst (-1), 1) := by decide +kernel
theorem dX5_receivers_20 : decode cX5_receivers 20 = .ok (.ireturn, 1) := by decide +kernel
theorem dX5_receivers_21 : decode cX5_receivers 21 = .ok (.iconst 0, 1) := by decide +kernel
theorem dX5_receivers_22 : decode cX5_receivers 22 = .ok (.istore_n 3, 1) := by decide +kernel
theorem dX5_receivers_23 : decode cX5_receivers 23 = .ok (.iconst 0, 1) := by decide +kernel
theorem dX5_receivers_24 : decode cX5_receivers 24 = .ok (.istore 4, 2) := by decide +kernel
theorem dX5_receivers_26 : decode cX5_receivers 26 = .ok (.iload 4, 2) := by decide +kernel
theorem dX5_receivers_28 : decode cX5_receivers 28 = .ok (.bipush 12, 2) := by decide +kernel
theorem dX5_receivers_30 : decode cX5_receivers 30 = .ok (.if_icmp .ge 175, 3) := by decide +kernel
theorem dX5_receivers_33 : decode cX5_receivers 33 = .ok (.aload_n 0, 1) := by decide +kernel
theorem dX5_receivers_34 : decode cX5_receivers 34 = .ok (.getfield 50, 3) := by decide +kernel
theorem dX5_receivers_37 : decode cX5_receivers 37 = .ok (.iload_n 1, 1) := by decide +kernel
theorem dX5_receivers_38 : decode cX5_receivers 38 = .ok (.iaload, 1) := by decide +kernel
theorem dX5_receivers_39 : decode cX5_receivers 39 = .ok (.iconst 4, 1) := by decide +kernel
theorem dX5_receivers_40 : decode cX5_receivers 40 = .ok (.if_icmp .eq 14, 3) := by decide +kernel
theorem dX5_receivers_43 : decode cX5_receivers 43 = .ok (.aload_n 0, 1) := by decide +kernel
theorem dX5_receivers_44 : decode cX5_receivers 44 = .ok (.getfield 50, 3) := by decide +kernel
theorem dX5_receivers_47 : decode cX5_receivers 47 = .ok (.iload_n 1, 1) := by decide +kernel
theorem dX5_receivers_48 : decode cX5_receivers 48 = .ok (.iaload, 1) := by decide +kernel
theorem dX5_receivers_49 : decode cX5_receivers 49 = .ok (.bipush 7, 2) := by decide +kernel
theorem dX5_receivers_51 : decode cX5_receivers 51 = .ok (.if_icmp .ne 154, 3) := by decide +kernel
theorem dX5_receivers_54 : decode cX5_receivers 54 = .ok (.aload_n 0, 1) := by decide +kernel
theorem dX5_receivers_55 : decode cX5_receivers 55 = .ok (.iconst 0, 1) := by decide +kernel
theorem dX5_receivers_56 : decode cX5_receivers 56 = .ok (.iload_n 1, 1) := by decide +kernel
theorem dX5_receivers_57 : decode cX5_receivers 57 = .ok (.invokevirtual 155, 3) := by decide +kernel
theorem dX5_receivers_60 : decode cX5_receivers 60 = .ok (.ifCond .eq 14, 3) := by decide +kernel
theorem dX5_receivers_63 : decode cX5_receivers 63 = .ok (.aload_n 0, 1) := by decide +kernel
theorem dX5_receivers_64 : decode cX5_receivers 64 = .ok (.iconst 0, 1) := by decide +kernel
theorem dX5_receivers_65 : decode cX5_receivers 65 = .ok (.iload_n 1, 1) := by decide +kernel
theorem dX5_receivers_66 : decode cX5_receivers 66 = .ok (.iload 4, 2) := by decide +kernel
theorem dX5_receivers_68 : decode cX5_receivers 68 = .ok (.invokevirtual 158, 3) := by decide +kernel
theorem dX5_receivers_71 : decode cX5_receivers 71 = .ok (.goto 6, 3) := by decide +kernel
theorem dX5_receivers_74 : decode cX5_receivers 74 = .ok (.sipush 512, 3) := by decide +kernel
theorem dX5_receivers_77 : decode cX5_receivers 77 = .ok (.istore 5, 2) := by decide +kernel
theorem dX5_receivers_79 : decode cX5_receivers 79 = .ok (.aload_n 0, 1) := by decide +kernel
theorem dX5_receivers_80 : decode cX5_receivers 80 = .ok (.iconst 1, 1) := by decide +kernel
theorem dX5_receivers_81 : decode cX5_receivers 81 = .ok (.iload_n 1, 1) := by decide +kernel
theorem dX5_receivers_82 : decode cX5_receivers 82 = .ok (.invokevirtual 155, 3) := by decide +kernel
theorem dX5_receivers_85 : decode cX5_receivers 85 = .ok (.ifCond .eq 14, 3) := by decide +kernel
theorem dX5_receivers_88 : decode cX5_receivers 88 = .ok (.aload_n 0, 1) := by decide +kernel
theorem dX5_receivers_89 : decode cX5_receivers 89 = .ok (.iconst 1, 1) := by decide +kernel
theorem dX5_receivers_90 : decode cX5_receivers 90 = .ok (.iload_n 1, 1) := by decide +kernel
theorem dX5_receivers_91 : decode cX5_receivers 91 = .ok (.iload 4, 2) := by decide +kernel
theorem dX5_receivers_93 : decode cX5_receivers 93 = .ok (.invokevirtual 158, 3) := by decide +kernel
theorem dX5_receivers_96 : decode cX5_receivers 96 = .ok (.goto 6, 3) := by decide +kernel
theorem dX5_receivers_99 : decode cX5_receivers 99 = .ok (.sipush 512, 3) := by decide +kernel
theorem dX5_receivers_102 : decode cX5_receivers 102 = .ok (.istore 6, 2) := by decide +kernel
theorem dX5_receivers_104 : decode cX5_receivers 104 = .ok (.iload 5, 2) := by decide +kernel
theorem dX5_receivers_106 : decode cX5_receivers 106 = .ok (.bipush 64, 2) := by decide +kernel
theorem dX5_receivers_108 : decode cX5_receivers 108 = .ok (.if_icmp .ge 7, 3) := by decide +kernel
theorem dX5_receivers_111 : decode cX5_receivers 111 = .ok (.iconst 1, 1) := by decide +kernel
theorem dX5_receivers_112 : decode cX5_receivers 112 = .ok (.goto 4, 3) := by decide +kernel
theorem dX5_receivers_115 : decode cX5_receivers 115 = .ok (.iconst 0, 1) := by decide +kernel
theorem dX5_receivers_116 : decode cX5_receivers 116 = .ok (.istore 7, 2) := by decide +kernel
theorem dX5_receivers_118 : decode cX5_receivers 118 = .ok (.iload 6, 2) := by decide +kernel
theorem dX5_receivers_120 : decode cX5_receivers 120 = .ok (.bipush 64, 2) := by decide +kernel
theorem dX5_receivers_122 : decode cX5_receivers 122 = .ok (.if_icmp .ge 7, 3) := by decide +kernel
theorem dX5_receivers_125 : decode cX5_receivers 125 = .ok (.iconst 1, 1) := by decide +kernel
theorem dX5_receivers_126 : decode cX5_receivers 126 = .ok (.goto 4, 3) := by decide +kernel
theorem dX5_receivers_129 : decode cX5_receivers 129 = .ok (.iconst 0, 1) := by decide +kernel
theorem dX5_receivers_130 : decode cX5_receivers 130 = .ok (.istore 8, 2) := by decide +kernel
theorem dX5_receivers_132 : decode cX5_receivers 132 = .ok (.iload_n 2, 1) := by decide +kernel
theorem dX5_receivers_133 : decode cX5_receivers 133 = .ok (.ifCond .ne 11, 3) := by decide +kernel
theorem dX5_receivers_136 : decode cX5_receivers 136 = .ok (.iload 7, 2) := by decide +kernel
theorem dX5_receivers_138 : decode cX5_receivers 138 = .ok (.ifCond .eq 61, 3) := by decide +kernel
theorem dX5_receivers_141 : decode cX5_receivers 141 = .ok (.goto 55, 3) := by decide +kernel
theorem dX5_receivers_144 : decode cX5_receivers 144 = .ok (.iload_n 2, 1) := by decide +kernel
theorem dX5_receivers_145 : decode cX5_receivers 145 = .ok (.iconst 1, 1) := by decide +kernel
theorem dX5_receivers_146 : decode cX5_receivers 146 = .ok (.if_icmp .ne 11, 3) := by decide +kernel
theorem dX5_receivers_149 : decode cX5_receivers 149 = .ok (.iload 8, 2) := by decide +kernel
theorem dX5_receivers_151 : decode cX5_receivers 151 = .ok (.ifCond .eq 48, 3) := by decide +kernel
theorem dX5_receivers_154 : decode cX5_receivers 154 = .ok (.goto 42, 3) := by decide +kernel
theorem dX5_receivers_157 : decode cX5_receivers 157 = .ok (.iload_n 2, 1) := by decide +kernel
theorem dX5_receivers_158 : decode cX5_receivers 158 = .ok (.iconst 2, 1) := by decide +kernel
theorem dX5_receivers_159 : decode cX5_receivers 159 = .ok (.if_icmp .ne 16, 3) := by decide +kernel
theorem dX5_receivers_162 : decode cX5_receivers 162 = .ok (.iload 7, 2) := by decide +kernel
theorem dX5_receivers_164 : decode cX5_receivers 164 = .ok (.ifCond .eq 35, 3) := by decide +kernel
theorem dX5_receivers_167 : decode cX5_receivers 167 = .ok (.iload 8, 2) := by decide +kernel
theorem dX5_receivers_169 : decode cX5_receivers 169 = .ok (.ifCond .ne 30, 3) := by decide +kernel
theorem dX5_receivers_172 : decode cX5_receivers 172 = .ok (.goto 24, 3) := by decide +kernel
theorem dX5_receivers_175 : decode cX5_receivers 175 = .ok (.iload 7, 2) := by decide +kernel
theorem dX5_receivers_177 : decode cX5_receivers 177 = .ok (.ifCond .eq 22, 3) := by decide +kernel
theorem dX5_receivers_180 : decode cX5_receivers 180 = .ok (.iload 8, 2) := by decide +kernel
theorem dX5_receivers_182 : decode cX5_receivers 182 = .ok (.ifCond .eq 17, 3) := by decide +kernel
theorem dX5_receivers_185 : decode cX5_receivers 185 = .ok (.aload_n 0, 1) := by decide +kernel
theorem dX5_receivers_186 : decode cX5_receivers 186 = .ok (.iload 5, 2) := by decide +kernel
theorem dX5_receivers_188 : decode cX5_receivers 188 = .ok (.iload 6, 2) := by decide +kernel
theorem dX5_receivers_190 : decode cX5_receivers 190 = .ok (.invokevirtual 161, 3) := by decide +kernel
theorem dX5_receivers_193 : decode cX5_receivers 193 = .ok (.ifCond .ne 6, 3) := by decide +kernel
theorem dX5_receivers_196 : decode cX5_receivers 196 = .ok (.iinc 3 1, 3) := by decide +kernel
theorem dX5_receivers_199 : decode cX5_receivers 199 = .ok (.iinc 4 1, 3) := by decide +kernel
theorem dX5_receivers_202 : decode cX5_receivers 202 = .ok (.goto (-176), 3) := by decide +kernel
theorem dX5_receivers_205 : decode cX5_receivers 205 = .ok (.iload_n 3, 1) := by decide +kernel
theorem dX5_receivers_206 : decode cX5_receivers 206 = .ok (.ireturn, 1) := by decide +kernel
theorem dX5_isUnder_0 : decode cX5_isUnder 0 = .ok (.iload_n 1, 1) := by decide +kernel
theorem dX5_isUnder_1 : decode cX5_isUnder 1 = .ok (.iconst 2, 1) := by decide +kernel
theorem dX5_isUnder_2 : decode cX5_isUnder 2 = .ok (.invokestatic 72, 3) := by decide +kernel
theorem dX5_isUnder_5 : decode cX5_isUnder 5 = .ok (.ifCond .eq 53, 3) := by decide +kernel
theorem dX5_isUnder_8 : decode cX5_isUnder 8 = .ok (.iload_n 2, 1) := by decide +kernel
theorem dX5_isUnder_9 : decode cX5_isUnder 9 = .ok (.bipush 12, 2) := by decide +kernel
theorem dX5_isUnder_11 : decode cX5_isUnder 11 = .ok (.invokestatic 72, 3) := by decide +kernel
theorem dX5_isUnder_14 : decode cX5_isUnder 14 = .ok (.ifCond .eq 44, 3) := by decide +kernel
theorem dX5_isUnder_17 : decode cX5_isUnder 17 = .ok (.iload_n 3, 1) := by decide +kernel
theorem dX5_isUnder_18 : decode cX5_isUnder 18 = .ok (.bipush 12, 2) := by decide +kernel
theorem dX5_isUnder_20 : decode cX5_isUnder 20 = .ok (.invokestatic 72, 3) := by decide +kernel
theorem dX5_isUnder_23 : decode cX5_isUnder 23 = .ok (.ifCond .eq 35, 3) := by decide +kernel
theorem dX5_isUnder_26 : decode cX5_isUnder 26 = .ok (.aload_n 0, 1) := by decide +kernel
theorem dX5_isUnder_27 : decode cX5_isUnder 27 = .ok (.iload_n 1, 1) := by decide +kernel
theorem dX5_isUnder_28 : decode cX5_isUnder 28 = .ok (.iload_n 2, 1) := by decide +kernel
theorem dX5_isUnder_29 : decode cX5_isUnder 29 = .ok (.invokevirtual 146, 3) := by decide +kernel
theorem dX5_isUnder_32 : decode cX5_isUnder 32 = .ok (.ifCond .eq 26, 3) := by decide +kernel
theorem dX5_isUnder_35 : decode cX5_isUnder 35 = .ok (.aload_n 0, 1) := by decide +kernel
theorem dX5_isUnder_36 : decode cX5_isUnder 36 = .ok (.iload_n 1, 1) := by decide +kernel
theorem dX5_isUnder_37 : decode cX5_isUnder 37 = .ok (.iload_n 3, 1) := by decide +kernel
theorem dX5_isUnder_38 : decode cX5_isUnder 38 = .ok (.invokevirtual 146, 3) := by decide +kernel
theorem dX5_isUnder_41 : decode cX5_isUnder 41 = .ok (.ifCond .eq 17, 3) := by decide +kernel
theorem dX5_isUnder_44 : decode cX5_isUnder 44 = .ok (.aload_n 0, 1) := by decide +kernel
theorem dX5_isUnder_45 : decode cX5_isUnder 45 = .ok (.iload_n 1, 1) := by decide +kernel
theorem dX5_isUnder_46 : decode cX5_isUnder 46 = .ok (.iload_n 2, 1) := by decide +kernel
theorem dX5_isUnder_47 : decode cX5_isUnder 47 = .ok (.iload_n 3, 1) := by decide +kernel
theorem dX5_isUnder_48 : decode cX5_isUnder 48 = .ok (.invokevirtual 116, 3) := by decide +kernel
theorem dX5_isUnder_51 : decode cX5_isUnder 51 = .ok (.ifCond .eq 7, 3) := by decide +kernel
theorem dX5_isUnder_54 : decode cX5_isUnder 54 = .ok (.iconst 1, 1) := by decide +kernel
theorem dX5_isUnder_55 : decode cX5_isUnder 55 = .ok (.goto 4, 3) := by decide +kernel
theorem dX5_isUnder_58 : decode cX5_isUnder 58 = .ok (.iconst 0, 1) := by decide +kernel
theorem dX5_isUnder_59 : decode cX5_isUnder 59 = .ok (.ireturn, 1) := by decide +kernel
theorem dX5_neighbours_0 : decode cX5_neighbours 0 = .ok (.iconst 0, 1) := by decide +kernel
theorem dX5_neighbours_1 : decode cX5_neighbours 1 = .ok (.istore_n 2, 1) := by decide +kernel
theorem dX5_neighbours_2 : decode cX5_neighbours 2 = .ok (.iconst 0, 1) := by decide +kernel
theorem dX5_neighbours_3 : decode cX5_neighbours 3 = .ok (.istore_n 3, 1) := by decide +kernel
theorem dX5_neighbours_4 : decode cX5_neighbours 4 = .ok (.iload_n 3, 1) := by decide +kernel
theorem dX5_neighbours_5 : decode cX5_neighbours 5 = .ok (.bipush 12, 2) := by decide +kernel
theorem dX5_neighbours_7 : decode cX5_neighbours 7 = .ok (.if_icmp .ge 82, 3) := by decide +kernel
theorem dX5_neighbours_10 : decode cX5_neighbours 10 = .ok (.iconst 0, 1) := by decide +kernel
theorem dX5_neighbours_11 : decode cX5_neighbours 11 = .ok (.istore 4, 2) := by decide +kernel
theorem dX5_neighbours_13 : decode cX5_neighbours 13 = .ok (.iload 4, 2) := by decide +kernel
theorem dX5_neighbours_15 : decode cX5_neighbours 15 = .ok (.bipush 12, 2) := by decide +kernel
theorem dX5_neighbours_17 : decode cX5_neighbours 17 = .ok (.if_icmp .ge 66, 3) := by decide +kernel
theorem dX5_neighbours_20 : decode cX5_neighbours 20 = .ok (.iload_n 3, 1) := by decide +kernel
theorem dX5_neighbours_21 : decode cX5_neighbours 21 = .ok (.iload 4, 2) := by decide +kernel
theorem dX5_neighbours_23 : decode cX5_neighbours 23 = .ok (.if_icmp .eq 54, 3) := by decide +kernel
theorem dX5_neighbours_26 : decode cX5_neighbours 26 = .ok (.aload_n 0, 1) := by decide +kernel
theorem dX5_neighbours_27 : decode cX5_neighbours 27 = .ok (.getfield 7, 3) := by decide +kernel
theorem dX5_neighbours_30 : decode cX5_neighbours 30 = .ok (.bipush 12, 2) := by decide +kernel
theorem dX5_neighbours_32 : decode cX5_neighbours 32 = .ok (.iload_n 1, 1) := by decide +kernel
theorem dX5_neighbours_33 : decode cX5_neighbours 33 = .ok (.imul, 1) := by decide +kernel
theorem dX5_neighbours_34 : decode cX5_neighbours 34 = .ok (.iload_n 3, 1) := by decide +kernel
theorem dX5_neighbours_35 : decode cX5_neighbours 35 = .ok (.iadd, 1) := by decide +kernel
theorem dX5_neighbours_36 : decode cX5_neighbours 36 = .ok (.baload, 1) := by decide +kernel
theorem dX5_neighbours_37 : decode cX5_neighbours 37 = .ok (.ifCond .eq 40, 3) := by decide +kernel
theorem dX5_neighbours_40 : decode cX5_neighbours 40 = .ok (.aload_n 0, 1) := by decide +kernel
theorem dX5_neighbours_41 : decode cX5_neighbours 41 = .ok (.getfield 7, 3) := by decide +kernel
theorem dX5_neighbours_44 : decode cX5_neighbours 44 = .ok (.bipush 12, 2) := by decide +kernel
theorem dX5_neighbours_46 : decode cX5_neighbours 46 = .ok (.iload_n 1, 1) := by decide +kernel
theorem dX5_neighbours_47 : decode cX5_neighbours 47 = .ok (.imul, 1) := by decide +kernel
theorem dX5_neighbours_48 : decode cX5_neighbours 48 = .ok (.iload 4, 2) := by decide +kernel
theorem dX5_neighbours_50 : decode cX5_neighbours 50 = .ok (.iadd, 1) := by decide +kernel
theorem dX5_neighbours_51 : decode cX5_neighbours 51 = .ok (.baload, 1) := by decide +kernel
theorem dX5_neighbours_52 : decode cX5_neighbours 52 = .ok (.ifCond .eq 25, 3) := by decide +kernel
theorem dX5_neighbours_55 : decode cX5_neighbours 55 = .ok (.aload_n 0, 1) := by decide +kernel
theorem dX5_neighbours_56 : decode cX5_neighbours 56 = .ok (.iload_n 1, 1) := by decide +kernel
theorem dX5_neighbours_57 : decode cX5_neighbours 57 = .ok (.iload_n 3, 1) := by decide +kernel
theorem dX5_neighbours_58 : decode cX5_neighbours 58 = .ok (.invokevirtual 113, 3) := by decide +kernel
theorem dX5_neighbours_61 : decode cX5_neighbours 61 = .ok (.aload_n 0, 1) := by decide +kernel
theorem dX5_neighbours_62 : decode cX5_neighbours 62 = .ok (.iload_n 1, 1) := by decide +kernel
theorem dX5_neighbours_63 : decode cX5_neighbours 63 = .ok (.iload 4, 2) := by decide +kernel
theorem dX5_neighbours_65 : decode cX5_neighbours 65 = .ok (.invokevirtual 113, 3) := by decide +kernel
theorem dX5_neighbours_68 : decode cX5_neighbours 68 = .ok (.if_icmp .ne 9, 3) := by decide +kernel
theorem dX5_neighbours_71 : decode cX5_neighbours 71 = .ok (.iload_n 2, 1) := by decide +kernel
theorem dX5_neighbours_72 : decode cX5_neighbours 72 = .ok (.iconst 1, 1) := by decide +kernel
theorem dX5_neighbours_73 : decode cX5_neighbours 73 = .ok (.iload_n 3, 1) := by decide +kernel
theorem dX5_neighbours_74 : decode cX5_neighbours 74 = .ok (.ishl, 1) := by decide +kernel
theorem dX5_neighbours_75 : decode cX5_neighbours 75 = .ok (.ior, 1) := by decide +kernel
theorem dX5_neighbours_76 : decode cX5_neighbours 76 = .ok (.istore_n 2, 1) := by decide +kernel
theorem dX5_neighbours_77 : decode cX5_neighbours 77 = .ok (.iinc 4 1, 3) := by decide +kernel
theorem dX5_neighbours_80 : decode cX5_neighbours 80 = .ok (.goto (-67), 3) := by decide +kernel
theorem dX5_neighbours_83 : decode cX5_neighbours 83 = .ok (.iinc 3 1, 3) := by decide +kernel
theorem dX5_neighbours_86 : decode cX5_neighbours 86 = .ok (.goto (-82), 3) := by decide +kernel
theorem dX5_neighbours_89 : decode cX5_neighbours 89 = .ok (.iload_n 2, 1) := by decide +kernel
theorem dX5_neighbours_90 : decode cX5_neighbours 90 = .ok (.ireturn, 1) := by decide +kernel
theorem dX5_count_0 : decode cX5_count 0 = .ok (.iload_n 1, 1) := by decide +kernel
theorem dX5_count_1 : decode cX5_count 1 = .ok (.iconst 2, 1) := by decide +kernel
theorem dX5_count_2 : decode cX5_count 2 = .ok (.invokestatic 72, 3) := by decide +kernel
theorem dX5_count_5 : decode cX5_count 5 = .ok (.ifCond .eq 12, 3) := by decide +kernel
theorem dX5_count_8 : decode cX5_count 8 = .ok (.iload_n 2, 1) := by decide +kernel
theorem dX5_count_9 : decode cX5_count 9 = .ok (.bipush 7, 2) := by decide +kernel
theorem dX5_count_11 : decode cX5_count 11 = .ok (.invokestatic 72, 3) := by decide +kernel
theorem dX5_count_14 : decode cX5_count 14 = .ok (.ifCond .ne 5, 3) := by decide +kernel
theorem dX5_count_17 : decode cX5_count 17 = .ok (.iconst (-1), 1) := by decide +kernel
theorem dX5_count_18 : decode cX5_count 18 = .ok (.ireturn, 1) := by decide +kernel
theorem dX5_count_19 : decode cX5_count 19 = .ok (.iconst 0, 1) := by decide +kernel
theorem dX5_count_20 : decode cX5_count 20 = .ok (.istore_n 3, 1) := by decide +kernel
theorem dX5_count_21 : decode cX5_count 21 = .ok (.iconst 0, 1) := by decide +kernel
theorem dX5_count_22 : decode cX5_count 22 = .ok (.istore 4, 2) := by decide +kernel
theorem dX5_count_24 : decode cX5_count 24 = .ok (.iload 4, 2) := by decide +kernel
theorem dX5_count_26 : decode cX5_count 26 = .ok (.bipush 12, 2) := by decide +kernel
theorem dX5_count_28 : decode cX5_count 28 = .ok (.if_icmp .ge 46, 3) := by decide +kernel
theorem dX5_count_31 : decode cX5_count 31 = .ok (.aload_n 0, 1) := by decide +kernel
theorem dX5_count_32 : decode cX5_count 32 = .ok (.getfield 7, 3) := by decide +kernel
theorem dX5_count_35 : decode cX5_count 35 = .ok (.bipush 12, 2) := by decide +kernel
theorem dX5_count_37 : decode cX5_count 37 = .ok (.iload_n 1, 1) := by decide +kernel
theorem dX5_count_38 : decode cX5_count 38 = .ok (.imul, 1) := by decide +kernel
theorem dX5_count_39 : decode cX5_count 39 = .ok (.iload 4, 2) := by decide +kernel
theorem dX5_count_41 : decode cX5_count 41 = .ok (.iadd, 1) := by decide +kernel
theorem dX5_count_42 : decode cX5_count 42 = .ok (.baload, 1) := by decide +kernel
theorem dX5_count_43 : decode cX5_count 43 = .ok (.ifCond .eq 25, 3) := by decide +kernel
theorem dX5_count_46 : decode cX5_count 46 = .ok (.iload_n 2, 1) := by decide +kernel
theorem dX5_count_47 : decode cX5_count 47 = .ok (.ifCond .eq 18, 3) := by decide +kernel
theorem dX5_count_50 : decode cX5_count 50 = .ok (.iload_n 2, 1) := by decide +kernel
theorem dX5_count_51 : decode cX5_count 51 = .ok (.iconst 4, 1) := by decide +kernel
theorem dX5_count_52 : decode cX5_count 52 = .ok (.if_icmp .ne 16, 3) := by decide +kernel
theorem dX5_count_55 : decode cX5_count 55 = .ok (.aload_n 0, 1) := by decide +kernel
theorem dX5_count_56 : decode cX5_count 56 = .ok (.iload_n 1, 1) := by decide +kernel
theorem dX5_count_57 : decode cX5_count 57 = .ok (.iload 4, 2) := by decide +kernel
theorem dX5_count_59 : decode cX5_count 59 = .ok (.invokevirtual 146, 3) := by decide +kernel
theorem dX5_count_62 : decode cX5_count 62 = .ok (.ifCond .eq 6, 3) := by decide +kernel
theorem dX5_count_65 : decode cX5_count 65 = .ok (.iinc 3 1, 3) := by decide +kernel
theorem dX5_count_68 : decode cX5_count 68 = .ok (.iinc 4 1, 3) := by decide +kernel
theorem dX5_count_71 : decode cX5_count 71 = .ok (.goto (-47), 3) := by decide +kernel
theorem dX5_count_74 : decode cX5_count 74 = .ok (.bipush 30, 2) := by decide +kernel
theorem dX5_count_76 : decode cX5_count 76 = .ok (.iload_n 1, 1) := by decide +kernel
theorem dX5_count_77 : decode cX5_count 77 = .ok (.imul, 1) := by decide +kernel
theorem dX5_count_78 : decode cX5_count 78 = .ok (.istore 4, 2) := by decide +kernel
theorem dX5_count_80 : decode cX5_count 80 = .ok (.iload 4, 2) := by decide +kernel
theorem dX5_count_82 : decode cX5_count 82 = .ok (.bipush 30, 2) := by decide +kernel
theorem dX5_count_84 : decode cX5_count 84 = .ok (.iload_n 1, 1) := by decide +kernel
theorem dX5_count_85 : decode cX5_count 85 = .ok (.imul, 1) := by decide +kernel
theorem dX5_count_86 : decode cX5_count 86 = .ok (.aload_n 0, 1) := by decide +kernel
theorem dX5_count_87 : decode cX5_count 87 = .ok (.getfield 35, 3) := by decide +kernel
theorem dX5_count_90 : decode cX5_count 90 = .ok (.iload_n 1, 1) := by decide +kernel
theorem dX5_count_91 : decode cX5_count 91 = .ok (.iaload, 1) := by decide +kernel
theorem dX5_count_92 : decode cX5_count 92 = .ok (.iadd, 1) := by decide +kernel
theorem dX5_count_93 : decode cX5_count 93 = .ok (.if_icmp .ge 54, 3) := by decide +kernel
theorem dX5_count_96 : decode cX5_count 96 = .ok (.aload_n 0, 1) := by decide +kernel
theorem dX5_count_97 : decode cX5_count 97 = .ok (.getfield 32, 3) := by decide +kernel
theorem dX5_count_100 : decode cX5_count 100 = .ok (.iload 4, 2) := by decide +kernel
theorem dX5_count_102 : decode cX5_count 102 = .ok (.baload, 1) := by decide +kernel
theorem dX5_count_103 : decode cX5_count 103 = .ok (.ifCond .ne 38, 3) := by decide +kernel
theorem dX5_count_106 : decode cX5_count 106 = .ok (.iload_n 2, 1) := by decide +kernel
theorem dX5_count_107 : decode cX5_count 107 = .ok (.iconst 1, 1) := by decide +kernel
theorem dX5_count_108 : decode cX5_count 108 = .ok (.if_icmp .eq 30, 3) := by decide +kernel
theorem dX5_count_111 : decode cX5_count 111 = .ok (.iload_n 2, 1) := by decide +kernel
theorem dX5_count_112 : decode cX5_count 112 = .ok (.iconst 5, 1) := by decide +kernel
theorem dX5_count_113 : decode cX5_count 113 = .ok (.if_icmp .ne 28, 3) := by decide +kernel
theorem dX5_count_116 : decode cX5_count 116 = .ok (.aload_n 0, 1) := by decide +kernel
theorem dX5_count_117 : decode cX5_count 117 = .ok (.getfield 29, 3) := by decide +kernel
theorem dX5_count_120 : decode cX5_count 120 = .ok (.iload 4, 2) := by decide +kernel
theorem dX5_count_122 : decode cX5_count 122 = .ok (.baload, 1) := by decide +kernel
theorem dX5_count_123 : decode cX5_count 123 = .ok (.ifCond .eq 18, 3) := by decide +kernel
theorem dX5_count_126 : decode cX5_count 126 = .ok (.aload_n 0, 1) := by decide +kernel
theorem dX5_count_127 : decode cX5_count 127 = .ok (.getfield 47, 3) := by decide +kernel
theorem dX5_count_130 : decode cX5_count 130 = .ok (.iload 4, 2) := by decide +kernel
theorem dX5_count_132 : decode cX5_count 132 = .ok (.iaload, 1) := by decide +kernel
theorem dX5_count_133 : decode cX5_count 133 = .ok (.iconst 2, 1) := by decide +kernel
theorem dX5_count_134 : decode cX5_count 134 = .ok (.iand, 1) := by decide +kernel
theorem dX5_count_135 : decode cX5_count 135 = .ok (.ifCond .eq 6, 3) := by decide +kernel
theorem dX5_count_138 : decode cX5_count 138 = .ok (.iinc 3 1, 3) := by decide +kernel
theorem dX5_count_141 : decode cX5_count 141 = .ok (.iinc 4 1, 3) := by decide +kernel
theorem dX5_count_144 : decode cX5_count 144 = .ok (.goto (-64), 3) := by decide +kernel
theorem dX5_count_147 : decode cX5_count 147 = .ok (.iconst 0, 1) := by decide +kernel
theorem dX5_count_148 : decode cX5_count 148 = .ok (.istore 4, 2) := by decide +kernel
theorem dX5_count_150 : decode cX5_count 150 = .ok (.iload 4, 2) := by decide +kernel
theorem dX5_count_152 : decode cX5_count 152 = .ok (.aload_n 0, 1) := by decide +kernel
theorem dX5_count_153 : decode cX5_count 153 = .ok (.getfield 91, 3) := by decide +kernel
theorem dX5_count_156 : decode cX5_count 156 = .ok (.if_icmp .ge 29, 3) := by decide +kernel
theorem dX5_count_159 : decode cX5_count 159 = .ok (.iload_n 2, 1) := by decide +kernel
theorem dX5_count_160 : decode cX5_count 160 = .ok (.iconst 3, 1) := by decide +kernel
theorem dX5_count_161 : decode cX5_count 161 = .ok (.if_icmp .ne 18, 3) := by decide +kernel
theorem dX5_count_164 : decode cX5_count 164 = .ok (.aload_n 0, 1) := by decide +kernel
theorem dX5_count_165 : decode cX5_count 165 = .ok (.iload_n 1, 1) := by decide +kernel
theorem dX5_count_166 : decode cX5_count 166 = .ok (.iload 4, 2) := by decide +kernel
theorem dX5_count_168 : decode cX5_count 168 = .ok (.invokevirtual 143, 3) := by decide +kernel
theorem dX5_count_171 : decode cX5_count 171 = .ok (.bipush 64, 2) := by decide +kernel
theorem dX5_count_173 : decode cX5_count 173 = .ok (.if_icmp .ge 6, 3) := by decide +kernel
theorem dX5_count_176 : decode cX5_count 176 = .ok (.iinc 3 1, 3) := by decide +kernel
theorem dX5_count_179 : decode cX5_count 179 = .ok (.iinc 4 1, 3) := by decide +kernel
theorem dX5_count_182 : decode cX5_count 182 = .ok (.goto (-32), 3) := by decide +kernel
theorem dX5_count_185 : decode cX5_count 185 = .ok (.iload_n 2, 1) := by decide +kernel
theorem dX5_count_186 : decode cX5_count 186 = .ok (.iconst 2, 1) := by decide +kernel
theorem dX5_count_187 : decode cX5_count 187 = .ok (.if_icmp .ne 12, 3) := by decide +kernel
theorem dX5_count_190 : decode cX5_count 190 = .ok (.aload_n 0, 1) := by decide +kernel
theorem dX5_count_191 : decode cX5_count 191 = .ok (.getfield 35, 3) := by decide +kernel
theorem dX5_count_194 : decode cX5_count 194 = .ok (.iload_n 1, 1) := by decide +kernel
theorem dX5_count_195 : decode cX5_count 195 = .ok (.iaload, 1) := by decide +kernel
theorem dX5_count_196 : decode cX5_count 196 = .ok (.goto 18, 3) := by decide +kernel
theorem dX5_count_199 : decode cX5_count 199 = .ok (.iload_n 2, 1) := by decide +kernel
theorem dX5_count_200 : decode cX5_count 200 = .ok (.bipush 6, 2) := by decide +kernel
theorem dX5_count_202 : decode cX5_count 202 = .ok (.if_icmp .ne 11, 3) := by decide +kernel
theorem dX5_count_205 : decode cX5_count 205 = .ok (.aload_n 0, 1) := by decide +kernel
theorem dX5_count_206 : decode cX5_count 206 = .ok (.iload_n 1, 1) := by decide +kernel
theorem dX5_count_207 : decode cX5_count 207 = .ok (.invokevirtual 164, 3) := by decide +kernel
theorem dX5_count_210 : decode cX5_count 210 = .ok (.goto 4, 3) := by decide +kernel
theorem dX5_count_213 : decode cX5_count 213 = .ok (.iload_n 3, 1) := by decide +kernel
theorem dX5_count_214 : decode cX5_count 214 = .ok (.ireturn, 1) := by decide +kernel
theorem dJ6_bitCount_0f7a4_0 : decode cJ6_bitCount_0f7a4 0 = .ok (.iload_n 0, 1) := by decide +kernel
theorem dJ6_bitCount_0f7a4_1 : decode cJ6_bitCount_0f7a4 1 = .ok (.iload_n 0, 1) := by decide +kernel
theorem dJ6_bitCount_0f7a4_2 : decode cJ6_bitCount_0f7a4 2 = .ok (.iconst 1, 1) := by decide +kernel
theorem dJ6_bitCount_0f7a4_3 : decode cJ6_bitCount_0f7a4 3 = .ok (.iushr, 1) := by decide +kernel
theorem dJ6_bitCount_0f7a4_4 : decode cJ6_bitCount_0f7a4 4 = .ok (.ldc_w 265, 3) := by decide +kernel
theorem dJ6_bitCount_0f7a4_7 : decode cJ6_bitCount_0f7a4 7 = .ok (.iand, 1) := by decide +kernel
theorem dJ6_bitCount_0f7a4_8 : decode cJ6_bitCount_0f7a4 8 = .ok (.isub, 1) := by decide +kernel
theorem dJ6_bitCount_0f7a4_9 : decode cJ6_bitCount_0f7a4 9 = .ok (.istore_n 0, 1) := by decide +kernel
theorem dJ6_bitCount_0f7a4_10 : decode cJ6_bitCount_0f7a4 10 = .ok (.iload_n 0, 1) := by decide +kernel
theorem dJ6_bitCount_0f7a4_11 : decode cJ6_bitCount_0f7a4 11 = .ok (.ldc_w 266, 3) := by decide +kernel
theorem dJ6_bitCount_0f7a4_14 : decode cJ6_bitCount_0f7a4 14 = .ok (.iand, 1) := by decide +kernel
theorem dJ6_bitCount_0f7a4_15 : decode cJ6_bitCount_0f7a4 15 = .ok (.iload_n 0, 1) := by decide +kernel
theorem dJ6_bitCount_0f7a4_16 : decode cJ6_bitCount_0f7a4 16 = .ok (.iconst 2, 1) := by decide +kernel
theorem dJ6_bitCount_0f7a4_17 : decode cJ6_bitCount_0f7a4 17 = .ok (.iushr, 1) := by decide +kernel
theorem dJ6_bitCount_0f7a4_18 : decode cJ6_bitCount_0f7a4 18 = .ok (.ldc_w 266, 3) := by decide +kernel
theorem dJ6_bitCount_0f7a4_21 : decode cJ6_bitCount_0f7a4 21 = .ok (.iand, 1) := by decide +kernel
theorem dJ6_bitCount_0f7a4_22 : decode cJ6_bitCount_0f7a4 22 = .ok (.iadd, 1) := by decide +kernel
theorem dJ6_bitCount_0f7a4_23 : decode cJ6_bitCount_0f7a4 23 = .ok (.istore_n 0, 1) := by decide +kernel
theorem dJ6_bitCount_0f7a4_24 : decode cJ6_bitCount_0f7a4 24 = .ok (.iload_n 0, 1) := by decide +kernel
theorem dJ6_bitCount_0f7a4_25 : decode cJ6_bitCount_0f7a4 25 = .ok (.iload_n 0, 1) := by decide +kernel
theorem dJ6_bitCount_0f7a4_26 : decode cJ6_bitCount_0f7a4 26 = .ok (.iconst 4, 1) := by decide +kernel
theorem dJ6_bitCount_0f7a4_27 : decode cJ6_bitCount_0f7a4 27 = .ok (.iushr, 1) := by decide +kernel
theorem dJ6_bitCount_0f7a4_28 : decode cJ6_bitCount_0f7a4 28 = .ok (.iadd, 1) := by decide +kernel
theorem dJ6_bitCount_0f7a4_29 : decode cJ6_bitCount_0f7a4 29 = .ok (.ldc_w 267, 3) := by decide +kernel
theorem dJ6_bitCount_0f7a4_32 : decode cJ6_bitCount_0f7a4 32 = .ok (.iand, 1) := by decide +kernel
theorem dJ6_bitCount_0f7a4_33 : decode cJ6_bitCount_0f7a4 33 = .ok (.istore_n 0, 1) := by decide +kernel
theorem dJ6_bitCount_0f7a4_34 : decode cJ6_bitCount_0f7a4 34 = .ok (.iload_n 0, 1) := by decide +kernel
theorem dJ6_bitCount_0f7a4_35 : decode cJ6_bitCount_0f7a4 35 = .ok (.iload_n 0, 1) := by decide +kernel
theorem dJ6_bitCount_0f7a4_36 : decode cJ6_bitCount_0f7a4 36 = .ok (.bipush 8, 2) := by decide +kernel
theorem dJ6_bitCount_0f7a4_38 : decode cJ6_bitCount_0f7a4 38 = .ok (.iushr, 1) := by decide +kernel
theorem dJ6_bitCount_0f7a4_39 : decode cJ6_bitCount_0f7a4 39 = .ok (.iadd, 1) := by decide +kernel
theorem dJ6_bitCount_0f7a4_40 : decode cJ6_bitCount_0f7a4 40 = .ok (.istore_n 0, 1) := by decide +kernel
theorem dJ6_bitCount_0f7a4_41 : decode cJ6_bitCount_0f7a4 41 = .ok (.iload_n 0, 1) := by decide +kernel
theorem dJ6_bitCount_0f7a4_42 : decode cJ6_bitCount_0f7a4 42 = .ok (.iload_n 0, 1) := by decide +kernel
theorem dJ6_bitCount_0f7a4_43 : decode cJ6_bitCount_0f7a4 43 = .ok (.bipush 16, 2) := by decide +kernel
theorem dJ6_bitCount_0f7a4_45 : decode cJ6_bitCount_0f7a4 45 = .ok (.iushr, 1) := by decide +kernel
theorem dJ6_bitCount_0f7a4_46 : decode cJ6_bitCount_0f7a4 46 = .ok (.iadd, 1) := by decide +kernel
theorem dJ6_bitCount_0f7a4_47 : decode cJ6_bitCount_0f7a4 47 = .ok (.istore_n 0, 1) := by decide +kernel
theorem dJ6_bitCount_0f7a4_48 : decode cJ6_bitCount_0f7a4 48 = .ok (.iload_n 0, 1) := by decide +kernel
theorem dJ6_bitCount_0f7a4_49 : decode cJ6_bitCount_0f7a4 49 = .ok (.bipush 63, 2) := by decide +kernel
theorem dJ6_bitCount_0f7a4_51 : decode cJ6_bitCount_0f7a4 51 = .ok (.iand, 1) := by decide +kernel
theorem dJ6_bitCount_0f7a4_52 : decode cJ6_bitCount_0f7a4 52 = .ok (.ireturn, 1) := by decide +kernel
theorem dJ9_min_7cf53_0 : decode cJ9_min_7cf53 0 = .ok (.iload_n 0, 1) := by decide +kernel
theorem dJ9_min_7cf53_1 : decode cJ9_min_7cf53 1 = .ok (.iload_n 1, 1) := by decide +kernel
theorem dJ9_min_7cf53_2 : decode cJ9_min_7cf53 2 = .ok (.if_icmp .gt 7, 3) := by decide +kernel
theorem dJ9_min_7cf53_5 : decode cJ9_min_7cf53 5 = .ok (.iload_n 0, 1) := by decide +kernel
theorem dJ9_min_7cf53_6 : decode cJ9_min_7cf53 6 = .ok (.goto 4, 3) := by decide +kernel
theorem dJ9_min_7cf53_9 : decode cJ9_min_7cf53 9 = .ok (.iload_n 1, 1) := by decide +kernel
theorem dJ9_min_7cf53_10 : decode cJ9_min_7cf53 10 = .ok (.ireturn, 1) := by decide +kernel
end
section
/-! ===== the ground: booleans, environment, read-only contracts, call rows ===== -/
def b2i (b : Bool) : Int32 := if b then 1 else 0
theorem b2i_f {b : Bool} (h : b2i b = 0) : ¬ (b = true) := fun e => by rw [e] at h; exact absurd h (by decide)
theorem b2i_t {b : Bool} (h : ¬ b2i b = 0) : b = true := by cases b with | true => rfl | false => exact absurd rfl h
theorem b2i_nar (b : Bool) : narrow .boolean (.int (b2i b)) = .int (b2i b) := by cases b <;> rfl
theorem b2i_dec {c : Prop} {i : Decidable c} : b2i (decide c) = if c then 1 else 0 := by by_cases h : c <;> simp [b2i, h]
def nwl : List Cond := [.fieldLinkNest RX4 38 "LinkPredictor$Build" "types" "LLinkPredictor$Hierarchy;" "LinkPredictor", .fieldLinkNest RX4 58 "LinkPredictor$Build" "members" "LLinkPredictor$Members;" "LinkPredictor", .fieldLinkNest RX0 71 "LinkPredictor$Reference" "kind" "I" "LinkPredictor", .fieldLinkNest RX0 51 "LinkPredictor$Reference" "holder" "I" "LinkPredictor", .fieldLinkNest RX0 64 "LinkPredictor$Reference" "way" "I" "LinkPredictor", .fieldLinkNest RX0 99 "LinkPredictor$Reference" "sign" "I" "LinkPredictor", .methodLinkNest RX4 11 yX0_init "LinkPredictor", .methodLinkNest RX1 36 yX4_bit "LinkPredictor", .methodLinkNest RX1 57 yX4_contains "LinkPredictor", .methodLinkNest RX1 61 yX4_isGood "LinkPredictor", .methodLinkNest RX0 20 yX2_init "LinkPredictor", .methodLinkNest RX4 22 yX3_init "LinkPredictor", .methodLinkNest RX2 39 yX4_bit "LinkPredictor", .methodLinkNest RX2 49 yX4_contains "LinkPredictor", .methodLinkNest RX2 64 yX4_isWithin "LinkPredictor", .methodLinkNest RX0 61 yX4_isGood "LinkPredictor", .methodLinkNest RX0 115 yX4_contains "LinkPredictor", .methodLinkNest RX0 118 yX4_bit "LinkPredictor"]
def NW (U : State) : Prop := ∀ w ∈ nwl, va_Nw w U
theorem NW.warm {s U : State} (hW : s.WarmedH U.vm) (h : NW s) : NW U := List.forall_mem_cons.mpr ⟨va_Nw.warmF hW (h _ (List.mem_of_getElem? (i := 0) rfl)), List.forall_mem_cons.mpr ⟨va_Nw.warmF hW (h _ (List.mem_of_getElem? (i := 1) rfl)), List.forall_mem_cons.mpr ⟨va_Nw.warmF hW (h _ (List.mem_of_getElem? (i := 2) rfl)), List.forall_mem_cons.mpr ⟨va_Nw.warmF hW (h _ (List.mem_of_getElem? (i := 3) rfl)), List.forall_mem_cons.mpr ⟨va_Nw.warmF hW (h _ (List.mem_of_getElem? (i := 4) rfl)), List.forall_mem_cons.mpr ⟨va_Nw.warmF hW (h _ (List.mem_of_getElem? (i := 5) rfl)), List.forall_mem_cons.mpr ⟨va_Nw.warmM hW (h _ (List.mem_of_getElem? (i := 6) rfl)), List.forall_mem_cons.mpr ⟨va_Nw.warmM hW (h _ (List.mem_of_getElem? (i := 7) rfl)), List.forall_mem_cons.mpr ⟨va_Nw.warmM hW (h _ (List.mem_of_getElem? (i := 8) rfl)), List.forall_mem_cons.mpr ⟨va_Nw.warmM hW (h _ (List.mem_of_getElem? (i := 9) rfl)), List.forall_mem_cons.mpr ⟨va_Nw.warmM hW (h _ (List.mem_of_getElem? (i := 10) rfl)), List.forall_mem_cons.mpr ⟨va_Nw.warmM hW (h _ (List.mem_of_getElem? (i := 11) rfl)), List.forall_mem_cons.mpr ⟨va_Nw.warmM hW (h _ (List.mem_of_getElem? (i := 12) rfl)), List.forall_mem_cons.mpr ⟨va_Nw.warmM hW (h _ (List.mem_of_getElem? (i := 13) rfl)), List.forall_mem_cons.mpr ⟨va_Nw.warmM hW (h _ (List.mem_of_getElem? (i := 14) rfl)), List.forall_mem_cons.mpr ⟨va_Nw.warmM hW (h _ (List.mem_of_getElem? (i := 15) rfl)), List.forall_mem_cons.mpr ⟨va_Nw.warmM hW (h _ (List.mem_of_getElem? (i := 16) rfl)), List.forall_mem_cons.mpr ⟨va_Nw.warmM hW (h _ (List.mem_of_getElem? (i := 17) rfl)), fun _ h => absurd h List.not_mem_nil⟩⟩⟩⟩⟩⟩⟩⟩⟩⟩⟩⟩⟩⟩⟩⟩⟩⟩
theorem NW.same {s U : State} (hv : s.vm = U.vm) (h : NW s) : NW U := List.forall_mem_cons.mpr ⟨va_Nw.same rfl hv (h _ (List.mem_of_getElem? (i := 0) rfl)), List.forall_mem_cons.mpr ⟨va_Nw.same rfl hv (h _ (List.mem_of_getElem? (i := 1) rfl)), List.forall_mem_cons.mpr ⟨va_Nw.same rfl hv (h _ (List.mem_of_getElem? (i := 2) rfl)), List.forall_mem_cons.mpr ⟨va_Nw.same rfl hv (h _ (List.mem_of_getElem? (i := 3) rfl)), List.forall_mem_cons.mpr ⟨va_Nw.same rfl hv (h _ (List.mem_of_getElem? (i := 4) rfl)), List.forall_mem_cons.mpr ⟨va_Nw.same rfl hv (h _ (List.mem_of_getElem? (i := 5) rfl)), List.forall_mem_cons.mpr ⟨va_Nw.same rfl hv (h _ (List.mem_of_getElem? (i := 6) rfl)), List.forall_mem_cons.mpr ⟨va_Nw.same rfl hv (h _ (List.mem_of_getElem? (i := 7) rfl)), List.forall_mem_cons.mpr ⟨va_Nw.same rfl hv (h _ (List.mem_of_getElem? (i := 8) rfl)), List.forall_mem_cons.mpr ⟨va_Nw.same rfl hv (h _ (List.mem_of_getElem? (i := 9) rfl)), List.forall_mem_cons.mpr ⟨va_Nw.same rfl hv (h _ (List.mem_of_getElem? (i := 10) rfl)), List.forall_mem_cons.mpr ⟨va_Nw.same rfl hv (h _ (List.mem_of_getElem? (i := 11) rfl)), List.forall_mem_cons.mpr ⟨va_Nw.same rfl hv (h _ (List.mem_of_getElem? (i := 12) rfl)), List.forall_mem_cons.mpr ⟨va_Nw.same rfl hv (h _ (List.mem_of_getElem? (i := 13) rfl)), List.forall_mem_cons.mpr ⟨va_Nw.same rfl hv (h _ (List.mem_of_getElem? (i := 14) rfl)), List.forall_mem_cons.mpr ⟨va_Nw.same rfl hv (h _ (List.mem_of_getElem? (i := 15) rfl)), List.forall_mem_cons.mpr ⟨va_Nw.same rfl hv (h _ (List.mem_of_getElem? (i := 16) rfl)), List.forall_mem_cons.mpr ⟨va_Nw.same rfl hv (h _ (List.mem_of_getElem? (i := 17) rfl)), fun _ h => absurd h List.not_mem_nil⟩⟩⟩⟩⟩⟩⟩⟩⟩⟩⟩⟩⟩⟩⟩⟩⟩⟩
/-- the environment: what the tables say of the classes and arrays, and of the nest mates -/
def tysA (cI cZ cB cR : ClassId) : List (ClassId × FieldType) := [(cI, .int), (cZ, .boolean), (cB, .object RX0), (cR, .object RX3)]
def EV (D : va_G) (cI cZ cB cR : ClassId) (U : State) : Prop := va_K D vwCl (tysA cI cZ cB cR) U ∧ NW U
theorem EV.warm {D : va_G} {cI cZ cB cR : ClassId} {s U : State} (hW : s.WarmedH U.vm) (h : EV D cI cZ cB cR s) : EV D cI cZ cB cR U := ⟨va_K.moved hW.alike h.1, h.2.warm hW⟩
theorem EV.calling {D : va_G} {cI cZ cB cR : ClassId} {U : State} {g : JFrame} {mk : MethodId} {a : Array Value} (h : EV D cI cZ cB cR U) : EV D cI cZ cB cR (U.calling g mk a) := ⟨va_K.moved (u := U) (U := U.calling g mk a) (Vm.Alike.refl U.vm) h.1, NW.same (s := U) (U := U.calling g mk a) rfl h.2⟩
/-- the start of a contract that only reads the cells w -/
def PcR (D : va_G) (cI cZ cB cR : ClassId) (w : va_W) (av : List Value) : Array Value → State → Prop := va_Pc av (fun U => va_P D vwCl w U.heap ∧ EV D cI cZ cB cR U)
theorem PcR_blind {D : va_G} {cI cZ cB cR : ClassId} {w : va_W} {av : List Value} : FrameBlind (PcR D cI cZ cB cR w av) := fun _ _ _ _ q => ⟨q.1, q.2.1, q.2.2.calling⟩
/-- a read-only method: nothing changes, the answer is v -/
abbrev RO (l : Launch) (y : MethodName) (ws : List Cond) (rm : Room) (D : va_G) (cI cZ cB cR : ClassId) (w : va_W) (av : List Value) (v : Int32) : Prop := Met l y ws rm (PcR D cI cZ cB cR w av) (vp_Si (fun r => r = v)) 0 0 (fun _ => False)
section ROC
variable {p : Program} {l : Launch} {e : Env} {R : Room} {s : State} {m : MethodId} {args : Array Value} {below : List Frame} {meth : Method} {c : Code} {H : Heap} {locs : List Loc} {cells slots : Nat} {Q : State → Prop}
  {Ts ws : List Cond} {cc bytes : ByteArray} {nL maxL index n : Nat} {own C host : String} {y : MethodName} {ret : Option FieldType} {rm : Room}
  {b : Addr} {pc : Nat} {ls : Array Slot} {st : List Value} {D : va_G} {cI cZ cB cR : ClassId} {w : va_W} {v : Int32} {T : u_T} {N ci : Nat} {fs : List Value}
theorem ro_V (As rest : List Value) (S : CallFix p m c cc nL s args Ts own) (hM : RO l y ws rm D cI cZ cB cR w (.ref b :: As) v) (cw : CallW R s args own C index y bytes maxL ret ws rm 0 0 n) (hEV : EV D cI cZ cB cR s) (hP : va_P D vwCl w H) (q0 : Nat) (he : w[q0]? = some (b, .inr (ci, fs))) (hc : vwCl[ci]? = some (C, T, N))
    (hn : As.length = n) (hls : ls.size = nL) (hst : st = As.reverse ++ .ref b :: rest) (hroom : (rest.map fun v => v.category).sum ≤ 8) (hdg : decode cc pc = .ok (.invokevirtual index, 3)) (hcap : cells ≤ R.cells ∧ slots ≤ R.slots)
    (kk : W p l e R s m args below meth c H locs cells slots Q (F0 m (pc + 3) ls (.int v :: rest))) : W p l e R s m args below meth c H locs cells slots Q (F0 m pc ls st) := by
  refine vp_callSi (va_Run.run (va_runV (As := As) (rest := rest) S hM cw ⟨PcR_blind, va_recv hEV.1 hP (ci := ci) (q0 := q0) hc he, fun U hU hW => ⟨rfl, by rw [hU]; exact hP, hEV.warm hW⟩⟩ rfl hn hls hst (lv_room hroom) hdg hcap)) (fun r hr => ?_)
  rw [hr]
  exact kk
theorem ro_S (As rest : List Value) (S : CallFix p m c cc nL s args Ts own) (hM : RO l y ws rm D cI cZ cB cR w As v) (cw : CallB R s args own index y bytes maxL ret ws rm 0 0 n ∧ (Cond.static y).before args s = true) (hEV : EV D cI cZ cB cR s) (hP : va_P D vwCl w H)
    (hn : As.length = n) (hls : ls.size = nL) (hst : st = As.reverse ++ rest) (hroom : (rest.map fun v => v.category).sum ≤ 8) (hdg : decode cc pc = .ok (.invokestatic index, 3)) (hcap : cells ≤ R.cells ∧ slots ≤ R.slots)
    (kk : W p l e R s m args below meth c H locs cells slots Q (F0 m (pc + 3) ls (.int v :: rest))) : W p l e R s m args below meth c H locs cells slots Q (F0 m pc ls st) := by
  refine vp_callSi (va_Run.run (va_runS (As := As) (rest := rest) S hM cw ⟨PcR_blind, fun U hU hW => ⟨rfl, by rw [hU]; exact hP, hEV.warm hW⟩⟩ rfl hn hls hst (lv_room hroom) hdg hcap)) (fun r hr => ?_)
  rw [hr]
  exact kk
theorem ro_SN (As rest : List Value) (S : CallFix p m c cc nL s args Ts own) (hM : RO l y ws rm D cI cZ cB cR w As v) (cw : va_CN R s args own index y host bytes maxL ret ws rm 0 0 n) (hstat : (Cond.static y).before args s = true) (hEV : EV D cI cZ cB cR s) (hP : va_P D vwCl w H)
    (hn : As.length = n) (hls : ls.size = nL) (hst : st = As.reverse ++ rest) (hroom : (rest.map fun v => v.category).sum ≤ 8) (hdg : decode cc pc = .ok (.invokestatic index, 3)) (hcap : cells ≤ R.cells ∧ slots ≤ R.slots)
    (kk : W p l e R s m args below meth c H locs cells slots Q (F0 m (pc + 3) ls (.int v :: rest))) : W p l e R s m args below meth c H locs cells slots Q (F0 m pc ls st) := by
  refine vp_callSi (va_Run.run (va_runSN (As := As) (rest := rest) S hM ⟨cw, hstat, trivial⟩ ⟨PcR_blind, fun U hU hW => ⟨rfl, by rw [hU]; exact hP, hEV.warm hW⟩⟩ rfl hn hls hst (lv_room hroom) hdg hcap)) (fun r hr => ?_)
  rw [hr]
  exact kk
end ROC
theorem va_P0 {D : va_G} {H : Heap} : va_P D vwCl [] H := fun _ _ h => by simp at h
section ALD
variable {p : Program} {l : Launch} {e : Env} {R : Room} {s : State} {m : MethodId} {args : Array Value} {below : List Frame} {meth : Method} {c : Code} {H : Heap} {locs : List Loc} {cells slots : Nat} {Q : State → Prop}
  {cc : ByteArray} {pc : Nat} {ls : Array Slot} {rest : List Value} {D : va_G} {cI cZ cB cR : ClassId} {w : va_W} {a : Nat}
/-- int[] read at a place that is a number -/
theorem ro_ald (hx : p.tables.exec = Jvm.exec) (hb : c.code = cc) (hEV : EV D cI cZ cB cR s) (hP : va_P D vwCl w H) (q0 : Nat) {n j : Nat} {f : Nat → Int32} (ha : w[q0]? = some (a, .inl (cI, n, .inl f))) (hj : j < n) (hn : n < 2 ^ 31) (hdg : decode cc pc = .ok (.iaload, 1))
    (kk : W p l e R s m args below meth c H locs cells slots Q (F0 m (pc + 1) ls (.int (f j) :: rest))) : W p l e R s m args below meth c H locs cells slots Q (F0 m pc ls (.int (nI j) :: .ref a :: rest)) := by
  refine va_iald hx hb hEV.1 hP q0 0 ha rfl (vp_in_nI hj hn) hdg ?_
  rw [nI_clamp (by omega)]
  exact kk
/-- int[] read at any place -/
theorem ro_aldI (hx : p.tables.exec = Jvm.exec) (hb : c.code = cc) (hEV : EV D cI cZ cB cR s) (hP : va_P D vwCl w H) (q0 : Nat) {n : Nat} {i : Int32} {f : Nat → Int32} (ha : w[q0]? = some (a, .inl (cI, n, .inl f))) (hi : vp_in i n) (hdg : decode cc pc = .ok (.iaload, 1))
    (kk : W p l e R s m args below meth c H locs cells slots Q (F0 m (pc + 1) ls (.int (f i.toNatClampNeg) :: rest))) : W p l e R s m args below meth c H locs cells slots Q (F0 m pc ls (.int i :: .ref a :: rest)) :=
  va_iald hx hb hEV.1 hP q0 0 ha rfl hi hdg kk
/-- boolean[] read at a place that is a number -/
theorem ro_zld (hx : p.tables.exec = Jvm.exec) (hb : c.code = cc) (hEV : EV D cI cZ cB cR s) (hP : va_P D vwCl w H) (q0 : Nat) {n j : Nat} {f : Nat → Int32} (ha : w[q0]? = some (a, .inl (cZ, n, .inl f))) (hj : j < n) (hn : n < 2 ^ 31) (hdg : decode cc pc = .ok (.baload, 1))
    (kk : W p l e R s m args below meth c H locs cells slots Q (F0 m (pc + 1) ls (.int (f j) :: rest))) : W p l e R s m args below meth c H locs cells slots Q (F0 m pc ls (.int (nI j) :: .ref a :: rest)) := by
  refine va_zald hx hb hEV.1 hP q0 1 ha rfl (vp_in_nI hj hn) hdg ?_
  rw [nI_clamp (by omega)]
  exact kk
/-- a value on top under another name -/
theorem top_eq {x y : Int32} (h : x = y) (k : W p l e R s m args below meth c H locs cells slots Q (F0 m pc ls (.int y :: rest))) : W p l e R s m args below meth c H locs cells slots Q (F0 m pc ls (.int x :: rest)) := by rw [h]; exact k
end ALD
/-! ===== the worlds ===== -/
/-- Hierarchy at a: h 0 flags, 1 packs, 2 supers, 3 directFaces, 4 hosts, 5 verdicts, 6 aboves, 7 allFaces; h 8 0 there, h 8 1 settled -/
def wH (cI : ClassId) (a : Nat → Nat) (h : Nat → Nat → Int32) : va_W := [(a 0, .inr (1, [.int (h 8 0), .ref (a 1), .ref (a 2), .ref (a 3), .ref (a 4), .ref (a 5), .ref (a 6), .int (h 8 1), .ref (a 7), .ref (a 8)])), (a 1, .inl (cI, 12, .inl (h 0))), (a 2, .inl (cI, 12, .inl (h 1))), (a 3, .inl (cI, 12, .inl (h 2))), (a 4, .inl (cI, 12, .inl (h 3))), (a 5, .inl (cI, 12, .inl (h 4))), (a 6, .inl (cI, 12, .inl (h 5))), (a 7, .inl (cI, 12, .inl (h 6))), (a 8, .inl (cI, 12, .inl (h 7)))]
/-- Members at a: g 0 owners, 1 keys, 2 accesses, 3 flags; g 4 0 size, g 4 1 gone -/
def wM (cI : ClassId) (a : Nat → Nat) (g : Nat → Nat → Int32) : va_W := [(a 0, .inr (2, [.int (g 4 0), .int (g 4 1), .ref (a 1), .ref (a 2), .ref (a 3), .ref (a 4)])), (a 1, .inl (cI, 30, .inl (g 0))), (a 2, .inl (cI, 30, .inl (g 1))), (a 3, .inl (cI, 30, .inl (g 2))), (a 4, .inl (cI, 30, .inl (g 3)))]
/-- Build at b -/
def wB (cI : ClassId) (b : Nat) (aH aM : Nat → Nat) (h g : Nat → Nat → Int32) (se : Int32) : va_W := (b, .inr (0, [.ref (aH 0), .ref (aM 0), .int se])) :: (wH cI aH h ++ wM cI aM g)
/-- Reference at r: f 0 kind, 1 holder, 2 way, 3 sign -/
def wR (r : Nat) (φ : Nat → Nat) : va_W := [(r, .inr (3, [.int (nI (φ 0)), .int (nI (φ 1)), .int (nI (φ 2)), .int (nI (φ 3))]))]
/-- the reference at a: x 0 there, x 1 flags, x 2 pack, x 3 above, x 4 faces, x 5 host, x 6 method, x 7 gone, x 8 many, x 9 owner, x 10 sign, x 11 access, x 12 marks, x 13 kind, x 14 holder, x 15 way, x 16 asked, x 17 row, x 18 stage; x 19 0 references, x 19 1 written -/
def wX (cI cZ : ClassId) (a : Nat → Nat) (x : Nat → Nat → Int32) : va_W := [(a 0, .inr (5, [.ref (a 1), .ref (a 2), .ref (a 3), .ref (a 4), .ref (a 5), .ref (a 6), .ref (a 7), .ref (a 8), .ref (a 9), .ref (a 10), .ref (a 11), .ref (a 12), .ref (a 13), .ref (a 14), .ref (a 15), .ref (a 16), .ref (a 17), .int (x 19 0), .int (x 19 1), .ref (a 18), .ref (a 19)])), (a 1, .inl (cZ, 24, .inl (x 0))), (a 2, .inl (cI, 24, .inl (x 1))), (a 3, .inl (cI, 24, .inl (x 2))), (a 4, .inl (cI, 24, .inl (x 3))), (a 5, .inl (cI, 24, .inl (x 4))), (a 6, .inl (cI, 24, .inl (x 5))), (a 7, .inl (cZ, 60, .inl (x 6))), (a 8, .inl (cZ, 60, .inl (x 7))), (a 9, .inl (cI, 2, .inl (x 8))), (a 10, .inl (cI, 60, .inl (x 9))), (a 11, .inl (cI, 60, .inl (x 10))), (a 12, .inl (cI, 60, .inl (x 11))), (a 13, .inl (cI, 60, .inl (x 12))), (a 14, .inl (cI, 16, .inl (x 13))), (a 15, .inl (cI, 16, .inl (x 14))), (a 16, .inl (cI, 16, .inl (x 15))), (a 17, .inl (cI, 16, .inl (x 16))), (a 18, .inl (cI, 40, .inl (x 17))), (a 19, .inl (cI, 14, .inl (x 18)))]
/-- a state with one place changed -/
def st2 (h : Nat → Nat → Int32) (k j : Nat) (v : Int32) : Nat → Nat → Int32 := fun q => if q = k then upd (h k) j v else h q
theorem st2_k {h : Nat → Nat → Int32} {k j : Nat} {v : Int32} : st2 h k j v k = upd (h k) j v := by simp [st2]
theorem st2_n {h : Nat → Nat → Int32} {k j q : Nat} {v : Int32} (hq : q ≠ k) : st2 h k j v q = h q := by simp [st2, hq]
end
section
/-! ===== Int32 by its bits: bt x i ===== -/
def bt (x : Int32) (i : Nat) : Bool := x.toBitVec.getLsbD i
theorem b_ext {x y : Int32} (h : ∀ i, i < 32 → bt x i = bt y i) : x = y := Int32.toBitVec_inj.mp (BitVec.eq_of_getLsbD_eq (fun i hi => h i hi))
theorem b_or (x y : Int32) (i : Nat) : bt (x ||| y) i = (bt x i || bt y i) := by unfold bt; rw [Int32.toBitVec_or, BitVec.getLsbD_or]
theorem b_and (x y : Int32) (i : Nat) : bt (x &&& y) i = (bt x i && bt y i) := by unfold bt; rw [Int32.toBitVec_and, BitVec.getLsbD_and]
theorem b_xor (x y : Int32) (i : Nat) : bt (x ^^^ y) i = (bt x i ^^ bt y i) := by unfold bt; rw [Int32.toBitVec_xor, BitVec.getLsbD_xor]
theorem b_big {x : Int32} {i : Nat} (h : 32 ≤ i) : bt x i = false := BitVec.getLsbD_of_ge _ _ h
theorem b_255 (i : Nat) : bt 255 i = decide (i < 8) := by
  rcases Nat.lt_or_ge i 32 with h | h
  · exact (by decide +kernel : ∀ i, i < 32 → bt 255 i = decide (i < 8)) i h
  · rw [b_big h, decide_eq_false (by omega)]
theorem b_65535 (i : Nat) : bt 65535 i = decide (i < 16) := by
  rcases Nat.lt_or_ge i 32 with h | h
  · exact (by decide +kernel : ∀ i, i < 32 → bt 65535 i = decide (i < 16)) i h
  · rw [b_big h, decide_eq_false (by omega)]
theorem b_m1 : ∀ i, i < 32 → bt (-1) i = true := by decide +kernel
theorem b_0 (i : Nat) : bt 0 i = false := BitVec.getLsbD_zero
theorem s_l : ∀ n, n < 32 → ((nI n &&& 31).toBitVec.smod 32).toNat = n := by decide +kernel
theorem s_u : ∀ n, n < 32 → (((nI n).toUInt32 &&& Int32.toUInt32 31).toBitVec % 32).toNat = n := by decide +kernel
theorem b_shl (n : Nat) (hn : n < 32) (x : Int32) {i : Nat} (hi : i < 32) : bt (x <<< (nI n &&& 31)) i = (decide (n ≤ i) && bt x (i - n)) := by
  unfold bt
  rw [Int32.toBitVec_shiftLeft]
  show (x.toBitVec <<< ((nI n &&& 31).toBitVec.smod 32).toNat).getLsbD i = _
  rw [s_l n hn, BitVec.getLsbD_shiftLeft]
  rcases Nat.lt_or_ge i n with h | h
  · simp [h, Nat.not_le.mpr h]
  · simp [hi, h, Nat.not_lt.mpr h]
theorem b_ushr (n : Nat) (hn : n < 32) (x : Int32) (i : Nat) : bt ((x.toUInt32 >>> ((nI n).toUInt32 &&& Int32.toUInt32 31)).toInt32) i = bt x (n + i) := by
  show (x.toUInt32 >>> ((nI n).toUInt32 &&& Int32.toUInt32 31)).toBitVec.getLsbD i = x.toUInt32.toBitVec.getLsbD (n + i)
  rw [UInt32.toBitVec_shiftRight]
  show (x.toUInt32.toBitVec >>> (((nI n).toUInt32 &&& Int32.toUInt32 31).toBitVec % 32).toNat).getLsbD i = _
  rw [s_u n hn, BitVec.getLsbD_ushiftRight]
theorem b_sshr (n : Nat) (hn : n < 32) (x : Int32) {i : Nat} (hi : i < 32) : bt (x >>> (nI n &&& 31)) i = if n + i < 32 then bt x (n + i) else bt x 31 := by
  unfold bt
  rw [Int32.toBitVec_shiftRight]
  show (x.toBitVec.sshiftRight ((nI n &&& 31).toBitVec.smod 32).toNat).getLsbD i = _
  rw [s_l n hn, BitVec.getLsbD_sshiftRight, BitVec.msb_eq_getLsbD_last]
  simp [hi]
theorem b_shl8 (x : Int32) {i : Nat} (hi : i < 32) : bt (x <<< ((8 : Int32) &&& 31)) i = (decide (8 ≤ i) && bt x (i - 8)) := b_shl 8 (by omega) x hi
theorem b_shl16 (x : Int32) {i : Nat} (hi : i < 32) : bt (x <<< ((16 : Int32) &&& 31)) i = (decide (16 ≤ i) && bt x (i - 16)) := b_shl 16 (by omega) x hi
theorem b_shl24 (x : Int32) {i : Nat} (hi : i < 32) : bt (x <<< ((24 : Int32) &&& 31)) i = (decide (24 ≤ i) && bt x (i - 24)) := b_shl 24 (by omega) x hi
theorem b_sshr8 (x : Int32) {i : Nat} (hi : i < 32) : bt (x >>> ((8 : Int32) &&& 31)) i = if 8 + i < 32 then bt x (8 + i) else bt x 31 := b_sshr 8 (by omega) x hi
/-! ===== one bit, masks, ranges ===== -/
theorem Int32_and_comm (x y : Int32) : x &&& y = y &&& x := b_ext (fun i _ => by rw [b_and, b_and, Bool.and_comm])
/-- the mask of one bit -/
def bm (t : Nat) : Int32 := (1 : Int32) <<< (nI t &&& 31)
theorem b_1 : ∀ i, i < 32 → bt 1 i = decide (i = 0) := by decide +kernel
theorem b_bm {t i : Nat} (ht : t < 32) (hi : i < 32) : bt (bm t) i = decide (i = t) := by
  unfold bm
  rw [b_shl t ht 1 hi]
  rcases Nat.lt_or_ge i t with h | h
  · simp [Nat.not_le.mpr h, Nat.ne_of_lt h]
  · rw [b_1 (i - t) (by omega)]
    by_cases e : i = t
    · subst e; simp
    · have : ¬ i - t = 0 := by omega
      simp [e, this]
theorem b_ne0 {x : Int32} (h : ¬ x = 0) : ∃ i, i < 32 ∧ bt x i = true := by
  apply Classical.byContradiction
  intro n
  apply h
  apply b_ext
  intro i hi
  rw [b_0]
  cases e : bt x i with
  | false => rfl
  | true => exact absurd ⟨i, hi, e⟩ n
theorem has_eq {x : Int32} {t : Nat} (ht : t < 32) : x &&& bm t = 0 ↔ ¬ (bt x t = true) := by
  constructor
  · intro h e
    have := b_and x (bm t) t
    rw [h, b_0, e, b_bm ht ht] at this
    simp at this
  · intro h
    apply Classical.byContradiction
    intro n
    obtain ⟨i, hi, e⟩ := b_ne0 n
    rw [b_and, b_bm ht hi] at e
    simp at e
    exact h (by rw [← e.2]; exact e.1)
theorem shr_eq {x : Int32} {t : Nat} (ht : t < 32) : (x >>> (nI t &&& 31)) &&& 1 = 1 ↔ bt x t = true := by
  have h0 : bt (x >>> (nI t &&& 31)) 0 = bt x t := by rw [b_sshr t ht x (by omega), if_pos (by omega)]; rfl
  constructor
  · intro h
    have := b_and (x >>> (nI t &&& 31)) 1 0
    rw [h, b_1 0 (by omega), h0] at this
    simpa using this.symm
  · intro h
    apply b_ext
    intro i hi
    rw [b_and, b_1 i hi]
    by_cases e : i = 0
    · subst e; rw [h0, h]; rfl
    · simp [e]
theorem b_2 : ∀ i, i < 32 → bt 2 i = decide (i = 1) := by decide +kernel
theorem b_4 : ∀ i, i < 32 → bt 4 i = decide (i = 2) := by decide +kernel
theorem b_6 : ∀ i, i < 32 → bt 6 i = (decide (i = 1) || decide (i = 2)) := by decide +kernel
theorem b_10 : ∀ i, i < 32 → bt 10 i = (decide (i = 1) || decide (i = 3)) := by decide +kernel
theorem and1_eq {x : Int32} : x &&& 1 = 0 ↔ ¬ (bt x 0 = true) := has_eq (t := 0) (by omega)
theorem and2_eq {x : Int32} : x &&& 2 = 0 ↔ ¬ (bt x 1 = true) := has_eq (t := 1) (by omega)
theorem and4_eq {x : Int32} : x &&& 4 = 0 ↔ ¬ (bt x 2 = true) := has_eq (t := 2) (by omega)
theorem and6_eq {x : Int32} : x &&& 6 = 0 ↔ ¬ (bt x 1 = true ∨ bt x 2 = true) := by
  constructor
  · intro h e
    rcases e with e | e
    · have := b_and x 6 1
      rw [h, b_0, e, b_6 1 (by omega)] at this; simp at this
    · have := b_and x 6 2
      rw [h, b_0, e, b_6 2 (by omega)] at this; simp at this
  · intro h
    apply Classical.byContradiction
    intro n
    obtain ⟨i, hi, e⟩ := b_ne0 n
    rw [b_and, b_6 i hi] at e
    simp at e
    rcases e.2 with q | q
    · exact h (Or.inl (by rw [← q]; exact e.1))
    · exact h (Or.inr (by rw [← q]; exact e.1))
theorem and10_eq {x : Int32} : x &&& 10 = 0 ↔ ¬ (bt x 1 = true ∨ bt x 3 = true) := by
  constructor
  · intro h e
    rcases e with e | e
    · have := b_and x 10 1
      rw [h, b_0, e, b_10 1 (by omega)] at this; simp at this
    · have := b_and x 10 3
      rw [h, b_0, e, b_10 3 (by omega)] at this; simp at this
  · intro h
    apply Classical.byContradiction
    intro n
    obtain ⟨i, hi, e⟩ := b_ne0 n
    rw [b_and, b_10 i hi] at e
    simp at e
    rcases e.2 with q | q
    · exact h (Or.inl (by rw [← q]; exact e.1))
    · exact h (Or.inr (by rw [← q]; exact e.1))
/-- a number is in its range -/
def wi (x b : Int32) : Bool := !decide (x < 0) && !decide (b ≤ x)
theorem wi_iff {x b : Int32} : wi x b = true ↔ ¬ x < 0 ∧ ¬ b ≤ x := by
  unfold wi
  rw [Bool.and_eq_true, Bool.not_eq_true', Bool.not_eq_true', decide_eq_false_iff_not, decide_eq_false_iff_not]
theorem wi_of {x : Int32} {b : Nat} (hb : b < 2 ^ 31) (h : wi x (nI b) = true) : ∃ j : Nat, j < b ∧ x = nI j := by
  obtain ⟨h1, h2⟩ := wi_iff.mp h
  obtain ⟨j, hj, e⟩ := nI_of h1
  refine ⟨j, ?_, e⟩
  rcases Nat.lt_or_ge j b with q | q
  · exact q
  · exact absurd (show nI b ≤ x by rw [e]; exact nI_le q hj) h2
theorem wi_nI {j b : Nat} (hj : j < 2 ^ 31) (hb : b < 2 ^ 31) : wi (nI j) (nI b) = decide (j < b) := by
  have h1 : ¬ nI j < 0 := nI_pos hj
  by_cases h : j < b
  · have h2 : ¬ nI b ≤ nI j := nI_ge h hb
    simp [wi, h1, h2, h]
  · have h2 : nI b ≤ nI j := nI_le (by omega) hj
    simp [wi, h1, h2, h]
/-- a verdict that is good -/
def gd (v : Int32) : Bool := wi v 64
/-- a type's number but the root's -/
def ot (t : Int32) : Bool := !decide (t = 0) && wi t 12
theorem ite_b2i {c : Prop} {i : Decidable c} {b : Bool} (h : c ↔ ¬ (b = true)) : (if c then (0 : Int32) else 1) = b2i b := by
  by_cases q : c
  · rw [if_pos q]; have := h.mp q; cases b with | true => exact absurd rfl this | false => rfl
  · rw [if_neg q]; cases b with | true => rfl | false => exact absurd (h.mpr (by decide)) q
theorem ite_b2i' {c : Prop} {i : Decidable c} {b : Bool} (h : c ↔ b = true) : (if c then (1 : Int32) else 0) = b2i b := by
  by_cases q : c
  · rw [if_pos q, h.mp q]; rfl
  · rw [if_neg q]; cases b with | true => exact absurd (h.mpr rfl) q | false => rfl
end
section
/-! ===== methods that write: contracts and rows ===== -/
def PcW (D : va_G) (cI cZ cB cR : ClassId) (w : va_W) (av : List Value) (sz : Nat) : Array Value → State → Prop := va_Pc av (fun U => U.heap.size = sz ∧ va_P D vwCl w U.heap ∧ EV D cI cZ cB cR U ∧ va_D (fun _ => True) w)
theorem PcW_blind {D : va_G} {cI cZ cB cR : ClassId} {w : va_W} {av : List Value} {sz : Nat} : FrameBlind (PcW D cI cZ cB cR w av sz) := fun _ _ _ _ q => ⟨q.1, q.2.1, q.2.2.1, q.2.2.2.1.calling, q.2.2.2.2⟩
/-- a method that writes the cells w alone: behind it they are w' u, and the answer r, with 'post r u' -/
def MUi (l : Launch) (y : MethodName) (ws : List Cond) (rm : Room) (D : va_G) (cI cZ cB cR : ClassId) (w : va_W) (av : List Value) {σ : Type} (w' : σ → va_W) (post : Int32 → σ → Prop) : Prop := ∀ sz : Nat, Met l y ws rm (PcW D cI cZ cB cR w av sz) (va_Qi post (fun u t => va_P D vwCl (w' u) t.heap) (va_A w sz)) 0 0 (va_A w sz)
def MUv (l : Launch) (y : MethodName) (ws : List Cond) (rm : Room) (D : va_G) (cI cZ cB cR : ClassId) (w : va_W) (av : List Value) {σ : Type} (w' : σ → va_W) (post : σ → Prop) : Prop := ∀ sz : Nat, Met l y ws rm (PcW D cI cZ cB cR w av sz) (va_Qv post (fun u t => va_P D vwCl (w' u) t.heap) (va_A w sz)) 0 0 (va_A w sz)
theorem va_D.adr {A : Nat → Prop} {w w' : va_W} (h : va_D A w) (e : w'.map Prod.fst = w.map Prod.fst) : va_D A w' := by
  have hk : ∀ (k : Nat) (q : Nat × va_E), w'[k]? = some q → ∃ q', w[k]? = some q' ∧ q'.1 = q.1 := by
    intro k q hq
    have h1 : (w'.map Prod.fst)[k]? = some q.1 := by rw [List.getElem?_map, hq]; rfl
    rw [e, List.getElem?_map] at h1
    cases hw : w[k]? with
    | none => rw [hw] at h1; simp at h1
    | some q' => rw [hw] at h1; exact ⟨q', rfl, by simpa using h1⟩
  refine ⟨fun i j p q hp hq hpq => ?_, fun k q hq => ?_⟩
  · obtain ⟨p', h1, h2⟩ := hk i p hp
    obtain ⟨q', h3, h4⟩ := hk j q hq
    exact h.1 i j p' q' h1 h3 (by rw [h2, h4, hpq])
  · obtain ⟨q', h1, h2⟩ := hk k q hq
    rw [← h2]
    exact h.2 k q' h1
theorem va_into {A : Nat → Prop} {w : va_W} {H0 H : Heap} {locs : List Loc} (hD : va_D A w) (hS : va_S A H0 H locs) (hA : ∀ q, H0.size ≤ q → A q) : ∀ q, va_A w H.size q → A q := by
  rintro q (⟨k, e, h⟩ | h)
  · exact hD.2 k (q, e) h
  · exact hA q (Nat.le_trans hS.1 h)
/-- the cells of a part have been written, the others stay -/
theorem va_swap {A : Nat → Prop} {D : va_G} {w1 w2 w3 w2' : va_W} {H H1 : Heap} (hP : va_P D vwCl (w1 ++ (w2 ++ w3)) H) (hD : va_D A (w1 ++ (w2 ++ w3))) (hP1 : va_P D vwCl w2' H1) (hk : ∀ q : Nat, q < H.size → ¬ va_A w2 H.size q → H1[q]? = H[q]?) : va_P D vwCl (w1 ++ (w2' ++ w3)) H1 := by
  have keep : ∀ (i : Nat) (q : Nat × va_E), (w1 ++ (w2 ++ w3))[i]? = some q → (∀ j : Nat, j < w2.length → i ≠ w1.length + j) → va_at D vwCl q H1 := by
    intro i q hq hi
    have hl := (hP i q hq).lt
    refine (hP i q hq).kept (hk q.1 hl ?_)
    rintro (⟨j, e, hj⟩ | h)
    · have hjl : j < w2.length := (List.getElem?_eq_some_iff.mp hj).1
      have h2 : (w1 ++ (w2 ++ w3))[w1.length + j]? = some (q.1, e) := by
        rw [List.getElem?_append_right (by omega), Nat.add_sub_cancel_left, List.getElem?_append_left hjl]; exact hj
      exact hi j hjl (hD.1 i (w1.length + j) q (q.1, e) hq h2 rfl)
    · omega
  intro k q hq
  rcases List.mem_append.mp (List.mem_of_getElem? hq) with h | h
  · obtain ⟨i, hi⟩ := List.getElem?_of_mem h
    have hil : i < w1.length := (List.getElem?_eq_some_iff.mp hi).1
    exact keep i q (by rw [List.getElem?_append_left hil]; exact hi) (fun j _ => by omega)
  · rcases List.mem_append.mp h with h | h
    · obtain ⟨i, hi⟩ := List.getElem?_of_mem h
      exact hP1 i q hi
    · obtain ⟨i, hi⟩ := List.getElem?_of_mem h
      refine keep (w1.length + (w2.length + i)) q ?_ (fun j hj => by omega)
      rw [List.getElem?_append_right (by omega), Nat.add_sub_cancel_left, List.getElem?_append_right (by omega), Nat.add_sub_cancel_left]
      exact hi
section MUC
variable {p : Program} {l : Launch} {e : Env} {R : Room} {s : State} {m : MethodId} {args : Array Value} {below : List Frame} {meth : Method} {c : Code} {H : Heap} {locs : List Loc} {cells slots : Nat} {Q : State → Prop}
  {Ts ws : List Cond} {cc bytes : ByteArray} {nL maxL index n : Nat} {own C host : String} {y : MethodName} {ret : Option FieldType} {rm : Room}
  {b : Addr} {pc : Nat} {ls : Array Slot} {st : List Value} {D : va_G} {cI cZ cB cR : ClassId} {w : va_W} {T : u_T} {N ci : Nat} {fs : List Value} {σ : Type} {w' : σ → va_W} {A0 : Nat → Prop} {H0 : Heap}
theorem mu_V (As rest : List Value) {post : Int32 → σ → Prop} (S : CallFix p m c cc nL s args Ts own) (hM : MUi l y ws rm D cI cZ cB cR w (.ref b :: As) w' post) (cw : CallW R s args own C index y bytes maxL ret ws rm 0 0 n) (hEV : EV D cI cZ cB cR s) (hP : va_P D vwCl w H) (hD : va_D A0 w) (hS : va_S A0 H0 H locs) (hA : ∀ q, H0.size ≤ q → A0 q) (q0 : Nat) (he : w[q0]? = some (b, .inr (ci, fs))) (hc : vwCl[ci]? = some (C, T, N))
    (hn : As.length = n) (hls : ls.size = nL) (hst : st = As.reverse ++ .ref b :: rest) (hroom : (rest.map fun v => v.category).sum ≤ 8) (hdg : decode cc pc = .ok (.invokevirtual index, 3)) (hcap : cells ≤ R.cells ∧ slots ≤ R.slots)
    (kk : ∀ (r : Int32) (u : σ) (H1 : Heap) (locs1 : List Loc), post r u → va_P D vwCl (w' u) H1 → (∀ q : Nat, q < H.size → ¬ va_A w H.size q → H1[q]? = H[q]?) → va_S A0 H0 H1 locs1 → W p l e R s m args below meth c H1 locs1 cells slots Q (F0 m (pc + 3) ls (.int r :: rest))) : W p l e R s m args below meth c H locs cells slots Q (F0 m pc ls st) := by
  have hF := va_into hD hS hA
  refine va_calli (va_runV (As := As) (rest := rest) S (hM H.size) cw ⟨PcW_blind, va_recv hEV.1 hP (ci := ci) (q0 := q0) hc he, fun U hU hW => ⟨rfl, by rw [hU], by rw [hU]; exact hP, hEV.warm hW, hD.weaken (fun _ _ _ _ => trivial)⟩⟩ rfl hn hls hst (lv_room hroom) hdg hcap) hS (fun q _ h => hF q h) hF (fun r u t H1 locs1 ht hvm hw hB hz1 hk1 hS1 => ?_)
  rw [ht] at hB
  exact kk r u H1 locs1 hw hB hk1 hS1
theorem mu_Vv (As rest : List Value) {post : σ → Prop} (S : CallFix p m c cc nL s args Ts own) (hM : MUv l y ws rm D cI cZ cB cR w (.ref b :: As) w' post) (cw : CallW R s args own C index y bytes maxL ret ws rm 0 0 n) (hEV : EV D cI cZ cB cR s) (hP : va_P D vwCl w H) (hD : va_D A0 w) (hS : va_S A0 H0 H locs) (hA : ∀ q, H0.size ≤ q → A0 q) (q0 : Nat) (he : w[q0]? = some (b, .inr (ci, fs))) (hc : vwCl[ci]? = some (C, T, N))
    (hn : As.length = n) (hls : ls.size = nL) (hst : st = As.reverse ++ .ref b :: rest) (hroom : (rest.map fun v => v.category).sum ≤ 8) (hdg : decode cc pc = .ok (.invokevirtual index, 3)) (hcap : cells ≤ R.cells ∧ slots ≤ R.slots)
    (kk : ∀ (u : σ) (H1 : Heap) (locs1 : List Loc), post u → va_P D vwCl (w' u) H1 → (∀ q : Nat, q < H.size → ¬ va_A w H.size q → H1[q]? = H[q]?) → va_S A0 H0 H1 locs1 → W p l e R s m args below meth c H1 locs1 cells slots Q (F0 m (pc + 3) ls rest)) : W p l e R s m args below meth c H locs cells slots Q (F0 m pc ls st) := by
  have hF := va_into hD hS hA
  refine va_callv (va_runV (As := As) (rest := rest) S (hM H.size) cw ⟨PcW_blind, va_recv hEV.1 hP (ci := ci) (q0 := q0) hc he, fun U hU hW => ⟨rfl, by rw [hU], by rw [hU]; exact hP, hEV.warm hW, hD.weaken (fun _ _ _ _ => trivial)⟩⟩ rfl hn hls hst (lv_room hroom) hdg hcap) hS (fun q _ h => hF q h) hF (fun u t H1 locs1 ht hvm hw hB hz1 hk1 hS1 => ?_)
  rw [ht] at hB
  exact kk u H1 locs1 hw hB hk1 hS1
end MUC
section AST
variable {p : Program} {l : Launch} {e : Env} {R : Room} {s : State} {m : MethodId} {args : Array Value} {below : List Frame} {meth : Method} {c : Code} {H : Heap} {locs : List Loc} {cells slots : Nat} {Q : State → Prop}
  {cc : ByteArray} {pc : Nat} {ls : Array Slot} {rest : List Value} {D : va_G} {cI cZ cB cR : ClassId} {w w2 : va_W} {a : Nat} {A : Nat → Prop} {H0 : Heap}
theorem mu_ast (hx : p.tables.exec = Jvm.exec) (hb : c.code = cc) (hEV : EV D cI cZ cB cR s) (hP : va_P D vwCl w H) (hD : va_D A w) (hS : va_S A H0 H locs) (q0 : Nat) {n j : Nat} {v : Int32} {f : Nat → Int32} (ha : w[q0]? = some (a, .inl (cI, n, .inl f))) (hj : j < n) (hn : n < 2 ^ 31) (hset : w.set q0 (a, .inl (cI, n, .inl (upd f j v))) = w2) (hdg : decode cc pc = .ok (.iastore, 1))
    (kk : ∀ (H1 : Heap) (locs1 : List Loc), va_P D vwCl w2 H1 → va_D A w2 → va_S A H0 H1 locs1 → W p l e R s m args below meth c H1 locs1 cells slots Q (F0 m (pc + 1) ls rest)) : W p l e R s m args below meth c H locs cells slots Q (F0 m pc ls (.int v :: .int (nI j) :: .ref a :: rest)) := by
  refine va_iast hx hb hEV.1 hP hD hS q0 0 ha rfl (vp_in_nI hj hn) hdg (fun H1 locs1 hP hD hS => ?_)
  rw [nI_clamp (by omega), hset] at hP hD
  exact kk H1 locs1 hP hD hS
theorem mu_zst (hx : p.tables.exec = Jvm.exec) (hb : c.code = cc) (hEV : EV D cI cZ cB cR s) (hP : va_P D vwCl w H) (hD : va_D A w) (hS : va_S A H0 H locs) (q0 : Nat) {n j : Nat} {v : Bool} {f : Nat → Int32} (ha : w[q0]? = some (a, .inl (cZ, n, .inl f))) (hj : j < n) (hn : n < 2 ^ 31) (hset : w.set q0 (a, .inl (cZ, n, .inl (upd f j (b2i v)))) = w2) (hdg : decode cc pc = .ok (.bastore, 1))
    (kk : ∀ (H1 : Heap) (locs1 : List Loc), va_P D vwCl w2 H1 → va_D A w2 → va_S A H0 H1 locs1 → W p l e R s m args below meth c H1 locs1 cells slots Q (F0 m (pc + 1) ls rest)) : W p l e R s m args below meth c H locs cells slots Q (F0 m pc ls (.int (b2i v) :: .int (nI j) :: .ref a :: rest)) := by
  refine va_zast hx hb hEV.1 hP hD hS q0 1 ha rfl (vp_in_nI hj hn) hdg (fun H1 locs1 hP hD hS => ?_)
  have e : vp_nar .boolean (b2i v) = b2i v := by cases v <;> rfl
  rw [nI_clamp (by omega), e, hset] at hP hD
  exact kk H1 locs1 hP hD hS
end AST
end
section
/-! ===== the mathematical tables: τ 0 there, 1 flags, 2 pack, 3 super, 4 faces, 5 host of a type; γ 0 owner, 1 key, 2 access, 3 marks, 4 gone of a member ===== -/
def sN (x : Int32) : Nat := x.toNatClampNeg
theorem sN_nI {n : Nat} (h : n < 2 ^ 31) : sN (nI n) = n := nI_clamp h
def thB (τ : Nat → Nat → Int32) (t : Nat) : Bool := !decide (τ 0 t = 0)
def goB (γ : Nat → Nat → Int32) (m : Nat) : Bool := !decide (γ 4 m = 0)
/-- a place that is a type's number -/
def isT (x : Int32) : Prop := sN x < 12 ∧ x = nI (sN x)
def WFT (τ : Nat → Nat → Int32) : Prop := (∀ t, t < 12 → (τ 3 t = -1 ∨ isT (τ 3 t)) ∧ isT (τ 5 t) ∧ (t ≠ 0 → thB τ t = true → ¬ τ 3 t = -1)) ∧ τ 0 0 = 1 ∧ τ 1 0 = 1 ∧ τ 3 0 = -1 ∧ τ 4 0 = 0 ∧ τ 2 0 = 0
/-- Hierarchy's own rows are the table -/
def OKB (h τ : Nat → Nat → Int32) : Prop := ∀ t, t < 12 → h 0 t = τ 1 t ∧ h 1 t = τ 2 t ∧ h 2 t = τ 3 t ∧ h 3 t = τ 4 t ∧ h 4 t = τ 5 t ∧ bt (h 8 0) t = thB τ t
theorem OKB.fl {h τ : Nat → Nat → Int32} (k : OKB h τ) {t : Nat} (ht : t < 12) : h 0 t = τ 1 t := (k t ht).1
theorem OKB.pk {h τ : Nat → Nat → Int32} (k : OKB h τ) {t : Nat} (ht : t < 12) : h 1 t = τ 2 t := (k t ht).2.1
theorem OKB.su {h τ : Nat → Nat → Int32} (k : OKB h τ) {t : Nat} (ht : t < 12) : h 2 t = τ 3 t := (k t ht).2.2.1
theorem OKB.fa {h τ : Nat → Nat → Int32} (k : OKB h τ) {t : Nat} (ht : t < 12) : h 3 t = τ 4 t := (k t ht).2.2.2.1
theorem OKB.ho {h τ : Nat → Nat → Int32} (k : OKB h τ) {t : Nat} (ht : t < 12) : h 4 t = τ 5 t := (k t ht).2.2.2.2.1
theorem OKB.th {h τ : Nat → Nat → Int32} (k : OKB h τ) {t : Nat} (ht : t < 12) : bt (h 8 0) t = thB τ t := (k t ht).2.2.2.2.2
/-- the first number from i on with p, k tries -/
def fsG (p : Nat → Bool) : Nat → Nat → Nat
  | 0, i => i
  | k + 1, i => if p i = true then i else fsG p k (i + 1)
/-- the first number below n with p, else n -/
def fst (p : Nat → Bool) (n : Nat) : Nat := fsG p n 0
theorem fsG_le (p : Nat → Bool) : ∀ k i, i ≤ fsG p k i ∧ fsG p k i ≤ i + k
  | 0, i => ⟨Nat.le_refl i, Nat.le_refl i⟩
  | k + 1, i => by
    have ih := fsG_le p k (i + 1)
    rw [fsG]
    split
    · omega
    · omega
theorem fsG_no (p : Nat → Bool) : ∀ k i j, i ≤ j → j < fsG p k i → p j = false
  | 0, i, j, h1, h2 => by rw [fsG] at h2; omega
  | k + 1, i, j, h1, h2 => by
    rw [fsG] at h2
    split at h2
    · omega
    · rename_i q
      rcases Nat.lt_or_ge i j with z | z
      · exact fsG_no p k (i + 1) j z h2
      · have e : j = i := by omega
        subst e
        simpa using q
theorem fsG_yes (p : Nat → Bool) : ∀ k i, fsG p k i < i + k → p (fsG p k i) = true
  | 0, i, h => by rw [fsG] at h; omega
  | k + 1, i, h => by
    rw [fsG] at h ⊢
    split
    · rename_i q; exact q
    · rename_i q
      rw [if_neg q] at h
      exact fsG_yes p k (i + 1) (by omega)
theorem fst_le (p : Nat → Bool) (n : Nat) : fst p n ≤ n := by have := (fsG_le p n 0).2; unfold fst; omega
theorem fst_no (p : Nat → Bool) (n k : Nat) (h : k < fst p n) : p k = false := fsG_no p n 0 k (Nat.zero_le k) h
theorem fst_yes (p : Nat → Bool) (n : Nat) (h : fst p n < n) : p (fst p n) = true := fsG_yes p n 0 (by have : fst p n = fsG p n 0 := rfl; omega)
theorem fst_at {p : Nat → Bool} {n i : Nat} (hi : i < n) (h : p i = true) (h0 : ∀ j, j < i → p j = false) : fst p n = i := by
  have h1 : ¬ i < fst p n := fun q => by rw [fst_no p n i q] at h; exact absurd h (by decide)
  have h2 : ¬ fst p n < i := fun q => by have := fst_yes p n (by omega); rw [h0 _ q] at this; exact absurd this (by decide)
  omega
theorem fst_none {p : Nat → Bool} {n : Nat} (h : ∀ j, j < n → p j = false) : fst p n = n := by
  have h1 := fst_le p n
  rcases Nat.lt_or_ge (fst p n) n with q | q
  · have := fst_yes p n q
    rw [h _ q] at this
    exact absurd this (by decide)
  · omega
theorem fst_cong {p q : Nat → Bool} {n : Nat} (h : ∀ j, j < n → p j = q j) : fst p n = fst q n := by
  rcases Nat.lt_or_ge (fst q n) n with z | z
  · exact fst_at z (by rw [h _ z]; exact fst_yes q n z) (fun j hj => by rw [h j (by omega)]; exact fst_no q n j hj)
  · have e : fst q n = n := by have := fst_le q n; omega
    rw [e]
    exact fst_none (fun j hj => by rw [h j hj]; exact fst_no q n j (by omega))
/-- some number below n has p -/
def exB (p : Nat → Bool) (n : Nat) : Bool := decide (fst p n < n)
theorem exB_iff {p : Nat → Bool} {n : Nat} : exB p n = true ↔ ∃ i, i < n ∧ p i = true := by
  unfold exB
  rw [decide_eq_true_iff]
  constructor
  · intro h; exact ⟨_, h, fst_yes p n h⟩
  · rintro ⟨i, hi, e⟩
    apply Classical.byContradiction
    intro q
    have := fst_no p n i (by omega)
    rw [this] at e
    exact absurd e (by decide)
def kyF (x : Bool) (y : Int32) : Int32 := if x = true then 15 + y else y
/-- Members' own rows are the table, n of them -/
def OKM (g γ : Nat → Nat → Int32) (n : Nat) : Prop := g 4 0 = nI n ∧ n ≤ 30 ∧ (∀ m, m < n → g 0 m = γ 0 m ∧ g 1 m = γ 1 m ∧ g 2 m = γ 2 m ∧ g 3 m = γ 3 m ∧ bt (g 4 1) m = goB γ m) ∧ ∀ m, n ≤ m → m < 32 → bt (g 4 1) m = false
theorem OKM.ow {g γ : Nat → Nat → Int32} {n : Nat} (k : OKM g γ n) {m : Nat} (hm : m < n) : g 0 m = γ 0 m := (k.2.2.1 m hm).1
theorem OKM.ky {g γ : Nat → Nat → Int32} {n : Nat} (k : OKM g γ n) {m : Nat} (hm : m < n) : g 1 m = γ 1 m := (k.2.2.1 m hm).2.1
theorem OKM.ac {g γ : Nat → Nat → Int32} {n : Nat} (k : OKM g γ n) {m : Nat} (hm : m < n) : g 2 m = γ 2 m := (k.2.2.1 m hm).2.2.1
theorem OKM.mk {g γ : Nat → Nat → Int32} {n : Nat} (k : OKM g γ n) {m : Nat} (hm : m < n) : g 3 m = γ 3 m := (k.2.2.1 m hm).2.2.2.1
theorem OKM.go {g γ : Nat → Nat → Int32} {n : Nat} (k : OKM g γ n) {m : Nat} (hm : m < n) : bt (g 4 1) m = goB γ m := (k.2.2.1 m hm).2.2.2.2
/-- the member of a type itself -/
def ownP (γ : Nat → Nat → Int32) (t : Nat) (key : Int32) (m : Nat) : Bool := decide (γ 1 m = key) && decide (γ 0 m = nI t) && !(goB γ m)
def fdN (γ : Nat → Nat → Int32) (n t : Nat) (key : Int32) : Nat := fst (ownP γ t key) n
def fdI (γ : Nat → Nat → Int32) (n t : Nat) (key : Int32) : Int32 := if fdN γ n t key < n then nI (fdN γ n t key) else -2
/-- neither private nor static -/
def inhB (γ : Nat → Nat → Int32) (m : Nat) : Bool := !decide (γ 2 m = 0) && !(bt (γ 3 m) 0)
/-- Hierarchy's own rows as a table -/
def vwH (h : Nat → Nat → Int32) : Nat → Nat → Int32 := fun k => if k = 0 then fun t => b2i (bt (h 8 0) t) else if k ≤ 5 then h (k - 1) else fun _ => 0
theorem OKB_self (h : Nat → Nat → Int32) : OKB h (vwH h) := fun t _ => ⟨rfl, rfl, rfl, rfl, rfl, by show _ = !decide (b2i (bt (h 8 0) t) = 0); cases bt (h 8 0) t <;> rfl⟩
theorem OKB_of {h τ : Nat → Nat → Int32} (e : vwH h = τ) : OKB h τ := e ▸ OKB_self h
theorem vwH_cong {h g : Nat → Nat → Int32} (h1 : ∀ k, k < 5 → h k = g k) (h2 : h 8 0 = g 8 0) : vwH h = vwH g := by
  funext k
  unfold vwH
  by_cases c : k = 0
  · rw [if_pos c, if_pos c, h2]
  · rw [if_neg c, if_neg c]
    by_cases d : k ≤ 5
    · rw [if_pos d, if_pos d, h1 (k - 1) (by omega)]
    · rw [if_neg d, if_neg d]
theorem vwH_s5 {h : Nat → Nat → Int32} {j : Nat} {v : Int32} : vwH (st2 h 5 j v) = vwH h := vwH_cong (fun k hk => st2_n (by omega)) (by rw [st2_n (by omega)])
theorem vwH_s6 {h : Nat → Nat → Int32} {j : Nat} {v : Int32} : vwH (st2 h 6 j v) = vwH h := vwH_cong (fun k hk => st2_n (by omega)) (by rw [st2_n (by omega)])
theorem vwH_s7 {h : Nat → Nat → Int32} {j : Nat} {v : Int32} : vwH (st2 h 7 j v) = vwH h := vwH_cong (fun k hk => st2_n (by omega)) (by rw [st2_n (by omega)])
theorem vwH_s8 {h : Nat → Nat → Int32} {v : Int32} : vwH (st2 h 8 1 v) = vwH h := vwH_cong (fun k hk => st2_n (by omega)) (by rw [st2_k]; rfl)
theorem vp_of_isT {x y : Int32} (e : x = y) (h : isT y) : vp_in x 12 := by rw [e, h.2]; exact vp_in_nI h.1 (by omega)
theorem isT_nI {x : Nat} (h : x < 12) : isT (nI x) := by unfold isT; rw [sN_nI (by omega)]; exact ⟨h, rfl⟩
def p_X4_bit (x : Nat) : Int32 := (1 : Int32) <<< ((nI x) &&& 31)
theorem pe_X4_bit (x : Nat) (hnx : x < 32) : p_X4_bit x = bm x := rfl
set_option maxHeartbeats 4000000 in
set_option maxRecDepth 100000 in
theorem c_X4_bit (l : Launch) (D : va_G) (cI cZ cB cR : ClassId) (x : Nat) (hnx : x < 32) : RO l yX4_bit wsX4_bit ({ frames := 0, cells := 0, slots := 0, locals := 0 } : Room) D cI cZ cB cR ([]) [.int (nI x)] (bm x) := by
  have hE : p_X4_bit x = bm x := pe_X4_bit x hnx
  refine Met.ofW (cc := cX4_bit) (maxL := 1) (ret := (some .int)) (by decide) rfl ?_
  intro p e s m args below meth c s₁ B hml hv
  obtain ⟨hargs, hP, hEV⟩ := hv
  have hx := B.exec
  have hb := B.bytes
  have hr := B.returns
  have hts := atoms_spec (ws := wsX4_bit) B.pre
  have hown : s.vm.findClass RX4 = some m.cls := findClass_of_methodNamed B.named
  have hlocks := B.notSynchronized
  have hK := hEV.1
  have hl := lv_entry ([.int (nI x)]) (n := 1) (Nat.le_of_ble_eq_true rfl)
  rw [show entryFrame m args 1 = entryFrame m ([.int (nI x)] : List Value).toArray 1 from by rw [hargs], lg_entry_eq]
  generalize (lg_sl ([.int (nI x)]) ++ List.replicate (1 - (lg_sl ([.int (nI x)])).length) Slot.unset).toArray = ls at hl ⊢
  have hl : lv_has ls 1 [(0, .int (nI x))] := hl
  rw [p_X4_bit] at hE
  refine lv_iconst (v := (1 : Int32)) hx hb dX4_bit_0 (by decide) ?_
  refine lv_iload_n hx hb dX4_bit_1 rfl (lv_at hl 0 rfl) ?_
  refine lv_ishl hx hb dX4_bit_2 ?_
  exact W.iret hx hb hr (fun t9 ht9 _ => ⟨_, rfl, hE, ht9⟩) (fun _ h9 => by cases h9) dX4_bit_3
def p_X4_contains (x : Int32) (y : Nat) : Int32 := if (x &&& ((1 : Int32) <<< ((nI y) &&& 31))) = (0 : Int32) then ((0 : Int32)) else ((1 : Int32))
theorem pe_X4_contains (x : Int32) (y : Nat) (hny : y < 32) : p_X4_contains x y = b2i (bt x y) := ite_b2i (has_eq hny)
set_option maxHeartbeats 4000000 in
set_option maxRecDepth 100000 in
theorem c_X4_contains (l : Launch) (D : va_G) (cI cZ cB cR : ClassId) (x : Int32) (y : Nat) (hny : y < 32) : RO l yX4_contains wsX4_contains ({ frames := 0, cells := 0, slots := 0, locals := 0 } : Room) D cI cZ cB cR ([]) [.int x, .int (nI y)] (b2i (bt x y)) := by
  have hE : p_X4_contains x y = b2i (bt x y) := pe_X4_contains x y hny
  refine Met.ofW (cc := cX4_contains) (maxL := 2) (ret := (some .boolean)) (by decide) rfl ?_
  intro p e s m args below meth c s₁ B hml hv
  obtain ⟨hargs, hP, hEV⟩ := hv
  have hx := B.exec
  have hb := B.bytes
  have hr := B.returns
  have hts := atoms_spec (ws := wsX4_contains) B.pre
  have hown : s.vm.findClass RX4 = some m.cls := findClass_of_methodNamed B.named
  have hlocks := B.notSynchronized
  have hK := hEV.1
  have hl := lv_entry ([.int x, .int (nI y)]) (n := 2) (Nat.le_of_ble_eq_true rfl)
  rw [show entryFrame m args 2 = entryFrame m ([.int x, .int (nI y)] : List Value).toArray 2 from by rw [hargs], lg_entry_eq]
  generalize (lg_sl ([.int x, .int (nI y)]) ++ List.replicate (2 - (lg_sl ([.int x, .int (nI y)])).length) Slot.unset).toArray = ls at hl ⊢
  have hl : lv_has ls 2 [(0, .int x), (1, .int (nI y))] := hl
  rw [p_X4_contains] at hE
  refine lv_iload_n hx hb dX4_contains_0 rfl (lv_at hl 0 rfl) ?_
  refine lv_iconst (v := (1 : Int32)) hx hb dX4_contains_1 (by decide) ?_
  refine lv_iload_n hx hb dX4_contains_2 rfl (lv_at hl 1 rfl) ?_
  refine lv_ishl hx hb dX4_contains_3 ?_
  refine lv_iand hx hb dX4_contains_4 ?_
  refine lv_if_eq (tgt := 12) hx hb dX4_contains_5 (by decide) (fun c_5 => ?_) (fun c_5 => ?_)
  · skip
    have hE := (if_pos c_5).symm.trans hE
    refine lv_iconst (v := (0 : Int32)) hx hb dX4_contains_12 (by decide) ?_
    exact W.zret hx hb hr rfl (fun t9 ht9 _ => ⟨_, rfl, hE, ht9⟩) (fun _ h9 => by cases h9) dX4_contains_13
  · skip
    have hE := (if_neg c_5).symm.trans hE
    refine lv_iconst (v := (1 : Int32)) hx hb dX4_contains_8 (by decide) ?_
    refine lv_goto (tgt := 13) hx hb dX4_contains_9 (by decide) ?_
    exact W.zret hx hb hr rfl (fun t9 ht9 _ => ⟨_, rfl, hE, ht9⟩) (fun _ h9 => by cases h9) dX4_contains_13
def p_X4_isWithin (x : Int32) (y : Int32) : Int32 := if x < (0 : Int32) then ((0 : Int32)) else (if y ≤ x then ((0 : Int32)) else ((1 : Int32)))
theorem pe_X4_isWithin (x : Int32) (y : Int32)  : p_X4_isWithin x y = b2i (wi x y) := by
  unfold p_X4_isWithin wi
  by_cases h1 : x < 0 <;> by_cases h2 : y ≤ x <;> simp [h1, h2, b2i]
set_option maxHeartbeats 4000000 in
set_option maxRecDepth 100000 in
theorem c_X4_isWithin (l : Launch) (D : va_G) (cI cZ cB cR : ClassId) (x : Int32) (y : Int32) : RO l yX4_isWithin wsX4_isWithin ({ frames := 0, cells := 0, slots := 0, locals := 0 } : Room) D cI cZ cB cR ([]) [.int x, .int y] (b2i (wi x y)) := by
  have hE : p_X4_isWithin x y = b2i (wi x y) := pe_X4_isWithin x y
  refine Met.ofW (cc := cX4_isWithin) (maxL := 2) (ret := (some .boolean)) (by decide) rfl ?_
  intro p e s m args below meth c s₁ B hml hv
  obtain ⟨hargs, hP, hEV⟩ := hv
  have hx := B.exec
  have hb := B.bytes
  have hr := B.returns
  have hts := atoms_spec (ws := wsX4_isWithin) B.pre
  have hown : s.vm.findClass RX4 = some m.cls := findClass_of_methodNamed B.named
  have hlocks := B.notSynchronized
  have hK := hEV.1
  have hl := lv_entry ([.int x, .int y]) (n := 2) (Nat.le_of_ble_eq_true rfl)
  rw [show entryFrame m args 2 = entryFrame m ([.int x, .int y] : List Value).toArray 2 from by rw [hargs], lg_entry_eq]
  generalize (lg_sl ([.int x, .int y]) ++ List.replicate (2 - (lg_sl ([.int x, .int y])).length) Slot.unset).toArray = ls at hl ⊢
  have hl : lv_has ls 2 [(0, .int x), (1, .int y)] := hl
  rw [p_X4_isWithin] at hE
  refine lv_iload_n hx hb dX4_isWithin_0 rfl (lv_at hl 0 rfl) ?_
  refine lv_if_lt (tgt := 13) hx hb dX4_isWithin_1 (by decide) (fun c_1 => ?_) (fun c_1 => ?_)
  · skip
    have hE := (if_pos c_1).symm.trans hE
    refine lv_iconst (v := (0 : Int32)) hx hb dX4_isWithin_13 (by decide) ?_
    exact W.zret hx hb hr rfl (fun t9 ht9 _ => ⟨_, rfl, hE, ht9⟩) (fun _ h9 => by cases h9) dX4_isWithin_14
  · skip
    have hE := (if_neg c_1).symm.trans hE
    refine lv_iload_n hx hb dX4_isWithin_4 rfl (lv_at hl 0 rfl) ?_
    refine lv_iload_n hx hb dX4_isWithin_5 rfl (lv_at hl 1 rfl) ?_
    refine lv_icmp_ge (tgt := 13) hx hb dX4_isWithin_6 (by decide) (fun c_6 => ?_) (fun c_6 => ?_)
    · skip
      have hE := (if_pos c_6).symm.trans hE
      refine lv_iconst (v := (0 : Int32)) hx hb dX4_isWithin_13 (by decide) ?_
      exact W.zret hx hb hr rfl (fun t9 ht9 _ => ⟨_, rfl, hE, ht9⟩) (fun _ h9 => by cases h9) dX4_isWithin_14
    · skip
      have hE := (if_neg c_6).symm.trans hE
      refine lv_iconst (v := (1 : Int32)) hx hb dX4_isWithin_9 (by decide) ?_
      refine lv_goto (tgt := 14) hx hb dX4_isWithin_10 (by decide) ?_
      exact W.zret hx hb hr rfl (fun t9 ht9 _ => ⟨_, rfl, hE, ht9⟩) (fun _ h9 => by cases h9) dX4_isWithin_14
def p_X4_isGood (x : Int32) : Int32 := b2i (wi x (64 : Int32))
theorem pe_X4_isGood (x : Int32)  : p_X4_isGood x = b2i (gd x) := rfl
set_option maxHeartbeats 4000000 in
set_option maxRecDepth 100000 in
theorem c_X4_isGood (l : Launch) (D : va_G) (cI cZ cB cR : ClassId) (x : Int32) : RO l yX4_isGood wsX4_isGood ({ frames := 1, cells := 0, slots := 0, locals := 21 } : Room) D cI cZ cB cR ([]) [.int x] (b2i (gd x)) := by
  have hE : p_X4_isGood x = b2i (gd x) := pe_X4_isGood x
  refine Met.ofW (cc := cX4_isGood) (maxL := 1) (ret := (some .boolean)) (by decide) rfl ?_
  intro p e s m args below meth c s₁ B hml hv
  obtain ⟨hargs, hP, hEV⟩ := hv
  have hx := B.exec
  have hb := B.bytes
  have hr := B.returns
  have hts := atoms_spec (ws := wsX4_isGood) B.pre
  have hown : s.vm.findClass RX4 = some m.cls := findClass_of_methodNamed B.named
  have hlocks := B.notSynchronized
  have hK := hEV.1
  have hl := lv_entry ([.int x]) (n := 1) (Nat.le_of_ble_eq_true rfl)
  rw [show entryFrame m args 1 = entryFrame m ([.int x] : List Value).toArray 1 from by rw [hargs], lg_entry_eq]
  generalize (lg_sl ([.int x]) ++ List.replicate (1 - (lg_sl ([.int x])).length) Slot.unset).toArray = ls at hl ⊢
  have hl : lv_has ls 1 [(0, .int x)] := hl
  rw [p_X4_isGood] at hE
  refine lv_iload_n hx hb dX4_isGood_0 rfl (lv_at hl 0 rfl) ?_
  refine lv_bipush (v := (64 : Int32)) hx hb dX4_isGood_1 (by decide) ?_
  refine ro_S [.int x, .int (64 : Int32)] [] ⟨hx, hb, hml, hown, hts⟩ (c_X4_isWithin l D cI cZ cB cR x (64 : Int32)) (va_cwS 2 hts (goodP (ps := [.methodLink RX4 34 yX4_isWithin, .static yX4_isWithin, .initialized RX4]) (all3 mw_1_56 mw_1_57 mw_1_1) mw_1_58) rfl rfl rfl (by decide +kernel) ⟨Nat.le_of_ble_eq_true rfl, Nat.le_of_ble_eq_true rfl⟩) hEV va_P0 rfl hl.1 rfl (Nat.le_of_ble_eq_true rfl) dX4_isGood_3 ⟨Nat.zero_le _, Nat.zero_le _⟩ ?_
  exact W.zret hx hb hr (b2i_nar _) (fun t9 ht9 _ => ⟨_, rfl, hE, ht9⟩) (fun _ h9 => by cases h9) dX4_isGood_6
def p_X4_isOrdinaryType (x : Int32) : Int32 := if x = (0 : Int32) then ((0 : Int32)) else (if (wi x (12 : Int32)) = true then ((1 : Int32)) else ((0 : Int32)))
theorem pe_X4_isOrdinaryType (x : Int32)  : p_X4_isOrdinaryType x = b2i (ot x) := by
  unfold p_X4_isOrdinaryType ot
  by_cases h1 : x = 0 <;> by_cases h2 : wi x 12 = true <;> simp [h1, h2, b2i]
set_option maxHeartbeats 4000000 in
set_option maxRecDepth 100000 in
theorem c_X4_isOrdinaryType (l : Launch) (D : va_G) (cI cZ cB cR : ClassId) (x : Int32) : RO l yX4_isOrdinaryType wsX4_isOrdinaryType ({ frames := 1, cells := 0, slots := 0, locals := 21 } : Room) D cI cZ cB cR ([]) [.int x] (b2i (ot x)) := by
  have hE : p_X4_isOrdinaryType x = b2i (ot x) := pe_X4_isOrdinaryType x
  refine Met.ofW (cc := cX4_isOrdinaryType) (maxL := 1) (ret := (some .boolean)) (by decide) rfl ?_
  intro p e s m args below meth c s₁ B hml hv
  obtain ⟨hargs, hP, hEV⟩ := hv
  have hx := B.exec
  have hb := B.bytes
  have hr := B.returns
  have hts := atoms_spec (ws := wsX4_isOrdinaryType) B.pre
  have hown : s.vm.findClass RX4 = some m.cls := findClass_of_methodNamed B.named
  have hlocks := B.notSynchronized
  have hK := hEV.1
  have hl := lv_entry ([.int x]) (n := 1) (Nat.le_of_ble_eq_true rfl)
  rw [show entryFrame m args 1 = entryFrame m ([.int x] : List Value).toArray 1 from by rw [hargs], lg_entry_eq]
  generalize (lg_sl ([.int x]) ++ List.replicate (1 - (lg_sl ([.int x])).length) Slot.unset).toArray = ls at hl ⊢
  have hl : lv_has ls 1 [(0, .int x)] := hl
  rw [p_X4_isOrdinaryType] at hE
  refine lv_iload_n hx hb dX4_isOrdinaryType_0 rfl (lv_at hl 0 rfl) ?_
  refine lv_if_eq (tgt := 17) hx hb dX4_isOrdinaryType_1 (by decide) (fun c_1 => ?_) (fun c_1 => ?_)
  · skip
    have hE := (if_pos c_1).symm.trans hE
    refine lv_iconst (v := (0 : Int32)) hx hb dX4_isOrdinaryType_17 (by decide) ?_
    exact W.zret hx hb hr rfl (fun t9 ht9 _ => ⟨_, rfl, hE, ht9⟩) (fun _ h9 => by cases h9) dX4_isOrdinaryType_18
  · skip
    have hE := (if_neg c_1).symm.trans hE
    refine lv_iload_n hx hb dX4_isOrdinaryType_4 rfl (lv_at hl 0 rfl) ?_
    refine lv_bipush (v := (12 : Int32)) hx hb dX4_isOrdinaryType_5 (by decide) ?_
    refine ro_S [.int x, .int (12 : Int32)] [] ⟨hx, hb, hml, hown, hts⟩ (c_X4_isWithin l D cI cZ cB cR x (12 : Int32)) (va_cwS 2 hts (goodP (ps := [.methodLink RX4 34 yX4_isWithin, .static yX4_isWithin, .initialized RX4]) (all3 mw_1_56 mw_1_57 mw_1_1) mw_1_58) rfl rfl rfl (by decide +kernel) ⟨Nat.le_of_ble_eq_true rfl, Nat.le_of_ble_eq_true rfl⟩) hEV va_P0 rfl hl.1 rfl (Nat.le_of_ble_eq_true rfl) dX4_isOrdinaryType_7 ⟨Nat.zero_le _, Nat.zero_le _⟩ ?_
    refine lv_if_eq (tgt := 17) hx hb dX4_isOrdinaryType_10 (by decide) (fun c_10 => ?_) (fun c_10 => ?_)
    · have c_10 : ¬ ((wi x (12 : Int32)) = true) := b2i_f c_10
      have hE := (if_neg c_10).symm.trans hE
      refine lv_iconst (v := (0 : Int32)) hx hb dX4_isOrdinaryType_17 (by decide) ?_
      exact W.zret hx hb hr rfl (fun t9 ht9 _ => ⟨_, rfl, hE, ht9⟩) (fun _ h9 => by cases h9) dX4_isOrdinaryType_18
    · have c_10 : (wi x (12 : Int32)) = true := b2i_t c_10
      have hE := (if_pos c_10).symm.trans hE
      refine lv_iconst (v := (1 : Int32)) hx hb dX4_isOrdinaryType_13 (by decide) ?_
      refine lv_goto (tgt := 18) hx hb dX4_isOrdinaryType_14 (by decide) ?_
      exact W.zret hx hb hr rfl (fun t9 ht9 _ => ⟨_, rfl, hE, ht9⟩) (fun _ h9 => by cases h9) dX4_isOrdinaryType_18
def p_X2_keyOf (x : Bool) (y : Int32) : Int32 := if x = true then ((15 : Int32) + y) else (y)
theorem pe_X2_keyOf (x : Bool) (y : Int32)  : p_X2_keyOf x y = kyF x y := rfl
set_option maxHeartbeats 4000000 in
set_option maxRecDepth 100000 in
theorem c_X2_keyOf (l : Launch) (D : va_G) (cI cZ cB cR : ClassId) (x : Bool) (y : Int32) : RO l yX2_keyOf wsX2_keyOf ({ frames := 0, cells := 0, slots := 0, locals := 0 } : Room) D cI cZ cB cR ([]) [.int (b2i x), .int y] (kyF x y) := by
  have hE : p_X2_keyOf x y = kyF x y := pe_X2_keyOf x y
  refine Met.ofW (cc := cX2_keyOf) (maxL := 2) (ret := (some .int)) (by decide) rfl ?_
  intro p e s m args below meth c s₁ B hml hv
  obtain ⟨hargs, hP, hEV⟩ := hv
  have hx := B.exec
  have hb := B.bytes
  have hr := B.returns
  have hts := atoms_spec (ws := wsX2_keyOf) B.pre
  have hown : s.vm.findClass RX2 = some m.cls := findClass_of_methodNamed B.named
  have hlocks := B.notSynchronized
  have hK := hEV.1
  have hl := lv_entry ([.int (b2i x), .int y]) (n := 2) (Nat.le_of_ble_eq_true rfl)
  rw [show entryFrame m args 2 = entryFrame m ([.int (b2i x), .int y] : List Value).toArray 2 from by rw [hargs], lg_entry_eq]
  generalize (lg_sl ([.int (b2i x), .int y]) ++ List.replicate (2 - (lg_sl ([.int (b2i x), .int y])).length) Slot.unset).toArray = ls at hl ⊢
  have hl : lv_has ls 2 [(0, .int (b2i x)), (1, .int y)] := hl
  rw [p_X2_keyOf] at hE
  refine lv_iload_n hx hb dX2_keyOf_0 rfl (lv_at hl 0 rfl) ?_
  refine lv_if_eq (tgt := 11) hx hb dX2_keyOf_1 (by decide) (fun c_1 => ?_) (fun c_1 => ?_)
  · have c_1 : ¬ (x = true) := b2i_f c_1
    have hE := (if_neg c_1).symm.trans hE
    refine lv_iload_n hx hb dX2_keyOf_11 rfl (lv_at hl 1 rfl) ?_
    exact W.iret hx hb hr (fun t9 ht9 _ => ⟨_, rfl, hE, ht9⟩) (fun _ h9 => by cases h9) dX2_keyOf_12
  · have c_1 : x = true := b2i_t c_1
    have hE := (if_pos c_1).symm.trans hE
    refine lv_bipush (v := (15 : Int32)) hx hb dX2_keyOf_4 (by decide) ?_
    refine lv_iload_n hx hb dX2_keyOf_6 rfl (lv_at hl 1 rfl) ?_
    refine lv_iadd hx hb dX2_keyOf_7 ?_
    refine lv_goto (tgt := 12) hx hb dX2_keyOf_8 (by decide) ?_
    exact W.iret hx hb hr (fun t9 ht9 _ => ⟨_, rfl, hE, ht9⟩) (fun _ h9 => by cases h9) dX2_keyOf_12
def p_X1_isThere (h : Nat → Nat → Int32) (τ : Nat → Nat → Int32) (x : Nat) : Int32 := b2i (bt (h 8 0) x)
theorem pe_X1_isThere (h : Nat → Nat → Int32) (τ : Nat → Nat → Int32) (x : Nat) (ok : OKB h τ) (hnx : x < 12) : p_X1_isThere h τ x = b2i (thB τ x) := congrArg b2i (ok.th hnx)
set_option maxHeartbeats 4000000 in
set_option maxRecDepth 100000 in
theorem c_X1_isThere (l : Launch) (D : va_G) (cI cZ cB cR : ClassId) (a : Nat → Nat) (h : Nat → Nat → Int32) (τ : Nat → Nat → Int32) (x : Nat) (ok : OKB h τ) (hnx : x < 12) : RO l yX1_isThere wsX1_isThere ({ frames := 1, cells := 0, slots := 0, locals := 21 } : Room) D cI cZ cB cR (wH cI a h) [.ref (a 0), .int (nI x)] (b2i (thB τ x)) := by
  have hE : p_X1_isThere h τ x = b2i (thB τ x) := pe_X1_isThere h τ x ok hnx
  refine Met.ofW (cc := cX1_isThere) (maxL := 2) (ret := (some .boolean)) (by decide) rfl ?_
  intro p e s m args below meth c s₁ B hml hv
  obtain ⟨hargs, hP, hEV⟩ := hv
  have hx := B.exec
  have hb := B.bytes
  have hr := B.returns
  have hts := atoms_spec (ws := wsX1_isThere) B.pre
  have hown : s.vm.findClass RX1 = some m.cls := findClass_of_methodNamed B.named
  have hlocks := B.notSynchronized
  have hK := hEV.1
  have hl := lv_entry ([.ref (a 0), .int (nI x)]) (n := 2) (Nat.le_of_ble_eq_true rfl)
  rw [show entryFrame m args 2 = entryFrame m ([.ref (a 0), .int (nI x)] : List Value).toArray 2 from by rw [hargs], lg_entry_eq]
  generalize (lg_sl ([.ref (a 0), .int (nI x)]) ++ List.replicate (2 - (lg_sl ([.ref (a 0), .int (nI x)])).length) Slot.unset).toArray = ls at hl ⊢
  have hl : lv_has ls 2 [(0, .ref (a 0)), (1, .int (nI x))] := hl
  rw [p_X1_isThere] at hE
  refine lv_aload_n hx hb dX1_isThere_0 rfl (lv_at hl 0 rfl) ?_
  refine va_get (D := D) (ci := 1) (v := .int (h 8 0)) (C := RX1) (T := TX1) (N := 10) hx hb hts (fun w9 h9 => List.mem_cons_of_mem _ (inT_X1 w9 h9)) hown hK hP 0 rfl rfl 0 (by decide) (hts (.fieldLink RX1 40 "LinkPredictor$Hierarchy" "there" "I") (List.mem_cons_of_mem _ mw_1_71)) (fun _ h9 => h9) rfl dX1_isThere_1 ?_
  refine lv_iload_n hx hb dX1_isThere_4 rfl (lv_at hl 1 rfl) ?_
  refine ro_SN [.int (h 8 0), .int (nI x)] [] ⟨hx, hb, hml, hown, hts⟩ (c_X4_contains l D cI cZ cB cR (h 8 0) x (by omega)) (va_cnB (host := "LinkPredictor") 2 hts (goodC mw_1_48) rfl rfl rfl (hEV.2 (.methodLinkNest RX1 57 yX4_contains "LinkPredictor") (by decide +kernel)) (hts (.initialized RX4) (List.mem_cons_of_mem _ mw_1_1)) (by decide +kernel) ⟨Nat.le_of_ble_eq_true rfl, Nat.le_of_ble_eq_true rfl⟩) (hts (.static yX4_contains) (List.mem_cons_of_mem _ mw_1_47)) hEV va_P0 rfl hl.1 rfl (Nat.le_of_ble_eq_true rfl) dX1_isThere_5 ⟨Nat.zero_le _, Nat.zero_le _⟩ ?_
  exact W.zret hx hb hr (b2i_nar _) (fun t9 ht9 _ => ⟨_, rfl, hE, ht9⟩) (fun _ h9 => by cases h9) dX1_isThere_8
def p_X1_isInterface (h : Nat → Nat → Int32) (τ : Nat → Nat → Int32) (x : Nat) : Int32 := if ((h 0 x) &&& (2 : Int32)) = (0 : Int32) then ((0 : Int32)) else ((1 : Int32))
theorem pe_X1_isInterface (h : Nat → Nat → Int32) (τ : Nat → Nat → Int32) (x : Nat) (ok : OKB h τ) (hnx : x < 12) : p_X1_isInterface h τ x = b2i (bt (τ 1 x) 1) := by rw [p_X1_isInterface, ok.fl hnx]; exact ite_b2i and2_eq
set_option maxHeartbeats 4000000 in
set_option maxRecDepth 100000 in
theorem c_X1_isInterface (l : Launch) (D : va_G) (cI cZ cB cR : ClassId) (a : Nat → Nat) (h : Nat → Nat → Int32) (τ : Nat → Nat → Int32) (x : Nat) (ok : OKB h τ) (hnx : x < 12) : RO l yX1_isInterface wsX1_isInterface ({ frames := 0, cells := 0, slots := 0, locals := 0 } : Room) D cI cZ cB cR (wH cI a h) [.ref (a 0), .int (nI x)] (b2i (bt (τ 1 x) 1)) := by
  have hE : p_X1_isInterface h τ x = b2i (bt (τ 1 x) 1) := pe_X1_isInterface h τ x ok hnx
  refine Met.ofW (cc := cX1_isInterface) (maxL := 2) (ret := (some .boolean)) (by decide) rfl ?_
  intro p e s m args below meth c s₁ B hml hv
  obtain ⟨hargs, hP, hEV⟩ := hv
  have hx := B.exec
  have hb := B.bytes
  have hr := B.returns
  have hts := atoms_spec (ws := wsX1_isInterface) B.pre
  have hown : s.vm.findClass RX1 = some m.cls := findClass_of_methodNamed B.named
  have hlocks := B.notSynchronized
  have hK := hEV.1
  have hl := lv_entry ([.ref (a 0), .int (nI x)]) (n := 2) (Nat.le_of_ble_eq_true rfl)
  rw [show entryFrame m args 2 = entryFrame m ([.ref (a 0), .int (nI x)] : List Value).toArray 2 from by rw [hargs], lg_entry_eq]
  generalize (lg_sl ([.ref (a 0), .int (nI x)]) ++ List.replicate (2 - (lg_sl ([.ref (a 0), .int (nI x)])).length) Slot.unset).toArray = ls at hl ⊢
  have hl : lv_has ls 2 [(0, .ref (a 0)), (1, .int (nI x))] := hl
  rw [p_X1_isInterface] at hE
  refine lv_aload_n hx hb dX1_isInterface_0 rfl (lv_at hl 0 rfl) ?_
  refine va_get (D := D) (ci := 1) (v := .ref (a 1)) (C := RX1) (T := TX1) (N := 10) hx hb hts (fun w9 h9 => List.mem_cons_of_mem _ (inT_X1 w9 h9)) hown hK hP 0 rfl rfl 1 (by decide) (hts (.fieldLink RX1 9 "LinkPredictor$Hierarchy" "flags" "[I") (List.mem_cons_of_mem _ mw_1_72)) (fun _ h9 => h9) rfl dX1_isInterface_1 ?_
  refine lv_iload_n hx hb dX1_isInterface_4 rfl (lv_at hl 1 rfl) ?_
  refine ro_ald hx hb hEV hP 1 (j := x) rfl (by omega) (by decide) dX1_isInterface_5 ?_
  refine lv_iconst (v := (2 : Int32)) hx hb dX1_isInterface_6 (by decide) ?_
  refine lv_iand hx hb dX1_isInterface_7 ?_
  refine lv_if_eq (tgt := 15) hx hb dX1_isInterface_8 (by decide) (fun c_8 => ?_) (fun c_8 => ?_)
  · skip
    have hE := (if_pos c_8).symm.trans hE
    refine lv_iconst (v := (0 : Int32)) hx hb dX1_isInterface_15 (by decide) ?_
    exact W.zret hx hb hr rfl (fun t9 ht9 _ => ⟨_, rfl, hE, ht9⟩) (fun _ h9 => by cases h9) dX1_isInterface_16
  · skip
    have hE := (if_neg c_8).symm.trans hE
    refine lv_iconst (v := (1 : Int32)) hx hb dX1_isInterface_11 (by decide) ?_
    refine lv_goto (tgt := 16) hx hb dX1_isInterface_12 (by decide) ?_
    exact W.zret hx hb hr rfl (fun t9 ht9 _ => ⟨_, rfl, hE, ht9⟩) (fun _ h9 => by cases h9) dX1_isInterface_16
def p_X1_canBeMade (h : Nat → Nat → Int32) (τ : Nat → Nat → Int32) (x : Nat) : Int32 := if ((h 0 x) &&& (6 : Int32)) = (0 : Int32) then ((1 : Int32)) else ((0 : Int32))
theorem pe_X1_canBeMade (h : Nat → Nat → Int32) (τ : Nat → Nat → Int32) (x : Nat) (ok : OKB h τ) (hnx : x < 12) : p_X1_canBeMade h τ x = b2i (!(bt (τ 1 x) 1 || bt (τ 1 x) 2)) := by
  rw [p_X1_canBeMade, ok.fl hnx]
  by_cases q : τ 1 x &&& 6 = 0
  · have := and6_eq.mp q
    simp only [not_or, Bool.not_eq_true] at this
    simp [q, this.1, this.2, b2i]
  · have e : bt (τ 1 x) 1 = true ∨ bt (τ 1 x) 2 = true := Classical.byContradiction (fun z => q (and6_eq.mpr z))
    rcases e with e | e <;> simp [q, e, b2i]
set_option maxHeartbeats 4000000 in
set_option maxRecDepth 100000 in
theorem c_X1_canBeMade (l : Launch) (D : va_G) (cI cZ cB cR : ClassId) (a : Nat → Nat) (h : Nat → Nat → Int32) (τ : Nat → Nat → Int32) (x : Nat) (ok : OKB h τ) (hnx : x < 12) : RO l yX1_canBeMade wsX1_canBeMade ({ frames := 0, cells := 0, slots := 0, locals := 0 } : Room) D cI cZ cB cR (wH cI a h) [.ref (a 0), .int (nI x)] (b2i (!(bt (τ 1 x) 1 || bt (τ 1 x) 2))) := by
  have hE : p_X1_canBeMade h τ x = b2i (!(bt (τ 1 x) 1 || bt (τ 1 x) 2)) := pe_X1_canBeMade h τ x ok hnx
  refine Met.ofW (cc := cX1_canBeMade) (maxL := 2) (ret := (some .boolean)) (by decide) rfl ?_
  intro p e s m args below meth c s₁ B hml hv
  obtain ⟨hargs, hP, hEV⟩ := hv
  have hx := B.exec
  have hb := B.bytes
  have hr := B.returns
  have hts := atoms_spec (ws := wsX1_canBeMade) B.pre
  have hown : s.vm.findClass RX1 = some m.cls := findClass_of_methodNamed B.named
  have hlocks := B.notSynchronized
  have hK := hEV.1
  have hl := lv_entry ([.ref (a 0), .int (nI x)]) (n := 2) (Nat.le_of_ble_eq_true rfl)
  rw [show entryFrame m args 2 = entryFrame m ([.ref (a 0), .int (nI x)] : List Value).toArray 2 from by rw [hargs], lg_entry_eq]
  generalize (lg_sl ([.ref (a 0), .int (nI x)]) ++ List.replicate (2 - (lg_sl ([.ref (a 0), .int (nI x)])).length) Slot.unset).toArray = ls at hl ⊢
  have hl : lv_has ls 2 [(0, .ref (a 0)), (1, .int (nI x))] := hl
  rw [p_X1_canBeMade] at hE
  refine lv_aload_n hx hb dX1_canBeMade_0 rfl (lv_at hl 0 rfl) ?_
  refine va_get (D := D) (ci := 1) (v := .ref (a 1)) (C := RX1) (T := TX1) (N := 10) hx hb hts (fun w9 h9 => List.mem_cons_of_mem _ (inT_X1 w9 h9)) hown hK hP 0 rfl rfl 1 (by decide) (hts (.fieldLink RX1 9 "LinkPredictor$Hierarchy" "flags" "[I") (List.mem_cons_of_mem _ mw_1_72)) (fun _ h9 => h9) rfl dX1_canBeMade_1 ?_
  refine lv_iload_n hx hb dX1_canBeMade_4 rfl (lv_at hl 1 rfl) ?_
  refine ro_ald hx hb hEV hP 1 (j := x) rfl (by omega) (by decide) dX1_canBeMade_5 ?_
  refine lv_bipush (v := (6 : Int32)) hx hb dX1_canBeMade_6 (by decide) ?_
  refine lv_iand hx hb dX1_canBeMade_8 ?_
  refine lv_if_ne (tgt := 16) hx hb dX1_canBeMade_9 (by decide) (fun c_9 => ?_) (fun c_9 => ?_)
  · skip
    have hE := (if_neg c_9).symm.trans hE
    refine lv_iconst (v := (0 : Int32)) hx hb dX1_canBeMade_16 (by decide) ?_
    exact W.zret hx hb hr rfl (fun t9 ht9 _ => ⟨_, rfl, hE, ht9⟩) (fun _ h9 => by cases h9) dX1_canBeMade_17
  · skip
    have hE := (if_pos c_9).symm.trans hE
    refine lv_iconst (v := (1 : Int32)) hx hb dX1_canBeMade_12 (by decide) ?_
    refine lv_goto (tgt := 17) hx hb dX1_canBeMade_13 (by decide) ?_
    exact W.zret hx hb hr rfl (fun t9 ht9 _ => ⟨_, rfl, hE, ht9⟩) (fun _ h9 => by cases h9) dX1_canBeMade_17
def p_X1_superOf (h : Nat → Nat → Int32) (τ : Nat → Nat → Int32) (x : Nat) : Int32 := h 2 x
theorem pe_X1_superOf (h : Nat → Nat → Int32) (τ : Nat → Nat → Int32) (x : Nat) (ok : OKB h τ) (hnx : x < 12) : p_X1_superOf h τ x = τ 3 x := ok.su hnx
set_option maxHeartbeats 4000000 in
set_option maxRecDepth 100000 in
theorem c_X1_superOf (l : Launch) (D : va_G) (cI cZ cB cR : ClassId) (a : Nat → Nat) (h : Nat → Nat → Int32) (τ : Nat → Nat → Int32) (x : Nat) (ok : OKB h τ) (hnx : x < 12) : RO l yX1_superOf wsX1_superOf ({ frames := 0, cells := 0, slots := 0, locals := 0 } : Room) D cI cZ cB cR (wH cI a h) [.ref (a 0), .int (nI x)] (τ 3 x) := by
  have hE : p_X1_superOf h τ x = τ 3 x := pe_X1_superOf h τ x ok hnx
  refine Met.ofW (cc := cX1_superOf) (maxL := 2) (ret := (some .int)) (by decide) rfl ?_
  intro p e s m args below meth c s₁ B hml hv
  obtain ⟨hargs, hP, hEV⟩ := hv
  have hx := B.exec
  have hb := B.bytes
  have hr := B.returns
  have hts := atoms_spec (ws := wsX1_superOf) B.pre
  have hown : s.vm.findClass RX1 = some m.cls := findClass_of_methodNamed B.named
  have hlocks := B.notSynchronized
  have hK := hEV.1
  have hl := lv_entry ([.ref (a 0), .int (nI x)]) (n := 2) (Nat.le_of_ble_eq_true rfl)
  rw [show entryFrame m args 2 = entryFrame m ([.ref (a 0), .int (nI x)] : List Value).toArray 2 from by rw [hargs], lg_entry_eq]
  generalize (lg_sl ([.ref (a 0), .int (nI x)]) ++ List.replicate (2 - (lg_sl ([.ref (a 0), .int (nI x)])).length) Slot.unset).toArray = ls at hl ⊢
  have hl : lv_has ls 2 [(0, .ref (a 0)), (1, .int (nI x))] := hl
  rw [p_X1_superOf] at hE
  refine lv_aload_n hx hb dX1_superOf_0 rfl (lv_at hl 0 rfl) ?_
  refine va_get (D := D) (ci := 1) (v := .ref (a 3)) (C := RX1) (T := TX1) (N := 10) hx hb hts (fun w9 h9 => List.mem_cons_of_mem _ (inT_X1 w9 h9)) hown hK hP 0 rfl rfl 3 (by decide) (hts (.fieldLink RX1 18 "LinkPredictor$Hierarchy" "supers" "[I") (List.mem_cons_of_mem _ mw_1_74)) (fun _ h9 => h9) rfl dX1_superOf_1 ?_
  refine lv_iload_n hx hb dX1_superOf_4 rfl (lv_at hl 1 rfl) ?_
  refine ro_ald hx hb hEV hP 3 (j := x) rfl (by omega) (by decide) dX1_superOf_5 ?_
  exact W.iret hx hb hr (fun t9 ht9 _ => ⟨_, rfl, hE, ht9⟩) (fun _ h9 => by cases h9) dX1_superOf_6
def p_X1_directFacesOf (h : Nat → Nat → Int32) (τ : Nat → Nat → Int32) (x : Nat) : Int32 := h 3 x
theorem pe_X1_directFacesOf (h : Nat → Nat → Int32) (τ : Nat → Nat → Int32) (x : Nat) (ok : OKB h τ) (hnx : x < 12) : p_X1_directFacesOf h τ x = τ 4 x := ok.fa hnx
set_option maxHeartbeats 4000000 in
set_option maxRecDepth 100000 in
theorem c_X1_directFacesOf (l : Launch) (D : va_G) (cI cZ cB cR : ClassId) (a : Nat → Nat) (h : Nat → Nat → Int32) (τ : Nat → Nat → Int32) (x : Nat) (ok : OKB h τ) (hnx : x < 12) : RO l yX1_directFacesOf wsX1_directFacesOf ({ frames := 0, cells := 0, slots := 0, locals := 0 } : Room) D cI cZ cB cR (wH cI a h) [.ref (a 0), .int (nI x)] (τ 4 x) := by
  have hE : p_X1_directFacesOf h τ x = τ 4 x := pe_X1_directFacesOf h τ x ok hnx
  refine Met.ofW (cc := cX1_directFacesOf) (maxL := 2) (ret := (some .int)) (by decide) rfl ?_
  intro p e s m args below meth c s₁ B hml hv
  obtain ⟨hargs, hP, hEV⟩ := hv
  have hx := B.exec
  have hb := B.bytes
  have hr := B.returns
  have hts := atoms_spec (ws := wsX1_directFacesOf) B.pre
  have hown : s.vm.findClass RX1 = some m.cls := findClass_of_methodNamed B.named
  have hlocks := B.notSynchronized
  have hK := hEV.1
  have hl := lv_entry ([.ref (a 0), .int (nI x)]) (n := 2) (Nat.le_of_ble_eq_true rfl)
  rw [show entryFrame m args 2 = entryFrame m ([.ref (a 0), .int (nI x)] : List Value).toArray 2 from by rw [hargs], lg_entry_eq]
  generalize (lg_sl ([.ref (a 0), .int (nI x)]) ++ List.replicate (2 - (lg_sl ([.ref (a 0), .int (nI x)])).length) Slot.unset).toArray = ls at hl ⊢
  have hl : lv_has ls 2 [(0, .ref (a 0)), (1, .int (nI x))] := hl
  rw [p_X1_directFacesOf] at hE
  refine lv_aload_n hx hb dX1_directFacesOf_0 rfl (lv_at hl 0 rfl) ?_
  refine va_get (D := D) (ci := 1) (v := .ref (a 4)) (C := RX1) (T := TX1) (N := 10) hx hb hts (fun w9 h9 => List.mem_cons_of_mem _ (inT_X1 w9 h9)) hown hK hP 0 rfl rfl 4 (by decide) (hts (.fieldLink RX1 21 "LinkPredictor$Hierarchy" "directFaces" "[I") (List.mem_cons_of_mem _ mw_1_75)) (fun _ h9 => h9) rfl dX1_directFacesOf_1 ?_
  refine lv_iload_n hx hb dX1_directFacesOf_4 rfl (lv_at hl 1 rfl) ?_
  refine ro_ald hx hb hEV hP 4 (j := x) rfl (by omega) (by decide) dX1_directFacesOf_5 ?_
  exact W.iret hx hb hr (fun t9 ht9 _ => ⟨_, rfl, hE, ht9⟩) (fun _ h9 => by cases h9) dX1_directFacesOf_6
def p_X1_isSamePackage (h : Nat → Nat → Int32) (τ : Nat → Nat → Int32) (x : Nat) (y : Nat) : Int32 := if (h 1 x) = (h 1 y) then ((1 : Int32)) else ((0 : Int32))
theorem pe_X1_isSamePackage (h : Nat → Nat → Int32) (τ : Nat → Nat → Int32) (x : Nat) (y : Nat) (ok : OKB h τ) (hnx : x < 12) (hny : y < 12) : p_X1_isSamePackage h τ x y = b2i (decide (τ 2 x = τ 2 y)) := by rw [p_X1_isSamePackage, ok.pk hnx, ok.pk hny]; exact ite_b2i' (by simp)
set_option maxHeartbeats 4000000 in
set_option maxRecDepth 100000 in
theorem c_X1_isSamePackage (l : Launch) (D : va_G) (cI cZ cB cR : ClassId) (a : Nat → Nat) (h : Nat → Nat → Int32) (τ : Nat → Nat → Int32) (x : Nat) (y : Nat) (ok : OKB h τ) (hnx : x < 12) (hny : y < 12) : RO l yX1_isSamePackage wsX1_isSamePackage ({ frames := 0, cells := 0, slots := 0, locals := 0 } : Room) D cI cZ cB cR (wH cI a h) [.ref (a 0), .int (nI x), .int (nI y)] (b2i (decide (τ 2 x = τ 2 y))) := by
  have hE : p_X1_isSamePackage h τ x y = b2i (decide (τ 2 x = τ 2 y)) := pe_X1_isSamePackage h τ x y ok hnx hny
  refine Met.ofW (cc := cX1_isSamePackage) (maxL := 3) (ret := (some .boolean)) (by decide) rfl ?_
  intro p e s m args below meth c s₁ B hml hv
  obtain ⟨hargs, hP, hEV⟩ := hv
  have hx := B.exec
  have hb := B.bytes
  have hr := B.returns
  have hts := atoms_spec (ws := wsX1_isSamePackage) B.pre
  have hown : s.vm.findClass RX1 = some m.cls := findClass_of_methodNamed B.named
  have hlocks := B.notSynchronized
  have hK := hEV.1
  have hl := lv_entry ([.ref (a 0), .int (nI x), .int (nI y)]) (n := 3) (Nat.le_of_ble_eq_true rfl)
  rw [show entryFrame m args 3 = entryFrame m ([.ref (a 0), .int (nI x), .int (nI y)] : List Value).toArray 3 from by rw [hargs], lg_entry_eq]
  generalize (lg_sl ([.ref (a 0), .int (nI x), .int (nI y)]) ++ List.replicate (3 - (lg_sl ([.ref (a 0), .int (nI x), .int (nI y)])).length) Slot.unset).toArray = ls at hl ⊢
  have hl : lv_has ls 3 [(0, .ref (a 0)), (1, .int (nI x)), (2, .int (nI y))] := hl
  rw [p_X1_isSamePackage] at hE
  refine lv_aload_n hx hb dX1_isSamePackage_0 rfl (lv_at hl 0 rfl) ?_
  refine va_get (D := D) (ci := 1) (v := .ref (a 2)) (C := RX1) (T := TX1) (N := 10) hx hb hts (fun w9 h9 => List.mem_cons_of_mem _ (inT_X1 w9 h9)) hown hK hP 0 rfl rfl 2 (by decide) (hts (.fieldLink RX1 15 "LinkPredictor$Hierarchy" "packs" "[I") (List.mem_cons_of_mem _ mw_1_73)) (fun _ h9 => h9) rfl dX1_isSamePackage_1 ?_
  refine lv_iload_n hx hb dX1_isSamePackage_4 rfl (lv_at hl 1 rfl) ?_
  refine ro_ald hx hb hEV hP 2 (j := x) rfl (by omega) (by decide) dX1_isSamePackage_5 ?_
  refine lv_aload_n hx hb dX1_isSamePackage_6 rfl (lv_at hl 0 rfl) ?_
  refine va_get (D := D) (ci := 1) (v := .ref (a 2)) (C := RX1) (T := TX1) (N := 10) hx hb hts (fun w9 h9 => List.mem_cons_of_mem _ (inT_X1 w9 h9)) hown hK hP 0 rfl rfl 2 (by decide) (hts (.fieldLink RX1 15 "LinkPredictor$Hierarchy" "packs" "[I") (List.mem_cons_of_mem _ mw_1_73)) (fun _ h9 => h9) rfl dX1_isSamePackage_7 ?_
  refine lv_iload_n hx hb dX1_isSamePackage_10 rfl (lv_at hl 2 rfl) ?_
  refine ro_ald hx hb hEV hP 2 (j := y) rfl (by omega) (by decide) dX1_isSamePackage_11 ?_
  refine lv_icmp_ne (tgt := 19) hx hb dX1_isSamePackage_12 (by decide) (fun c_12 => ?_) (fun c_12 => ?_)
  · skip
    have hE := (if_neg c_12).symm.trans hE
    refine lv_iconst (v := (0 : Int32)) hx hb dX1_isSamePackage_19 (by decide) ?_
    exact W.zret hx hb hr rfl (fun t9 ht9 _ => ⟨_, rfl, hE, ht9⟩) (fun _ h9 => by cases h9) dX1_isSamePackage_20
  · skip
    have hE := (if_pos c_12).symm.trans hE
    refine lv_iconst (v := (1 : Int32)) hx hb dX1_isSamePackage_15 (by decide) ?_
    refine lv_goto (tgt := 20) hx hb dX1_isSamePackage_16 (by decide) ?_
    exact W.zret hx hb hr rfl (fun t9 ht9 _ => ⟨_, rfl, hE, ht9⟩) (fun _ h9 => by cases h9) dX1_isSamePackage_20
end
section
def WFM (γ : Nat → Nat → Int32) (n : Nat) : Prop := ∀ m, m < n → isT (γ 0 m)
/-- the masks of the numbers that f gives where p holds -/
def orF (p : Nat → Bool) (f : Nat → Nat) : Nat → Int32
  | 0 => 0
  | n + 1 => orF p f n ||| (if p n = true then bm (f n) else 0)
theorem or_0 (x : Int32) : x ||| 0 = x := b_ext (fun i _ => by rw [b_or, b_0, Bool.or_false])
theorem orF_t {p : Nat → Bool} {f : Nat → Nat} {n : Nat} (h : p n = true) : orF p f (n + 1) = orF p f n ||| bm (f n) := by rw [orF, if_pos h]
theorem orF_f {p : Nat → Bool} {f : Nat → Nat} {n : Nat} (h : ¬ p n = true) : orF p f (n + 1) = orF p f n := by rw [orF, if_neg h, or_0]
theorem orF_bt (p : Nat → Bool) (f : Nat → Nat) {t : Nat} (ht : t < 32) : ∀ n, (∀ m, m < n → f m < 32) → (bt (orF p f n) t = true ↔ ∃ m, m < n ∧ p m = true ∧ f m = t)
  | 0, _ => by simp [orF, b_0]
  | n + 1, hf => by
    have ih := orF_bt p f ht n (fun m hm => hf m (by omega))
    have hn := hf n (by omega)
    by_cases q : p n = true
    · rw [orF_t q, b_or, b_bm hn ht, Bool.or_eq_true, ih]
      constructor
      · rintro (⟨m, h1, h2⟩ | h)
        · exact ⟨m, by omega, h2⟩
        · exact ⟨n, by omega, q, by simpa using (of_decide_eq_true h).symm⟩
      · rintro ⟨m, h1, h2, h3⟩
        rcases Nat.lt_or_ge m n with z | z
        · exact Or.inl ⟨m, z, h2, h3⟩
        · have e : m = n := by omega
          subst e
          exact Or.inr (by rw [h3]; simp)
    · rw [orF_f q, ih]
      constructor
      · rintro ⟨m, h1, h2⟩; exact ⟨m, by omega, h2⟩
      · rintro ⟨m, h1, h2, h3⟩
        rcases Nat.lt_or_ge m n with z | z
        · exact ⟨m, z, h2, h3⟩
        · have e : m = n := by omega
          subst e
          exact absurd h2 q
/-- how many numbers below n have p -/
def cnF (p : Nat → Bool) : Nat → Nat
  | 0 => 0
  | n + 1 => cnF p n + (if p n = true then 1 else 0)
theorem cnF_t {p : Nat → Bool} {n : Nat} (h : p n = true) : cnF p (n + 1) = cnF p n + 1 := by rw [cnF, if_pos h]
theorem cnF_f {p : Nat → Bool} {n : Nat} (h : ¬ p n = true) : cnF p (n + 1) = cnF p n := by rw [cnF, if_neg h]; rfl
theorem cnF_le (p : Nat → Bool) : ∀ n, cnF p n ≤ n
  | 0 => Nat.le_refl 0
  | n + 1 => by have := cnF_le p n; unfold cnF; split <;> omega
theorem cnF_cong {p q : Nat → Bool} : ∀ {n : Nat}, (∀ j, j < n → p j = q j) → cnF p n = cnF q n
  | 0, _ => rfl
  | n + 1, h => by unfold cnF; rw [cnF_cong (n := n) (fun j hj => h j (by omega)), h n (by omega)]
def p_X2_isStatic (g : Nat → Nat → Int32) (γ : Nat → Nat → Int32) (n : Nat) (x : Nat) : Int32 := if ((g 3 x) &&& (1 : Int32)) = (0 : Int32) then ((0 : Int32)) else ((1 : Int32))
theorem pe_X2_isStatic (g : Nat → Nat → Int32) (γ : Nat → Nat → Int32) (n : Nat) (x : Nat) (ok : OKM g γ n) (hnx : x < n) : p_X2_isStatic g γ n x = b2i (bt (γ 3 x) 0) := by rw [p_X2_isStatic, ok.mk hnx]; exact ite_b2i and1_eq
set_option maxHeartbeats 4000000 in
set_option maxRecDepth 100000 in
theorem c_X2_isStatic (l : Launch) (D : va_G) (cI cZ cB cR : ClassId) (a : Nat → Nat) (g : Nat → Nat → Int32) (γ : Nat → Nat → Int32) (n : Nat) (x : Nat) (ok : OKM g γ n) (hnx : x < n) : RO l yX2_isStatic wsX2_isStatic ({ frames := 0, cells := 0, slots := 0, locals := 0 } : Room) D cI cZ cB cR (wM cI a g) [.ref (a 0), .int (nI x)] (b2i (bt (γ 3 x) 0)) := by
  have hE : p_X2_isStatic g γ n x = b2i (bt (γ 3 x) 0) := pe_X2_isStatic g γ n x ok hnx
  refine Met.ofW (cc := cX2_isStatic) (maxL := 2) (ret := (some .boolean)) (by decide) rfl ?_
  intro p e s m args below meth c s₁ B hml hv
  obtain ⟨hargs, hP, hEV⟩ := hv
  have hx := B.exec
  have hb := B.bytes
  have hr := B.returns
  have hts := atoms_spec (ws := wsX2_isStatic) B.pre
  have hown : s.vm.findClass RX2 = some m.cls := findClass_of_methodNamed B.named
  have hlocks := B.notSynchronized
  have hK := hEV.1
  have hl := lv_entry ([.ref (a 0), .int (nI x)]) (n := 2) (Nat.le_of_ble_eq_true rfl)
  rw [show entryFrame m args 2 = entryFrame m ([.ref (a 0), .int (nI x)] : List Value).toArray 2 from by rw [hargs], lg_entry_eq]
  generalize (lg_sl ([.ref (a 0), .int (nI x)]) ++ List.replicate (2 - (lg_sl ([.ref (a 0), .int (nI x)])).length) Slot.unset).toArray = ls at hl ⊢
  have hl : lv_has ls 2 [(0, .ref (a 0)), (1, .int (nI x))] := hl
  rw [p_X2_isStatic] at hE
  have hn30 := ok.2.1
  refine lv_aload_n hx hb dX2_isStatic_0 rfl (lv_at hl 0 rfl) ?_
  refine va_get (D := D) (ci := 2) (v := .ref (a 4)) (C := RX2) (T := TX2) (N := 6) hx hb hts (fun w9 h9 => List.mem_cons_of_mem _ (inT_X2 w9 h9)) hown hK hP 0 rfl rfl 5 (by decide) (hts (.fieldLink RX2 21 "LinkPredictor$Members" "flags" "[I") (List.mem_cons_of_mem _ mw_1_114)) (fun _ h9 => h9) rfl dX2_isStatic_1 ?_
  refine lv_iload_n hx hb dX2_isStatic_4 rfl (lv_at hl 1 rfl) ?_
  refine ro_ald hx hb hEV hP 4 (j := x) rfl (by omega) (by decide) dX2_isStatic_5 ?_
  refine lv_iconst (v := (1 : Int32)) hx hb dX2_isStatic_6 (by decide) ?_
  refine lv_iand hx hb dX2_isStatic_7 ?_
  refine lv_if_eq (tgt := 15) hx hb dX2_isStatic_8 (by decide) (fun c_8 => ?_) (fun c_8 => ?_)
  · skip
    have hE := (if_pos c_8).symm.trans hE
    refine lv_iconst (v := (0 : Int32)) hx hb dX2_isStatic_15 (by decide) ?_
    exact W.zret hx hb hr rfl (fun t9 ht9 _ => ⟨_, rfl, hE, ht9⟩) (fun _ h9 => by cases h9) dX2_isStatic_16
  · skip
    have hE := (if_neg c_8).symm.trans hE
    refine lv_iconst (v := (1 : Int32)) hx hb dX2_isStatic_11 (by decide) ?_
    refine lv_goto (tgt := 16) hx hb dX2_isStatic_12 (by decide) ?_
    exact W.zret hx hb hr rfl (fun t9 ht9 _ => ⟨_, rfl, hE, ht9⟩) (fun _ h9 => by cases h9) dX2_isStatic_16
def p_X2_isAbstract (g : Nat → Nat → Int32) (γ : Nat → Nat → Int32) (n : Nat) (x : Nat) : Int32 := if ((g 3 x) &&& (2 : Int32)) = (0 : Int32) then ((0 : Int32)) else ((1 : Int32))
theorem pe_X2_isAbstract (g : Nat → Nat → Int32) (γ : Nat → Nat → Int32) (n : Nat) (x : Nat) (ok : OKM g γ n) (hnx : x < n) : p_X2_isAbstract g γ n x = b2i (bt (γ 3 x) 1) := by rw [p_X2_isAbstract, ok.mk hnx]; exact ite_b2i and2_eq
set_option maxHeartbeats 4000000 in
set_option maxRecDepth 100000 in
theorem c_X2_isAbstract (l : Launch) (D : va_G) (cI cZ cB cR : ClassId) (a : Nat → Nat) (g : Nat → Nat → Int32) (γ : Nat → Nat → Int32) (n : Nat) (x : Nat) (ok : OKM g γ n) (hnx : x < n) : RO l yX2_isAbstract wsX2_isAbstract ({ frames := 0, cells := 0, slots := 0, locals := 0 } : Room) D cI cZ cB cR (wM cI a g) [.ref (a 0), .int (nI x)] (b2i (bt (γ 3 x) 1)) := by
  have hE : p_X2_isAbstract g γ n x = b2i (bt (γ 3 x) 1) := pe_X2_isAbstract g γ n x ok hnx
  refine Met.ofW (cc := cX2_isAbstract) (maxL := 2) (ret := (some .boolean)) (by decide) rfl ?_
  intro p e s m args below meth c s₁ B hml hv
  obtain ⟨hargs, hP, hEV⟩ := hv
  have hx := B.exec
  have hb := B.bytes
  have hr := B.returns
  have hts := atoms_spec (ws := wsX2_isAbstract) B.pre
  have hown : s.vm.findClass RX2 = some m.cls := findClass_of_methodNamed B.named
  have hlocks := B.notSynchronized
  have hK := hEV.1
  have hl := lv_entry ([.ref (a 0), .int (nI x)]) (n := 2) (Nat.le_of_ble_eq_true rfl)
  rw [show entryFrame m args 2 = entryFrame m ([.ref (a 0), .int (nI x)] : List Value).toArray 2 from by rw [hargs], lg_entry_eq]
  generalize (lg_sl ([.ref (a 0), .int (nI x)]) ++ List.replicate (2 - (lg_sl ([.ref (a 0), .int (nI x)])).length) Slot.unset).toArray = ls at hl ⊢
  have hl : lv_has ls 2 [(0, .ref (a 0)), (1, .int (nI x))] := hl
  rw [p_X2_isAbstract] at hE
  have hn30 := ok.2.1
  refine lv_aload_n hx hb dX2_isAbstract_0 rfl (lv_at hl 0 rfl) ?_
  refine va_get (D := D) (ci := 2) (v := .ref (a 4)) (C := RX2) (T := TX2) (N := 6) hx hb hts (fun w9 h9 => List.mem_cons_of_mem _ (inT_X2 w9 h9)) hown hK hP 0 rfl rfl 5 (by decide) (hts (.fieldLink RX2 21 "LinkPredictor$Members" "flags" "[I") (List.mem_cons_of_mem _ mw_1_114)) (fun _ h9 => h9) rfl dX2_isAbstract_1 ?_
  refine lv_iload_n hx hb dX2_isAbstract_4 rfl (lv_at hl 1 rfl) ?_
  refine ro_ald hx hb hEV hP 4 (j := x) rfl (by omega) (by decide) dX2_isAbstract_5 ?_
  refine lv_iconst (v := (2 : Int32)) hx hb dX2_isAbstract_6 (by decide) ?_
  refine lv_iand hx hb dX2_isAbstract_7 ?_
  refine lv_if_eq (tgt := 15) hx hb dX2_isAbstract_8 (by decide) (fun c_8 => ?_) (fun c_8 => ?_)
  · skip
    have hE := (if_pos c_8).symm.trans hE
    refine lv_iconst (v := (0 : Int32)) hx hb dX2_isAbstract_15 (by decide) ?_
    exact W.zret hx hb hr rfl (fun t9 ht9 _ => ⟨_, rfl, hE, ht9⟩) (fun _ h9 => by cases h9) dX2_isAbstract_16
  · skip
    have hE := (if_neg c_8).symm.trans hE
    refine lv_iconst (v := (1 : Int32)) hx hb dX2_isAbstract_11 (by decide) ?_
    refine lv_goto (tgt := 16) hx hb dX2_isAbstract_12 (by decide) ?_
    exact W.zret hx hb hr rfl (fun t9 ht9 _ => ⟨_, rfl, hE, ht9⟩) (fun _ h9 => by cases h9) dX2_isAbstract_16
def p_X2_isFinal (g : Nat → Nat → Int32) (γ : Nat → Nat → Int32) (n : Nat) (x : Nat) : Int32 := if ((g 3 x) &&& (4 : Int32)) = (0 : Int32) then ((0 : Int32)) else ((1 : Int32))
theorem pe_X2_isFinal (g : Nat → Nat → Int32) (γ : Nat → Nat → Int32) (n : Nat) (x : Nat) (ok : OKM g γ n) (hnx : x < n) : p_X2_isFinal g γ n x = b2i (bt (γ 3 x) 2) := by rw [p_X2_isFinal, ok.mk hnx]; exact ite_b2i and4_eq
set_option maxHeartbeats 4000000 in
set_option maxRecDepth 100000 in
theorem c_X2_isFinal (l : Launch) (D : va_G) (cI cZ cB cR : ClassId) (a : Nat → Nat) (g : Nat → Nat → Int32) (γ : Nat → Nat → Int32) (n : Nat) (x : Nat) (ok : OKM g γ n) (hnx : x < n) : RO l yX2_isFinal wsX2_isFinal ({ frames := 0, cells := 0, slots := 0, locals := 0 } : Room) D cI cZ cB cR (wM cI a g) [.ref (a 0), .int (nI x)] (b2i (bt (γ 3 x) 2)) := by
  have hE : p_X2_isFinal g γ n x = b2i (bt (γ 3 x) 2) := pe_X2_isFinal g γ n x ok hnx
  refine Met.ofW (cc := cX2_isFinal) (maxL := 2) (ret := (some .boolean)) (by decide) rfl ?_
  intro p e s m args below meth c s₁ B hml hv
  obtain ⟨hargs, hP, hEV⟩ := hv
  have hx := B.exec
  have hb := B.bytes
  have hr := B.returns
  have hts := atoms_spec (ws := wsX2_isFinal) B.pre
  have hown : s.vm.findClass RX2 = some m.cls := findClass_of_methodNamed B.named
  have hlocks := B.notSynchronized
  have hK := hEV.1
  have hl := lv_entry ([.ref (a 0), .int (nI x)]) (n := 2) (Nat.le_of_ble_eq_true rfl)
  rw [show entryFrame m args 2 = entryFrame m ([.ref (a 0), .int (nI x)] : List Value).toArray 2 from by rw [hargs], lg_entry_eq]
  generalize (lg_sl ([.ref (a 0), .int (nI x)]) ++ List.replicate (2 - (lg_sl ([.ref (a 0), .int (nI x)])).length) Slot.unset).toArray = ls at hl ⊢
  have hl : lv_has ls 2 [(0, .ref (a 0)), (1, .int (nI x))] := hl
  rw [p_X2_isFinal] at hE
  have hn30 := ok.2.1
  refine lv_aload_n hx hb dX2_isFinal_0 rfl (lv_at hl 0 rfl) ?_
  refine va_get (D := D) (ci := 2) (v := .ref (a 4)) (C := RX2) (T := TX2) (N := 6) hx hb hts (fun w9 h9 => List.mem_cons_of_mem _ (inT_X2 w9 h9)) hown hK hP 0 rfl rfl 5 (by decide) (hts (.fieldLink RX2 21 "LinkPredictor$Members" "flags" "[I") (List.mem_cons_of_mem _ mw_1_114)) (fun _ h9 => h9) rfl dX2_isFinal_1 ?_
  refine lv_iload_n hx hb dX2_isFinal_4 rfl (lv_at hl 1 rfl) ?_
  refine ro_ald hx hb hEV hP 4 (j := x) rfl (by omega) (by decide) dX2_isFinal_5 ?_
  refine lv_iconst (v := (4 : Int32)) hx hb dX2_isFinal_6 (by decide) ?_
  refine lv_iand hx hb dX2_isFinal_7 ?_
  refine lv_if_eq (tgt := 15) hx hb dX2_isFinal_8 (by decide) (fun c_8 => ?_) (fun c_8 => ?_)
  · skip
    have hE := (if_pos c_8).symm.trans hE
    refine lv_iconst (v := (0 : Int32)) hx hb dX2_isFinal_15 (by decide) ?_
    exact W.zret hx hb hr rfl (fun t9 ht9 _ => ⟨_, rfl, hE, ht9⟩) (fun _ h9 => by cases h9) dX2_isFinal_16
  · skip
    have hE := (if_neg c_8).symm.trans hE
    refine lv_iconst (v := (1 : Int32)) hx hb dX2_isFinal_11 (by decide) ?_
    refine lv_goto (tgt := 16) hx hb dX2_isFinal_12 (by decide) ?_
    exact W.zret hx hb hr rfl (fun t9 ht9 _ => ⟨_, rfl, hE, ht9⟩) (fun _ h9 => by cases h9) dX2_isFinal_16
def p_X2_ownerOf (g : Nat → Nat → Int32) (γ : Nat → Nat → Int32) (n : Nat) (x : Nat) : Int32 := g 0 x
theorem pe_X2_ownerOf (g : Nat → Nat → Int32) (γ : Nat → Nat → Int32) (n : Nat) (x : Nat) (ok : OKM g γ n) (hnx : x < n) : p_X2_ownerOf g γ n x = γ 0 x := ok.ow hnx
set_option maxHeartbeats 4000000 in
set_option maxRecDepth 100000 in
theorem c_X2_ownerOf (l : Launch) (D : va_G) (cI cZ cB cR : ClassId) (a : Nat → Nat) (g : Nat → Nat → Int32) (γ : Nat → Nat → Int32) (n : Nat) (x : Nat) (ok : OKM g γ n) (hnx : x < n) : RO l yX2_ownerOf wsX2_ownerOf ({ frames := 0, cells := 0, slots := 0, locals := 0 } : Room) D cI cZ cB cR (wM cI a g) [.ref (a 0), .int (nI x)] (γ 0 x) := by
  have hE : p_X2_ownerOf g γ n x = γ 0 x := pe_X2_ownerOf g γ n x ok hnx
  refine Met.ofW (cc := cX2_ownerOf) (maxL := 2) (ret := (some .int)) (by decide) rfl ?_
  intro p e s m args below meth c s₁ B hml hv
  obtain ⟨hargs, hP, hEV⟩ := hv
  have hx := B.exec
  have hb := B.bytes
  have hr := B.returns
  have hts := atoms_spec (ws := wsX2_ownerOf) B.pre
  have hown : s.vm.findClass RX2 = some m.cls := findClass_of_methodNamed B.named
  have hlocks := B.notSynchronized
  have hK := hEV.1
  have hl := lv_entry ([.ref (a 0), .int (nI x)]) (n := 2) (Nat.le_of_ble_eq_true rfl)
  rw [show entryFrame m args 2 = entryFrame m ([.ref (a 0), .int (nI x)] : List Value).toArray 2 from by rw [hargs], lg_entry_eq]
  generalize (lg_sl ([.ref (a 0), .int (nI x)]) ++ List.replicate (2 - (lg_sl ([.ref (a 0), .int (nI x)])).length) Slot.unset).toArray = ls at hl ⊢
  have hl : lv_has ls 2 [(0, .ref (a 0)), (1, .int (nI x))] := hl
  rw [p_X2_ownerOf] at hE
  have hn30 := ok.2.1
  refine lv_aload_n hx hb dX2_ownerOf_0 rfl (lv_at hl 0 rfl) ?_
  refine va_get (D := D) (ci := 2) (v := .ref (a 1)) (C := RX2) (T := TX2) (N := 6) hx hb hts (fun w9 h9 => List.mem_cons_of_mem _ (inT_X2 w9 h9)) hown hK hP 0 rfl rfl 2 (by decide) (hts (.fieldLink RX2 9 "LinkPredictor$Members" "owners" "[I") (List.mem_cons_of_mem _ mw_1_111)) (fun _ h9 => h9) rfl dX2_ownerOf_1 ?_
  refine lv_iload_n hx hb dX2_ownerOf_4 rfl (lv_at hl 1 rfl) ?_
  refine ro_ald hx hb hEV hP 1 (j := x) rfl (by omega) (by decide) dX2_ownerOf_5 ?_
  exact W.iret hx hb hr (fun t9 ht9 _ => ⟨_, rfl, hE, ht9⟩) (fun _ h9 => by cases h9) dX2_ownerOf_6
def p_X2_accessOf (g : Nat → Nat → Int32) (γ : Nat → Nat → Int32) (n : Nat) (x : Nat) : Int32 := g 2 x
theorem pe_X2_accessOf (g : Nat → Nat → Int32) (γ : Nat → Nat → Int32) (n : Nat) (x : Nat) (ok : OKM g γ n) (hnx : x < n) : p_X2_accessOf g γ n x = γ 2 x := ok.ac hnx
set_option maxHeartbeats 4000000 in
set_option maxRecDepth 100000 in
theorem c_X2_accessOf (l : Launch) (D : va_G) (cI cZ cB cR : ClassId) (a : Nat → Nat) (g : Nat → Nat → Int32) (γ : Nat → Nat → Int32) (n : Nat) (x : Nat) (ok : OKM g γ n) (hnx : x < n) : RO l yX2_accessOf wsX2_accessOf ({ frames := 0, cells := 0, slots := 0, locals := 0 } : Room) D cI cZ cB cR (wM cI a g) [.ref (a 0), .int (nI x)] (γ 2 x) := by
  have hE : p_X2_accessOf g γ n x = γ 2 x := pe_X2_accessOf g γ n x ok hnx
  refine Met.ofW (cc := cX2_accessOf) (maxL := 2) (ret := (some .int)) (by decide) rfl ?_
  intro p e s m args below meth c s₁ B hml hv
  obtain ⟨hargs, hP, hEV⟩ := hv
  have hx := B.exec
  have hb := B.bytes
  have hr := B.returns
  have hts := atoms_spec (ws := wsX2_accessOf) B.pre
  have hown : s.vm.findClass RX2 = some m.cls := findClass_of_methodNamed B.named
  have hlocks := B.notSynchronized
  have hK := hEV.1
  have hl := lv_entry ([.ref (a 0), .int (nI x)]) (n := 2) (Nat.le_of_ble_eq_true rfl)
  rw [show entryFrame m args 2 = entryFrame m ([.ref (a 0), .int (nI x)] : List Value).toArray 2 from by rw [hargs], lg_entry_eq]
  generalize (lg_sl ([.ref (a 0), .int (nI x)]) ++ List.replicate (2 - (lg_sl ([.ref (a 0), .int (nI x)])).length) Slot.unset).toArray = ls at hl ⊢
  have hl : lv_has ls 2 [(0, .ref (a 0)), (1, .int (nI x))] := hl
  rw [p_X2_accessOf] at hE
  have hn30 := ok.2.1
  refine lv_aload_n hx hb dX2_accessOf_0 rfl (lv_at hl 0 rfl) ?_
  refine va_get (D := D) (ci := 2) (v := .ref (a 3)) (C := RX2) (T := TX2) (N := 6) hx hb hts (fun w9 h9 => List.mem_cons_of_mem _ (inT_X2 w9 h9)) hown hK hP 0 rfl rfl 4 (by decide) (hts (.fieldLink RX2 18 "LinkPredictor$Members" "accesses" "[I") (List.mem_cons_of_mem _ mw_1_113)) (fun _ h9 => h9) rfl dX2_accessOf_1 ?_
  refine lv_iload_n hx hb dX2_accessOf_4 rfl (lv_at hl 1 rfl) ?_
  refine ro_ald hx hb hEV hP 3 (j := x) rfl (by omega) (by decide) dX2_accessOf_5 ?_
  exact W.iret hx hb hr (fun t9 ht9 _ => ⟨_, rfl, hE, ht9⟩) (fun _ h9 => by cases h9) dX2_accessOf_6
def p_X2_countAll (g : Nat → Nat → Int32) (γ : Nat → Nat → Int32) (n : Nat)  : Int32 := g 4 0
theorem pe_X2_countAll (g : Nat → Nat → Int32) (γ : Nat → Nat → Int32) (n : Nat)  (ok : OKM g γ n)  : p_X2_countAll g γ n = nI (n) := ok.1
set_option maxHeartbeats 4000000 in
set_option maxRecDepth 100000 in
theorem c_X2_countAll (l : Launch) (D : va_G) (cI cZ cB cR : ClassId) (a : Nat → Nat) (g : Nat → Nat → Int32) (γ : Nat → Nat → Int32) (n : Nat)  (ok : OKM g γ n)  : RO l yX2_countAll wsX2_countAll ({ frames := 0, cells := 0, slots := 0, locals := 0 } : Room) D cI cZ cB cR (wM cI a g) [.ref (a 0)] (nI (n)) := by
  have hE : p_X2_countAll g γ n = nI (n) := pe_X2_countAll g γ n ok
  refine Met.ofW (cc := cX2_countAll) (maxL := 1) (ret := (some .int)) (by decide) rfl ?_
  intro p e s m args below meth c s₁ B hml hv
  obtain ⟨hargs, hP, hEV⟩ := hv
  have hx := B.exec
  have hb := B.bytes
  have hr := B.returns
  have hts := atoms_spec (ws := wsX2_countAll) B.pre
  have hown : s.vm.findClass RX2 = some m.cls := findClass_of_methodNamed B.named
  have hlocks := B.notSynchronized
  have hK := hEV.1
  have hl := lv_entry ([.ref (a 0)]) (n := 1) (Nat.le_of_ble_eq_true rfl)
  rw [show entryFrame m args 1 = entryFrame m ([.ref (a 0)] : List Value).toArray 1 from by rw [hargs], lg_entry_eq]
  generalize (lg_sl ([.ref (a 0)]) ++ List.replicate (1 - (lg_sl ([.ref (a 0)])).length) Slot.unset).toArray = ls at hl ⊢
  have hl : lv_has ls 1 [(0, .ref (a 0))] := hl
  rw [p_X2_countAll] at hE
  have hn30 := ok.2.1
  refine lv_aload_n hx hb dX2_countAll_0 rfl (lv_at hl 0 rfl) ?_
  refine va_get (D := D) (ci := 2) (v := .int (g 4 0)) (C := RX2) (T := TX2) (N := 6) hx hb hts (fun w9 h9 => List.mem_cons_of_mem _ (inT_X2 w9 h9)) hown hK hP 0 rfl rfl 0 (by decide) (hts (.fieldLink RX2 24 "LinkPredictor$Members" "size" "I") (List.mem_cons_of_mem _ mw_1_109)) (fun _ h9 => h9) rfl dX2_countAll_1 ?_
  exact W.iret hx hb hr (fun t9 ht9 _ => ⟨_, rfl, hE, ht9⟩) (fun _ h9 => by cases h9) dX2_countAll_4
def p_X2_isInheritable (g : Nat → Nat → Int32) (γ : Nat → Nat → Int32) (n : Nat) (x : Nat) : Int32 := if (g 2 x) = (0 : Int32) then ((0 : Int32)) else (if ((g 3 x) &&& (1 : Int32)) = (0 : Int32) then ((1 : Int32)) else ((0 : Int32)))
theorem pe_X2_isInheritable (g : Nat → Nat → Int32) (γ : Nat → Nat → Int32) (n : Nat) (x : Nat) (ok : OKM g γ n) (hnx : x < n) : p_X2_isInheritable g γ n x = b2i (inhB γ x) := by
  rw [p_X2_isInheritable, ok.mk hnx, ok.ac hnx]
  unfold inhB
  by_cases h1 : γ 2 x = 0
  · simp [h1, b2i]
  · by_cases h2 : bt (γ 3 x) 0 = true
    · have : ¬ (γ 3 x &&& 1 = 0) := fun z => and1_eq.mp z h2
      simp [h1, h2, this, b2i]
    · have := and1_eq.mpr h2
      simp [h1, h2, this, b2i]
set_option maxHeartbeats 4000000 in
set_option maxRecDepth 100000 in
theorem c_X2_isInheritable (l : Launch) (D : va_G) (cI cZ cB cR : ClassId) (a : Nat → Nat) (g : Nat → Nat → Int32) (γ : Nat → Nat → Int32) (n : Nat) (x : Nat) (ok : OKM g γ n) (hnx : x < n) : RO l yX2_isInheritable wsX2_isInheritable ({ frames := 0, cells := 0, slots := 0, locals := 0 } : Room) D cI cZ cB cR (wM cI a g) [.ref (a 0), .int (nI x)] (b2i (inhB γ x)) := by
  have hE : p_X2_isInheritable g γ n x = b2i (inhB γ x) := pe_X2_isInheritable g γ n x ok hnx
  refine Met.ofW (cc := cX2_isInheritable) (maxL := 2) (ret := (some .boolean)) (by decide) rfl ?_
  intro p e s m args below meth c s₁ B hml hv
  obtain ⟨hargs, hP, hEV⟩ := hv
  have hx := B.exec
  have hb := B.bytes
  have hr := B.returns
  have hts := atoms_spec (ws := wsX2_isInheritable) B.pre
  have hown : s.vm.findClass RX2 = some m.cls := findClass_of_methodNamed B.named
  have hlocks := B.notSynchronized
  have hK := hEV.1
  have hl := lv_entry ([.ref (a 0), .int (nI x)]) (n := 2) (Nat.le_of_ble_eq_true rfl)
  rw [show entryFrame m args 2 = entryFrame m ([.ref (a 0), .int (nI x)] : List Value).toArray 2 from by rw [hargs], lg_entry_eq]
  generalize (lg_sl ([.ref (a 0), .int (nI x)]) ++ List.replicate (2 - (lg_sl ([.ref (a 0), .int (nI x)])).length) Slot.unset).toArray = ls at hl ⊢
  have hl : lv_has ls 2 [(0, .ref (a 0)), (1, .int (nI x))] := hl
  rw [p_X2_isInheritable] at hE
  have hn30 := ok.2.1
  refine lv_aload_n hx hb dX2_isInheritable_0 rfl (lv_at hl 0 rfl) ?_
  refine va_get (D := D) (ci := 2) (v := .ref (a 3)) (C := RX2) (T := TX2) (N := 6) hx hb hts (fun w9 h9 => List.mem_cons_of_mem _ (inT_X2 w9 h9)) hown hK hP 0 rfl rfl 4 (by decide) (hts (.fieldLink RX2 18 "LinkPredictor$Members" "accesses" "[I") (List.mem_cons_of_mem _ mw_1_113)) (fun _ h9 => h9) rfl dX2_isInheritable_1 ?_
  refine lv_iload_n hx hb dX2_isInheritable_4 rfl (lv_at hl 1 rfl) ?_
  refine ro_ald hx hb hEV hP 3 (j := x) rfl (by omega) (by decide) dX2_isInheritable_5 ?_
  refine lv_if_eq (tgt := 24) hx hb dX2_isInheritable_6 (by decide) (fun c_6 => ?_) (fun c_6 => ?_)
  · skip
    have hE := (if_pos c_6).symm.trans hE
    refine lv_iconst (v := (0 : Int32)) hx hb dX2_isInheritable_24 (by decide) ?_
    exact W.zret hx hb hr rfl (fun t9 ht9 _ => ⟨_, rfl, hE, ht9⟩) (fun _ h9 => by cases h9) dX2_isInheritable_25
  · skip
    have hE := (if_neg c_6).symm.trans hE
    refine lv_aload_n hx hb dX2_isInheritable_9 rfl (lv_at hl 0 rfl) ?_
    refine va_get (D := D) (ci := 2) (v := .ref (a 4)) (C := RX2) (T := TX2) (N := 6) hx hb hts (fun w9 h9 => List.mem_cons_of_mem _ (inT_X2 w9 h9)) hown hK hP 0 rfl rfl 5 (by decide) (hts (.fieldLink RX2 21 "LinkPredictor$Members" "flags" "[I") (List.mem_cons_of_mem _ mw_1_114)) (fun _ h9 => h9) rfl dX2_isInheritable_10 ?_
    refine lv_iload_n hx hb dX2_isInheritable_13 rfl (lv_at hl 1 rfl) ?_
    refine ro_ald hx hb hEV hP 4 (j := x) rfl (by omega) (by decide) dX2_isInheritable_14 ?_
    refine lv_iconst (v := (1 : Int32)) hx hb dX2_isInheritable_15 (by decide) ?_
    refine lv_iand hx hb dX2_isInheritable_16 ?_
    refine lv_if_ne (tgt := 24) hx hb dX2_isInheritable_17 (by decide) (fun c_17 => ?_) (fun c_17 => ?_)
    · skip
      have hE := (if_neg c_17).symm.trans hE
      refine lv_iconst (v := (0 : Int32)) hx hb dX2_isInheritable_24 (by decide) ?_
      exact W.zret hx hb hr rfl (fun t9 ht9 _ => ⟨_, rfl, hE, ht9⟩) (fun _ h9 => by cases h9) dX2_isInheritable_25
    · skip
      have hE := (if_pos c_17).symm.trans hE
      refine lv_iconst (v := (1 : Int32)) hx hb dX2_isInheritable_20 (by decide) ?_
      refine lv_goto (tgt := 25) hx hb dX2_isInheritable_21 (by decide) ?_
      exact W.zret hx hb hr rfl (fun t9 ht9 _ => ⟨_, rfl, hE, ht9⟩) (fun _ h9 => by cases h9) dX2_isInheritable_25
def p_X2_isPresent (g : Nat → Nat → Int32) (γ : Nat → Nat → Int32) (n : Nat) (x : Int32) : Int32 := if (wi x (nI n)) = true then (if (bt (g 4 1) (sN x)) = true then ((0 : Int32)) else ((1 : Int32))) else ((0 : Int32))
theorem pe_X2_isPresent (g : Nat → Nat → Int32) (γ : Nat → Nat → Int32) (n : Nat) (x : Int32) (ok : OKM g γ n)  : p_X2_isPresent g γ n x = b2i (wi x (nI n) && !(goB γ (sN x))) := by
  rw [p_X2_isPresent]
  by_cases c : wi x (nI n) = true
  · obtain ⟨j, hj, e⟩ := wi_of (by have := ok.2.1; omega) c
    rw [if_pos c]
    have hs : sN x = j := by rw [e]; exact sN_nI (by have := ok.2.1; omega)
    rw [c, hs, ok.go hj]
    cases goB γ j <;> rfl
  · rw [if_neg c]
    simp at c
    rw [c]
    rfl
set_option maxHeartbeats 4000000 in
set_option maxRecDepth 100000 in
theorem c_X2_isPresent (l : Launch) (D : va_G) (cI cZ cB cR : ClassId) (a : Nat → Nat) (g : Nat → Nat → Int32) (γ : Nat → Nat → Int32) (n : Nat) (x : Int32) (ok : OKM g γ n)  : RO l yX2_isPresent wsX2_isPresent ({ frames := 1, cells := 0, slots := 0, locals := 21 } : Room) D cI cZ cB cR (wM cI a g) [.ref (a 0), .int x] (b2i (wi x (nI n) && !(goB γ (sN x)))) := by
  have hE : p_X2_isPresent g γ n x = b2i (wi x (nI n) && !(goB γ (sN x))) := pe_X2_isPresent g γ n x ok
  refine Met.ofW (cc := cX2_isPresent) (maxL := 2) (ret := (some .boolean)) (by decide) rfl ?_
  intro p e s m args below meth c s₁ B hml hv
  obtain ⟨hargs, hP, hEV⟩ := hv
  have hx := B.exec
  have hb := B.bytes
  have hr := B.returns
  have hts := atoms_spec (ws := wsX2_isPresent) B.pre
  have hown : s.vm.findClass RX2 = some m.cls := findClass_of_methodNamed B.named
  have hlocks := B.notSynchronized
  have hK := hEV.1
  have hl := lv_entry ([.ref (a 0), .int x]) (n := 2) (Nat.le_of_ble_eq_true rfl)
  rw [show entryFrame m args 2 = entryFrame m ([.ref (a 0), .int x] : List Value).toArray 2 from by rw [hargs], lg_entry_eq]
  generalize (lg_sl ([.ref (a 0), .int x]) ++ List.replicate (2 - (lg_sl ([.ref (a 0), .int x])).length) Slot.unset).toArray = ls at hl ⊢
  have hl : lv_has ls 2 [(0, .ref (a 0)), (1, .int x)] := hl
  rw [p_X2_isPresent] at hE
  have hn30 := ok.2.1
  refine lv_iload_n hx hb dX2_isPresent_0 rfl (lv_at hl 1 rfl) ?_
  refine lv_aload_n hx hb dX2_isPresent_1 rfl (lv_at hl 0 rfl) ?_
  refine va_get (D := D) (ci := 2) (v := .int (g 4 0)) (C := RX2) (T := TX2) (N := 6) hx hb hts (fun w9 h9 => List.mem_cons_of_mem _ (inT_X2 w9 h9)) hown hK hP 0 rfl rfl 0 (by decide) (hts (.fieldLink RX2 24 "LinkPredictor$Members" "size" "I") (List.mem_cons_of_mem _ mw_1_109)) (fun _ h9 => h9) rfl dX2_isPresent_2 ?_
  refine top_eq (ok.1) ?_
  refine ro_SN [.int x, .int (nI n)] [] ⟨hx, hb, hml, hown, hts⟩ (c_X4_isWithin l D cI cZ cB cR x (nI n)) (va_cnB (host := "LinkPredictor") 2 hts (goodC mw_1_58) rfl rfl rfl (hEV.2 (.methodLinkNest RX2 64 yX4_isWithin "LinkPredictor") (by decide +kernel)) (hts (.initialized RX4) (List.mem_cons_of_mem _ mw_1_1)) (by decide +kernel) ⟨Nat.le_of_ble_eq_true rfl, Nat.le_of_ble_eq_true rfl⟩) (hts (.static yX4_isWithin) (List.mem_cons_of_mem _ mw_1_57)) hEV va_P0 rfl hl.1 rfl (Nat.le_of_ble_eq_true rfl) dX2_isPresent_5 ⟨Nat.zero_le _, Nat.zero_le _⟩ ?_
  refine lv_if_eq (tgt := 26) hx hb dX2_isPresent_8 (by decide) (fun c_8 => ?_) (fun c_8 => ?_)
  · have c_8 : ¬ ((wi x (nI n)) = true) := b2i_f c_8
    have hE := (if_neg c_8).symm.trans hE
    refine lv_iconst (v := (0 : Int32)) hx hb dX2_isPresent_26 (by decide) ?_
    exact W.zret hx hb hr rfl (fun t9 ht9 _ => ⟨_, rfl, hE, ht9⟩) (fun _ h9 => by cases h9) dX2_isPresent_27
  · have c_8 : (wi x (nI n)) = true := b2i_t c_8
    have hE := (if_pos c_8).symm.trans hE
    have hxn : sN x < n ∧ x = nI (sN x) := by
      obtain ⟨j, hj, e9⟩ := wi_of (by omega) c_8
      have hs : sN x = j := by rw [e9]; exact sN_nI (by omega)
      exact ⟨by omega, by rw [hs]; exact e9⟩
    have hxn1 := hxn.1
    refine lv_aload_n hx hb dX2_isPresent_11 rfl (lv_at hl 0 rfl) ?_
    refine va_get (D := D) (ci := 2) (v := .int (g 4 1)) (C := RX2) (T := TX2) (N := 6) hx hb hts (fun w9 h9 => List.mem_cons_of_mem _ (inT_X2 w9 h9)) hown hK hP 0 rfl rfl 1 (by decide) (hts (.fieldLink RX2 36 "LinkPredictor$Members" "gone" "I") (List.mem_cons_of_mem _ mw_1_110)) (fun _ h9 => h9) rfl dX2_isPresent_12 ?_
    refine lv_iload_n hx hb dX2_isPresent_15 rfl (lv_at hl 1 rfl) ?_
    refine top_eq ((hxn.2)) ?_
    refine ro_SN [.int (g 4 1), .int (nI (sN x))] [] ⟨hx, hb, hml, hown, hts⟩ (c_X4_contains l D cI cZ cB cR (g 4 1) (sN x) (by omega)) (va_cnB (host := "LinkPredictor") 2 hts (goodC mw_1_48) rfl rfl rfl (hEV.2 (.methodLinkNest RX2 49 yX4_contains "LinkPredictor") (by decide +kernel)) (hts (.initialized RX4) (List.mem_cons_of_mem _ mw_1_1)) (by decide +kernel) ⟨Nat.le_of_ble_eq_true rfl, Nat.le_of_ble_eq_true rfl⟩) (hts (.static yX4_contains) (List.mem_cons_of_mem _ mw_1_47)) hEV va_P0 rfl hl.1 rfl (Nat.le_of_ble_eq_true rfl) dX2_isPresent_16 ⟨Nat.zero_le _, Nat.zero_le _⟩ ?_
    refine lv_if_ne (tgt := 26) hx hb dX2_isPresent_19 (by decide) (fun c_19 => ?_) (fun c_19 => ?_)
    · have c_19 : (bt (g 4 1) (sN x)) = true := b2i_t c_19
      have hE := (if_pos c_19).symm.trans hE
      refine lv_iconst (v := (0 : Int32)) hx hb dX2_isPresent_26 (by decide) ?_
      exact W.zret hx hb hr rfl (fun t9 ht9 _ => ⟨_, rfl, hE, ht9⟩) (fun _ h9 => by cases h9) dX2_isPresent_27
    · have c_19 : ¬ ((bt (g 4 1) (sN x)) = true) := b2i_f c_19
      have hE := (if_neg c_19).symm.trans hE
      refine lv_iconst (v := (1 : Int32)) hx hb dX2_isPresent_22 (by decide) ?_
      refine lv_goto (tgt := 27) hx hb dX2_isPresent_23 (by decide) ?_
      exact W.zret hx hb hr rfl (fun t9 ht9 _ => ⟨_, rfl, hE, ht9⟩) (fun _ h9 => by cases h9) dX2_isPresent_27
def p_X2_find_10 (g : Nat → Nat → Int32) (γ : Nat → Nat → Int32) (n : Nat) (x : Nat) (y : Bool) (z : Int32) : Nat → Nat → Int32
  | 0, _ => 0
  | k + 1, n5 => if n ≤ n5 then ((-2 : Int32)) else (if (g 1 n5) = (kyF y z) then (if (g 0 n5) = (nI x) then (if (bt (g 4 1) n5) = true then (p_X2_find_10 g γ n x y z k (n5 + 1)) else (nI n5)) else (p_X2_find_10 g γ n x y z k (n5 + 1))) else (p_X2_find_10 g γ n x y z k (n5 + 1)))
def p_X2_find (g : Nat → Nat → Int32) (γ : Nat → Nat → Int32) (n : Nat) (x : Nat) (y : Bool) (z : Int32) : Int32 := p_X2_find_10 g γ n x y z 31 0
theorem pl_X2_find (g γ : Nat → Nat → Int32) (n : Nat) (x : Nat) (y : Bool) (z : Int32) (ok : OKM g γ n) : ∀ k i, 30 - i < k → i ≤ n → (∀ j, j < i → ownP γ x (kyF y z) j = false) → p_X2_find_10 g γ n x y z k i = fdI γ n x (kyF y z) := by
  intro k
  have hn30 := ok.2.1
  induction k with
  | zero => intro i h1; omega
  | succ k ih =>
    intro i hk hi h0
    rw [p_X2_find_10]
    by_cases c : n ≤ i
    · rw [if_pos c]
      have e : i = n := by omega
      subst e
      unfold fdI fdN
      rw [fst_none h0]
      simp
    · rw [if_neg c]
      have him : i < n := by omega
      rw [ok.ky him, ok.ow him, ok.go him]
      have step : ownP γ x (kyF y z) i = false → p_X2_find_10 g γ n x y z k (i + 1) = fdI γ n x (kyF y z) := fun q => ih (i + 1) (by omega) (by omega) (fun j hj => by
        rcases Nat.lt_or_ge j i with z9 | z9
        · exact h0 j z9
        · have e : j = i := by omega
          subst e
          exact q)
      by_cases c1 : γ 1 i = kyF y z
      · rw [if_pos c1]
        by_cases c2 : γ 0 i = nI x
        · rw [if_pos c2]
          by_cases c3 : goB γ i = true
          · rw [if_pos c3]; exact step (by simp [ownP, c3])
          · rw [if_neg c3]
            have q : ownP γ x (kyF y z) i = true := by simp [ownP, c1, c2, c3]
            unfold fdI fdN
            rw [fst_at him q h0, if_pos him]
        · rw [if_neg c2]; exact step (by simp [ownP, c2])
      · rw [if_neg c1]; exact step (by simp [ownP, c1])
theorem pe_X2_find (g : Nat → Nat → Int32) (γ : Nat → Nat → Int32) (n : Nat) (x : Nat) (y : Bool) (z : Int32) (ok : OKM g γ n) (hnx : x < 12) : p_X2_find g γ n x y z = fdI γ n x (kyF y z) := pl_X2_find g γ n x y z ok 31 0 (by omega) (by omega) (fun j h => absurd h (Nat.not_lt_zero j))
set_option maxHeartbeats 4000000 in
set_option maxRecDepth 100000 in
theorem c_X2_find (l : Launch) (D : va_G) (cI cZ cB cR : ClassId) (a : Nat → Nat) (g : Nat → Nat → Int32) (γ : Nat → Nat → Int32) (n : Nat) (x : Nat) (y : Bool) (z : Int32) (ok : OKM g γ n) (hnx : x < 12) : RO l yX2_find wsX2_find ({ frames := 1, cells := 0, slots := 0, locals := 21 } : Room) D cI cZ cB cR (wM cI a g) [.ref (a 0), .int (nI x), .int (b2i y), .int z] (fdI γ n x (kyF y z)) := by
  have hE : p_X2_find g γ n x y z = fdI γ n x (kyF y z) := pe_X2_find g γ n x y z ok hnx
  refine Met.ofW (cc := cX2_find) (maxL := 6) (ret := (some .int)) (by decide) rfl ?_
  intro p e s m args below meth c s₁ B hml hv
  obtain ⟨hargs, hP, hEV⟩ := hv
  have hx := B.exec
  have hb := B.bytes
  have hr := B.returns
  have hts := atoms_spec (ws := wsX2_find) B.pre
  have hown : s.vm.findClass RX2 = some m.cls := findClass_of_methodNamed B.named
  have hlocks := B.notSynchronized
  have hK := hEV.1
  have hl := lv_entry ([.ref (a 0), .int (nI x), .int (b2i y), .int z]) (n := 6) (Nat.le_of_ble_eq_true rfl)
  rw [show entryFrame m args 6 = entryFrame m ([.ref (a 0), .int (nI x), .int (b2i y), .int z] : List Value).toArray 6 from by rw [hargs], lg_entry_eq]
  generalize (lg_sl ([.ref (a 0), .int (nI x), .int (b2i y), .int z]) ++ List.replicate (6 - (lg_sl ([.ref (a 0), .int (nI x), .int (b2i y), .int z])).length) Slot.unset).toArray = ls at hl ⊢
  have hl : lv_has ls 6 [(0, .ref (a 0)), (1, .int (nI x)), (2, .int (b2i y)), (3, .int z)] := hl
  rw [p_X2_find] at hE
  have hn30 := ok.2.1
  have key_10 : ∀ (k_10 : Nat) (n5 : Nat) (ls : Array Slot), (30 - n5) < k_10 → n5 ≤ n → lv_has ls 6 [(5, .int (nI n5)), (4, .int (kyF y z)), (0, .ref (a 0)), (1, .int (nI x))] → p_X2_find_10 g γ n x y z k_10 n5 = fdI γ n x (kyF y z) → W p l e (headSpec wsX2_find ({ frames := 1, cells := 0, slots := 0, locals := 21 } : Room)).room s m args below meth c s.heap [] 0 0 (MQ below (vp_Si (fun r => r = fdI γ n x (kyF y z))) args s 0 0 (fun _ => False)) (F0 m 10 ls []) := by
    intro k_10
    induction k_10 with
    | zero => intro n5 ls hm; exact absurd hm (Nat.not_lt_zero _)
    | succ k_10 ih_10 =>
      intro n5 ls hm_10 hi_10_0 hl hE
      rw [p_X2_find_10] at hE
      refine lv_iload hx hb dX2_find_10 (lv_at hl 0 rfl) ?_
      refine lv_aload_n hx hb dX2_find_12 rfl (lv_at hl 2 rfl) ?_
      refine va_get (D := D) (ci := 2) (v := .int (g 4 0)) (C := RX2) (T := TX2) (N := 6) hx hb hts (fun w9 h9 => List.mem_cons_of_mem _ (inT_X2 w9 h9)) hown hK hP 0 rfl rfl 0 (by decide) (hts (.fieldLink RX2 24 "LinkPredictor$Members" "size" "I") (List.mem_cons_of_mem _ mw_1_109)) (fun _ h9 => h9) rfl dX2_find_13 ?_
      refine top_eq (ok.1) ?_
      refine lv_icmp_ge (tgt := 63) hx hb dX2_find_16 (by decide) (fun c_16 => ?_) (fun c_16 => ?_)
      · have c_16 : n ≤ n5 := (nI_leI (a := n) (b := n5) (by omega) (by omega)).mp c_16
        have hE := (if_pos c_16).symm.trans hE
        refine lv_bipush (v := (-2 : Int32)) hx hb dX2_find_63 (by decide) ?_
        exact W.iret hx hb hr (fun t9 ht9 _ => ⟨_, rfl, hE, ht9⟩) (fun _ h9 => by cases h9) dX2_find_65
      · have c_16 : ¬ (n ≤ n5) := fun q9 => c_16 ((nI_leI (a := n) (b := n5) (by omega) (by omega)).mpr q9)
        have hE := (if_neg c_16).symm.trans hE
        refine lv_aload_n hx hb dX2_find_19 rfl (lv_at hl 2 rfl) ?_
        refine va_get (D := D) (ci := 2) (v := .ref (a 2)) (C := RX2) (T := TX2) (N := 6) hx hb hts (fun w9 h9 => List.mem_cons_of_mem _ (inT_X2 w9 h9)) hown hK hP 0 rfl rfl 3 (by decide) (hts (.fieldLink RX2 15 "LinkPredictor$Members" "keys" "[I") (List.mem_cons_of_mem _ mw_1_112)) (fun _ h9 => h9) rfl dX2_find_20 ?_
        refine lv_iload hx hb dX2_find_23 (lv_at hl 0 rfl) ?_
        refine ro_ald hx hb hEV hP 2 (j := n5) rfl (by omega) (by decide) dX2_find_25 ?_
        refine lv_iload hx hb dX2_find_26 (lv_at hl 1 rfl) ?_
        refine lv_icmp_ne (tgt := 57) hx hb dX2_find_28 (by decide) (fun c_28 => ?_) (fun c_28 => ?_)
        · skip
          have hE := (if_neg c_28).symm.trans hE
          refine lv_iinc (v := nI (n5 + 1)) (lv' := [(5, .int (nI (n5 + 1))), (4, .int (kyF y z)), (0, .ref (a 0)), (1, .int (nI x))]) hx hb dX2_find_57 hl (k := 0) rfl (nI_1 _) (by decide) rfl (fun ls hl => ?_)
          refine lv_goto (tgt := 10) hx hb dX2_find_60 (by decide) ?_
          exact ih_10 (n5 + 1) ls (by omega) (by omega) (lv_sub hl [0, 1, 2, 3] rfl) hE
        · skip
          have hE := (if_pos c_28).symm.trans hE
          refine lv_aload_n hx hb dX2_find_31 rfl (lv_at hl 2 rfl) ?_
          refine va_get (D := D) (ci := 2) (v := .ref (a 1)) (C := RX2) (T := TX2) (N := 6) hx hb hts (fun w9 h9 => List.mem_cons_of_mem _ (inT_X2 w9 h9)) hown hK hP 0 rfl rfl 2 (by decide) (hts (.fieldLink RX2 9 "LinkPredictor$Members" "owners" "[I") (List.mem_cons_of_mem _ mw_1_111)) (fun _ h9 => h9) rfl dX2_find_32 ?_
          refine lv_iload hx hb dX2_find_35 (lv_at hl 0 rfl) ?_
          refine ro_ald hx hb hEV hP 1 (j := n5) rfl (by omega) (by decide) dX2_find_37 ?_
          refine lv_iload_n hx hb dX2_find_38 rfl (lv_at hl 3 rfl) ?_
          refine lv_icmp_ne (tgt := 57) hx hb dX2_find_39 (by decide) (fun c_39 => ?_) (fun c_39 => ?_)
          · skip
            have hE := (if_neg c_39).symm.trans hE
            refine lv_iinc (v := nI (n5 + 1)) (lv' := [(5, .int (nI (n5 + 1))), (4, .int (kyF y z)), (0, .ref (a 0)), (1, .int (nI x))]) hx hb dX2_find_57 hl (k := 0) rfl (nI_1 _) (by decide) rfl (fun ls hl => ?_)
            refine lv_goto (tgt := 10) hx hb dX2_find_60 (by decide) ?_
            exact ih_10 (n5 + 1) ls (by omega) (by omega) (lv_sub hl [0, 1, 2, 3] rfl) hE
          · skip
            have hE := (if_pos c_39).symm.trans hE
            refine lv_aload_n hx hb dX2_find_42 rfl (lv_at hl 2 rfl) ?_
            refine va_get (D := D) (ci := 2) (v := .int (g 4 1)) (C := RX2) (T := TX2) (N := 6) hx hb hts (fun w9 h9 => List.mem_cons_of_mem _ (inT_X2 w9 h9)) hown hK hP 0 rfl rfl 1 (by decide) (hts (.fieldLink RX2 36 "LinkPredictor$Members" "gone" "I") (List.mem_cons_of_mem _ mw_1_110)) (fun _ h9 => h9) rfl dX2_find_43 ?_
            refine lv_iload hx hb dX2_find_46 (lv_at hl 0 rfl) ?_
            refine ro_SN [.int (g 4 1), .int (nI n5)] [] ⟨hx, hb, hml, hown, hts⟩ (c_X4_contains l D cI cZ cB cR (g 4 1) n5 (by omega)) (va_cnB (host := "LinkPredictor") 2 hts (goodC mw_1_48) rfl rfl rfl (hEV.2 (.methodLinkNest RX2 49 yX4_contains "LinkPredictor") (by decide +kernel)) (hts (.initialized RX4) (List.mem_cons_of_mem _ mw_1_1)) (by decide +kernel) ⟨Nat.le_of_ble_eq_true rfl, Nat.le_of_ble_eq_true rfl⟩) (hts (.static yX4_contains) (List.mem_cons_of_mem _ mw_1_47)) hEV va_P0 rfl hl.1 rfl (Nat.le_of_ble_eq_true rfl) dX2_find_48 ⟨Nat.zero_le _, Nat.zero_le _⟩ ?_
            refine lv_if_ne (tgt := 57) hx hb dX2_find_51 (by decide) (fun c_51 => ?_) (fun c_51 => ?_)
            · have c_51 : (bt (g 4 1) n5) = true := b2i_t c_51
              have hE := (if_pos c_51).symm.trans hE
              refine lv_iinc (v := nI (n5 + 1)) (lv' := [(5, .int (nI (n5 + 1))), (4, .int (kyF y z)), (0, .ref (a 0)), (1, .int (nI x))]) hx hb dX2_find_57 hl (k := 0) rfl (nI_1 _) (by decide) rfl (fun ls hl => ?_)
              refine lv_goto (tgt := 10) hx hb dX2_find_60 (by decide) ?_
              exact ih_10 (n5 + 1) ls (by omega) (by omega) (lv_sub hl [0, 1, 2, 3] rfl) hE
            · have c_51 : ¬ ((bt (g 4 1) n5) = true) := b2i_f c_51
              have hE := (if_neg c_51).symm.trans hE
              refine lv_iload hx hb dX2_find_54 (lv_at hl 0 rfl) ?_
              exact W.iret hx hb hr (fun t9 ht9 _ => ⟨_, rfl, hE, ht9⟩) (fun _ h9 => by cases h9) dX2_find_56
  refine lv_iload_n hx hb dX2_find_0 rfl (lv_at hl 2 rfl) ?_
  refine lv_iload_n hx hb dX2_find_1 rfl (lv_at hl 3 rfl) ?_
  refine ro_S [.int (b2i y), .int z] [] ⟨hx, hb, hml, hown, hts⟩ (c_X2_keyOf l D cI cZ cB cR y z) (va_cwS 2 hts (goodP (ps := [.methodLink RX2 28 yX2_keyOf, .static yX2_keyOf, .initialized RX2]) (all3 mw_1_226 mw_1_227 mw_1_4) mw_1_228) rfl rfl rfl (by decide +kernel) ⟨Nat.le_of_ble_eq_true rfl, Nat.le_of_ble_eq_true rfl⟩) hEV va_P0 rfl hl.1 rfl (Nat.le_of_ble_eq_true rfl) dX2_find_2 ⟨Nat.zero_le _, Nat.zero_le _⟩ ?_
  refine lv_istore (lv' := [(4, .int (kyF y z)), (0, .ref (a 0)), (1, .int (nI x)), (2, .int (b2i y)), (3, .int z)]) hx hb dX2_find_5 hl (by decide) rfl (fun ls hl => ?_)
  refine lv_iconst (v := (0 : Int32)) hx hb dX2_find_7 (by decide) ?_
  refine lv_istore (lv' := [(5, .int (0 : Int32)), (4, .int (kyF y z)), (0, .ref (a 0)), (1, .int (nI x)), (2, .int (b2i y)), (3, .int z)]) hx hb dX2_find_8 hl (by decide) rfl (fun ls hl => ?_)
  exact key_10 31 0 ls (by omega) (by omega) (lv_sub hl [0, 1, 2, 3] rfl) hE
def p_X2_ownersOfInheritable_11 (g : Nat → Nat → Int32) (γ : Nat → Nat → Int32) (n : Nat) (x : Int32) : Nat → Nat → Int32 → Int32
  | 0, _, _ => 0
  | k + 1, n4, v3 => if n ≤ n4 then (v3) else (if (g 1 n4) = (kyF true x) then (if (bt (g 4 1) n4) = true then (p_X2_ownersOfInheritable_11 g γ n x k (n4 + 1) v3) else (if (inhB γ n4) = true then (p_X2_ownersOfInheritable_11 g γ n x k (n4 + 1) (v3 ||| (bm (sN (γ 0 n4))))) else (p_X2_ownersOfInheritable_11 g γ n x k (n4 + 1) v3))) else (p_X2_ownersOfInheritable_11 g γ n x k (n4 + 1) v3))
def p_X2_ownersOfInheritable (g : Nat → Nat → Int32) (γ : Nat → Nat → Int32) (n : Nat) (x : Int32) : Int32 := p_X2_ownersOfInheritable_11 g γ n x 31 0 (0 : Int32)
/-- the owners of what can be inherited, of a key -/
def owI (γ : Nat → Nat → Int32) (n : Nat) (key : Int32) : Int32 := orF (fun m => decide (γ 1 m = key) && !(goB γ m) && inhB γ m) (fun m => sN (γ 0 m)) n
theorem pl_X2_ooi (g γ : Nat → Nat → Int32) (n : Nat) (x : Int32) (ok : OKM g γ n) (wf : WFM γ n) : ∀ k i v, 30 - i < k → i ≤ n → v = orF (fun m => decide (γ 1 m = kyF true x) && !(goB γ m) && inhB γ m) (fun m => sN (γ 0 m)) i → p_X2_ownersOfInheritable_11 g γ n x k i v = owI γ n (kyF true x) := by
  intro k
  have hn30 := ok.2.1
  induction k with
  | zero => intro i v h1; omega
  | succ k ih =>
    intro i v hk hi hv
    rw [p_X2_ownersOfInheritable_11]
    by_cases c : n ≤ i
    · rw [if_pos c]
      have e : i = n := by omega
      subst e
      exact hv
    · rw [if_neg c]
      have him : i < n := by omega
      rw [ok.ky him, ok.go him]
      have step : ∀ w, w = orF (fun m => decide (γ 1 m = kyF true x) && !(goB γ m) && inhB γ m) (fun m => sN (γ 0 m)) (i + 1) → p_X2_ownersOfInheritable_11 g γ n x k (i + 1) w = owI γ n (kyF true x) := fun w hw => ih (i + 1) w (by omega) (by omega) hw
      by_cases c1 : γ 1 i = kyF true x
      · rw [if_pos c1]
        by_cases c2 : goB γ i = true
        · rw [if_pos c2]; exact step _ (by rw [orF_f (by simp [c2])]; exact hv)
        · rw [if_neg c2]
          by_cases c3 : inhB γ i = true
          · rw [if_pos c3]; exact step _ (by rw [orF_t (by simp [c1, c2, c3]), hv])
          · rw [if_neg c3]; exact step _ (by rw [orF_f (by simp [c3])]; exact hv)
      · rw [if_neg c1]; exact step _ (by rw [orF_f (by simp [c1])]; exact hv)
theorem pe_X2_ownersOfInheritable (g : Nat → Nat → Int32) (γ : Nat → Nat → Int32) (n : Nat) (x : Int32) (ok : OKM g γ n) (wf : WFM γ n)  : p_X2_ownersOfInheritable g γ n x = owI γ n (kyF true x) := pl_X2_ooi g γ n x ok wf 31 0 0 (by omega) (by omega) rfl
set_option maxHeartbeats 4000000 in
set_option maxRecDepth 100000 in
theorem c_X2_ownersOfInheritable (l : Launch) (D : va_G) (cI cZ cB cR : ClassId) (a : Nat → Nat) (g : Nat → Nat → Int32) (γ : Nat → Nat → Int32) (n : Nat) (x : Int32) (ok : OKM g γ n) (wf : WFM γ n)  : RO l yX2_ownersOfInheritable wsX2_ownersOfInheritable ({ frames := 1, cells := 0, slots := 0, locals := 21 } : Room) D cI cZ cB cR (wM cI a g) [.ref (a 0), .int x] (owI γ n (kyF true x)) := by
  have hE : p_X2_ownersOfInheritable g γ n x = owI γ n (kyF true x) := pe_X2_ownersOfInheritable g γ n x ok wf
  refine Met.ofW (cc := cX2_ownersOfInheritable) (maxL := 5) (ret := (some .int)) (by decide) rfl ?_
  intro p e s m args below meth c s₁ B hml hv
  obtain ⟨hargs, hP, hEV⟩ := hv
  have hx := B.exec
  have hb := B.bytes
  have hr := B.returns
  have hts := atoms_spec (ws := wsX2_ownersOfInheritable) B.pre
  have hown : s.vm.findClass RX2 = some m.cls := findClass_of_methodNamed B.named
  have hlocks := B.notSynchronized
  have hK := hEV.1
  have hl := lv_entry ([.ref (a 0), .int x]) (n := 5) (Nat.le_of_ble_eq_true rfl)
  rw [show entryFrame m args 5 = entryFrame m ([.ref (a 0), .int x] : List Value).toArray 5 from by rw [hargs], lg_entry_eq]
  generalize (lg_sl ([.ref (a 0), .int x]) ++ List.replicate (5 - (lg_sl ([.ref (a 0), .int x])).length) Slot.unset).toArray = ls at hl ⊢
  have hl : lv_has ls 5 [(0, .ref (a 0)), (1, .int x)] := hl
  rw [p_X2_ownersOfInheritable] at hE
  have hn30 := ok.2.1
  have key_11 : ∀ (k_11 : Nat) (n4 : Nat) (v3 : Int32) (ls : Array Slot), (30 - n4) < k_11 → n4 ≤ n → lv_has ls 5 [(4, .int (nI n4)), (3, .int v3), (2, .int (kyF true x)), (0, .ref (a 0))] → p_X2_ownersOfInheritable_11 g γ n x k_11 n4 v3 = owI γ n (kyF true x) → W p l e (headSpec wsX2_ownersOfInheritable ({ frames := 1, cells := 0, slots := 0, locals := 21 } : Room)).room s m args below meth c s.heap [] 0 0 (MQ below (vp_Si (fun r => r = owI γ n (kyF true x))) args s 0 0 (fun _ => False)) (F0 m 11 ls []) := by
    intro k_11
    induction k_11 with
    | zero => intro n4 v3 ls hm; exact absurd hm (Nat.not_lt_zero _)
    | succ k_11 ih_11 =>
      intro n4 v3 ls hm_11 hi_11_0 hl hE
      rw [p_X2_ownersOfInheritable_11] at hE
      refine lv_iload hx hb dX2_ownersOfInheritable_11 (lv_at hl 0 rfl) ?_
      refine lv_aload_n hx hb dX2_ownersOfInheritable_13 rfl (lv_at hl 3 rfl) ?_
      refine va_get (D := D) (ci := 2) (v := .int (g 4 0)) (C := RX2) (T := TX2) (N := 6) hx hb hts (fun w9 h9 => List.mem_cons_of_mem _ (inT_X2 w9 h9)) hown hK hP 0 rfl rfl 0 (by decide) (hts (.fieldLink RX2 24 "LinkPredictor$Members" "size" "I") (List.mem_cons_of_mem _ mw_1_109)) (fun _ h9 => h9) rfl dX2_ownersOfInheritable_14 ?_
      refine top_eq (ok.1) ?_
      refine lv_icmp_ge (tgt := 71) hx hb dX2_ownersOfInheritable_17 (by decide) (fun c_17 => ?_) (fun c_17 => ?_)
      · have c_17 : n ≤ n4 := (nI_leI (a := n) (b := n4) (by omega) (by omega)).mp c_17
        have hE := (if_pos c_17).symm.trans hE
        refine lv_iload_n hx hb dX2_ownersOfInheritable_71 rfl (lv_at hl 1 rfl) ?_
        exact W.iret hx hb hr (fun t9 ht9 _ => ⟨_, rfl, hE, ht9⟩) (fun _ h9 => by cases h9) dX2_ownersOfInheritable_72
      · have c_17 : ¬ (n ≤ n4) := fun q9 => c_17 ((nI_leI (a := n) (b := n4) (by omega) (by omega)).mpr q9)
        have hE := (if_neg c_17).symm.trans hE
        refine lv_aload_n hx hb dX2_ownersOfInheritable_20 rfl (lv_at hl 3 rfl) ?_
        refine va_get (D := D) (ci := 2) (v := .ref (a 2)) (C := RX2) (T := TX2) (N := 6) hx hb hts (fun w9 h9 => List.mem_cons_of_mem _ (inT_X2 w9 h9)) hown hK hP 0 rfl rfl 3 (by decide) (hts (.fieldLink RX2 15 "LinkPredictor$Members" "keys" "[I") (List.mem_cons_of_mem _ mw_1_112)) (fun _ h9 => h9) rfl dX2_ownersOfInheritable_21 ?_
        refine lv_iload hx hb dX2_ownersOfInheritable_24 (lv_at hl 0 rfl) ?_
        refine ro_ald hx hb hEV hP 2 (j := n4) rfl (by omega) (by decide) dX2_ownersOfInheritable_26 ?_
        refine lv_iload_n hx hb dX2_ownersOfInheritable_27 rfl (lv_at hl 2 rfl) ?_
        refine lv_icmp_ne (tgt := 65) hx hb dX2_ownersOfInheritable_28 (by decide) (fun c_28 => ?_) (fun c_28 => ?_)
        · skip
          have hE := (if_neg c_28).symm.trans hE
          refine lv_iinc (v := nI (n4 + 1)) (lv' := [(4, .int (nI (n4 + 1))), (3, .int v3), (2, .int (kyF true x)), (0, .ref (a 0))]) hx hb dX2_ownersOfInheritable_65 hl (k := 0) rfl (nI_1 _) (by decide) rfl (fun ls hl => ?_)
          refine lv_goto (tgt := 11) hx hb dX2_ownersOfInheritable_68 (by decide) ?_
          exact ih_11 (n4 + 1) v3 ls (by omega) (by omega) (lv_sub hl [0, 1, 2, 3] rfl) hE
        · skip
          have hE := (if_pos c_28).symm.trans hE
          refine lv_aload_n hx hb dX2_ownersOfInheritable_31 rfl (lv_at hl 3 rfl) ?_
          refine va_get (D := D) (ci := 2) (v := .int (g 4 1)) (C := RX2) (T := TX2) (N := 6) hx hb hts (fun w9 h9 => List.mem_cons_of_mem _ (inT_X2 w9 h9)) hown hK hP 0 rfl rfl 1 (by decide) (hts (.fieldLink RX2 36 "LinkPredictor$Members" "gone" "I") (List.mem_cons_of_mem _ mw_1_110)) (fun _ h9 => h9) rfl dX2_ownersOfInheritable_32 ?_
          refine lv_iload hx hb dX2_ownersOfInheritable_35 (lv_at hl 0 rfl) ?_
          refine ro_SN [.int (g 4 1), .int (nI n4)] [] ⟨hx, hb, hml, hown, hts⟩ (c_X4_contains l D cI cZ cB cR (g 4 1) n4 (by omega)) (va_cnB (host := "LinkPredictor") 2 hts (goodC mw_1_48) rfl rfl rfl (hEV.2 (.methodLinkNest RX2 49 yX4_contains "LinkPredictor") (by decide +kernel)) (hts (.initialized RX4) (List.mem_cons_of_mem _ mw_1_1)) (by decide +kernel) ⟨Nat.le_of_ble_eq_true rfl, Nat.le_of_ble_eq_true rfl⟩) (hts (.static yX4_contains) (List.mem_cons_of_mem _ mw_1_47)) hEV va_P0 rfl hl.1 rfl (Nat.le_of_ble_eq_true rfl) dX2_ownersOfInheritable_37 ⟨Nat.zero_le _, Nat.zero_le _⟩ ?_
          refine lv_if_ne (tgt := 65) hx hb dX2_ownersOfInheritable_40 (by decide) (fun c_40 => ?_) (fun c_40 => ?_)
          · have c_40 : (bt (g 4 1) n4) = true := b2i_t c_40
            have hE := (if_pos c_40).symm.trans hE
            refine lv_iinc (v := nI (n4 + 1)) (lv' := [(4, .int (nI (n4 + 1))), (3, .int v3), (2, .int (kyF true x)), (0, .ref (a 0))]) hx hb dX2_ownersOfInheritable_65 hl (k := 0) rfl (nI_1 _) (by decide) rfl (fun ls hl => ?_)
            refine lv_goto (tgt := 11) hx hb dX2_ownersOfInheritable_68 (by decide) ?_
            exact ih_11 (n4 + 1) v3 ls (by omega) (by omega) (lv_sub hl [0, 1, 2, 3] rfl) hE
          · have c_40 : ¬ ((bt (g 4 1) n4) = true) := b2i_f c_40
            have hE := (if_neg c_40).symm.trans hE
            refine lv_aload_n hx hb dX2_ownersOfInheritable_43 rfl (lv_at hl 3 rfl) ?_
            refine lv_iload hx hb dX2_ownersOfInheritable_44 (lv_at hl 0 rfl) ?_
            refine ro_V [.int (nI n4)] [] ⟨hx, hb, hml, hown, hts⟩ (c_X2_isInheritable l D cI cZ cB cR a g γ n n4 ok (by omega)) (cwV (C := RX2) 1 hts (goodP (ps := [.methodLink RX2 53 yX2_isInheritable, .instanceMethod yX2_isInheritable, .selects RX2 yX2_isInheritable yX2_isInheritable, .initialized RX2]) (all4 mw_2_142 mw_2_143 mw_2_144 mw_1_4) mw_2_145) rfl rfl rfl (by decide +kernel) ⟨Nat.le_of_ble_eq_true rfl, Nat.le_of_ble_eq_true rfl⟩) hEV hP 0 rfl rfl rfl hl.1 rfl (Nat.le_of_ble_eq_true rfl) dX2_ownersOfInheritable_46 ⟨Nat.zero_le _, Nat.zero_le _⟩ ?_
            refine lv_if_eq (tgt := 65) hx hb dX2_ownersOfInheritable_49 (by decide) (fun c_49 => ?_) (fun c_49 => ?_)
            · have c_49 : ¬ ((inhB γ n4) = true) := b2i_f c_49
              have hE := (if_neg c_49).symm.trans hE
              refine lv_iinc (v := nI (n4 + 1)) (lv' := [(4, .int (nI (n4 + 1))), (3, .int v3), (2, .int (kyF true x)), (0, .ref (a 0))]) hx hb dX2_ownersOfInheritable_65 hl (k := 0) rfl (nI_1 _) (by decide) rfl (fun ls hl => ?_)
              refine lv_goto (tgt := 11) hx hb dX2_ownersOfInheritable_68 (by decide) ?_
              exact ih_11 (n4 + 1) v3 ls (by omega) (by omega) (lv_sub hl [0, 1, 2, 3] rfl) hE
            · have c_49 : (inhB γ n4) = true := b2i_t c_49
              have hE := (if_pos c_49).symm.trans hE
              refine lv_iload_n hx hb dX2_ownersOfInheritable_52 rfl (lv_at hl 1 rfl) ?_
              refine lv_aload_n hx hb dX2_ownersOfInheritable_53 rfl (lv_at hl 3 rfl) ?_
              refine va_get (D := D) (ci := 2) (v := .ref (a 1)) (C := RX2) (T := TX2) (N := 6) hx hb hts (fun w9 h9 => List.mem_cons_of_mem _ (inT_X2 w9 h9)) hown hK hP 0 rfl rfl 2 (by decide) (hts (.fieldLink RX2 9 "LinkPredictor$Members" "owners" "[I") (List.mem_cons_of_mem _ mw_1_111)) (fun _ h9 => h9) rfl dX2_ownersOfInheritable_54 ?_
              refine lv_iload hx hb dX2_ownersOfInheritable_57 (lv_at hl 0 rfl) ?_
              refine ro_ald hx hb hEV hP 1 (j := n4) rfl (by omega) (by decide) dX2_ownersOfInheritable_59 ?_
              refine top_eq ((ok.ow (by omega)).trans (wf n4 (by omega)).2) ?_
              have how := (wf n4 (by omega)).1
              refine ro_SN [.int (nI (sN (γ 0 n4)))] [.int v3] ⟨hx, hb, hml, hown, hts⟩ (c_X4_bit l D cI cZ cB cR (sN (γ 0 n4)) (by omega)) (va_cnB (host := "LinkPredictor") 1 hts (goodC mw_1_33) rfl rfl rfl (hEV.2 (.methodLinkNest RX2 39 yX4_bit "LinkPredictor") (by decide +kernel)) (hts (.initialized RX4) (List.mem_cons_of_mem _ mw_1_1)) (by decide +kernel) ⟨Nat.le_of_ble_eq_true rfl, Nat.le_of_ble_eq_true rfl⟩) (hts (.static yX4_bit) (List.mem_cons_of_mem _ mw_1_32)) hEV va_P0 rfl hl.1 rfl (Nat.le_of_ble_eq_true rfl) dX2_ownersOfInheritable_60 ⟨Nat.zero_le _, Nat.zero_le _⟩ ?_
              refine lv_ior hx hb dX2_ownersOfInheritable_63 ?_
              refine lv_istore_n (lv' := [(3, .int (v3 ||| (bm (sN (γ 0 n4))))), (4, .int (nI n4)), (2, .int (kyF true x)), (0, .ref (a 0))]) hx hb dX2_ownersOfInheritable_64 rfl hl (by decide) rfl (fun ls hl => ?_)
              refine lv_iinc (v := nI (n4 + 1)) (lv' := [(4, .int (nI (n4 + 1))), (3, .int (v3 ||| (bm (sN (γ 0 n4))))), (2, .int (kyF true x)), (0, .ref (a 0))]) hx hb dX2_ownersOfInheritable_65 hl (k := 1) rfl (nI_1 _) (by decide) rfl (fun ls hl => ?_)
              refine lv_goto (tgt := 11) hx hb dX2_ownersOfInheritable_68 (by decide) ?_
              exact ih_11 (n4 + 1) (v3 ||| (bm (sN (γ 0 n4)))) ls (by omega) (by omega) (lv_sub hl [0, 1, 2, 3] rfl) hE
  refine lv_iconst (v := (1 : Int32)) hx hb dX2_ownersOfInheritable_0 (by decide) ?_
  refine lv_iload_n hx hb dX2_ownersOfInheritable_1 rfl (lv_at hl 1 rfl) ?_
  refine ro_S [.int (1 : Int32), .int x] [] ⟨hx, hb, hml, hown, hts⟩ (c_X2_keyOf l D cI cZ cB cR true x) (va_cwS 2 hts (goodP (ps := [.methodLink RX2 28 yX2_keyOf, .static yX2_keyOf, .initialized RX2]) (all3 mw_1_226 mw_1_227 mw_1_4) mw_1_228) rfl rfl rfl (by decide +kernel) ⟨Nat.le_of_ble_eq_true rfl, Nat.le_of_ble_eq_true rfl⟩) hEV va_P0 rfl hl.1 rfl (Nat.le_of_ble_eq_true rfl) dX2_ownersOfInheritable_2 ⟨Nat.zero_le _, Nat.zero_le _⟩ ?_
  refine lv_istore_n (lv' := [(2, .int (kyF true x)), (0, .ref (a 0)), (1, .int x)]) hx hb dX2_ownersOfInheritable_5 rfl hl (by decide) rfl (fun ls hl => ?_)
  refine lv_iconst (v := (0 : Int32)) hx hb dX2_ownersOfInheritable_6 (by decide) ?_
  refine lv_istore_n (lv' := [(3, .int (0 : Int32)), (2, .int (kyF true x)), (0, .ref (a 0)), (1, .int x)]) hx hb dX2_ownersOfInheritable_7 rfl hl (by decide) rfl (fun ls hl => ?_)
  refine lv_iconst (v := (0 : Int32)) hx hb dX2_ownersOfInheritable_8 (by decide) ?_
  refine lv_istore (lv' := [(4, .int (0 : Int32)), (3, .int (0 : Int32)), (2, .int (kyF true x)), (0, .ref (a 0)), (1, .int x)]) hx hb dX2_ownersOfInheritable_9 hl (by decide) rfl (fun ls hl => ?_)
  exact key_11 31 0 (0 : Int32) ls (by omega) (by omega) (lv_sub hl [0, 1, 2, 3] rfl) hE
def p_X2_countAbstractMethods_4 (g : Nat → Nat → Int32) (γ : Nat → Nat → Int32) (n : Nat)  : Nat → Nat → Int32 → Int32
  | 0, _, _ => 0
  | k + 1, n2, v1 => if n ≤ n2 then (v1) else (if (g 1 n2) < (15 : Int32) then (p_X2_countAbstractMethods_4 g γ n k (n2 + 1) (v1 + (0 : Int32))) else (if (bt (γ 3 n2) 1) = true then (if (bt (g 4 1) n2) = true then (p_X2_countAbstractMethods_4 g γ n k (n2 + 1) (v1 + (0 : Int32))) else (p_X2_countAbstractMethods_4 g γ n k (n2 + 1) (v1 + (1 : Int32)))) else (p_X2_countAbstractMethods_4 g γ n k (n2 + 1) (v1 + (0 : Int32)))))
def p_X2_countAbstractMethods (g : Nat → Nat → Int32) (γ : Nat → Nat → Int32) (n : Nat)  : Int32 := p_X2_countAbstractMethods_4 g γ n 31 0 (0 : Int32)
def abM (γ : Nat → Nat → Int32) (m : Nat) : Bool := !decide (γ 1 m < 15) && bt (γ 3 m) 1 && !(goB γ m)
theorem pl_X2_cam (g γ : Nat → Nat → Int32) (n : Nat) (ok : OKM g γ n) : ∀ k i v, 30 - i < k → i ≤ n → v = nI (cnF (abM γ) i) → p_X2_countAbstractMethods_4 g γ n k i v = nI (cnF (abM γ) n) := by
  intro k
  have hn30 := ok.2.1
  induction k with
  | zero => intro i v h1; omega
  | succ k ih =>
    intro i v hk hi hv
    rw [p_X2_countAbstractMethods_4]
    by_cases c : n ≤ i
    · rw [if_pos c]
      have e : i = n := by omega
      subst e
      exact hv
    · rw [if_neg c]
      have him : i < n := by omega
      rw [ok.ky him, ok.go him]
      have s0 : abM γ i = false → p_X2_countAbstractMethods_4 g γ n k (i + 1) (v + 0) = nI (cnF (abM γ) n) := fun q => ih (i + 1) _ (by omega) (by omega) (by rw [cnF_f (by simp [q]), hv]; exact Int32.add_zero _)
      have s1 : abM γ i = true → p_X2_countAbstractMethods_4 g γ n k (i + 1) (v + 1) = nI (cnF (abM γ) n) := fun q => ih (i + 1) _ (by omega) (by omega) (by rw [cnF_t q, hv]; exact nI_1 _)
      by_cases c1 : γ 1 i < 15
      · rw [if_pos c1]; exact s0 (by simp [abM, c1])
      · rw [if_neg c1]
        by_cases c2 : bt (γ 3 i) 1 = true
        · rw [if_pos c2]
          by_cases c3 : goB γ i = true
          · rw [if_pos c3]; exact s0 (by simp [abM, c3])
          · rw [if_neg c3]; exact s1 (by simp [abM, c1, c2, c3])
        · rw [if_neg c2]; exact s0 (by simp [abM, c2])
theorem pe_X2_countAbstractMethods (g : Nat → Nat → Int32) (γ : Nat → Nat → Int32) (n : Nat)  (ok : OKM g γ n)  : p_X2_countAbstractMethods g γ n = nI (cnF (abM γ) n) := pl_X2_cam g γ n ok 31 0 0 (by omega) (by omega) nI_0.symm
set_option maxHeartbeats 4000000 in
set_option maxRecDepth 100000 in
theorem c_X2_countAbstractMethods (l : Launch) (D : va_G) (cI cZ cB cR : ClassId) (a : Nat → Nat) (g : Nat → Nat → Int32) (γ : Nat → Nat → Int32) (n : Nat)  (ok : OKM g γ n)  : RO l yX2_countAbstractMethods wsX2_countAbstractMethods ({ frames := 1, cells := 0, slots := 0, locals := 21 } : Room) D cI cZ cB cR (wM cI a g) [.ref (a 0)] (nI (cnF (abM γ) n)) := by
  have hE : p_X2_countAbstractMethods g γ n = nI (cnF (abM γ) n) := pe_X2_countAbstractMethods g γ n ok
  refine Met.ofW (cc := cX2_countAbstractMethods) (maxL := 3) (ret := (some .int)) (by decide) rfl ?_
  intro p e s m args below meth c s₁ B hml hv
  obtain ⟨hargs, hP, hEV⟩ := hv
  have hx := B.exec
  have hb := B.bytes
  have hr := B.returns
  have hts := atoms_spec (ws := wsX2_countAbstractMethods) B.pre
  have hown : s.vm.findClass RX2 = some m.cls := findClass_of_methodNamed B.named
  have hlocks := B.notSynchronized
  have hK := hEV.1
  have hl := lv_entry ([.ref (a 0)]) (n := 3) (Nat.le_of_ble_eq_true rfl)
  rw [show entryFrame m args 3 = entryFrame m ([.ref (a 0)] : List Value).toArray 3 from by rw [hargs], lg_entry_eq]
  generalize (lg_sl ([.ref (a 0)]) ++ List.replicate (3 - (lg_sl ([.ref (a 0)])).length) Slot.unset).toArray = ls at hl ⊢
  have hl : lv_has ls 3 [(0, .ref (a 0))] := hl
  rw [p_X2_countAbstractMethods] at hE
  have hn30 := ok.2.1
  have key_4 : ∀ (k_4 : Nat) (n2 : Nat) (v1 : Int32) (ls : Array Slot), (30 - n2) < k_4 → n2 ≤ n → lv_has ls 3 [(2, .int (nI n2)), (1, .int v1), (0, .ref (a 0))] → p_X2_countAbstractMethods_4 g γ n k_4 n2 v1 = nI (cnF (abM γ) n) → W p l e (headSpec wsX2_countAbstractMethods ({ frames := 1, cells := 0, slots := 0, locals := 21 } : Room)).room s m args below meth c s.heap [] 0 0 (MQ below (vp_Si (fun r => r = nI (cnF (abM γ) n))) args s 0 0 (fun _ => False)) (F0 m 4 ls []) := by
    intro k_4
    induction k_4 with
    | zero => intro n2 v1 ls hm; exact absurd hm (Nat.not_lt_zero _)
    | succ k_4 ih_4 =>
      intro n2 v1 ls hm_4 hi_4_0 hl hE
      rw [p_X2_countAbstractMethods_4] at hE
      refine lv_iload_n hx hb dX2_countAbstractMethods_4 rfl (lv_at hl 0 rfl) ?_
      refine lv_aload_n hx hb dX2_countAbstractMethods_5 rfl (lv_at hl 2 rfl) ?_
      refine va_get (D := D) (ci := 2) (v := .int (g 4 0)) (C := RX2) (T := TX2) (N := 6) hx hb hts (fun w9 h9 => List.mem_cons_of_mem _ (inT_X2 w9 h9)) hown hK hP 0 rfl rfl 0 (by decide) (hts (.fieldLink RX2 24 "LinkPredictor$Members" "size" "I") (List.mem_cons_of_mem _ mw_1_109)) (fun _ h9 => h9) rfl dX2_countAbstractMethods_6 ?_
      refine top_eq (ok.1) ?_
      refine lv_icmp_ge (tgt := 56) hx hb dX2_countAbstractMethods_9 (by decide) (fun c_9 => ?_) (fun c_9 => ?_)
      · have c_9 : n ≤ n2 := (nI_leI (a := n) (b := n2) (by omega) (by omega)).mp c_9
        have hE := (if_pos c_9).symm.trans hE
        refine lv_iload_n hx hb dX2_countAbstractMethods_56 rfl (lv_at hl 1 rfl) ?_
        exact W.iret hx hb hr (fun t9 ht9 _ => ⟨_, rfl, hE, ht9⟩) (fun _ h9 => by cases h9) dX2_countAbstractMethods_57
      · have c_9 : ¬ (n ≤ n2) := fun q9 => c_9 ((nI_leI (a := n) (b := n2) (by omega) (by omega)).mpr q9)
        have hE := (if_neg c_9).symm.trans hE
        refine lv_iload_n hx hb dX2_countAbstractMethods_12 rfl (lv_at hl 1 rfl) ?_
        refine lv_aload_n hx hb dX2_countAbstractMethods_13 rfl (lv_at hl 2 rfl) ?_
        refine va_get (D := D) (ci := 2) (v := .ref (a 2)) (C := RX2) (T := TX2) (N := 6) hx hb hts (fun w9 h9 => List.mem_cons_of_mem _ (inT_X2 w9 h9)) hown hK hP 0 rfl rfl 3 (by decide) (hts (.fieldLink RX2 15 "LinkPredictor$Members" "keys" "[I") (List.mem_cons_of_mem _ mw_1_112)) (fun _ h9 => h9) rfl dX2_countAbstractMethods_14 ?_
        refine lv_iload_n hx hb dX2_countAbstractMethods_17 rfl (lv_at hl 0 rfl) ?_
        refine ro_ald hx hb hEV hP 2 (j := n2) rfl (by omega) (by decide) dX2_countAbstractMethods_18 ?_
        refine lv_bipush (v := (15 : Int32)) hx hb dX2_countAbstractMethods_19 (by decide) ?_
        refine lv_icmp_lt (tgt := 47) hx hb dX2_countAbstractMethods_21 (by decide) (fun c_21 => ?_) (fun c_21 => ?_)
        · skip
          have hE := (if_pos c_21).symm.trans hE
          refine lv_iconst (v := (0 : Int32)) hx hb dX2_countAbstractMethods_47 (by decide) ?_
          refine lv_iadd hx hb dX2_countAbstractMethods_48 ?_
          refine lv_istore_n (lv' := [(1, .int (v1 + (0 : Int32))), (2, .int (nI n2)), (0, .ref (a 0))]) hx hb dX2_countAbstractMethods_49 rfl hl (by decide) rfl (fun ls hl => ?_)
          refine lv_iinc (v := nI (n2 + 1)) (lv' := [(2, .int (nI (n2 + 1))), (1, .int (v1 + (0 : Int32))), (0, .ref (a 0))]) hx hb dX2_countAbstractMethods_50 hl (k := 1) rfl (nI_1 _) (by decide) rfl (fun ls hl => ?_)
          refine lv_goto (tgt := 4) hx hb dX2_countAbstractMethods_53 (by decide) ?_
          exact ih_4 (n2 + 1) (v1 + (0 : Int32)) ls (by omega) (by omega) (lv_sub hl [0, 1, 2] rfl) hE
        · skip
          have hE := (if_neg c_21).symm.trans hE
          refine lv_aload_n hx hb dX2_countAbstractMethods_24 rfl (lv_at hl 2 rfl) ?_
          refine lv_iload_n hx hb dX2_countAbstractMethods_25 rfl (lv_at hl 0 rfl) ?_
          refine ro_V [.int (nI n2)] [.int v1] ⟨hx, hb, hml, hown, hts⟩ (c_X2_isAbstract l D cI cZ cB cR a g γ n n2 ok (by omega)) (cwV (C := RX2) 1 hts (goodP (ps := [.methodLink RX2 61 yX2_isAbstract, .instanceMethod yX2_isAbstract, .selects RX2 yX2_isAbstract yX2_isAbstract, .initialized RX2]) (all4 mw_3_54 mw_2_155 mw_2_156 mw_1_4) mw_2_157) rfl rfl rfl (by decide +kernel) ⟨Nat.le_of_ble_eq_true rfl, Nat.le_of_ble_eq_true rfl⟩) hEV hP 0 rfl rfl rfl hl.1 rfl (Nat.le_of_ble_eq_true rfl) dX2_countAbstractMethods_26 ⟨Nat.zero_le _, Nat.zero_le _⟩ ?_
          refine lv_if_eq (tgt := 47) hx hb dX2_countAbstractMethods_29 (by decide) (fun c_29 => ?_) (fun c_29 => ?_)
          · have c_29 : ¬ ((bt (γ 3 n2) 1) = true) := b2i_f c_29
            have hE := (if_neg c_29).symm.trans hE
            refine lv_iconst (v := (0 : Int32)) hx hb dX2_countAbstractMethods_47 (by decide) ?_
            refine lv_iadd hx hb dX2_countAbstractMethods_48 ?_
            refine lv_istore_n (lv' := [(1, .int (v1 + (0 : Int32))), (2, .int (nI n2)), (0, .ref (a 0))]) hx hb dX2_countAbstractMethods_49 rfl hl (by decide) rfl (fun ls hl => ?_)
            refine lv_iinc (v := nI (n2 + 1)) (lv' := [(2, .int (nI (n2 + 1))), (1, .int (v1 + (0 : Int32))), (0, .ref (a 0))]) hx hb dX2_countAbstractMethods_50 hl (k := 1) rfl (nI_1 _) (by decide) rfl (fun ls hl => ?_)
            refine lv_goto (tgt := 4) hx hb dX2_countAbstractMethods_53 (by decide) ?_
            exact ih_4 (n2 + 1) (v1 + (0 : Int32)) ls (by omega) (by omega) (lv_sub hl [0, 1, 2] rfl) hE
          · have c_29 : (bt (γ 3 n2) 1) = true := b2i_t c_29
            have hE := (if_pos c_29).symm.trans hE
            refine lv_aload_n hx hb dX2_countAbstractMethods_32 rfl (lv_at hl 2 rfl) ?_
            refine va_get (D := D) (ci := 2) (v := .int (g 4 1)) (C := RX2) (T := TX2) (N := 6) hx hb hts (fun w9 h9 => List.mem_cons_of_mem _ (inT_X2 w9 h9)) hown hK hP 0 rfl rfl 1 (by decide) (hts (.fieldLink RX2 36 "LinkPredictor$Members" "gone" "I") (List.mem_cons_of_mem _ mw_1_110)) (fun _ h9 => h9) rfl dX2_countAbstractMethods_33 ?_
            refine lv_iload_n hx hb dX2_countAbstractMethods_36 rfl (lv_at hl 0 rfl) ?_
            refine ro_SN [.int (g 4 1), .int (nI n2)] [.int v1] ⟨hx, hb, hml, hown, hts⟩ (c_X4_contains l D cI cZ cB cR (g 4 1) n2 (by omega)) (va_cnB (host := "LinkPredictor") 2 hts (goodC mw_1_48) rfl rfl rfl (hEV.2 (.methodLinkNest RX2 49 yX4_contains "LinkPredictor") (by decide +kernel)) (hts (.initialized RX4) (List.mem_cons_of_mem _ mw_1_1)) (by decide +kernel) ⟨Nat.le_of_ble_eq_true rfl, Nat.le_of_ble_eq_true rfl⟩) (hts (.static yX4_contains) (List.mem_cons_of_mem _ mw_1_47)) hEV va_P0 rfl hl.1 rfl (Nat.le_of_ble_eq_true rfl) dX2_countAbstractMethods_37 ⟨Nat.zero_le _, Nat.zero_le _⟩ ?_
            refine lv_if_ne (tgt := 47) hx hb dX2_countAbstractMethods_40 (by decide) (fun c_40 => ?_) (fun c_40 => ?_)
            · have c_40 : (bt (g 4 1) n2) = true := b2i_t c_40
              have hE := (if_pos c_40).symm.trans hE
              refine lv_iconst (v := (0 : Int32)) hx hb dX2_countAbstractMethods_47 (by decide) ?_
              refine lv_iadd hx hb dX2_countAbstractMethods_48 ?_
              refine lv_istore_n (lv' := [(1, .int (v1 + (0 : Int32))), (2, .int (nI n2)), (0, .ref (a 0))]) hx hb dX2_countAbstractMethods_49 rfl hl (by decide) rfl (fun ls hl => ?_)
              refine lv_iinc (v := nI (n2 + 1)) (lv' := [(2, .int (nI (n2 + 1))), (1, .int (v1 + (0 : Int32))), (0, .ref (a 0))]) hx hb dX2_countAbstractMethods_50 hl (k := 1) rfl (nI_1 _) (by decide) rfl (fun ls hl => ?_)
              refine lv_goto (tgt := 4) hx hb dX2_countAbstractMethods_53 (by decide) ?_
              exact ih_4 (n2 + 1) (v1 + (0 : Int32)) ls (by omega) (by omega) (lv_sub hl [0, 1, 2] rfl) hE
            · have c_40 : ¬ ((bt (g 4 1) n2) = true) := b2i_f c_40
              have hE := (if_neg c_40).symm.trans hE
              refine lv_iconst (v := (1 : Int32)) hx hb dX2_countAbstractMethods_43 (by decide) ?_
              refine lv_goto (tgt := 48) hx hb dX2_countAbstractMethods_44 (by decide) ?_
              refine lv_iadd hx hb dX2_countAbstractMethods_48 ?_
              refine lv_istore_n (lv' := [(1, .int (v1 + (1 : Int32))), (2, .int (nI n2)), (0, .ref (a 0))]) hx hb dX2_countAbstractMethods_49 rfl hl (by decide) rfl (fun ls hl => ?_)
              refine lv_iinc (v := nI (n2 + 1)) (lv' := [(2, .int (nI (n2 + 1))), (1, .int (v1 + (1 : Int32))), (0, .ref (a 0))]) hx hb dX2_countAbstractMethods_50 hl (k := 1) rfl (nI_1 _) (by decide) rfl (fun ls hl => ?_)
              refine lv_goto (tgt := 4) hx hb dX2_countAbstractMethods_53 (by decide) ?_
              exact ih_4 (n2 + 1) (v1 + (1 : Int32)) ls (by omega) (by omega) (lv_sub hl [0, 1, 2] rfl) hE
  refine lv_iconst (v := (0 : Int32)) hx hb dX2_countAbstractMethods_0 (by decide) ?_
  refine lv_istore_n (lv' := [(1, .int (0 : Int32)), (0, .ref (a 0))]) hx hb dX2_countAbstractMethods_1 rfl hl (by decide) rfl (fun ls hl => ?_)
  refine lv_iconst (v := (0 : Int32)) hx hb dX2_countAbstractMethods_2 (by decide) ?_
  refine lv_istore_n (lv' := [(2, .int (0 : Int32)), (1, .int (0 : Int32)), (0, .ref (a 0))]) hx hb dX2_countAbstractMethods_3 rfl hl (by decide) rfl (fun ls hl => ?_)
  exact key_4 31 0 (0 : Int32) ls (by omega) (by omega) (lv_sub hl [0, 1, 2] rfl) hE
end
section
/-! ===== LOADING, as mathematics ===== -/
def wrB (τ : Nat → Nat → Int32) (t : Nat) : Bool := (!decide (τ 3 t = -1) && (bt (τ 1 (sN (τ 3 t))) 1 || bt (τ 1 (sN (τ 3 t))) 3)) || (bt (τ 1 t) 1 && !decide (τ 3 t = 0)) || exB (fun u => bt (τ 4 t) u && !(bt (τ 1 u) 1)) 12
/-- loaded without fault, within n steps -/
def gN (τ : Nat → Nat → Int32) : Nat → Nat → Bool
  | 0, _ => false
  | n + 1, t => thB τ t && (decide (τ 3 t = -1) || gN τ n (sN (τ 3 t))) && !(exB (fun u => bt (τ 4 t) u && !(gN τ n u)) 12) && !(wrB τ t)
theorem gN_iff {τ : Nat → Nat → Int32} {n t : Nat} : gN τ (n + 1) t = true ↔ thB τ t = true ∧ (τ 3 t = -1 ∨ gN τ n (sN (τ 3 t)) = true) ∧ (∀ u, u < 12 → bt (τ 4 t) u = true → gN τ n u = true) ∧ wrB τ t = false := by
  rw [gN]
  constructor
  · intro h
    simp only [Bool.and_eq_true, Bool.or_eq_true, decide_eq_true_eq, Bool.not_eq_true'] at h
    obtain ⟨⟨⟨h1, h2⟩, h3⟩, h4⟩ := h
    refine ⟨h1, h2, fun u hu hb => ?_, h4⟩
    cases e : gN τ n u with
    | true => rfl
    | false =>
      have : exB (fun u => bt (τ 4 t) u && !(gN τ n u)) 12 = true := exB_iff.mpr ⟨u, hu, by simp [hb, e]⟩
      rw [this] at h3
      exact absurd h3 (by decide)
  · rintro ⟨h1, h2, h3, h4⟩
    have h5 : exB (fun u => bt (τ 4 t) u && !(gN τ n u)) 12 = false := by
      cases e : exB (fun u => bt (τ 4 t) u && !(gN τ n u)) 12 with
      | false => rfl
      | true =>
        obtain ⟨u, hu, hb⟩ := exB_iff.mp e
        simp only [Bool.and_eq_true, Bool.not_eq_true'] at hb
        have := h3 u hu hb.1
        rw [hb.2] at this
        exact absurd this (by decide)
    simp only [Bool.and_eq_true, Bool.or_eq_true, decide_eq_true_eq, Bool.not_eq_true']
    exact ⟨⟨⟨h1, h2⟩, h5⟩, h4⟩
theorem gN_mono {τ : Nat → Nat → Int32} : ∀ {n t : Nat}, gN τ n t = true → gN τ (n + 1) t = true
  | 0, t, h => by simp [gN] at h
  | n + 1, t, h => by
    obtain ⟨h1, h2, h3, h4⟩ := gN_iff.mp h
    exact gN_iff.mpr ⟨h1, h2.imp id (fun q => gN_mono q), fun u hu hb => gN_mono (h3 u hu hb), h4⟩
theorem gN_le {τ : Nat → Nat → Int32} {n m t : Nat} (h : n ≤ m) (g : gN τ n t = true) : gN τ m t = true := by
  induction h with
  | refl => exact g
  | step _ ih => exact gN_mono ih
/-- loaded without fault -/
def Gd (τ : Nat → Nat → Int32) (t : Nat) : Prop := ∃ n, gN τ n t = true
noncomputable def gdB (τ : Nat → Nat → Int32) (t : Nat) : Bool := @decide (Gd τ t) (Classical.propDecidable _)
theorem gdB_iff {τ : Nat → Nat → Int32} {t : Nat} : gdB τ t = true ↔ Gd τ t := by unfold gdB; exact @decide_eq_true_iff _ (Classical.propDecidable _)
theorem gdB_f {τ : Nat → Nat → Int32} {t : Nat} : gdB τ t = false ↔ ¬ Gd τ t := by
  rw [← gdB_iff]; cases gdB τ t <;> simp
theorem Gd.there {τ : Nat → Nat → Int32} {t : Nat} (h : Gd τ t) : thB τ t = true := by
  obtain ⟨n, h⟩ := h
  cases n with
  | zero => simp [gN] at h
  | succ n => exact (gN_iff.mp h).1
theorem Gd.right {τ : Nat → Nat → Int32} {t : Nat} (h : Gd τ t) : wrB τ t = false := by
  obtain ⟨n, h⟩ := h
  cases n with
  | zero => simp [gN] at h
  | succ n => exact (gN_iff.mp h).2.2.2
theorem Gd.sup {τ : Nat → Nat → Int32} {t : Nat} (h : Gd τ t) (hs : ¬ τ 3 t = -1) : Gd τ (sN (τ 3 t)) := by
  obtain ⟨n, h⟩ := h
  cases n with
  | zero => simp [gN] at h
  | succ n => exact ⟨n, (gN_iff.mp h).2.1.resolve_left hs⟩
theorem Gd.face {τ : Nat → Nat → Int32} {t u : Nat} (h : Gd τ t) (hu : u < 12) (hb : bt (τ 4 t) u = true) : Gd τ u := by
  obtain ⟨n, h⟩ := h
  cases n with
  | zero => simp [gN] at h
  | succ n => exact ⟨n, (gN_iff.mp h).2.2.1 u hu hb⟩
theorem Gd.mk {τ : Nat → Nat → Int32} {t : Nat} (h1 : thB τ t = true) (h2 : τ 3 t = -1 ∨ Gd τ (sN (τ 3 t))) (h3 : ∀ u, u < 12 → bt (τ 4 t) u = true → Gd τ u) (h4 : wrB τ t = false) : Gd τ t := by
  have all : ∀ k, ∃ n, ∀ u, u < k → u < 12 → bt (τ 4 t) u = true → gN τ n u = true := by
    intro k
    induction k with
    | zero => exact ⟨0, fun u h => absurd h (Nat.not_lt_zero u)⟩
    | succ k ih =>
      obtain ⟨n, hn⟩ := ih
      by_cases q : k < 12 ∧ bt (τ 4 t) k = true
      · obtain ⟨m, hm⟩ := h3 k q.1 q.2
        refine ⟨max n m, fun u h5 h6 h7 => ?_⟩
        rcases Nat.lt_or_ge u k with z | z
        · exact gN_le (Nat.le_max_left n m) (hn u z h6 h7)
        · have e : u = k := by omega
          subst e
          exact gN_le (Nat.le_max_right n m) hm
      · refine ⟨n, fun u h5 h6 h7 => ?_⟩
        rcases Nat.lt_or_ge u k with z | z
        · exact hn u z h6 h7
        · have e : u = k := by omega
          subst e
          exact absurd ⟨h6, h7⟩ q
  obtain ⟨n, hn⟩ := all 12
  rcases h2 with h2 | ⟨m, h2⟩
  · exact ⟨n + 1, gN_iff.mpr ⟨h1, Or.inl h2, fun u hu hb => hn u hu hu hb, h4⟩⟩
  · exact ⟨max n m + 1, gN_iff.mpr ⟨h1, Or.inr (gN_le (Nat.le_max_right n m) h2), fun u hu hb => gN_le (Nat.le_max_left n m) (hn u hu hu hb), h4⟩⟩
/-- whenever u is loaded within n steps, t is within fewer -/
def lowr (τ : Nat → Nat → Int32) (t u : Nat) : Prop := ∀ n, gN τ n u = true → ∃ k, k < n ∧ gN τ k t = true
theorem lowr.irr {τ : Nat → Nat → Int32} {t : Nat} (h : lowr τ t t) : ¬ Gd τ t := by
  have : ∀ n, ¬ gN τ n t = true := by
    intro n
    induction n using Nat.strongRecOn with
    | ind n ih =>
      intro g
      obtain ⟨k, hk, g2⟩ := h n g
      exact ih k hk g2
  rintro ⟨n, g⟩
  exact this n g
theorem lowr.sup {τ : Nat → Nat → Int32} {t : Nat} (hs : ¬ τ 3 t = -1) : lowr τ (sN (τ 3 t)) t := by
  intro n g
  cases n with
  | zero => simp [gN] at g
  | succ n => exact ⟨n, by omega, (gN_iff.mp g).2.1.resolve_left hs⟩
theorem lowr.face {τ : Nat → Nat → Int32} {t u : Nat} (hu : u < 12) (hb : bt (τ 4 t) u = true) : lowr τ u t := by
  intro n g
  cases n with
  | zero => simp [gN] at g
  | succ n => exact ⟨n, by omega, (gN_iff.mp g).2.2.1 u hu hb⟩
theorem lowr.trans {τ : Nat → Nat → Int32} {a b c : Nat} (h1 : lowr τ a b) (h2 : lowr τ b c) : lowr τ a c := by
  intro n g
  obtain ⟨k, hk, g2⟩ := h2 n g
  obtain ⟨j, hj, g3⟩ := h1 k g2
  exact ⟨j, by omega, g3⟩
/-- what LOADING tells of a type: n steps at most, the types of the mask o being loaded already -/
noncomputable def vN (τ : Nat → Nat → Int32) : Nat → Int32 → Nat → Int32
  | 0, _, _ => 0
  | n + 1, o, t => if thB τ t = true then (if bt o t = true then nI (128 + t) else if (!decide (τ 3 t = -1) && !(gdB τ (sN (τ 3 t)))) = true then vN τ n (o ||| bm t) (sN (τ 3 t)) else if fst (fun u => bt (τ 4 t) u && !(gdB τ u)) 12 < 12 then vN τ n (o ||| bm t) (fst (fun u => bt (τ 4 t) u && !(gdB τ u)) 12) else if wrB τ t = true then nI (192 + t) else nI t) else nI (64 + t)
noncomputable def LV (τ : Nat → Nat → Int32) (t : Nat) : Int32 := vN τ 13 0 t
/-- how many types are not in the mask -/
def cN (o : Int32) : Nat := cnF (fun t => !(bt o t)) 12
theorem cnF_upd {p q : Nat → Bool} {i : Nat} (hp : p i = true) (hq : q i = false) : ∀ {n : Nat}, i < n → (∀ j, j < n → j ≠ i → q j = p j) → cnF q n + 1 = cnF p n
  | 0, h, _ => absurd h (Nat.not_lt_zero i)
  | n + 1, h, he => by
    unfold cnF
    rcases Nat.lt_or_ge i n with z | z
    · have ih := cnF_upd hp hq z (fun j hj hne => he j (by omega) hne)
      rw [he n (by omega) (by omega)]
      split <;> omega
    · have e : i = n := by omega
      subst e
      rw [if_neg (by simp [hq]), if_pos hp, cnF_cong (fun j hj => he j (by omega) (by omega))]
theorem cN_or {o : Int32} {t : Nat} (ht : t < 12) (h : bt o t = false) : cN (o ||| bm t) + 1 = cN o := by
  unfold cN
  refine cnF_upd (i := t) (by simp [h]) (by rw [b_or, b_bm (by omega) (by omega)]; simp) ht (fun j hj hne => ?_)
  rw [b_or, b_bm (by omega) (by omega)]
  simp [hne]
theorem cN_0 : cN 0 = 12 := by decide
theorem gd_nI {j : Nat} (h : j < 2 ^ 31) : gd (nI j) = decide (j < 64) := by unfold gd; exact wi_nI (b := 64) h (by decide)
theorem vN_good {τ : Nat → Nat → Int32} {n t : Nat} {o : Int32} (hg : Gd τ t) (ho : bt o t = false) : vN τ (n + 1) o t = nI t := by
  rw [vN, if_pos hg.there, if_neg (by simp [ho]), if_neg, if_neg, if_neg (by simp [hg.right])]
  · rw [fst_none]
    · omega
    · intro u hu
      by_cases hb : bt (τ 4 t) u = true
      · have := gdB_iff.mpr (hg.face hu hb)
        simp [this]
      · simp at hb
        simp [hb]
  · by_cases hs : τ 3 t = -1
    · simp [hs]
    · have := gdB_iff.mpr (hg.sup hs)
      simp [this]
theorem vN_bad {τ : Nat → Nat → Int32} (wf : WFT τ) : ∀ {n t : Nat} {o : Int32}, t < 12 → cN o < n → ¬ Gd τ t → gd (vN τ n o t) = false
  | 0, t, o, _, h, _ => absurd h (Nat.not_lt_zero _)
  | n + 1, t, o, ht, hc, hb => by
    rw [vN]
    split
    · rename_i hth
      split
      · rw [gd_nI (by omega), decide_eq_false (by omega)]
      · rename_i ho
        simp at ho
        have hc2 : cN (o ||| bm t) < n := by have := cN_or ht ho; omega
        split
        · rename_i hs
          simp only [Bool.and_eq_true, Bool.not_eq_true', decide_eq_false_iff_not] at hs
          have hT := ((wf.1 t ht).1.resolve_left hs.1).1
          exact vN_bad wf hT hc2 (gdB_f.mp hs.2)
        · rename_i hs
          split
          · rename_i hf
            have hy := fst_yes _ _ hf
            simp only [Bool.and_eq_true, Bool.not_eq_true'] at hy
            exact vN_bad wf hf hc2 (gdB_f.mp hy.2)
          · rename_i hf
            split
            · rw [gd_nI (by omega), decide_eq_false (by omega)]
            · rename_i hw
              exfalso
              apply hb
              refine Gd.mk hth ?_ ?_ (by simpa using hw)
              · by_cases q : τ 3 t = -1
                · exact Or.inl q
                · refine Or.inr (gdB_iff.mp ?_)
                  cases e : gdB τ (sN (τ 3 t)) with
                  | true => rfl
                  | false => exact absurd (by simp [q, e]) hs
              · intro u hu hbu
                apply gdB_iff.mp
                cases e : gdB τ u with
                | true => rfl
                | false =>
                  have hl := fst_le (fun u => bt (τ 4 t) u && !(gdB τ u)) 12
                  have := fst_no (fun u => bt (τ 4 t) u && !(gdB τ u)) 12 u (by omega)
                  simp [hbu, e] at this
    · rw [gd_nI (by omega), decide_eq_false (by omega)]
/-- the supers of a type, itself too -/
def abN (τ : Nat → Nat → Int32) : Nat → Nat → Nat → Bool
  | 0, _, _ => false
  | n + 1, t, w => decide (w = t) || (!decide (τ 3 t = -1) && abN τ n (sN (τ 3 t)) w)
def fcN (τ : Nat → Nat → Int32) : Nat → Nat → Nat → Bool
  | 0, _, _ => false
  | n + 1, t, w => bt (τ 4 t) w || (!decide (τ 3 t = -1) && fcN τ n (sN (τ 3 t)) w) || exB (fun u => bt (τ 4 t) u && fcN τ n u w) 12
theorem abN_mono {τ : Nat → Nat → Int32} : ∀ {n t w : Nat}, abN τ n t w = true → abN τ (n + 1) t w = true
  | 0, t, w, h => by simp [abN] at h
  | n + 1, t, w, h => by
    rw [abN] at h ⊢
    simp only [Bool.or_eq_true, Bool.and_eq_true] at h ⊢
    exact h.imp id (fun q => ⟨q.1, abN_mono q.2⟩)
theorem fcN_mono {τ : Nat → Nat → Int32} : ∀ {n t w : Nat}, fcN τ n t w = true → fcN τ (n + 1) t w = true
  | 0, t, w, h => by simp [fcN] at h
  | n + 1, t, w, h => by
    rw [fcN] at h ⊢
    simp only [Bool.or_eq_true, Bool.and_eq_true] at h ⊢
    refine h.imp (fun q => q.imp id (fun q => ⟨q.1, fcN_mono q.2⟩)) (fun q => ?_)
    obtain ⟨u, hu, q⟩ := exB_iff.mp q
    simp only [Bool.and_eq_true] at q
    exact exB_iff.mpr ⟨u, hu, by simp only [Bool.and_eq_true]; exact ⟨q.1, fcN_mono q.2⟩⟩
theorem fcN_le {τ : Nat → Nat → Int32} {n m t w : Nat} (h : n ≤ m) (g : fcN τ n t w = true) : fcN τ m t w = true := by
  induction h with
  | refl => exact g
  | step _ ih => exact fcN_mono ih
noncomputable def abB (τ : Nat → Nat → Int32) (t w : Nat) : Bool := @decide (∃ n, abN τ n t w = true) (Classical.propDecidable _)
noncomputable def fcB (τ : Nat → Nat → Int32) (t w : Nat) : Bool := @decide (∃ n, fcN τ n t w = true) (Classical.propDecidable _)
theorem abB_iff {τ : Nat → Nat → Int32} {t w : Nat} : abB τ t w = true ↔ ∃ n, abN τ n t w = true := by unfold abB; exact @decide_eq_true_iff _ (Classical.propDecidable _)
theorem fcB_iff {τ : Nat → Nat → Int32} {t w : Nat} : fcB τ t w = true ↔ ∃ n, fcN τ n t w = true := by unfold fcB; exact @decide_eq_true_iff _ (Classical.propDecidable _)
theorem abB_eq (τ : Nat → Nat → Int32) (t w : Nat) : abB τ t w = (decide (w = t) || (!decide (τ 3 t = -1) && abB τ (sN (τ 3 t)) w)) := by
  rw [Bool.eq_iff_iff, abB_iff]
  simp only [Bool.or_eq_true, Bool.and_eq_true, abB_iff]
  constructor
  · rintro ⟨n, h⟩
    cases n with
    | zero => simp [abN] at h
    | succ n =>
      rw [abN] at h
      simp only [Bool.or_eq_true, Bool.and_eq_true] at h
      exact h.imp id (fun q => ⟨q.1, n, q.2⟩)
  · rintro (h | ⟨h1, n, h2⟩)
    · exact ⟨1, by rw [abN]; simp only [Bool.or_eq_true]; exact Or.inl h⟩
    · exact ⟨n + 1, by rw [abN]; simp only [Bool.or_eq_true, Bool.and_eq_true]; exact Or.inr ⟨h1, h2⟩⟩
theorem fcB_eq (τ : Nat → Nat → Int32) (t w : Nat) : fcB τ t w = (bt (τ 4 t) w || (!decide (τ 3 t = -1) && fcB τ (sN (τ 3 t)) w) || exB (fun u => bt (τ 4 t) u && fcB τ u w) 12) := by
  rw [Bool.eq_iff_iff, fcB_iff]
  simp only [Bool.or_eq_true, Bool.and_eq_true, fcB_iff]
  constructor
  · rintro ⟨n, h⟩
    cases n with
    | zero => simp [fcN] at h
    | succ n =>
      rw [fcN] at h
      simp only [Bool.or_eq_true, Bool.and_eq_true] at h
      refine h.imp (fun q => q.imp id (fun q => ⟨q.1, n, q.2⟩)) (fun q => ?_)
      obtain ⟨u, hu, q⟩ := exB_iff.mp q
      simp only [Bool.and_eq_true] at q
      exact exB_iff.mpr ⟨u, hu, by simp only [Bool.and_eq_true]; exact ⟨q.1, fcB_iff.mpr ⟨n, q.2⟩⟩⟩
  · rintro ((h | ⟨h1, n, h2⟩) | h)
    · exact ⟨1, by rw [fcN]; simp only [Bool.or_eq_true]; exact Or.inl (Or.inl h)⟩
    · exact ⟨n + 1, by rw [fcN]; simp only [Bool.or_eq_true, Bool.and_eq_true]; exact Or.inl (Or.inr ⟨h1, h2⟩)⟩
    · obtain ⟨u, hu, q⟩ := exB_iff.mp h
      simp only [Bool.and_eq_true] at q
      obtain ⟨n, h2⟩ := fcB_iff.mp q.2
      exact ⟨n + 1, by rw [fcN]; simp only [Bool.or_eq_true]; exact Or.inr (exB_iff.mpr ⟨u, hu, by simp only [Bool.and_eq_true]; exact ⟨q.1, h2⟩⟩)⟩
end
section
def nsN (τ : Nat → Nat → Int32) (x : Nat) : Nat := if thB τ (sN (τ 5 x)) = true then (if decide (τ 2 (sN (τ 5 x)) = τ 2 x) = true then (if τ 5 (sN (τ 5 x)) = τ 5 x then sN (τ 5 x) else x) else x) else x
theorem nsN_lt {τ : Nat → Nat → Int32} (wf : WFT τ) {x : Nat} (hx : x < 12) : nsN τ x < 12 := by
  unfold nsN
  have := (wf.1 x hx).2.1.1
  split
  · split
    · split <;> omega
    · omega
  · omega
def p_X1_nestOf (h : Nat → Nat → Int32) (τ : Nat → Nat → Int32) (x : Nat) : Int32 := if (thB τ (sN (τ 5 x))) = true then (if (decide (τ 2 (sN (τ 5 x)) = τ 2 x)) = true then (if (h 4 (sN (τ 5 x))) = (nI (sN (τ 5 x))) then (nI (sN (τ 5 x))) else (nI x)) else (nI x)) else (nI x)
theorem pe_X1_nestOf (h : Nat → Nat → Int32) (τ : Nat → Nat → Int32) (x : Nat) (ok : OKB h τ) (wf : WFT τ) (hnx : x < 12) : p_X1_nestOf h τ x = nI (nsN τ x) := by
  have hT := (wf.1 x hnx).2.1
  rw [p_X1_nestOf]
  unfold nsN
  rw [ok.ho hT.1, ← hT.2]
  by_cases c1 : thB τ (sN (τ 5 x)) = true
  · rw [if_pos c1, if_pos c1]
    by_cases c2 : decide (τ 2 (sN (τ 5 x)) = τ 2 x) = true
    · rw [if_pos c2, if_pos c2]
      by_cases c3 : τ 5 (sN (τ 5 x)) = τ 5 x
      · rw [if_pos c3, if_pos c3]; exact hT.2
      · rw [if_neg c3, if_neg c3]
    · rw [if_neg c2, if_neg c2]
  · rw [if_neg c1, if_neg c1]
set_option maxHeartbeats 4000000 in
set_option maxRecDepth 100000 in
theorem c_X1_nestOf (l : Launch) (D : va_G) (cI cZ cB cR : ClassId) (a : Nat → Nat) (h : Nat → Nat → Int32) (τ : Nat → Nat → Int32) (x : Nat) (ok : OKB h τ) (wf : WFT τ) (hnx : x < 12) : RO l yX1_nestOf wsX1_nestOf ({ frames := 2, cells := 0, slots := 0, locals := 42 } : Room) D cI cZ cB cR (wH cI a h) [.ref (a 0), .int (nI x)] (nI (nsN τ x)) := by
  have hE : p_X1_nestOf h τ x = nI (nsN τ x) := pe_X1_nestOf h τ x ok wf hnx
  refine Met.ofW (cc := cX1_nestOf) (maxL := 3) (ret := (some .int)) (by decide) rfl ?_
  intro p e s m args below meth c s₁ B hml hv
  obtain ⟨hargs, hP, hEV⟩ := hv
  have hx := B.exec
  have hb := B.bytes
  have hr := B.returns
  have hts := atoms_spec (ws := wsX1_nestOf) B.pre
  have hown : s.vm.findClass RX1 = some m.cls := findClass_of_methodNamed B.named
  have hlocks := B.notSynchronized
  have hK := hEV.1
  have hl := lv_entry ([.ref (a 0), .int (nI x)]) (n := 3) (Nat.le_of_ble_eq_true rfl)
  rw [show entryFrame m args 3 = entryFrame m ([.ref (a 0), .int (nI x)] : List Value).toArray 3 from by rw [hargs], lg_entry_eq]
  generalize (lg_sl ([.ref (a 0), .int (nI x)]) ++ List.replicate (3 - (lg_sl ([.ref (a 0), .int (nI x)])).length) Slot.unset).toArray = ls at hl ⊢
  have hl : lv_has ls 3 [(0, .ref (a 0)), (1, .int (nI x))] := hl
  rw [p_X1_nestOf] at hE
  have hT1 := (wf.1 x hnx).2.1.1
  refine lv_aload_n hx hb dX1_nestOf_0 rfl (lv_at hl 0 rfl) ?_
  refine va_get (D := D) (ci := 1) (v := .ref (a 5)) (C := RX1) (T := TX1) (N := 10) hx hb hts (fun w9 h9 => List.mem_cons_of_mem _ (inT_X1 w9 h9)) hown hK hP 0 rfl rfl 5 (by decide) (hts (.fieldLink RX1 24 "LinkPredictor$Hierarchy" "hosts" "[I") (List.mem_cons_of_mem _ mw_1_76)) (fun _ h9 => h9) rfl dX1_nestOf_1 ?_
  refine lv_iload_n hx hb dX1_nestOf_4 rfl (lv_at hl 1 rfl) ?_
  refine ro_ald hx hb hEV hP 5 (j := x) rfl (by omega) (by decide) dX1_nestOf_5 ?_
  refine top_eq ((ok.ho hnx).trans (wf.1 x hnx).2.1.2) ?_
  refine lv_istore_n (lv' := [(2, .int (nI (sN (τ 5 x)))), (0, .ref (a 0)), (1, .int (nI x))]) hx hb dX1_nestOf_6 rfl hl (by decide) rfl (fun ls hl => ?_)
  refine lv_aload_n hx hb dX1_nestOf_7 rfl (lv_at hl 1 rfl) ?_
  refine lv_iload_n hx hb dX1_nestOf_8 rfl (lv_at hl 0 rfl) ?_
  refine ro_V [.int (nI (sN (τ 5 x)))] [] ⟨hx, hb, hml, hown, hts⟩ (c_X1_isThere l D cI cZ cB cR a h τ (sN (τ 5 x)) ok (by omega)) (cwV (C := RX1) 1 hts (goodP (ps := [.methodLink RX1 47 yX1_isThere, .instanceMethod yX1_isThere, .selects RX1 yX1_isThere yX1_isThere, .initialized RX1]) (all4 mw_1_42 mw_1_43 mw_1_44 mw_1_3) mw_1_45) rfl rfl rfl (by decide +kernel) ⟨Nat.le_of_ble_eq_true rfl, Nat.le_of_ble_eq_true rfl⟩) hEV hP 0 rfl rfl rfl hl.1 rfl (Nat.le_of_ble_eq_true rfl) dX1_nestOf_9 ⟨Nat.zero_le _, Nat.zero_le _⟩ ?_
  refine lv_if_eq (tgt := 38) hx hb dX1_nestOf_12 (by decide) (fun c_12 => ?_) (fun c_12 => ?_)
  · have c_12 : ¬ ((thB τ (sN (τ 5 x))) = true) := b2i_f c_12
    have hE := (if_neg c_12).symm.trans hE
    refine lv_iload_n hx hb dX1_nestOf_38 rfl (lv_at hl 2 rfl) ?_
    exact W.iret hx hb hr (fun t9 ht9 _ => ⟨_, rfl, hE, ht9⟩) (fun _ h9 => by cases h9) dX1_nestOf_39
  · have c_12 : (thB τ (sN (τ 5 x))) = true := b2i_t c_12
    have hE := (if_pos c_12).symm.trans hE
    refine lv_aload_n hx hb dX1_nestOf_15 rfl (lv_at hl 1 rfl) ?_
    refine lv_iload_n hx hb dX1_nestOf_16 rfl (lv_at hl 0 rfl) ?_
    refine lv_iload_n hx hb dX1_nestOf_17 rfl (lv_at hl 2 rfl) ?_
    refine ro_V [.int (nI (sN (τ 5 x))), .int (nI x)] [] ⟨hx, hb, hml, hown, hts⟩ (c_X1_isSamePackage l D cI cZ cB cR a h τ (sN (τ 5 x)) x ok (by omega) (by omega)) (cwV (C := RX1) 2 hts (goodP (ps := [.methodLink RX1 64 yX1_isSamePackage, .instanceMethod yX1_isSamePackage, .selects RX1 yX1_isSamePackage yX1_isSamePackage, .initialized RX1]) (all4 mw_2_83 mw_2_84 mw_2_85 mw_1_3) mw_2_86) rfl rfl rfl (by decide +kernel) ⟨Nat.le_of_ble_eq_true rfl, Nat.le_of_ble_eq_true rfl⟩) hEV hP 0 rfl rfl rfl hl.1 rfl (Nat.le_of_ble_eq_true rfl) dX1_nestOf_18 ⟨Nat.zero_le _, Nat.zero_le _⟩ ?_
    refine lv_if_eq (tgt := 38) hx hb dX1_nestOf_21 (by decide) (fun c_21 => ?_) (fun c_21 => ?_)
    · have c_21 : ¬ ((decide (τ 2 (sN (τ 5 x)) = τ 2 x)) = true) := b2i_f c_21
      have hE := (if_neg c_21).symm.trans hE
      refine lv_iload_n hx hb dX1_nestOf_38 rfl (lv_at hl 2 rfl) ?_
      exact W.iret hx hb hr (fun t9 ht9 _ => ⟨_, rfl, hE, ht9⟩) (fun _ h9 => by cases h9) dX1_nestOf_39
    · have c_21 : (decide (τ 2 (sN (τ 5 x)) = τ 2 x)) = true := b2i_t c_21
      have hE := (if_pos c_21).symm.trans hE
      refine lv_aload_n hx hb dX1_nestOf_24 rfl (lv_at hl 1 rfl) ?_
      refine va_get (D := D) (ci := 1) (v := .ref (a 5)) (C := RX1) (T := TX1) (N := 10) hx hb hts (fun w9 h9 => List.mem_cons_of_mem _ (inT_X1 w9 h9)) hown hK hP 0 rfl rfl 5 (by decide) (hts (.fieldLink RX1 24 "LinkPredictor$Hierarchy" "hosts" "[I") (List.mem_cons_of_mem _ mw_1_76)) (fun _ h9 => h9) rfl dX1_nestOf_25 ?_
      refine lv_iload_n hx hb dX1_nestOf_28 rfl (lv_at hl 0 rfl) ?_
      refine ro_ald hx hb hEV hP 5 (j := (sN (τ 5 x))) rfl (by omega) (by decide) dX1_nestOf_29 ?_
      refine lv_iload_n hx hb dX1_nestOf_30 rfl (lv_at hl 0 rfl) ?_
      refine lv_icmp_ne (tgt := 38) hx hb dX1_nestOf_31 (by decide) (fun c_31 => ?_) (fun c_31 => ?_)
      · skip
        have hE := (if_neg c_31).symm.trans hE
        refine lv_iload_n hx hb dX1_nestOf_38 rfl (lv_at hl 2 rfl) ?_
        exact W.iret hx hb hr (fun t9 ht9 _ => ⟨_, rfl, hE, ht9⟩) (fun _ h9 => by cases h9) dX1_nestOf_39
      · skip
        have hE := (if_pos c_31).symm.trans hE
        refine lv_iload_n hx hb dX1_nestOf_34 rfl (lv_at hl 0 rfl) ?_
        refine lv_goto (tgt := 39) hx hb dX1_nestOf_35 (by decide) ?_
        exact W.iret hx hb hr (fun t9 ht9 _ => ⟨_, rfl, hE, ht9⟩) (fun _ h9 => by cases h9) dX1_nestOf_39
def p_X1_hasWrongParents_42 (h : Nat → Nat → Int32) (τ : Nat → Nat → Int32) (x : Nat) : Nat → Nat → Int32
  | 0, _ => 0
  | k + 1, n3 => if 12 ≤ n3 then ((0 : Int32)) else (if (bt (h 3 x) n3) = true then (if (bt (τ 1 n3) 1) = true then (p_X1_hasWrongParents_42 h τ x k (n3 + 1)) else ((1 : Int32))) else (p_X1_hasWrongParents_42 h τ x k (n3 + 1)))
def p_X1_hasWrongParents_26 (h : Nat → Nat → Int32) (τ : Nat → Nat → Int32) (x : Nat) : Int32 := if (bt (τ 1 x) 1) = true then (if (h 2 x) = (0 : Int32) then (p_X1_hasWrongParents_42 h τ x 13 0) else ((1 : Int32))) else (p_X1_hasWrongParents_42 h τ x 13 0)
def p_X1_hasWrongParents (h : Nat → Nat → Int32) (τ : Nat → Nat → Int32) (x : Nat) : Int32 := if (h 2 x) = (-1 : Int32) then (p_X1_hasWrongParents_26 h τ x ) else (if ((h 0 (h 2 x).toNatClampNeg) &&& (10 : Int32)) = (0 : Int32) then (p_X1_hasWrongParents_26 h τ x ) else ((1 : Int32)))
theorem pl_X1_hwp (h τ : Nat → Nat → Int32) (x : Nat) (ok : OKB h τ) (wf : WFT τ) (hnx : x < 12) : ∀ k i, 12 - i < k → i ≤ 12 → (∀ j, j < i → (bt (τ 4 x) j && !(bt (τ 1 j) 1)) = false) → p_X1_hasWrongParents_42 h τ x k i = b2i (exB (fun u => bt (τ 4 x) u && !(bt (τ 1 u) 1)) 12) := by
  intro k
  induction k with
  | zero => intro i h1; omega
  | succ k ih =>
    intro i hk hi h0
    rw [p_X1_hasWrongParents_42]
    by_cases c : 12 ≤ i
    · rw [if_pos c]
      have e : i = 12 := by omega
      subst e
      unfold exB
      rw [fst_none h0]
      rfl
    · rw [if_neg c, ok.fa hnx]
      have step : (bt (τ 4 x) i && !(bt (τ 1 i) 1)) = false → p_X1_hasWrongParents_42 h τ x k (i + 1) = b2i (exB (fun u => bt (τ 4 x) u && !(bt (τ 1 u) 1)) 12) := fun q => ih (i + 1) (by omega) (by omega) (fun j hj => by
        rcases Nat.lt_or_ge j i with z9 | z9
        · exact h0 j z9
        · have e : j = i := by omega
          subst e
          exact q)
      by_cases c1 : bt (τ 4 x) i = true
      · rw [if_pos c1]
        by_cases c2 : bt (τ 1 i) 1 = true
        · rw [if_pos c2]; exact step (by simp [c2])
        · rw [if_neg c2, exB_iff.mpr ⟨i, by omega, by simp [c1, c2]⟩]; rfl
      · rw [if_neg c1]; exact step (by simp [c1])
theorem pe_X1_hasWrongParents (h : Nat → Nat → Int32) (τ : Nat → Nat → Int32) (x : Nat) (ok : OKB h τ) (wf : WFT τ) (hnx : x < 12) : p_X1_hasWrongParents h τ x = b2i (wrB τ x) := by
  have hl := pl_X1_hwp h τ x ok wf hnx 13 0 (by omega) (by omega) (fun j q => absurd q (Nat.not_lt_zero j))
  have hk : p_X1_hasWrongParents_26 h τ x = b2i ((bt (τ 1 x) 1 && !decide (τ 3 x = 0)) || exB (fun u => bt (τ 4 x) u && !(bt (τ 1 u) 1)) 12) := by
    rw [p_X1_hasWrongParents_26, ok.su hnx]
    by_cases c1 : bt (τ 1 x) 1 = true
    · rw [if_pos c1]
      by_cases c2 : τ 3 x = 0
      · rw [if_pos c2, hl]; simp [c1, c2]
      · rw [if_neg c2]; simp [c1, c2, b2i]
    · rw [if_neg c1, hl]; simp [c1]
  rw [p_X1_hasWrongParents, ok.su hnx, hk]
  unfold wrB
  by_cases c1 : τ 3 x = -1
  · rw [if_pos c1]; simp [c1]
  · rw [if_neg c1]
    have hs := (wf.1 x hnx).1.resolve_left c1
    show (if h 0 (sN (τ 3 x)) &&& 10 = 0 then _ else _) = _
    rw [ok.fl hs.1]
    by_cases c2 : τ 1 (sN (τ 3 x)) &&& 10 = 0
    · rw [if_pos c2]
      have := and10_eq.mp c2
      simp only [not_or, Bool.not_eq_true] at this
      simp [c1, this.1, this.2]
    · rw [if_neg c2]
      have e : bt (τ 1 (sN (τ 3 x))) 1 = true ∨ bt (τ 1 (sN (τ 3 x))) 3 = true := Classical.byContradiction (fun z => c2 (and10_eq.mpr z))
      rcases e with e | e <;> simp [c1, e, b2i]
set_option maxHeartbeats 4000000 in
set_option maxRecDepth 100000 in
theorem c_X1_hasWrongParents (l : Launch) (D : va_G) (cI cZ cB cR : ClassId) (a : Nat → Nat) (h : Nat → Nat → Int32) (τ : Nat → Nat → Int32) (x : Nat) (ok : OKB h τ) (wf : WFT τ) (hnx : x < 12) : RO l yX1_hasWrongParents wsX1_hasWrongParents ({ frames := 1, cells := 0, slots := 0, locals := 21 } : Room) D cI cZ cB cR (wH cI a h) [.ref (a 0), .int (nI x)] (b2i (wrB τ x)) := by
  have hE : p_X1_hasWrongParents h τ x = b2i (wrB τ x) := pe_X1_hasWrongParents h τ x ok wf hnx
  refine Met.ofW (cc := cX1_hasWrongParents) (maxL := 4) (ret := (some .boolean)) (by decide) rfl ?_
  intro p e s m args below meth c s₁ B hml hv
  obtain ⟨hargs, hP, hEV⟩ := hv
  have hx := B.exec
  have hb := B.bytes
  have hr := B.returns
  have hts := atoms_spec (ws := wsX1_hasWrongParents) B.pre
  have hown : s.vm.findClass RX1 = some m.cls := findClass_of_methodNamed B.named
  have hlocks := B.notSynchronized
  have hK := hEV.1
  have hl := lv_entry ([.ref (a 0), .int (nI x)]) (n := 4) (Nat.le_of_ble_eq_true rfl)
  rw [show entryFrame m args 4 = entryFrame m ([.ref (a 0), .int (nI x)] : List Value).toArray 4 from by rw [hargs], lg_entry_eq]
  generalize (lg_sl ([.ref (a 0), .int (nI x)]) ++ List.replicate (4 - (lg_sl ([.ref (a 0), .int (nI x)])).length) Slot.unset).toArray = ls at hl ⊢
  have hl : lv_has ls 4 [(0, .ref (a 0)), (1, .int (nI x))] := hl
  rw [p_X1_hasWrongParents] at hE
  have key_42 : ∀ (k_42 : Nat) (n3 : Nat) (ls : Array Slot), (12 - n3) < k_42 → n3 ≤ 12 → lv_has ls 4 [(3, .int (nI n3)), (0, .ref (a 0)), (1, .int (nI x))] → p_X1_hasWrongParents_42 h τ x k_42 n3 = b2i (wrB τ x) → W p l e (headSpec wsX1_hasWrongParents ({ frames := 1, cells := 0, slots := 0, locals := 21 } : Room)).room s m args below meth c s.heap [] 0 0 (MQ below (vp_Si (fun r => r = b2i (wrB τ x))) args s 0 0 (fun _ => False)) (F0 m 42 ls []) := by
    intro k_42
    induction k_42 with
    | zero => intro n3 ls hm; exact absurd hm (Nat.not_lt_zero _)
    | succ k_42 ih_42 =>
      intro n3 ls hm_42 hi_42_0 hl hE
      rw [p_X1_hasWrongParents_42] at hE
      refine lv_iload_n hx hb dX1_hasWrongParents_42 rfl (lv_at hl 0 rfl) ?_
      refine lv_bipush (v := (12 : Int32)) hx hb dX1_hasWrongParents_43 (by decide) ?_
      refine lv_icmp_ge (tgt := 77) hx hb dX1_hasWrongParents_45 (by decide) (fun c_45 => ?_) (fun c_45 => ?_)
      · have c_45 : 12 ≤ n3 := (nI_leI (a := 12) (b := n3) (by omega) (by omega)).mp c_45
        have hE := (if_pos c_45).symm.trans hE
        refine lv_iconst (v := (0 : Int32)) hx hb dX1_hasWrongParents_77 (by decide) ?_
        exact W.zret hx hb hr rfl (fun t9 ht9 _ => ⟨_, rfl, hE, ht9⟩) (fun _ h9 => by cases h9) dX1_hasWrongParents_78
      · have c_45 : ¬ (12 ≤ n3) := fun q9 => c_45 ((nI_leI (a := 12) (b := n3) (by omega) (by omega)).mpr q9)
        have hE := (if_neg c_45).symm.trans hE
        refine lv_aload_n hx hb dX1_hasWrongParents_48 rfl (lv_at hl 1 rfl) ?_
        refine va_get (D := D) (ci := 1) (v := .ref (a 4)) (C := RX1) (T := TX1) (N := 10) hx hb hts (fun w9 h9 => List.mem_cons_of_mem _ (inT_X1 w9 h9)) hown hK hP 0 rfl rfl 4 (by decide) (hts (.fieldLink RX1 21 "LinkPredictor$Hierarchy" "directFaces" "[I") (List.mem_cons_of_mem _ mw_1_75)) (fun _ h9 => h9) rfl dX1_hasWrongParents_49 ?_
        refine lv_iload_n hx hb dX1_hasWrongParents_52 rfl (lv_at hl 2 rfl) ?_
        refine ro_ald hx hb hEV hP 4 (j := x) rfl (by omega) (by decide) dX1_hasWrongParents_53 ?_
        refine lv_iload_n hx hb dX1_hasWrongParents_54 rfl (lv_at hl 0 rfl) ?_
        refine ro_SN [.int (h 3 x), .int (nI n3)] [] ⟨hx, hb, hml, hown, hts⟩ (c_X4_contains l D cI cZ cB cR (h 3 x) n3 (by omega)) (va_cnB (host := "LinkPredictor") 2 hts (goodC mw_1_48) rfl rfl rfl (hEV.2 (.methodLinkNest RX1 57 yX4_contains "LinkPredictor") (by decide +kernel)) (hts (.initialized RX4) (List.mem_cons_of_mem _ mw_1_1)) (by decide +kernel) ⟨Nat.le_of_ble_eq_true rfl, Nat.le_of_ble_eq_true rfl⟩) (hts (.static yX4_contains) (List.mem_cons_of_mem _ mw_1_47)) hEV va_P0 rfl hl.1 rfl (Nat.le_of_ble_eq_true rfl) dX1_hasWrongParents_55 ⟨Nat.zero_le _, Nat.zero_le _⟩ ?_
        refine lv_if_eq (tgt := 71) hx hb dX1_hasWrongParents_58 (by decide) (fun c_58 => ?_) (fun c_58 => ?_)
        · have c_58 : ¬ ((bt (h 3 x) n3) = true) := b2i_f c_58
          have hE := (if_neg c_58).symm.trans hE
          refine lv_iinc (v := nI (n3 + 1)) (lv' := [(3, .int (nI (n3 + 1))), (0, .ref (a 0)), (1, .int (nI x))]) hx hb dX1_hasWrongParents_71 hl (k := 0) rfl (nI_1 _) (by decide) rfl (fun ls hl => ?_)
          refine lv_goto (tgt := 42) hx hb dX1_hasWrongParents_74 (by decide) ?_
          exact ih_42 (n3 + 1) ls (by omega) (by omega) (lv_sub hl [0, 1, 2] rfl) hE
        · have c_58 : (bt (h 3 x) n3) = true := b2i_t c_58
          have hE := (if_pos c_58).symm.trans hE
          refine lv_aload_n hx hb dX1_hasWrongParents_61 rfl (lv_at hl 1 rfl) ?_
          refine lv_iload_n hx hb dX1_hasWrongParents_62 rfl (lv_at hl 0 rfl) ?_
          refine ro_V [.int (nI n3)] [] ⟨hx, hb, hml, hown, hts⟩ (c_X1_isInterface l D cI cZ cB cR a h τ n3 ok (by omega)) (cwV (C := RX1) 1 hts (goodP (ps := [.methodLink RX1 92 yX1_isInterface, .instanceMethod yX1_isInterface, .selects RX1 yX1_isInterface yX1_isInterface, .initialized RX1]) (all4 mw_1_63 mw_1_64 mw_1_65 mw_1_3) mw_1_66) rfl rfl rfl (by decide +kernel) ⟨Nat.le_of_ble_eq_true rfl, Nat.le_of_ble_eq_true rfl⟩) hEV hP 0 rfl rfl rfl hl.1 rfl (Nat.le_of_ble_eq_true rfl) dX1_hasWrongParents_63 ⟨Nat.zero_le _, Nat.zero_le _⟩ ?_
          refine lv_if_ne (tgt := 71) hx hb dX1_hasWrongParents_66 (by decide) (fun c_66 => ?_) (fun c_66 => ?_)
          · have c_66 : (bt (τ 1 n3) 1) = true := b2i_t c_66
            have hE := (if_pos c_66).symm.trans hE
            refine lv_iinc (v := nI (n3 + 1)) (lv' := [(3, .int (nI (n3 + 1))), (0, .ref (a 0)), (1, .int (nI x))]) hx hb dX1_hasWrongParents_71 hl (k := 0) rfl (nI_1 _) (by decide) rfl (fun ls hl => ?_)
            refine lv_goto (tgt := 42) hx hb dX1_hasWrongParents_74 (by decide) ?_
            exact ih_42 (n3 + 1) ls (by omega) (by omega) (lv_sub hl [0, 1, 2] rfl) hE
          · have c_66 : ¬ ((bt (τ 1 n3) 1) = true) := b2i_f c_66
            have hE := (if_neg c_66).symm.trans hE
            refine lv_iconst (v := (1 : Int32)) hx hb dX1_hasWrongParents_69 (by decide) ?_
            exact W.zret hx hb hr rfl (fun t9 ht9 _ => ⟨_, rfl, hE, ht9⟩) (fun _ h9 => by cases h9) dX1_hasWrongParents_70
  have key_26 : ∀ (ls : Array Slot), lv_has ls 4 [(2, .int (h 2 x)), (0, .ref (a 0)), (1, .int (nI x))] → p_X1_hasWrongParents_26 h τ x  = b2i (wrB τ x) → W p l e (headSpec wsX1_hasWrongParents ({ frames := 1, cells := 0, slots := 0, locals := 21 } : Room)).room s m args below meth c s.heap [] 0 0 (MQ below (vp_Si (fun r => r = b2i (wrB τ x))) args s 0 0 (fun _ => False)) (F0 m 26 ls []) := by
    intro  ls  hl hE
    rw [p_X1_hasWrongParents_26] at hE
    refine lv_aload_n hx hb dX1_hasWrongParents_26 rfl (lv_at hl 1 rfl) ?_
    refine lv_iload_n hx hb dX1_hasWrongParents_27 rfl (lv_at hl 2 rfl) ?_
    refine ro_V [.int (nI x)] [] ⟨hx, hb, hml, hown, hts⟩ (c_X1_isInterface l D cI cZ cB cR a h τ x ok (by omega)) (cwV (C := RX1) 1 hts (goodP (ps := [.methodLink RX1 92 yX1_isInterface, .instanceMethod yX1_isInterface, .selects RX1 yX1_isInterface yX1_isInterface, .initialized RX1]) (all4 mw_1_63 mw_1_64 mw_1_65 mw_1_3) mw_1_66) rfl rfl rfl (by decide +kernel) ⟨Nat.le_of_ble_eq_true rfl, Nat.le_of_ble_eq_true rfl⟩) hEV hP 0 rfl rfl rfl hl.1 rfl (Nat.le_of_ble_eq_true rfl) dX1_hasWrongParents_28 ⟨Nat.zero_le _, Nat.zero_le _⟩ ?_
    refine lv_if_eq (tgt := 40) hx hb dX1_hasWrongParents_31 (by decide) (fun c_31 => ?_) (fun c_31 => ?_)
    · have c_31 : ¬ ((bt (τ 1 x) 1) = true) := b2i_f c_31
      have hE := (if_neg c_31).symm.trans hE
      refine lv_iconst (v := (0 : Int32)) hx hb dX1_hasWrongParents_40 (by decide) ?_
      refine lv_istore_n (lv' := [(3, .int (0 : Int32)), (2, .int (h 2 x)), (0, .ref (a 0)), (1, .int (nI x))]) hx hb dX1_hasWrongParents_41 rfl hl (by decide) rfl (fun ls hl => ?_)
      exact key_42 13 0 ls (by omega) (by omega) (lv_sub hl [0, 2, 3] rfl) hE
    · have c_31 : (bt (τ 1 x) 1) = true := b2i_t c_31
      have hE := (if_pos c_31).symm.trans hE
      refine lv_iload_n hx hb dX1_hasWrongParents_34 rfl (lv_at hl 0 rfl) ?_
      refine lv_if_eq (tgt := 40) hx hb dX1_hasWrongParents_35 (by decide) (fun c_35 => ?_) (fun c_35 => ?_)
      · skip
        have hE := (if_pos c_35).symm.trans hE
        refine lv_iconst (v := (0 : Int32)) hx hb dX1_hasWrongParents_40 (by decide) ?_
        refine lv_istore_n (lv' := [(3, .int (0 : Int32)), (2, .int (h 2 x)), (0, .ref (a 0)), (1, .int (nI x))]) hx hb dX1_hasWrongParents_41 rfl hl (by decide) rfl (fun ls hl => ?_)
        exact key_42 13 0 ls (by omega) (by omega) (lv_sub hl [0, 2, 3] rfl) hE
      · skip
        have hE := (if_neg c_35).symm.trans hE
        refine lv_iconst (v := (1 : Int32)) hx hb dX1_hasWrongParents_38 (by decide) ?_
        exact W.zret hx hb hr rfl (fun t9 ht9 _ => ⟨_, rfl, hE, ht9⟩) (fun _ h9 => by cases h9) dX1_hasWrongParents_39
  refine lv_aload_n hx hb dX1_hasWrongParents_0 rfl (lv_at hl 0 rfl) ?_
  refine va_get (D := D) (ci := 1) (v := .ref (a 3)) (C := RX1) (T := TX1) (N := 10) hx hb hts (fun w9 h9 => List.mem_cons_of_mem _ (inT_X1 w9 h9)) hown hK hP 0 rfl rfl 3 (by decide) (hts (.fieldLink RX1 18 "LinkPredictor$Hierarchy" "supers" "[I") (List.mem_cons_of_mem _ mw_1_74)) (fun _ h9 => h9) rfl dX1_hasWrongParents_1 ?_
  refine lv_iload_n hx hb dX1_hasWrongParents_4 rfl (lv_at hl 1 rfl) ?_
  refine ro_ald hx hb hEV hP 3 (j := x) rfl (by omega) (by decide) dX1_hasWrongParents_5 ?_
  refine lv_istore_n (lv' := [(2, .int (h 2 x)), (0, .ref (a 0)), (1, .int (nI x))]) hx hb dX1_hasWrongParents_6 rfl hl (by decide) rfl (fun ls hl => ?_)
  refine lv_iload_n hx hb dX1_hasWrongParents_7 rfl (lv_at hl 0 rfl) ?_
  refine lv_iconst (v := (-1 : Int32)) hx hb dX1_hasWrongParents_8 (by decide) ?_
  refine lv_icmp_eq (tgt := 26) hx hb dX1_hasWrongParents_9 (by decide) (fun c_9 => ?_) (fun c_9 => ?_)
  · skip
    have hE := (if_pos c_9).symm.trans hE
    exact key_26  ls  (lv_sub hl [0, 1, 2] rfl) hE
  · skip
    have hE := (if_neg c_9).symm.trans hE
    refine lv_aload_n hx hb dX1_hasWrongParents_12 rfl (lv_at hl 1 rfl) ?_
    refine va_get (D := D) (ci := 1) (v := .ref (a 1)) (C := RX1) (T := TX1) (N := 10) hx hb hts (fun w9 h9 => List.mem_cons_of_mem _ (inT_X1 w9 h9)) hown hK hP 0 rfl rfl 1 (by decide) (hts (.fieldLink RX1 9 "LinkPredictor$Hierarchy" "flags" "[I") (List.mem_cons_of_mem _ mw_1_72)) (fun _ h9 => h9) rfl dX1_hasWrongParents_13 ?_
    refine lv_iload_n hx hb dX1_hasWrongParents_16 rfl (lv_at hl 0 rfl) ?_
    refine ro_aldI hx hb hEV hP 1 rfl (vp_of_isT (ok.su hnx) ((wf.1 x hnx).1.resolve_left (fun z9 => c_9 ((ok.su hnx).trans z9)))) dX1_hasWrongParents_17 ?_
    refine lv_bipush (v := (10 : Int32)) hx hb dX1_hasWrongParents_18 (by decide) ?_
    refine lv_iand hx hb dX1_hasWrongParents_20 ?_
    refine lv_if_eq (tgt := 26) hx hb dX1_hasWrongParents_21 (by decide) (fun c_21 => ?_) (fun c_21 => ?_)
    · skip
      have hE := (if_pos c_21).symm.trans hE
      exact key_26  ls  (lv_sub hl [0, 1, 2] rfl) hE
    · skip
      have hE := (if_neg c_21).symm.trans hE
      refine lv_iconst (v := (1 : Int32)) hx hb dX1_hasWrongParents_24 (by decide) ?_
      exact W.zret hx hb hr rfl (fun t9 ht9 _ => ⟨_, rfl, hE, ht9⟩) (fun _ h9 => by cases h9) dX1_hasWrongParents_25
def p_X1_gatherSets_67 (τ : Nat → Nat → Int32) (x : Nat) : Nat → Nat → Int32 → (Nat → Nat → Int32) → (Nat → Nat → Int32)
  | 0, _, _, h => h
  | k + 1, n4, v3, h => if 12 ≤ n4 then (st2 h 7 x v3) else (if (bt (h 3 x) n4) = true then (p_X1_gatherSets_67 τ x k (n4 + 1) (v3 ||| (h 7 n4)) h) else (p_X1_gatherSets_67 τ x k (n4 + 1) v3 h))
def p_X1_gatherSets_63 (τ : Nat → Nat → Int32) (x : Nat) (vs0 : Int32) (h : (Nat → Nat → Int32)) : (Nat → Nat → Int32) := p_X1_gatherSets_67 τ x 13 0 vs0 h
def p_X1_gatherSets_35 (τ : Nat → Nat → Int32) (x : Nat) (vs0 : Int32) (h : (Nat → Nat → Int32)) : (Nat → Nat → Int32) := if (τ 3 x) = (-1 : Int32) then (p_X1_gatherSets_63 τ x ((st2 h 6 x vs0) 3 x) (st2 h 6 x vs0)) else (p_X1_gatherSets_63 τ x (((st2 h 6 x vs0) 3 x) ||| ((st2 h 6 x vs0) 7 (sN (τ 3 x)))) (st2 h 6 x vs0))
def p_X1_gatherSets (τ : Nat → Nat → Int32) (x : Nat) (h : (Nat → Nat → Int32)) : (Nat → Nat → Int32) := if (τ 3 x) = (-1 : Int32) then (p_X1_gatherSets_35 τ x (bm x) h) else (p_X1_gatherSets_35 τ x ((bm x) ||| (h 6 (sN (τ 3 x)))) h)
set_option maxHeartbeats 4000000 in
set_option maxRecDepth 100000 in
theorem c_X1_gatherSets (l : Launch) (D : va_G) (cI cZ cB cR : ClassId) (a : Nat → Nat) (h τ : Nat → Nat → Int32) (x : Nat) (hT : vwH h = τ) (wf : WFT τ) (hnx : x < 12) : MUv l yX1_gatherSets wsX1_gatherSets ({ frames := 1, cells := 0, slots := 0, locals := 21 } : Room) D cI cZ cB cR (wH cI a h) [.ref (a 0), .int (nI x)] (fun (_ : Unit) => wH cI a ((p_X1_gatherSets τ x h))) (fun _ => True) := by
  generalize hE : p_X1_gatherSets τ x h = tgt
  intro sz
  refine Met.ofW (cc := cX1_gatherSets) (maxL := 5) (ret := none) (by decide) rfl ?_
  intro p e s m args below meth c s₁ B hml hv
  obtain ⟨hargs, hsz, hP, hEV, hD0⟩ := hv
  have hx := B.exec
  have hb := B.bytes
  have hr := B.returns
  have hts := atoms_spec (ws := wsX1_gatherSets) B.pre
  have hown : s.vm.findClass RX1 = some m.cls := findClass_of_methodNamed B.named
  have hlocks := B.notSynchronized
  have hK := hEV.1
  have hl := lv_entry ([.ref (a 0), .int (nI x)]) (n := 5) (Nat.le_of_ble_eq_true rfl)
  rw [show entryFrame m args 5 = entryFrame m ([.ref (a 0), .int (nI x)] : List Value).toArray 5 from by rw [hargs], lg_entry_eq]
  generalize (lg_sl ([.ref (a 0), .int (nI x)]) ++ List.replicate (5 - (lg_sl ([.ref (a 0), .int (nI x)])).length) Slot.unset).toArray = ls at hl ⊢
  have hl : lv_has ls 5 [(0, .ref (a 0)), (1, .int (nI x))] := hl
  subst hsz
  have hD := hD0.self (sz := s.heap.size)
  generalize hAe : va_A (wH cI a h) s.heap.size = A at hD ⊢
  have hA : ∀ q : Nat, s.heap.size ≤ q → A q := fun q h9 => by rw [← hAe]; exact Or.inr h9
  have hS : va_S A s.heap s.heap [] := va_S.rf
  rw [p_X1_gatherSets] at hE
  have key_67 : ∀ (k_67 : Nat) (n4 : Nat) (v3 : Int32) (h : (Nat → Nat → Int32)) (ls : Array Slot) (H : Heap) (locs : List Loc) (hP : va_P D vwCl (wH cI a h) H) (hD : va_D A (wH cI a h)) (hS : va_S A s.heap H locs), (12 - n4) < k_67 → vwH h = τ → n4 ≤ 12 → lv_has ls 5 [(4, .int (nI n4)), (3, .int v3), (0, .ref (a 0)), (1, .int (nI x))] → p_X1_gatherSets_67 τ x k_67 n4 v3 h = tgt → W p l e (headSpec wsX1_gatherSets ({ frames := 1, cells := 0, slots := 0, locals := 21 } : Room)).room s m args below meth c H locs 0 0 (MQ below (va_Qv (fun (_ : Unit) => True) (fun _ t => va_P D vwCl (wH cI a tgt) t.heap) A) args s 0 0 A) (F0 m 67 ls []) := by
    intro k_67
    induction k_67 with
    | zero => intro n4 v3 h ls H locs hP hD hS hm; exact absurd hm (Nat.not_lt_zero _)
    | succ k_67 ih_67 =>
      intro n4 v3 h ls H locs hP hD hS hm_67 hi_67_0 hi_67_1 hl hE
      rw [p_X1_gatherSets_67] at hE
      have hT := hi_67_0
      refine lv_iload hx hb dX1_gatherSets_67 (lv_at hl 0 rfl) ?_
      refine lv_bipush (v := (12 : Int32)) hx hb dX1_gatherSets_69 (by decide) ?_
      refine lv_icmp_ge (tgt := 104) hx hb dX1_gatherSets_71 (by decide) (fun c_71 => ?_) (fun c_71 => ?_)
      · have c_71 : 12 ≤ n4 := (nI_leI (a := 12) (b := n4) (by omega) (by omega)).mp c_71
        have hE := (if_pos c_71).symm.trans hE
        refine lv_aload_n hx hb dX1_gatherSets_104 rfl (lv_at hl 2 rfl) ?_
        refine va_get (D := D) (ci := 1) (v := .ref (a 8)) (C := RX1) (T := TX1) (N := 10) hx hb hts (fun w9 h9 => List.mem_cons_of_mem _ (inT_X1 w9 h9)) hown hK hP 0 rfl rfl 9 (by decide) (hts (.fieldLink RX1 33 "LinkPredictor$Hierarchy" "allFaces" "[I") (List.mem_cons_of_mem _ mw_1_80)) (fun _ h9 => h9) rfl dX1_gatherSets_105 ?_
        refine lv_iload_n hx hb dX1_gatherSets_108 rfl (lv_at hl 3 rfl) ?_
        refine lv_iload_n hx hb dX1_gatherSets_109 rfl (lv_at hl 1 rfl) ?_
        refine mu_ast hx hb hEV hP hD hS 8 (j := x) (v := v3) (w2 := wH cI a (st2 h 7 x v3)) rfl (by omega) (by decide) rfl dX1_gatherSets_110 (fun H locs hP hD hS => ?_)
        exact W.vret hx hb hr (fun t9 ht9 _ => ⟨⟨(), rfl, trivial, by show va_P D vwCl _ t9.heap; rw [ht9, ← hE]; exact hP⟩, hS.F ht9⟩) hS.2.2 dX1_gatherSets_111
      · have c_71 : ¬ (12 ≤ n4) := fun q9 => c_71 ((nI_leI (a := 12) (b := n4) (by omega) (by omega)).mpr q9)
        have hE := (if_neg c_71).symm.trans hE
        refine lv_aload_n hx hb dX1_gatherSets_74 rfl (lv_at hl 2 rfl) ?_
        refine va_get (D := D) (ci := 1) (v := .ref (a 4)) (C := RX1) (T := TX1) (N := 10) hx hb hts (fun w9 h9 => List.mem_cons_of_mem _ (inT_X1 w9 h9)) hown hK hP 0 rfl rfl 4 (by decide) (hts (.fieldLink RX1 21 "LinkPredictor$Hierarchy" "directFaces" "[I") (List.mem_cons_of_mem _ mw_1_75)) (fun _ h9 => h9) rfl dX1_gatherSets_75 ?_
        refine lv_iload_n hx hb dX1_gatherSets_78 rfl (lv_at hl 3 rfl) ?_
        refine ro_ald hx hb hEV hP 4 (j := x) rfl (by omega) (by decide) dX1_gatherSets_79 ?_
        refine lv_iload hx hb dX1_gatherSets_80 (lv_at hl 0 rfl) ?_
        refine ro_SN [.int (h 3 x), .int (nI n4)] [] ⟨hx, hb, hml, hown, hts⟩ (c_X4_contains l D cI cZ cB cR (h 3 x) n4 (by omega)) (va_cnB (host := "LinkPredictor") 2 hts (goodC mw_1_48) rfl rfl rfl (hEV.2 (.methodLinkNest RX1 57 yX4_contains "LinkPredictor") (by decide +kernel)) (hts (.initialized RX4) (List.mem_cons_of_mem _ mw_1_1)) (by decide +kernel) ⟨Nat.le_of_ble_eq_true rfl, Nat.le_of_ble_eq_true rfl⟩) (hts (.static yX4_contains) (List.mem_cons_of_mem _ mw_1_47)) hEV va_P0 rfl hl.1 rfl (Nat.le_of_ble_eq_true rfl) dX1_gatherSets_82 ⟨Nat.zero_le _, Nat.zero_le _⟩ ?_
        refine lv_if_eq (tgt := 98) hx hb dX1_gatherSets_85 (by decide) (fun c_85 => ?_) (fun c_85 => ?_)
        · have c_85 : ¬ ((bt (h 3 x) n4) = true) := b2i_f c_85
          have hE := (if_neg c_85).symm.trans hE
          refine lv_iinc (v := nI (n4 + 1)) (lv' := [(4, .int (nI (n4 + 1))), (3, .int v3), (0, .ref (a 0)), (1, .int (nI x))]) hx hb dX1_gatherSets_98 hl (k := 0) rfl (nI_1 _) (by decide) rfl (fun ls hl => ?_)
          refine lv_goto (tgt := 67) hx hb dX1_gatherSets_101 (by decide) ?_
          exact ih_67 (n4 + 1) v3 h ls _ _ hP hD hS (by omega) (by first | omega | exact hT | (simp only [vwH_s5, vwH_s6, vwH_s7, vwH_s8]; exact hT)) (by first | omega | exact hT | (simp only [vwH_s5, vwH_s6, vwH_s7, vwH_s8]; exact hT)) (lv_sub hl [0, 1, 2, 3] rfl) hE
        · have c_85 : (bt (h 3 x) n4) = true := b2i_t c_85
          have hE := (if_pos c_85).symm.trans hE
          refine lv_iload_n hx hb dX1_gatherSets_88 rfl (lv_at hl 1 rfl) ?_
          refine lv_aload_n hx hb dX1_gatherSets_89 rfl (lv_at hl 2 rfl) ?_
          refine va_get (D := D) (ci := 1) (v := .ref (a 8)) (C := RX1) (T := TX1) (N := 10) hx hb hts (fun w9 h9 => List.mem_cons_of_mem _ (inT_X1 w9 h9)) hown hK hP 0 rfl rfl 9 (by decide) (hts (.fieldLink RX1 33 "LinkPredictor$Hierarchy" "allFaces" "[I") (List.mem_cons_of_mem _ mw_1_80)) (fun _ h9 => h9) rfl dX1_gatherSets_90 ?_
          refine lv_iload hx hb dX1_gatherSets_93 (lv_at hl 0 rfl) ?_
          refine ro_ald hx hb hEV hP 8 (j := n4) rfl (by omega) (by decide) dX1_gatherSets_95 ?_
          refine lv_ior hx hb dX1_gatherSets_96 ?_
          refine lv_istore_n (lv' := [(3, .int (v3 ||| (h 7 n4))), (4, .int (nI n4)), (0, .ref (a 0)), (1, .int (nI x))]) hx hb dX1_gatherSets_97 rfl hl (by decide) rfl (fun ls hl => ?_)
          refine lv_iinc (v := nI (n4 + 1)) (lv' := [(4, .int (nI (n4 + 1))), (3, .int (v3 ||| (h 7 n4))), (0, .ref (a 0)), (1, .int (nI x))]) hx hb dX1_gatherSets_98 hl (k := 1) rfl (nI_1 _) (by decide) rfl (fun ls hl => ?_)
          refine lv_goto (tgt := 67) hx hb dX1_gatherSets_101 (by decide) ?_
          exact ih_67 (n4 + 1) (v3 ||| (h 7 n4)) h ls _ _ hP hD hS (by omega) (by first | omega | exact hT | (simp only [vwH_s5, vwH_s6, vwH_s7, vwH_s8]; exact hT)) (by first | omega | exact hT | (simp only [vwH_s5, vwH_s6, vwH_s7, vwH_s8]; exact hT)) (lv_sub hl [0, 1, 2, 3] rfl) hE
  have key_63 : ∀ (vs0 : Int32) (h : (Nat → Nat → Int32)) (ls : Array Slot) (H : Heap) (locs : List Loc) (hP : va_P D vwCl (wH cI a h) H) (hD : va_D A (wH cI a h)) (hS : va_S A s.heap H locs), vwH h = τ → lv_has ls 5 [(0, .ref (a 0)), (1, .int (nI x))] → p_X1_gatherSets_63 τ x vs0 h = tgt → W p l e (headSpec wsX1_gatherSets ({ frames := 1, cells := 0, slots := 0, locals := 21 } : Room)).room s m args below meth c H locs 0 0 (MQ below (va_Qv (fun (_ : Unit) => True) (fun _ t => va_P D vwCl (wH cI a tgt) t.heap) A) args s 0 0 A) (F0 m 63 ls [.int vs0]) := by
    intro vs0 h ls H locs hP hD hS hi_63_0 hl hE
    rw [p_X1_gatherSets_63] at hE
    have hT := hi_63_0
    refine lv_istore_n (lv' := [(3, .int vs0), (0, .ref (a 0)), (1, .int (nI x))]) hx hb dX1_gatherSets_63 rfl hl (by decide) rfl (fun ls hl => ?_)
    refine lv_iconst (v := (0 : Int32)) hx hb dX1_gatherSets_64 (by decide) ?_
    refine lv_istore (lv' := [(4, .int (0 : Int32)), (3, .int vs0), (0, .ref (a 0)), (1, .int (nI x))]) hx hb dX1_gatherSets_65 hl (by decide) rfl (fun ls hl => ?_)
    exact key_67 13 0 vs0 h ls _ _ hP hD hS (by omega) (by first | omega | exact hT | (simp only [vwH_s5, vwH_s6, vwH_s7, vwH_s8]; exact hT)) (by first | omega | exact hT | (simp only [vwH_s5, vwH_s6, vwH_s7, vwH_s8]; exact hT)) (lv_sub hl [0, 1, 2, 3] rfl) hE
  have key_35 : ∀ (vs0 : Int32) (h : (Nat → Nat → Int32)) (ls : Array Slot) (H : Heap) (locs : List Loc) (hP : va_P D vwCl (wH cI a h) H) (hD : va_D A (wH cI a h)) (hS : va_S A s.heap H locs), vwH h = τ → lv_has ls 5 [(2, .int (τ 3 x)), (0, .ref (a 0)), (1, .int (nI x))] → p_X1_gatherSets_35 τ x vs0 h = tgt → W p l e (headSpec wsX1_gatherSets ({ frames := 1, cells := 0, slots := 0, locals := 21 } : Room)).room s m args below meth c H locs 0 0 (MQ below (va_Qv (fun (_ : Unit) => True) (fun _ t => va_P D vwCl (wH cI a tgt) t.heap) A) args s 0 0 A) (F0 m 35 ls [.int vs0, .int (nI x), .ref (a 7)]) := by
    intro vs0 h ls H locs hP hD hS hi_35_0 hl hE
    rw [p_X1_gatherSets_35] at hE
    have hT := hi_35_0
    refine mu_ast hx hb hEV hP hD hS 7 (j := x) (v := vs0) (w2 := wH cI a (st2 h 6 x vs0)) rfl (by omega) (by decide) rfl dX1_gatherSets_35 (fun H locs hP hD hS => ?_)
    refine lv_iload_n hx hb dX1_gatherSets_36 rfl (lv_at hl 0 rfl) ?_
    refine lv_iconst (v := (-1 : Int32)) hx hb dX1_gatherSets_37 (by decide) ?_
    refine lv_icmp_ne (tgt := 50) hx hb dX1_gatherSets_38 (by decide) (fun c_38 => ?_) (fun c_38 => ?_)
    · skip
      have hE := (if_neg c_38).symm.trans hE
      have hs9 := ((wf.1 x hnx).1.resolve_left c_38).1
      refine lv_aload_n hx hb dX1_gatherSets_50 rfl (lv_at hl 1 rfl) ?_
      refine va_get (D := D) (ci := 1) (v := .ref (a 4)) (C := RX1) (T := TX1) (N := 10) hx hb hts (fun w9 h9 => List.mem_cons_of_mem _ (inT_X1 w9 h9)) hown hK hP 0 rfl rfl 4 (by decide) (hts (.fieldLink RX1 21 "LinkPredictor$Hierarchy" "directFaces" "[I") (List.mem_cons_of_mem _ mw_1_75)) (fun _ h9 => h9) rfl dX1_gatherSets_51 ?_
      refine lv_iload_n hx hb dX1_gatherSets_54 rfl (lv_at hl 2 rfl) ?_
      refine ro_ald hx hb hEV hP 4 (j := x) rfl (by omega) (by decide) dX1_gatherSets_55 ?_
      refine lv_aload_n hx hb dX1_gatherSets_56 rfl (lv_at hl 1 rfl) ?_
      refine va_get (D := D) (ci := 1) (v := .ref (a 8)) (C := RX1) (T := TX1) (N := 10) hx hb hts (fun w9 h9 => List.mem_cons_of_mem _ (inT_X1 w9 h9)) hown hK hP 0 rfl rfl 9 (by decide) (hts (.fieldLink RX1 33 "LinkPredictor$Hierarchy" "allFaces" "[I") (List.mem_cons_of_mem _ mw_1_80)) (fun _ h9 => h9) rfl dX1_gatherSets_57 ?_
      refine lv_iload_n hx hb dX1_gatherSets_60 rfl (lv_at hl 0 rfl) ?_
      refine top_eq (((wf.1 x hnx).1.resolve_left c_38).2) ?_
      refine ro_ald hx hb hEV hP 8 (j := (sN (τ 3 x))) rfl (by omega) (by decide) dX1_gatherSets_61 ?_
      refine lv_ior hx hb dX1_gatherSets_62 ?_
      exact key_63 (((st2 h 6 x vs0) 3 x) ||| ((st2 h 6 x vs0) 7 (sN (τ 3 x)))) (st2 h 6 x vs0) ls _ _ hP hD hS (by first | omega | exact hT | (simp only [vwH_s5, vwH_s6, vwH_s7, vwH_s8]; exact hT)) (lv_sub hl [1, 2] rfl) hE
    · skip
      have hE := (if_pos c_38).symm.trans hE
      refine lv_aload_n hx hb dX1_gatherSets_41 rfl (lv_at hl 1 rfl) ?_
      refine va_get (D := D) (ci := 1) (v := .ref (a 4)) (C := RX1) (T := TX1) (N := 10) hx hb hts (fun w9 h9 => List.mem_cons_of_mem _ (inT_X1 w9 h9)) hown hK hP 0 rfl rfl 4 (by decide) (hts (.fieldLink RX1 21 "LinkPredictor$Hierarchy" "directFaces" "[I") (List.mem_cons_of_mem _ mw_1_75)) (fun _ h9 => h9) rfl dX1_gatherSets_42 ?_
      refine lv_iload_n hx hb dX1_gatherSets_45 rfl (lv_at hl 2 rfl) ?_
      refine ro_ald hx hb hEV hP 4 (j := x) rfl (by omega) (by decide) dX1_gatherSets_46 ?_
      refine lv_goto (tgt := 63) hx hb dX1_gatherSets_47 (by decide) ?_
      exact key_63 ((st2 h 6 x vs0) 3 x) (st2 h 6 x vs0) ls _ _ hP hD hS (by first | omega | exact hT | (simp only [vwH_s5, vwH_s6, vwH_s7, vwH_s8]; exact hT)) (lv_sub hl [1, 2] rfl) hE
  refine lv_aload_n hx hb dX1_gatherSets_0 rfl (lv_at hl 0 rfl) ?_
  refine va_get (D := D) (ci := 1) (v := .ref (a 3)) (C := RX1) (T := TX1) (N := 10) hx hb hts (fun w9 h9 => List.mem_cons_of_mem _ (inT_X1 w9 h9)) hown hK hP 0 rfl rfl 3 (by decide) (hts (.fieldLink RX1 18 "LinkPredictor$Hierarchy" "supers" "[I") (List.mem_cons_of_mem _ mw_1_74)) (fun _ h9 => h9) rfl dX1_gatherSets_1 ?_
  refine lv_iload_n hx hb dX1_gatherSets_4 rfl (lv_at hl 1 rfl) ?_
  refine ro_ald hx hb hEV hP 3 (j := x) rfl (by omega) (by decide) dX1_gatherSets_5 ?_
  refine top_eq ((OKB_of hT).su hnx) ?_
  refine lv_istore_n (lv' := [(2, .int (τ 3 x)), (0, .ref (a 0)), (1, .int (nI x))]) hx hb dX1_gatherSets_6 rfl hl (by decide) rfl (fun ls hl => ?_)
  refine lv_aload_n hx hb dX1_gatherSets_7 rfl (lv_at hl 1 rfl) ?_
  refine va_get (D := D) (ci := 1) (v := .ref (a 7)) (C := RX1) (T := TX1) (N := 10) hx hb hts (fun w9 h9 => List.mem_cons_of_mem _ (inT_X1 w9 h9)) hown hK hP 0 rfl rfl 8 (by decide) (hts (.fieldLink RX1 30 "LinkPredictor$Hierarchy" "aboves" "[I") (List.mem_cons_of_mem _ mw_1_79)) (fun _ h9 => h9) rfl dX1_gatherSets_8 ?_
  refine lv_iload_n hx hb dX1_gatherSets_11 rfl (lv_at hl 2 rfl) ?_
  refine lv_iload_n hx hb dX1_gatherSets_12 rfl (lv_at hl 0 rfl) ?_
  refine lv_iconst (v := (-1 : Int32)) hx hb dX1_gatherSets_13 (by decide) ?_
  refine lv_icmp_ne (tgt := 24) hx hb dX1_gatherSets_14 (by decide) (fun c_14 => ?_) (fun c_14 => ?_)
  · skip
    have hE := (if_neg c_14).symm.trans hE
    have hs9 := ((wf.1 x hnx).1.resolve_left c_14).1
    refine lv_iload_n hx hb dX1_gatherSets_24 rfl (lv_at hl 2 rfl) ?_
    refine ro_SN [.int (nI x)] [.int (nI x), .ref (a 7)] ⟨hx, hb, hml, hown, hts⟩ (c_X4_bit l D cI cZ cB cR x (by omega)) (va_cnB (host := "LinkPredictor") 1 hts (goodC mw_1_33) rfl rfl rfl (hEV.2 (.methodLinkNest RX1 36 yX4_bit "LinkPredictor") (by decide +kernel)) (hts (.initialized RX4) (List.mem_cons_of_mem _ mw_1_1)) (by decide +kernel) ⟨Nat.le_of_ble_eq_true rfl, Nat.le_of_ble_eq_true rfl⟩) (hts (.static yX4_bit) (List.mem_cons_of_mem _ mw_1_32)) hEV va_P0 rfl hl.1 rfl (Nat.le_of_ble_eq_true rfl) dX1_gatherSets_25 ⟨Nat.zero_le _, Nat.zero_le _⟩ ?_
    refine lv_aload_n hx hb dX1_gatherSets_28 rfl (lv_at hl 1 rfl) ?_
    refine va_get (D := D) (ci := 1) (v := .ref (a 7)) (C := RX1) (T := TX1) (N := 10) hx hb hts (fun w9 h9 => List.mem_cons_of_mem _ (inT_X1 w9 h9)) hown hK hP 0 rfl rfl 8 (by decide) (hts (.fieldLink RX1 30 "LinkPredictor$Hierarchy" "aboves" "[I") (List.mem_cons_of_mem _ mw_1_79)) (fun _ h9 => h9) rfl dX1_gatherSets_29 ?_
    refine lv_iload_n hx hb dX1_gatherSets_32 rfl (lv_at hl 0 rfl) ?_
    refine top_eq (((wf.1 x hnx).1.resolve_left c_14).2) ?_
    refine ro_ald hx hb hEV hP 7 (j := (sN (τ 3 x))) rfl (by omega) (by decide) dX1_gatherSets_33 ?_
    refine lv_ior hx hb dX1_gatherSets_34 ?_
    exact key_35 ((bm x) ||| (h 6 (sN (τ 3 x)))) h ls _ _ hP hD hS (by first | omega | exact hT | (simp only [vwH_s5, vwH_s6, vwH_s7, vwH_s8]; exact hT)) (lv_sub hl [0, 1, 2] rfl) hE
  · skip
    have hE := (if_pos c_14).symm.trans hE
    refine lv_iload_n hx hb dX1_gatherSets_17 rfl (lv_at hl 2 rfl) ?_
    refine ro_SN [.int (nI x)] [.int (nI x), .ref (a 7)] ⟨hx, hb, hml, hown, hts⟩ (c_X4_bit l D cI cZ cB cR x (by omega)) (va_cnB (host := "LinkPredictor") 1 hts (goodC mw_1_33) rfl rfl rfl (hEV.2 (.methodLinkNest RX1 36 yX4_bit "LinkPredictor") (by decide +kernel)) (hts (.initialized RX4) (List.mem_cons_of_mem _ mw_1_1)) (by decide +kernel) ⟨Nat.le_of_ble_eq_true rfl, Nat.le_of_ble_eq_true rfl⟩) (hts (.static yX4_bit) (List.mem_cons_of_mem _ mw_1_32)) hEV va_P0 rfl hl.1 rfl (Nat.le_of_ble_eq_true rfl) dX1_gatherSets_18 ⟨Nat.zero_le _, Nat.zero_le _⟩ ?_
    refine lv_goto (tgt := 35) hx hb dX1_gatherSets_21 (by decide) ?_
    exact key_35 (bm x) h ls _ _ hP hD hS (by first | omega | exact hT | (simp only [vwH_s5, vwH_s6, vwH_s7, vwH_s8]; exact hT)) (lv_sub hl [0, 1, 2] rfl) hE
theorem vwH_gather67 (τ : Nat → Nat → Int32) (x : Nat) : ∀ (k n : Nat) (v : Int32) (h : Nat → Nat → Int32), vwH (p_X1_gatherSets_67 τ x k n v h) = vwH h := by
  intro k
  induction k with
  | zero => intro n v h; rfl
  | succ k ih =>
    intro n v h
    rw [p_X1_gatherSets_67]
    split
    · exact vwH_s7
    · split
      · exact ih _ _ _
      · exact ih _ _ _
theorem vwH_gather (τ : Nat → Nat → Int32) (x : Nat) (h : Nat → Nat → Int32) : vwH (p_X1_gatherSets τ x h) = vwH h := by
  have h63 : ∀ v h, vwH (p_X1_gatherSets_63 τ x v h) = vwH h := fun v h => by
    rw [p_X1_gatherSets_63]; exact vwH_gather67 _ _ _ _ _ _
  have h35 : ∀ v h, vwH (p_X1_gatherSets_35 τ x v h) = vwH h := fun v h => by
    rw [p_X1_gatherSets_35]
    split
    · rw [h63]; exact vwH_s6
    · rw [h63]; exact vwH_s6
  rw [p_X1_gatherSets]
  split <;> exact h35 _ _
def p_X1_loadInside_80 (τ : Nat → Nat → Int32) (G : (Nat → Nat → Int32) → Nat → Int32 → Int32 × (Nat → Nat → Int32)) (x : Nat) (y : Int32) (h : (Nat → Nat → Int32)) : Int32 × (Nat → Nat → Int32) := (nI x, st2 h 8 1 ((h 8 1) ||| (bm x)))
def p_X1_loadInside_51 (τ : Nat → Nat → Int32) (G : (Nat → Nat → Int32) → Nat → Int32 → Int32 × (Nat → Nat → Int32)) (x : Nat) (y : Int32) (vs0 : Int32) (h : (Nat → Nat → Int32)) : Int32 × (Nat → Nat → Int32) := if (gd vs0) = true then (if (wrB τ x) = true then ((nI (192 + x), h)) else (p_X1_loadInside_80 τ G x y (p_X1_gatherSets τ x h))) else ((vs0, h))
def p_X1_loadInside (τ : Nat → Nat → Int32) (G : (Nat → Nat → Int32) → Nat → Int32 → Int32 × (Nat → Nat → Int32)) (x : Nat) (y : Int32) (h : (Nat → Nat → Int32)) : Int32 × (Nat → Nat → Int32) := if (thB τ x) = true then (if (bt y x) = true then ((nI (128 + x), h)) else (if (bt (h 8 1) x) = true then ((nI x, h)) else (p_X1_loadInside_51 τ G x y ((G h x (y ||| (bm x))).1) ((G h x (y ||| (bm x))).2)))) else ((nI (64 + x), h))
set_option maxHeartbeats 4000000 in
set_option maxRecDepth 100000 in
theorem c_X1_loadInside (l : Launch) (D : va_G) (cI cZ cB cR : ClassId) (a : Nat → Nat) (d : Nat) (h τ : Nat → Nat → Int32) (G : (Nat → Nat → Int32) → Nat → Int32 → Int32 × (Nat → Nat → Int32)) (x : Nat) (y : Int32) (hT : vwH h = τ) (wf : WFT τ) (hnx : x < 12) (hd : cN y < d + 1) (hG : ∀ (h' : (Nat → Nat → Int32)) (t : Nat) (o : Int32), vwH h' = τ → t < 12 → cN o < d → MUi l yX1_loadParents wsX1_loadParents ({ frames := 2 * d + 11, cells := 0, slots := 0, locals := 60 * d + 230 } : Room) D cI cZ cB cR (wH cI a h') [.ref (a 0), .int (nI t), .int o] (fun (_ : Unit) => wH cI a (G h' t o).2) (fun r _ => r = (G h' t o).1)) (hGv : ∀ h' t o, vwH (G h' t o).2 = vwH h') : MUi l yX1_loadInside wsX1_loadInside ({ frames := 2 * d + 12, cells := 0, slots := 0, locals := 60 * d + 260 } : Room) D cI cZ cB cR (wH cI a h) [.ref (a 0), .int (nI x), .int y] (fun (_ : Unit) => wH cI a ((p_X1_loadInside τ G x y h).2)) (fun r _ => r = (p_X1_loadInside τ G x y h).1) := by
  generalize hE : p_X1_loadInside τ G x y h = tgt
  intro sz
  refine Met.ofW (cc := cX1_loadInside) (maxL := 4) (ret := (some .int)) (by decide) rfl ?_
  intro p e s m args below meth c s₁ B hml hv
  obtain ⟨hargs, hsz, hP, hEV, hD0⟩ := hv
  have hx := B.exec
  have hb := B.bytes
  have hr := B.returns
  have hts := atoms_spec (ws := wsX1_loadInside) B.pre
  have hown : s.vm.findClass RX1 = some m.cls := findClass_of_methodNamed B.named
  have hlocks := B.notSynchronized
  have hK := hEV.1
  have hl := lv_entry ([.ref (a 0), .int (nI x), .int y]) (n := 4) (Nat.le_of_ble_eq_true rfl)
  rw [show entryFrame m args 4 = entryFrame m ([.ref (a 0), .int (nI x), .int y] : List Value).toArray 4 from by rw [hargs], lg_entry_eq]
  generalize (lg_sl ([.ref (a 0), .int (nI x), .int y]) ++ List.replicate (4 - (lg_sl ([.ref (a 0), .int (nI x), .int y])).length) Slot.unset).toArray = ls at hl ⊢
  have hl : lv_has ls 4 [(0, .ref (a 0)), (1, .int (nI x)), (2, .int y)] := hl
  subst hsz
  have hD := hD0.self (sz := s.heap.size)
  generalize hAe : va_A (wH cI a h) s.heap.size = A at hD ⊢
  have hA : ∀ q : Nat, s.heap.size ≤ q → A q := fun q h9 => by rw [← hAe]; exact Or.inr h9
  have hS : va_S A s.heap s.heap [] := va_S.rf
  rw [p_X1_loadInside] at hE
  have key_80 : ∀ (h : (Nat → Nat → Int32)) (ls : Array Slot) (H : Heap) (locs : List Loc) (hP : va_P D vwCl (wH cI a h) H) (hD : va_D A (wH cI a h)) (hS : va_S A s.heap H locs), vwH h = τ → lv_has ls 4 [(0, .ref (a 0)), (1, .int (nI x))] → p_X1_loadInside_80 τ G x y h = tgt → W p l e (headSpec wsX1_loadInside ({ frames := 2 * d + 12, cells := 0, slots := 0, locals := 60 * d + 260 } : Room)).room s m args below meth c H locs 0 0 (MQ below (va_Qi (fun r (_ : Unit) => r = tgt.1) (fun _ t => va_P D vwCl (wH cI a (tgt.2)) t.heap) A) args s 0 0 A) (F0 m 80 ls []) := by
    intro h ls H locs hP hD hS hi_80_0 hl hE
    rw [p_X1_loadInside_80] at hE
    have hT := hi_80_0
    refine lv_aload_n hx hb dX1_loadInside_80 rfl (lv_at hl 0 rfl) ?_
    refine lv_dup hx hb dX1_loadInside_81 rfl ?_
    refine va_get (D := D) (ci := 1) (v := .int (h 8 1)) (C := RX1) (T := TX1) (N := 10) hx hb hts (fun w9 h9 => List.mem_cons_of_mem _ (inT_X1 w9 h9)) hown hK hP 0 rfl rfl 7 (by decide) (hts (.fieldLink RX1 72 "LinkPredictor$Hierarchy" "settled" "I") (List.mem_cons_of_mem _ mw_1_78)) (fun _ h9 => h9) rfl dX1_loadInside_82 ?_
    refine lv_iload_n hx hb dX1_loadInside_85 rfl (lv_at hl 1 rfl) ?_
    refine ro_SN [.int (nI x)] [.int (h 8 1), .ref (a 0)] ⟨hx, hb, hml, hown, hts⟩ (c_X4_bit l D cI cZ cB cR x (by omega)) (va_cnB (host := "LinkPredictor") 1 hts (goodC mw_1_33) rfl rfl rfl (hEV.2 (.methodLinkNest RX1 36 yX4_bit "LinkPredictor") (by decide +kernel)) (hts (.initialized RX4) (List.mem_cons_of_mem _ mw_1_1)) (by decide +kernel) ⟨by show 0 + 1 ≤ 2 * d + 12; omega, by show 8 + (1 + 11) + (0) ≤ 60 * d + 260; omega⟩) (hts (.static yX4_bit) (List.mem_cons_of_mem _ mw_1_32)) hEV va_P0 rfl hl.1 rfl (Nat.le_of_ble_eq_true rfl) dX1_loadInside_86 ⟨Nat.zero_le _, Nat.zero_le _⟩ ?_
    refine lv_ior hx hb dX1_loadInside_89 ?_
    refine va_put (D := D) (ci := 1) (v := .int ((h 8 1) ||| (bm x))) (ty := .int) (C := RX1) (T := TX1) (N := 10) hx hb hts (fun w9 h9 => List.mem_cons_of_mem _ (inT_X1 w9 h9)) tyX1 tyX1_ok nmX1 hown hK hP hD hS 0 rfl rfl 7 (by decide) (hts (.fieldLink RX1 72 "LinkPredictor$Hierarchy" "settled" "I") (List.mem_cons_of_mem _ mw_1_78)) (fun _ h9 => h9) rfl (by decide +kernel) rfl rfl (Nat.le_of_ble_eq_true rfl) dX1_loadInside_90 (fun H locs hP hD hS => ?_)
    have hP : va_P D vwCl (wH cI a (st2 h 8 1 ((h 8 1) ||| (bm x)))) _ := hP
    have hD : va_D A (wH cI a (st2 h 8 1 ((h 8 1) ||| (bm x)))) := hD
    refine lv_iload_n hx hb dX1_loadInside_93 rfl (lv_at hl 1 rfl) ?_
    exact W.iret hx hb hr (fun t9 ht9 _ => ⟨⟨_, (), rfl, congrArg Prod.fst hE, by show va_P D vwCl _ t9.heap; rw [ht9, ← congrArg Prod.snd hE]; exact hP⟩, hS.F ht9⟩) hS.2.2 dX1_loadInside_94
  have key_51 : ∀ (vs0 : Int32) (h : (Nat → Nat → Int32)) (ls : Array Slot) (H : Heap) (locs : List Loc) (hP : va_P D vwCl (wH cI a h) H) (hD : va_D A (wH cI a h)) (hS : va_S A s.heap H locs), vwH h = τ → lv_has ls 4 [(0, .ref (a 0)), (1, .int (nI x))] → p_X1_loadInside_51 τ G x y vs0 h = tgt → W p l e (headSpec wsX1_loadInside ({ frames := 2 * d + 12, cells := 0, slots := 0, locals := 60 * d + 260 } : Room)).room s m args below meth c H locs 0 0 (MQ below (va_Qi (fun r (_ : Unit) => r = tgt.1) (fun _ t => va_P D vwCl (wH cI a (tgt.2)) t.heap) A) args s 0 0 A) (F0 m 51 ls [.int vs0]) := by
    intro vs0 h ls H locs hP hD hS hi_51_0 hl hE
    rw [p_X1_loadInside_51] at hE
    have hT := hi_51_0
    refine lv_istore_n (lv' := [(3, .int vs0), (0, .ref (a 0)), (1, .int (nI x))]) hx hb dX1_loadInside_51 rfl hl (by decide) rfl (fun ls hl => ?_)
    refine lv_iload_n hx hb dX1_loadInside_52 rfl (lv_at hl 0 rfl) ?_
    refine ro_SN [.int vs0] [] ⟨hx, hb, hml, hown, hts⟩ (c_X4_isGood l D cI cZ cB cR vs0) (va_cnB (host := "LinkPredictor") 1 hts (goodC mw_1_55) rfl rfl rfl (hEV.2 (.methodLinkNest RX1 61 yX4_isGood "LinkPredictor") (by decide +kernel)) (hts (.initialized RX4) (List.mem_cons_of_mem _ mw_1_1)) (by decide +kernel) ⟨by show 1 + 1 ≤ 2 * d + 12; omega, by show 8 + (1 + 11) + (21) ≤ 60 * d + 260; omega⟩) (hts (.static yX4_isGood) (List.mem_cons_of_mem _ mw_1_54)) hEV va_P0 rfl hl.1 rfl (Nat.le_of_ble_eq_true rfl) dX1_loadInside_53 ⟨Nat.zero_le _, Nat.zero_le _⟩ ?_
    refine lv_if_ne (tgt := 61) hx hb dX1_loadInside_56 (by decide) (fun c_56 => ?_) (fun c_56 => ?_)
    · have c_56 : (gd vs0) = true := b2i_t c_56
      have hE := (if_pos c_56).symm.trans hE
      refine lv_aload_n hx hb dX1_loadInside_61 rfl (lv_at hl 1 rfl) ?_
      refine lv_iload_n hx hb dX1_loadInside_62 rfl (lv_at hl 2 rfl) ?_
      refine ro_V [.int (nI x)] [] ⟨hx, hb, hml, hown, hts⟩ (c_X1_hasWrongParents l D cI cZ cB cR a h τ x (OKB_of (by first | exact hT | (simp only [vwH_s5, vwH_s6, vwH_s7, vwH_s8]; exact hT))) wf (by omega)) (cwV (C := RX1) 1 hts (goodP (ps := [.methodLink RX1 85 yX1_hasWrongParents, .instanceMethod yX1_hasWrongParents, .selects RX1 yX1_hasWrongParents yX1_hasWrongParents, .initialized RX1]) (all4 mw_1_59 mw_1_61 ms_3 mw_1_3) mw_1_62) rfl rfl rfl (by decide +kernel) ⟨by show 1 + 1 ≤ 2 * d + 12; omega, by show 8 + (4 + 11) + (21) ≤ 60 * d + 260; omega⟩) hEV hP 0 rfl rfl rfl hl.1 rfl (Nat.le_of_ble_eq_true rfl) dX1_loadInside_63 ⟨Nat.zero_le _, Nat.zero_le _⟩ ?_
      refine lv_if_eq (tgt := 75) hx hb dX1_loadInside_66 (by decide) (fun c_66 => ?_) (fun c_66 => ?_)
      · have c_66 : ¬ ((wrB τ x) = true) := b2i_f c_66
        have hE := (if_neg c_66).symm.trans hE
        refine lv_aload_n hx hb dX1_loadInside_75 rfl (lv_at hl 1 rfl) ?_
        refine lv_iload_n hx hb dX1_loadInside_76 rfl (lv_at hl 2 rfl) ?_
        refine mu_Vv [.int (nI x)] [] ⟨hx, hb, hml, hown, hts⟩ (c_X1_gatherSets l D cI cZ cB cR a h τ x (by first | exact hT | (simp only [vwH_s5, vwH_s6, vwH_s7, vwH_s8]; exact hT)) wf (by omega)) (cwV (C := RX1) 1 hts (goodP (ps := [.methodLink RX1 88 yX1_gatherSets, .instanceMethod yX1_gatherSets, .selects RX1 yX1_gatherSets yX1_gatherSets, .initialized RX1]) (all4 mw_1_67 mw_1_69 ms_4 mw_1_3) mw_1_70) rfl rfl rfl (by decide +kernel) ⟨by show 1 + 1 ≤ 2 * d + 12; omega, by show 8 + (5 + 11) + (21) ≤ 60 * d + 260; omega⟩) hEV hP hD hS hA 0 rfl rfl rfl hl.1 rfl (Nat.le_of_ble_eq_true rfl) dX1_loadInside_77 ⟨Nat.zero_le _, Nat.zero_le _⟩ (fun u9 H1 locs hw hP1 hk1 hS => ?_)
        have hP : va_P D vwCl (wH cI a (p_X1_gatherSets τ x h)) H1 := hP1
        have hD : va_D A (wH cI a (p_X1_gatherSets τ x h)) := hD.adr rfl
        generalize H1 = H at hP hS ⊢
        exact key_80 (p_X1_gatherSets τ x h) ls _ _ hP hD hS (by first | omega | exact hT | exact (hGv _ _ _).trans hT | (simp only [vwH_s5, vwH_s6, vwH_s7, vwH_s8]; exact hT) | exact (vwH_gather _ _ _).trans hT) (lv_sub hl [1, 2] rfl) hE
      · have c_66 : (wrB τ x) = true := b2i_t c_66
        have hE := (if_pos c_66).symm.trans hE
        refine lv_sipush (v := (192 : Int32)) hx hb dX1_loadInside_69 (by decide) ?_
        refine lv_iload_n hx hb dX1_loadInside_72 rfl (lv_at hl 2 rfl) ?_
        refine lv_iadd hx hb dX1_loadInside_73 ?_
        refine top_eq (nI_add 192 x) ?_
        exact W.iret hx hb hr (fun t9 ht9 _ => ⟨⟨_, (), rfl, congrArg Prod.fst hE, by show va_P D vwCl _ t9.heap; rw [ht9, ← congrArg Prod.snd hE]; exact hP⟩, hS.F ht9⟩) hS.2.2 dX1_loadInside_74
    · have c_56 : ¬ ((gd vs0) = true) := b2i_f c_56
      have hE := (if_neg c_56).symm.trans hE
      refine lv_iload_n hx hb dX1_loadInside_59 rfl (lv_at hl 0 rfl) ?_
      exact W.iret hx hb hr (fun t9 ht9 _ => ⟨⟨_, (), rfl, congrArg Prod.fst hE, by show va_P D vwCl _ t9.heap; rw [ht9, ← congrArg Prod.snd hE]; exact hP⟩, hS.F ht9⟩) hS.2.2 dX1_loadInside_60
  refine lv_aload_n hx hb dX1_loadInside_0 rfl (lv_at hl 0 rfl) ?_
  refine lv_iload_n hx hb dX1_loadInside_1 rfl (lv_at hl 1 rfl) ?_
  refine ro_V [.int (nI x)] [] ⟨hx, hb, hml, hown, hts⟩ (c_X1_isThere l D cI cZ cB cR a h τ x (OKB_of (by first | exact hT | (simp only [vwH_s5, vwH_s6, vwH_s7, vwH_s8]; exact hT))) (by omega)) (cwV (C := RX1) 1 hts (goodP (ps := [.methodLink RX1 47 yX1_isThere, .instanceMethod yX1_isThere, .selects RX1 yX1_isThere yX1_isThere, .initialized RX1]) (all4 mw_1_42 mw_1_43 mw_1_44 mw_1_3) mw_1_45) rfl rfl rfl (by decide +kernel) ⟨by show 1 + 1 ≤ 2 * d + 12; omega, by show 8 + (2 + 11) + (21) ≤ 60 * d + 260; omega⟩) hEV hP 0 rfl rfl rfl hl.1 rfl (Nat.le_of_ble_eq_true rfl) dX1_loadInside_2 ⟨Nat.zero_le _, Nat.zero_le _⟩ ?_
  refine lv_if_ne (tgt := 13) hx hb dX1_loadInside_5 (by decide) (fun c_5 => ?_) (fun c_5 => ?_)
  · have c_5 : (thB τ x) = true := b2i_t c_5
    have hE := (if_pos c_5).symm.trans hE
    refine lv_iload_n hx hb dX1_loadInside_13 rfl (lv_at hl 2 rfl) ?_
    refine lv_iload_n hx hb dX1_loadInside_14 rfl (lv_at hl 1 rfl) ?_
    refine ro_SN [.int y, .int (nI x)] [] ⟨hx, hb, hml, hown, hts⟩ (c_X4_contains l D cI cZ cB cR y x (by omega)) (va_cnB (host := "LinkPredictor") 2 hts (goodC mw_1_48) rfl rfl rfl (hEV.2 (.methodLinkNest RX1 57 yX4_contains "LinkPredictor") (by decide +kernel)) (hts (.initialized RX4) (List.mem_cons_of_mem _ mw_1_1)) (by decide +kernel) ⟨by show 0 + 1 ≤ 2 * d + 12; omega, by show 8 + (2 + 11) + (0) ≤ 60 * d + 260; omega⟩) (hts (.static yX4_contains) (List.mem_cons_of_mem _ mw_1_47)) hEV va_P0 rfl hl.1 rfl (Nat.le_of_ble_eq_true rfl) dX1_loadInside_15 ⟨Nat.zero_le _, Nat.zero_le _⟩ ?_
    refine lv_if_eq (tgt := 27) hx hb dX1_loadInside_18 (by decide) (fun c_18 => ?_) (fun c_18 => ?_)
    · have c_18 : ¬ ((bt y x) = true) := b2i_f c_18
      have hE := (if_neg c_18).symm.trans hE
      refine lv_aload_n hx hb dX1_loadInside_27 rfl (lv_at hl 0 rfl) ?_
      refine va_get (D := D) (ci := 1) (v := .int (h 8 1)) (C := RX1) (T := TX1) (N := 10) hx hb hts (fun w9 h9 => List.mem_cons_of_mem _ (inT_X1 w9 h9)) hown hK hP 0 rfl rfl 7 (by decide) (hts (.fieldLink RX1 72 "LinkPredictor$Hierarchy" "settled" "I") (List.mem_cons_of_mem _ mw_1_78)) (fun _ h9 => h9) rfl dX1_loadInside_28 ?_
      refine lv_iload_n hx hb dX1_loadInside_31 rfl (lv_at hl 1 rfl) ?_
      refine ro_SN [.int (h 8 1), .int (nI x)] [] ⟨hx, hb, hml, hown, hts⟩ (c_X4_contains l D cI cZ cB cR (h 8 1) x (by omega)) (va_cnB (host := "LinkPredictor") 2 hts (goodC mw_1_48) rfl rfl rfl (hEV.2 (.methodLinkNest RX1 57 yX4_contains "LinkPredictor") (by decide +kernel)) (hts (.initialized RX4) (List.mem_cons_of_mem _ mw_1_1)) (by decide +kernel) ⟨by show 0 + 1 ≤ 2 * d + 12; omega, by show 8 + (2 + 11) + (0) ≤ 60 * d + 260; omega⟩) (hts (.static yX4_contains) (List.mem_cons_of_mem _ mw_1_47)) hEV va_P0 rfl hl.1 rfl (Nat.le_of_ble_eq_true rfl) dX1_loadInside_32 ⟨Nat.zero_le _, Nat.zero_le _⟩ ?_
      refine lv_if_eq (tgt := 40) hx hb dX1_loadInside_35 (by decide) (fun c_35 => ?_) (fun c_35 => ?_)
      · have c_35 : ¬ ((bt (h 8 1) x) = true) := b2i_f c_35
        have hE := (if_neg c_35).symm.trans hE
        refine lv_aload_n hx hb dX1_loadInside_40 rfl (lv_at hl 0 rfl) ?_
        refine lv_iload_n hx hb dX1_loadInside_41 rfl (lv_at hl 1 rfl) ?_
        refine lv_iload_n hx hb dX1_loadInside_42 rfl (lv_at hl 2 rfl) ?_
        refine lv_iload_n hx hb dX1_loadInside_43 rfl (lv_at hl 1 rfl) ?_
        refine ro_SN [.int (nI x)] [.int y, .int (nI x), .ref (a 0)] ⟨hx, hb, hml, hown, hts⟩ (c_X4_bit l D cI cZ cB cR x (by omega)) (va_cnB (host := "LinkPredictor") 1 hts (goodC mw_1_33) rfl rfl rfl (hEV.2 (.methodLinkNest RX1 36 yX4_bit "LinkPredictor") (by decide +kernel)) (hts (.initialized RX4) (List.mem_cons_of_mem _ mw_1_1)) (by decide +kernel) ⟨by show 0 + 1 ≤ 2 * d + 12; omega, by show 8 + (1 + 11) + (0) ≤ 60 * d + 260; omega⟩) (hts (.static yX4_bit) (List.mem_cons_of_mem _ mw_1_32)) hEV va_P0 rfl hl.1 rfl (Nat.le_of_ble_eq_true rfl) dX1_loadInside_44 ⟨Nat.zero_le _, Nat.zero_le _⟩ ?_
        refine lv_ior hx hb dX1_loadInside_47 ?_
        have hcn := cN_or hnx (show bt y x = false by simpa using c_18)
        refine mu_V [.int (nI x), .int (y ||| (bm x))] [] ⟨hx, hb, hml, hown, hts⟩ (hG h x (y ||| (bm x)) (by first | exact hT | (simp only [vwH_s5, vwH_s6, vwH_s7, vwH_s8]; exact hT)) (by omega) (by omega)) (cwV (C := RX1) 2 hts (goodP (ps := [.methodLink RX1 82 yX1_loadParents, .instanceMethod yX1_loadParents, .selects RX1 yX1_loadParents yX1_loadParents, .initialized RX1]) (all4 mw_1_49 mw_1_51 ms_2 mw_1_3) mw_1_52) rfl rfl rfl (by decide +kernel) ⟨by show 2 * d + 11 + 1 ≤ 2 * d + 12; omega, by show 8 + (5 + 11) + (60 * d + 230) ≤ 60 * d + 260; omega⟩) hEV hP hD hS hA 0 rfl rfl rfl hl.1 rfl (Nat.le_of_ble_eq_true rfl) dX1_loadInside_48 ⟨Nat.zero_le _, Nat.zero_le _⟩ (fun r9 u9 H1 locs hw hP1 hk1 hS => ?_)
        subst hw
        have hP : va_P D vwCl (wH cI a ((G h x (y ||| (bm x))).2)) H1 := hP1
        have hD : va_D A (wH cI a ((G h x (y ||| (bm x))).2)) := hD.adr rfl
        generalize H1 = H at hP hS ⊢
        exact key_51 ((G h x (y ||| (bm x))).1) ((G h x (y ||| (bm x))).2) ls _ _ hP hD hS (by first | omega | exact hT | exact (hGv _ _ _).trans hT | (simp only [vwH_s5, vwH_s6, vwH_s7, vwH_s8]; exact hT) | exact (vwH_gather _ _ _).trans hT) (lv_sub hl [0, 1] rfl) hE
      · have c_35 : (bt (h 8 1) x) = true := b2i_t c_35
        have hE := (if_pos c_35).symm.trans hE
        refine lv_iload_n hx hb dX1_loadInside_38 rfl (lv_at hl 1 rfl) ?_
        exact W.iret hx hb hr (fun t9 ht9 _ => ⟨⟨_, (), rfl, congrArg Prod.fst hE, by show va_P D vwCl _ t9.heap; rw [ht9, ← congrArg Prod.snd hE]; exact hP⟩, hS.F ht9⟩) hS.2.2 dX1_loadInside_39
    · have c_18 : (bt y x) = true := b2i_t c_18
      have hE := (if_pos c_18).symm.trans hE
      refine lv_sipush (v := (128 : Int32)) hx hb dX1_loadInside_21 (by decide) ?_
      refine lv_iload_n hx hb dX1_loadInside_24 rfl (lv_at hl 1 rfl) ?_
      refine lv_iadd hx hb dX1_loadInside_25 ?_
      refine top_eq (nI_add 128 x) ?_
      exact W.iret hx hb hr (fun t9 ht9 _ => ⟨⟨_, (), rfl, congrArg Prod.fst hE, by show va_P D vwCl _ t9.heap; rw [ht9, ← congrArg Prod.snd hE]; exact hP⟩, hS.F ht9⟩) hS.2.2 dX1_loadInside_26
  · have c_5 : ¬ ((thB τ x) = true) := b2i_f c_5
    have hE := (if_neg c_5).symm.trans hE
    refine lv_bipush (v := (64 : Int32)) hx hb dX1_loadInside_8 (by decide) ?_
    refine lv_iload_n hx hb dX1_loadInside_10 rfl (lv_at hl 1 rfl) ?_
    refine lv_iadd hx hb dX1_loadInside_11 ?_
    refine top_eq (nI_add 64 x) ?_
    exact W.iret hx hb hr (fun t9 ht9 _ => ⟨⟨_, (), rfl, congrArg Prod.fst hE, by show va_P D vwCl _ t9.heap; rw [ht9, ← congrArg Prod.snd hE]; exact hP⟩, hS.F ht9⟩) hS.2.2 dX1_loadInside_12
def p_X1_loadParents_58 (τ : Nat → Nat → Int32) (F : (Nat → Nat → Int32) → Nat → Int32 → Int32 × (Nat → Nat → Int32)) (x : Nat) (y : Int32) (K33 : Nat → (Nat → Nat → Int32) → Int32 × (Nat → Nat → Int32)) (n3 : Nat) (vs0 : Int32) (h : (Nat → Nat → Int32)) : Int32 × (Nat → Nat → Int32) := if (gd vs0) = true then (K33 (n3 + 1) h) else ((vs0, h))
def p_X1_loadParents_33 (τ : Nat → Nat → Int32) (F : (Nat → Nat → Int32) → Nat → Int32 → Int32 × (Nat → Nat → Int32)) (x : Nat) (y : Int32) : Nat → Nat → (Nat → Nat → Int32) → Int32 × (Nat → Nat → Int32)
  | 0, _, h => (0, h)
  | k + 1, n3, h => if 12 ≤ n3 then ((nI x, h)) else (if (bt (τ 4 x) n3) = true then (p_X1_loadParents_58 τ F x y (fun n3 h => p_X1_loadParents_33 τ F x y k n3 h) n3 ((F h n3 y).1) ((F h n3 y).2)) else (p_X1_loadParents_33 τ F x y k (n3 + 1) h))
def p_X1_loadParents_31 (τ : Nat → Nat → Int32) (F : (Nat → Nat → Int32) → Nat → Int32 → Int32 × (Nat → Nat → Int32)) (x : Nat) (y : Int32) (h : (Nat → Nat → Int32)) : Int32 × (Nat → Nat → Int32) := p_X1_loadParents_33 τ F x y 13 0 h
def p_X1_loadParents_21 (τ : Nat → Nat → Int32) (F : (Nat → Nat → Int32) → Nat → Int32 → Int32 × (Nat → Nat → Int32)) (x : Nat) (y : Int32) (vs0 : Int32) (h : (Nat → Nat → Int32)) : Int32 × (Nat → Nat → Int32) := if (gd vs0) = true then (p_X1_loadParents_31 τ F x y h) else ((vs0, h))
def p_X1_loadParents (τ : Nat → Nat → Int32) (F : (Nat → Nat → Int32) → Nat → Int32 → Int32 × (Nat → Nat → Int32)) (x : Nat) (y : Int32) (h : (Nat → Nat → Int32)) : Int32 × (Nat → Nat → Int32) := if (τ 3 x) = (-1 : Int32) then (p_X1_loadParents_31 τ F x y h) else (p_X1_loadParents_21 τ F x y ((F h (sN (τ 3 x)) y).1) ((F h (sN (τ 3 x)) y).2))
set_option maxHeartbeats 4000000 in
set_option maxRecDepth 100000 in
theorem c_X1_loadParents (l : Launch) (D : va_G) (cI cZ cB cR : ClassId) (a : Nat → Nat) (d : Nat) (h τ : Nat → Nat → Int32) (F : (Nat → Nat → Int32) → Nat → Int32 → Int32 × (Nat → Nat → Int32)) (x : Nat) (y : Int32) (hT : vwH h = τ) (wf : WFT τ) (hnx : x < 12) (hd : cN y < d) (hF : ∀ (h' : (Nat → Nat → Int32)) (t : Nat) (o : Int32), vwH h' = τ → t < 12 → cN o < d → MUi l yX1_loadInside wsX1_loadInside ({ frames := 2 * d + 10, cells := 0, slots := 0, locals := 60 * d + 200 } : Room) D cI cZ cB cR (wH cI a h') [.ref (a 0), .int (nI t), .int o] (fun (_ : Unit) => wH cI a (F h' t o).2) (fun r _ => r = (F h' t o).1)) (hFv : ∀ h' t o, vwH (F h' t o).2 = vwH h') : MUi l yX1_loadParents wsX1_loadParents ({ frames := 2 * d + 11, cells := 0, slots := 0, locals := 60 * d + 230 } : Room) D cI cZ cB cR (wH cI a h) [.ref (a 0), .int (nI x), .int y] (fun (_ : Unit) => wH cI a ((p_X1_loadParents τ F x y h).2)) (fun r _ => r = (p_X1_loadParents τ F x y h).1) := by
  generalize hE : p_X1_loadParents τ F x y h = tgt
  intro sz
  refine Met.ofW (cc := cX1_loadParents) (maxL := 5) (ret := (some .int)) (by decide) rfl ?_
  intro p e s m args below meth c s₁ B hml hv
  obtain ⟨hargs, hsz, hP, hEV, hD0⟩ := hv
  have hx := B.exec
  have hb := B.bytes
  have hr := B.returns
  have hts := atoms_spec (ws := wsX1_loadParents) B.pre
  have hown : s.vm.findClass RX1 = some m.cls := findClass_of_methodNamed B.named
  have hlocks := B.notSynchronized
  have hK := hEV.1
  have hl := lv_entry ([.ref (a 0), .int (nI x), .int y]) (n := 5) (Nat.le_of_ble_eq_true rfl)
  rw [show entryFrame m args 5 = entryFrame m ([.ref (a 0), .int (nI x), .int y] : List Value).toArray 5 from by rw [hargs], lg_entry_eq]
  generalize (lg_sl ([.ref (a 0), .int (nI x), .int y]) ++ List.replicate (5 - (lg_sl ([.ref (a 0), .int (nI x), .int y])).length) Slot.unset).toArray = ls at hl ⊢
  have hl : lv_has ls 5 [(0, .ref (a 0)), (1, .int (nI x)), (2, .int y)] := hl
  subst hsz
  have hD := hD0.self (sz := s.heap.size)
  generalize hAe : va_A (wH cI a h) s.heap.size = A at hD ⊢
  have hA : ∀ q : Nat, s.heap.size ≤ q → A q := fun q h9 => by rw [← hAe]; exact Or.inr h9
  have hS : va_S A s.heap s.heap [] := va_S.rf
  rw [p_X1_loadParents] at hE
  have key_33 : ∀ (k_33 : Nat) (n3 : Nat) (h : (Nat → Nat → Int32)) (ls : Array Slot) (H : Heap) (locs : List Loc) (hP : va_P D vwCl (wH cI a h) H) (hD : va_D A (wH cI a h)) (hS : va_S A s.heap H locs), (12 - n3) < k_33 → vwH h = τ → n3 ≤ 12 → lv_has ls 5 [(3, .int (nI n3)), (0, .ref (a 0)), (1, .int (nI x)), (2, .int y)] → p_X1_loadParents_33 τ F x y k_33 n3 h = tgt → W p l e (headSpec wsX1_loadParents ({ frames := 2 * d + 11, cells := 0, slots := 0, locals := 60 * d + 230 } : Room)).room s m args below meth c H locs 0 0 (MQ below (va_Qi (fun r (_ : Unit) => r = tgt.1) (fun _ t => va_P D vwCl (wH cI a (tgt.2)) t.heap) A) args s 0 0 A) (F0 m 33 ls []) := by
    intro k_33
    induction k_33 with
    | zero => intro n3 h ls H locs hP hD hS hm; exact absurd hm (Nat.not_lt_zero _)
    | succ k_33 ih_33 =>
      have key_58 : ∀ (n3 : Nat) (vs0 : Int32) (h : (Nat → Nat → Int32)) (ls : Array Slot) (H : Heap) (locs : List Loc) (hP : va_P D vwCl (wH cI a h) H) (hD : va_D A (wH cI a h)) (hS : va_S A s.heap H locs), vwH h = τ → n3 < 12 → (12 - n3) < k_33 + 1 → lv_has ls 5 [(3, .int (nI n3)), (0, .ref (a 0)), (1, .int (nI x)), (2, .int y)] → p_X1_loadParents_58 τ F x y (fun n3 h => p_X1_loadParents_33 τ F x y k_33 n3 h) n3 vs0 h = tgt → W p l e (headSpec wsX1_loadParents ({ frames := 2 * d + 11, cells := 0, slots := 0, locals := 60 * d + 230 } : Room)).room s m args below meth c H locs 0 0 (MQ below (va_Qi (fun r (_ : Unit) => r = tgt.1) (fun _ t => va_P D vwCl (wH cI a (tgt.2)) t.heap) A) args s 0 0 A) (F0 m 58 ls [.int vs0]) := by
        intro n3 vs0 h ls H locs hP hD hS hi_58_0 hi_58_1 hi_58_2 hl hE
        rw [p_X1_loadParents_58] at hE
        have hT := hi_58_0
        refine lv_istore (lv' := [(4, .int vs0), (3, .int (nI n3)), (0, .ref (a 0)), (1, .int (nI x)), (2, .int y)]) hx hb dX1_loadParents_58 hl (by decide) rfl (fun ls hl => ?_)
        refine lv_iload hx hb dX1_loadParents_60 (lv_at hl 0 rfl) ?_
        refine ro_SN [.int vs0] [] ⟨hx, hb, hml, hown, hts⟩ (c_X4_isGood l D cI cZ cB cR vs0) (va_cnB (host := "LinkPredictor") 1 hts (goodC mw_1_55) rfl rfl rfl (hEV.2 (.methodLinkNest RX1 61 yX4_isGood "LinkPredictor") (by decide +kernel)) (hts (.initialized RX4) (List.mem_cons_of_mem _ mw_1_1)) (by decide +kernel) ⟨by show 1 + 1 ≤ 2 * d + 11; omega, by show 8 + (1 + 11) + (21) ≤ 60 * d + 230; omega⟩) (hts (.static yX4_isGood) (List.mem_cons_of_mem _ mw_1_54)) hEV va_P0 rfl hl.1 rfl (Nat.le_of_ble_eq_true rfl) dX1_loadParents_62 ⟨Nat.zero_le _, Nat.zero_le _⟩ ?_
        refine lv_if_ne (tgt := 71) hx hb dX1_loadParents_65 (by decide) (fun c_65 => ?_) (fun c_65 => ?_)
        · have c_65 : (gd vs0) = true := b2i_t c_65
          have hE := (if_pos c_65).symm.trans hE
          refine lv_iinc (v := nI (n3 + 1)) (lv' := [(3, .int (nI (n3 + 1))), (4, .int vs0), (0, .ref (a 0)), (1, .int (nI x)), (2, .int y)]) hx hb dX1_loadParents_71 hl (k := 1) rfl (nI_1 _) (by decide) rfl (fun ls hl => ?_)
          refine lv_goto (tgt := 33) hx hb dX1_loadParents_74 (by decide) ?_
          exact ih_33 (n3 + 1) h ls _ _ hP hD hS (by omega) (by first | omega | exact hT | exact (hFv _ _ _).trans hT) (by first | omega | exact hT | exact (hFv _ _ _).trans hT) (lv_sub hl [0, 2, 3, 4] rfl) hE
        · have c_65 : ¬ ((gd vs0) = true) := b2i_f c_65
          have hE := (if_neg c_65).symm.trans hE
          refine lv_iload hx hb dX1_loadParents_68 (lv_at hl 0 rfl) ?_
          exact W.iret hx hb hr (fun t9 ht9 _ => ⟨⟨_, (), rfl, congrArg Prod.fst hE, by show va_P D vwCl _ t9.heap; rw [ht9, ← congrArg Prod.snd hE]; exact hP⟩, hS.F ht9⟩) hS.2.2 dX1_loadParents_70
      intro n3 h ls H locs hP hD hS hm_33 hi_33_0 hi_33_1 hl hE
      rw [p_X1_loadParents_33] at hE
      have hT := hi_33_0
      refine lv_iload_n hx hb dX1_loadParents_33 rfl (lv_at hl 0 rfl) ?_
      refine lv_bipush (v := (12 : Int32)) hx hb dX1_loadParents_34 (by decide) ?_
      refine lv_icmp_ge (tgt := 77) hx hb dX1_loadParents_36 (by decide) (fun c_36 => ?_) (fun c_36 => ?_)
      · have c_36 : 12 ≤ n3 := (nI_leI (a := 12) (b := n3) (by omega) (by omega)).mp c_36
        have hE := (if_pos c_36).symm.trans hE
        refine lv_iload_n hx hb dX1_loadParents_77 rfl (lv_at hl 2 rfl) ?_
        exact W.iret hx hb hr (fun t9 ht9 _ => ⟨⟨_, (), rfl, congrArg Prod.fst hE, by show va_P D vwCl _ t9.heap; rw [ht9, ← congrArg Prod.snd hE]; exact hP⟩, hS.F ht9⟩) hS.2.2 dX1_loadParents_78
      · have c_36 : ¬ (12 ≤ n3) := fun q9 => c_36 ((nI_leI (a := 12) (b := n3) (by omega) (by omega)).mpr q9)
        have hE := (if_neg c_36).symm.trans hE
        refine lv_aload_n hx hb dX1_loadParents_39 rfl (lv_at hl 1 rfl) ?_
        refine va_get (D := D) (ci := 1) (v := .ref (a 4)) (C := RX1) (T := TX1) (N := 10) hx hb hts (fun w9 h9 => List.mem_cons_of_mem _ (inT_X1 w9 h9)) hown hK hP 0 rfl rfl 4 (by decide) (hts (.fieldLink RX1 21 "LinkPredictor$Hierarchy" "directFaces" "[I") (List.mem_cons_of_mem _ mw_1_75)) (fun _ h9 => h9) rfl dX1_loadParents_40 ?_
        refine lv_iload_n hx hb dX1_loadParents_43 rfl (lv_at hl 2 rfl) ?_
        refine ro_ald hx hb hEV hP 4 (j := x) rfl (by omega) (by decide) dX1_loadParents_44 ?_
        refine top_eq ((OKB_of hT).fa hnx) ?_
        refine lv_iload_n hx hb dX1_loadParents_45 rfl (lv_at hl 0 rfl) ?_
        refine ro_SN [.int (τ 4 x), .int (nI n3)] [] ⟨hx, hb, hml, hown, hts⟩ (c_X4_contains l D cI cZ cB cR (τ 4 x) n3 (by omega)) (va_cnB (host := "LinkPredictor") 2 hts (goodC mw_1_48) rfl rfl rfl (hEV.2 (.methodLinkNest RX1 57 yX4_contains "LinkPredictor") (by decide +kernel)) (hts (.initialized RX4) (List.mem_cons_of_mem _ mw_1_1)) (by decide +kernel) ⟨by show 0 + 1 ≤ 2 * d + 11; omega, by show 8 + (2 + 11) + (0) ≤ 60 * d + 230; omega⟩) (hts (.static yX4_contains) (List.mem_cons_of_mem _ mw_1_47)) hEV va_P0 rfl hl.1 rfl (Nat.le_of_ble_eq_true rfl) dX1_loadParents_46 ⟨Nat.zero_le _, Nat.zero_le _⟩ ?_
        refine lv_if_eq (tgt := 71) hx hb dX1_loadParents_49 (by decide) (fun c_49 => ?_) (fun c_49 => ?_)
        · have c_49 : ¬ ((bt (τ 4 x) n3) = true) := b2i_f c_49
          have hE := (if_neg c_49).symm.trans hE
          refine lv_iinc (v := nI (n3 + 1)) (lv' := [(3, .int (nI (n3 + 1))), (0, .ref (a 0)), (1, .int (nI x)), (2, .int y)]) hx hb dX1_loadParents_71 hl (k := 0) rfl (nI_1 _) (by decide) rfl (fun ls hl => ?_)
          refine lv_goto (tgt := 33) hx hb dX1_loadParents_74 (by decide) ?_
          exact ih_33 (n3 + 1) h ls _ _ hP hD hS (by omega) (by first | omega | exact hT | exact (hFv _ _ _).trans hT) (by first | omega | exact hT | exact (hFv _ _ _).trans hT) (lv_sub hl [0, 1, 2, 3] rfl) hE
        · have c_49 : (bt (τ 4 x) n3) = true := b2i_t c_49
          have hE := (if_pos c_49).symm.trans hE
          refine lv_aload_n hx hb dX1_loadParents_52 rfl (lv_at hl 1 rfl) ?_
          refine lv_iload_n hx hb dX1_loadParents_53 rfl (lv_at hl 0 rfl) ?_
          refine lv_iload_n hx hb dX1_loadParents_54 rfl (lv_at hl 3 rfl) ?_
          refine mu_V [.int (nI n3), .int y] [] ⟨hx, hb, hml, hown, hts⟩ (hF h n3 y (by first | exact hT | (simp only [vwH_s5, vwH_s6, vwH_s7, vwH_s8]; exact hT)) (by omega) (by omega)) (cwV (C := RX1) 2 hts (goodP (ps := [.methodLink RX1 78 yX1_loadInside, .instanceMethod yX1_loadInside, .selects RX1 yX1_loadInside yX1_loadInside, .initialized RX1]) (all4 mw_1_38 mw_1_40 ms_1 mw_1_3) mw_1_41) rfl rfl rfl (by decide +kernel) ⟨by show 2 * d + 10 + 1 ≤ 2 * d + 11; omega, by show 8 + (4 + 11) + (60 * d + 200) ≤ 60 * d + 230; omega⟩) hEV hP hD hS hA 0 rfl rfl rfl hl.1 rfl (Nat.le_of_ble_eq_true rfl) dX1_loadParents_55 ⟨Nat.zero_le _, Nat.zero_le _⟩ (fun r9 u9 H1 locs hw hP1 hk1 hS => ?_)
          subst hw
          have hP : va_P D vwCl (wH cI a ((F h n3 y).2)) H1 := hP1
          have hD : va_D A (wH cI a ((F h n3 y).2)) := hD.adr rfl
          generalize H1 = H at hP hS ⊢
          exact key_58 n3 ((F h n3 y).1) ((F h n3 y).2) ls _ _ hP hD hS (by first | omega | exact hT | exact (hFv _ _ _).trans hT) (by first | omega | exact hT | exact (hFv _ _ _).trans hT) (by first | omega | exact hT | exact (hFv _ _ _).trans hT) (lv_sub hl [0, 1, 2, 3] rfl) hE
  have key_31 : ∀ (h : (Nat → Nat → Int32)) (ls : Array Slot) (H : Heap) (locs : List Loc) (hP : va_P D vwCl (wH cI a h) H) (hD : va_D A (wH cI a h)) (hS : va_S A s.heap H locs), vwH h = τ → lv_has ls 5 [(0, .ref (a 0)), (1, .int (nI x)), (2, .int y)] → p_X1_loadParents_31 τ F x y h = tgt → W p l e (headSpec wsX1_loadParents ({ frames := 2 * d + 11, cells := 0, slots := 0, locals := 60 * d + 230 } : Room)).room s m args below meth c H locs 0 0 (MQ below (va_Qi (fun r (_ : Unit) => r = tgt.1) (fun _ t => va_P D vwCl (wH cI a (tgt.2)) t.heap) A) args s 0 0 A) (F0 m 31 ls []) := by
    intro h ls H locs hP hD hS hi_31_0 hl hE
    rw [p_X1_loadParents_31] at hE
    have hT := hi_31_0
    refine lv_iconst (v := (0 : Int32)) hx hb dX1_loadParents_31 (by decide) ?_
    refine lv_istore_n (lv' := [(3, .int (0 : Int32)), (0, .ref (a 0)), (1, .int (nI x)), (2, .int y)]) hx hb dX1_loadParents_32 rfl hl (by decide) rfl (fun ls hl => ?_)
    exact key_33 13 0 h ls _ _ hP hD hS (by omega) (by first | omega | exact hT | exact (hFv _ _ _).trans hT) (by first | omega | exact hT | exact (hFv _ _ _).trans hT) (lv_sub hl [0, 1, 2, 3] rfl) hE
  have key_21 : ∀ (vs0 : Int32) (h : (Nat → Nat → Int32)) (ls : Array Slot) (H : Heap) (locs : List Loc) (hP : va_P D vwCl (wH cI a h) H) (hD : va_D A (wH cI a h)) (hS : va_S A s.heap H locs), vwH h = τ → lv_has ls 5 [(0, .ref (a 0)), (1, .int (nI x)), (2, .int y)] → p_X1_loadParents_21 τ F x y vs0 h = tgt → W p l e (headSpec wsX1_loadParents ({ frames := 2 * d + 11, cells := 0, slots := 0, locals := 60 * d + 230 } : Room)).room s m args below meth c H locs 0 0 (MQ below (va_Qi (fun r (_ : Unit) => r = tgt.1) (fun _ t => va_P D vwCl (wH cI a (tgt.2)) t.heap) A) args s 0 0 A) (F0 m 21 ls [.int vs0]) := by
    intro vs0 h ls H locs hP hD hS hi_21_0 hl hE
    rw [p_X1_loadParents_21] at hE
    have hT := hi_21_0
    refine lv_istore_n (lv' := [(3, .int vs0), (0, .ref (a 0)), (1, .int (nI x)), (2, .int y)]) hx hb dX1_loadParents_21 rfl hl (by decide) rfl (fun ls hl => ?_)
    refine lv_iload_n hx hb dX1_loadParents_22 rfl (lv_at hl 0 rfl) ?_
    refine ro_SN [.int vs0] [] ⟨hx, hb, hml, hown, hts⟩ (c_X4_isGood l D cI cZ cB cR vs0) (va_cnB (host := "LinkPredictor") 1 hts (goodC mw_1_55) rfl rfl rfl (hEV.2 (.methodLinkNest RX1 61 yX4_isGood "LinkPredictor") (by decide +kernel)) (hts (.initialized RX4) (List.mem_cons_of_mem _ mw_1_1)) (by decide +kernel) ⟨by show 1 + 1 ≤ 2 * d + 11; omega, by show 8 + (1 + 11) + (21) ≤ 60 * d + 230; omega⟩) (hts (.static yX4_isGood) (List.mem_cons_of_mem _ mw_1_54)) hEV va_P0 rfl hl.1 rfl (Nat.le_of_ble_eq_true rfl) dX1_loadParents_23 ⟨Nat.zero_le _, Nat.zero_le _⟩ ?_
    refine lv_if_ne (tgt := 31) hx hb dX1_loadParents_26 (by decide) (fun c_26 => ?_) (fun c_26 => ?_)
    · have c_26 : (gd vs0) = true := b2i_t c_26
      have hE := (if_pos c_26).symm.trans hE
      exact key_31 h ls _ _ hP hD hS (by first | omega | exact hT | exact (hFv _ _ _).trans hT) (lv_sub hl [1, 2, 3] rfl) hE
    · have c_26 : ¬ ((gd vs0) = true) := b2i_f c_26
      have hE := (if_neg c_26).symm.trans hE
      refine lv_iload_n hx hb dX1_loadParents_29 rfl (lv_at hl 0 rfl) ?_
      exact W.iret hx hb hr (fun t9 ht9 _ => ⟨⟨_, (), rfl, congrArg Prod.fst hE, by show va_P D vwCl _ t9.heap; rw [ht9, ← congrArg Prod.snd hE]; exact hP⟩, hS.F ht9⟩) hS.2.2 dX1_loadParents_30
  refine lv_aload_n hx hb dX1_loadParents_0 rfl (lv_at hl 0 rfl) ?_
  refine va_get (D := D) (ci := 1) (v := .ref (a 3)) (C := RX1) (T := TX1) (N := 10) hx hb hts (fun w9 h9 => List.mem_cons_of_mem _ (inT_X1 w9 h9)) hown hK hP 0 rfl rfl 3 (by decide) (hts (.fieldLink RX1 18 "LinkPredictor$Hierarchy" "supers" "[I") (List.mem_cons_of_mem _ mw_1_74)) (fun _ h9 => h9) rfl dX1_loadParents_1 ?_
  refine lv_iload_n hx hb dX1_loadParents_4 rfl (lv_at hl 1 rfl) ?_
  refine ro_ald hx hb hEV hP 3 (j := x) rfl (by omega) (by decide) dX1_loadParents_5 ?_
  refine top_eq ((OKB_of hT).su hnx) ?_
  refine lv_iconst (v := (-1 : Int32)) hx hb dX1_loadParents_6 (by decide) ?_
  refine lv_icmp_eq (tgt := 31) hx hb dX1_loadParents_7 (by decide) (fun c_7 => ?_) (fun c_7 => ?_)
  · skip
    have hE := (if_pos c_7).symm.trans hE
    exact key_31 h ls _ _ hP hD hS (by first | omega | exact hT | exact (hFv _ _ _).trans hT) (lv_sub hl [0, 1, 2] rfl) hE
  · skip
    have hE := (if_neg c_7).symm.trans hE
    have hs9 := ((wf.1 x hnx).1.resolve_left c_7).1
    refine lv_aload_n hx hb dX1_loadParents_10 rfl (lv_at hl 0 rfl) ?_
    refine lv_aload_n hx hb dX1_loadParents_11 rfl (lv_at hl 0 rfl) ?_
    refine va_get (D := D) (ci := 1) (v := .ref (a 3)) (C := RX1) (T := TX1) (N := 10) hx hb hts (fun w9 h9 => List.mem_cons_of_mem _ (inT_X1 w9 h9)) hown hK hP 0 rfl rfl 3 (by decide) (hts (.fieldLink RX1 18 "LinkPredictor$Hierarchy" "supers" "[I") (List.mem_cons_of_mem _ mw_1_74)) (fun _ h9 => h9) rfl dX1_loadParents_12 ?_
    refine lv_iload_n hx hb dX1_loadParents_15 rfl (lv_at hl 1 rfl) ?_
    refine ro_ald hx hb hEV hP 3 (j := x) rfl (by omega) (by decide) dX1_loadParents_16 ?_
    refine top_eq (((OKB_of hT).su hnx).trans ((wf.1 x hnx).1.resolve_left c_7).2) ?_
    refine lv_iload_n hx hb dX1_loadParents_17 rfl (lv_at hl 2 rfl) ?_
    refine mu_V [.int (nI (sN (τ 3 x))), .int y] [] ⟨hx, hb, hml, hown, hts⟩ (hF h (sN (τ 3 x)) y (by first | exact hT | (simp only [vwH_s5, vwH_s6, vwH_s7, vwH_s8]; exact hT)) (by omega) (by omega)) (cwV (C := RX1) 2 hts (goodP (ps := [.methodLink RX1 78 yX1_loadInside, .instanceMethod yX1_loadInside, .selects RX1 yX1_loadInside yX1_loadInside, .initialized RX1]) (all4 mw_1_38 mw_1_40 ms_1 mw_1_3) mw_1_41) rfl rfl rfl (by decide +kernel) ⟨by show 2 * d + 10 + 1 ≤ 2 * d + 11; omega, by show 8 + (4 + 11) + (60 * d + 200) ≤ 60 * d + 230; omega⟩) hEV hP hD hS hA 0 rfl rfl rfl hl.1 rfl (Nat.le_of_ble_eq_true rfl) dX1_loadParents_18 ⟨Nat.zero_le _, Nat.zero_le _⟩ (fun r9 u9 H1 locs hw hP1 hk1 hS => ?_)
    subst hw
    have hP : va_P D vwCl (wH cI a ((F h (sN (τ 3 x)) y).2)) H1 := hP1
    have hD : va_D A (wH cI a ((F h (sN (τ 3 x)) y).2)) := hD.adr rfl
    generalize H1 = H at hP hS ⊢
    exact key_21 ((F h (sN (τ 3 x)) y).1) ((F h (sN (τ 3 x)) y).2) ls _ _ hP hD hS (by first | omega | exact hT | exact (hFv _ _ _).trans hT) (lv_sub hl [0, 1, 2] rfl) hE
end
section
/-! ===== Hierarchy.loadInside, as it runs, and what it comes to ===== -/
def pLI (τ : Nat → Nat → Int32) : Nat → (Nat → Nat → Int32) → Nat → Int32 → Int32 × (Nat → Nat → Int32)
  | 0, h, _, _ => (0, h)
  | d + 1, h, t, o => p_X1_loadInside τ (fun h t o => p_X1_loadParents τ (fun h t o => pLI τ d h t o) t o h) t o h
theorem vwH_LP33 (τ : Nat → Nat → Int32) (F : (Nat → Nat → Int32) → Nat → Int32 → Int32 × (Nat → Nat → Int32)) (hF : ∀ h t o, vwH (F h t o).2 = vwH h) (x : Nat) (y : Int32) : ∀ (k n : Nat) (h : Nat → Nat → Int32), vwH (p_X1_loadParents_33 τ F x y k n h).2 = vwH h := by
  intro k
  induction k with
  | zero => intro n h; rfl
  | succ k ih =>
    intro n h
    rw [p_X1_loadParents_33]
    split
    · rfl
    · split
      · rw [p_X1_loadParents_58]
        split
        · rw [ih]; exact hF _ _ _
        · exact hF _ _ _
      · exact ih _ _
theorem vwH_LP (τ : Nat → Nat → Int32) (F : (Nat → Nat → Int32) → Nat → Int32 → Int32 × (Nat → Nat → Int32)) (hF : ∀ h t o, vwH (F h t o).2 = vwH h) (x : Nat) (y : Int32) (h : Nat → Nat → Int32) : vwH (p_X1_loadParents τ F x y h).2 = vwH h := by
  have h31 : ∀ h, vwH (p_X1_loadParents_31 τ F x y h).2 = vwH h := fun h => by rw [p_X1_loadParents_31]; exact vwH_LP33 τ F hF x y _ _ _
  rw [p_X1_loadParents]
  split
  · exact h31 _
  · rw [p_X1_loadParents_21]
    split
    · rw [h31]; exact hF _ _ _
    · exact hF _ _ _
theorem vwH_LI (τ : Nat → Nat → Int32) : ∀ (d : Nat) (h : Nat → Nat → Int32) (t : Nat) (o : Int32), vwH (pLI τ d h t o).2 = vwH h := by
  intro d
  induction d with
  | zero => intro h t o; rfl
  | succ d ih =>
    intro h t o
    have hG : ∀ h t o, vwH (p_X1_loadParents τ (fun h t o => pLI τ d h t o) t o h).2 = vwH h := fun h t o => vwH_LP τ _ (fun h t o => ih h t o) t o h
    rw [pLI, p_X1_loadInside]
    split
    · split
      · rfl
      · split
        · rfl
        · rw [p_X1_loadInside_51]
          split
          · split
            · exact hG _ _ _
            · rw [p_X1_loadInside_80]
              show vwH (st2 _ 8 1 _) = _
              rw [vwH_s8, vwH_gather]
              exact hG _ _ _
          · exact hG _ _ _
    · rfl
/-- the contract of loadInside, by induction on the depth -/
theorem c_LI (l : Launch) (D : va_G) (cI cZ cB cR : ClassId) (a : Nat → Nat) (τ : Nat → Nat → Int32) (wf : WFT τ) : ∀ (d : Nat) (h : Nat → Nat → Int32) (t : Nat) (o : Int32), vwH h = τ → t < 12 → cN o < d → MUi l yX1_loadInside wsX1_loadInside ({ frames := 2 * d + 10, cells := 0, slots := 0, locals := 60 * d + 200 } : Room) D cI cZ cB cR (wH cI a h) [.ref (a 0), .int (nI t), .int o] (fun (_ : Unit) => wH cI a (pLI τ d h t o).2) (fun r _ => r = (pLI τ d h t o).1) := by
  intro d
  induction d with
  | zero => intro h t o _ _ hc; exact absurd hc (Nat.not_lt_zero _)
  | succ d ih =>
    intro h t o hT ht hc
    exact c_X1_loadInside l D cI cZ cB cR a d h τ (fun h t o => p_X1_loadParents τ (fun h t o => pLI τ d h t o) t o h) t o hT wf ht hc
      (fun h' t' o' hT' ht' hc' => c_X1_loadParents l D cI cZ cB cR a d h' τ (fun h t o => pLI τ d h t o) t' o' hT' wf ht' hc' (fun h2 t2 o2 q1 q2 q3 => ih h2 t2 o2 q1 q2 q3) (fun h2 t2 o2 => vwH_LI τ d h2 t2 o2))
      (fun h' t' o' => vwH_LP τ _ (fun h2 t2 o2 => vwH_LI τ d h2 t2 o2) t' o' h')
/-- what is kept of types that are settled -/
def CI (τ h : Nat → Nat → Int32) : Prop := vwH h = τ ∧ (∀ u, u < 12 → bt (h 8 1) u = true → Gd τ u ∧ ∀ w, w < 12 → bt (h 6 u) w = abB τ u w ∧ bt (h 7 u) w = fcB τ u w) ∧ ∀ u, 12 ≤ u → u < 32 → bt (h 8 1) u = false
def SM (h h' : Nat → Nat → Int32) : Prop := ∀ u, u < 12 → bt (h 8 1) u = true → bt (h' 8 1) u = true
theorem SM.rf {h : Nat → Nat → Int32} : SM h h := fun _ _ q => q
theorem SM.tr {h g k : Nat → Nat → Int32} (a : SM h g) (b : SM g k) : SM h k := fun u hu q => b u hu (a u hu q)
def OC (τ : Nat → Nat → Int32) (o : Int32) (t : Nat) : Prop := ∀ u, u < 12 → bt o u = true → lowr τ t u
theorem OC.out {τ : Nat → Nat → Int32} {o : Int32} {t : Nat} (h : OC τ o t) (ht : t < 12) (hg : Gd τ t) : bt o t = false := by
  cases e : bt o t with
  | false => rfl
  | true => exact absurd hg (h t ht e).irr
theorem OC.step {τ : Nat → Nat → Int32} {o : Int32} {t p : Nat} (h : OC τ o t) (ht : t < 12) (hp : lowr τ p t) : OC τ (o ||| bm t) p := by
  intro u hu hb
  rw [b_or, b_bm (by omega) (by omega), Bool.or_eq_true] at hb
  rcases hb with hb | hb
  · exact hp.trans (h u hu hb)
  · have e : u = t := by simpa using hb
    subst e
    exact hp
/-- what loadInside comes to -/
def LIok (τ : Nat → Nat → Int32) (d : Nat) (F : (Nat → Nat → Int32) → Nat → Int32 → Int32 × (Nat → Nat → Int32)) : Prop := ∀ h t o, CI τ h → t < 12 → cN o < d → OC τ o t → (F h t o).1 = vN τ d o t ∧ CI τ (F h t o).2 ∧ SM h (F h t o).2 ∧ (Gd τ t → bt ((F h t o).2 8 1) t = true)
theorem gather67 (τ : Nat → Nat → Int32) (x : Nat) (h : Nat → Nat → Int32) : ∀ (k i : Nat) (v : Int32), 12 - i < k → i ≤ 12 → ∃ v', p_X1_gatherSets_67 τ x k i v h = st2 h 7 x v' ∧ ∀ w, w < 12 → (bt v' w = true ↔ bt v w = true ∨ ∃ u, i ≤ u ∧ u < 12 ∧ bt (h 3 x) u = true ∧ bt (h 7 u) w = true) := by
  intro k
  induction k with
  | zero => intro i v h1; omega
  | succ k ih =>
    intro i v hk hi
    rw [p_X1_gatherSets_67]
    by_cases c : 12 ≤ i
    · rw [if_pos c]
      refine ⟨v, rfl, fun w hw => ⟨Or.inl, ?_⟩⟩
      rintro (q | ⟨u, q1, q2, -⟩)
      · exact q
      · omega
    · rw [if_neg c]
      by_cases c1 : bt (h 3 x) i = true
      · rw [if_pos c1]
        obtain ⟨v', e, hv⟩ := ih (i + 1) (v ||| h 7 i) (by omega) (by omega)
        refine ⟨v', e, fun w hw => ?_⟩
        rw [hv w hw, b_or, Bool.or_eq_true]
        constructor
        · rintro ((q | q) | ⟨u, q1, q2, q3⟩)
          · exact Or.inl q
          · exact Or.inr ⟨i, Nat.le_refl i, by omega, c1, q⟩
          · exact Or.inr ⟨u, by omega, q2, q3⟩
        · rintro (q | ⟨u, q1, q2, q3, q4⟩)
          · exact Or.inl (Or.inl q)
          · rcases Nat.lt_or_ge i u with z | z
            · exact Or.inr ⟨u, z, q2, q3, q4⟩
            · have e : u = i := by omega
              subst e
              exact Or.inl (Or.inr q4)
      · rw [if_neg c1]
        obtain ⟨v', e, hv⟩ := ih (i + 1) v (by omega) (by omega)
        refine ⟨v', e, fun w hw => ?_⟩
        rw [hv w hw]
        constructor
        · rintro (q | ⟨u, q1, q2, q3⟩)
          · exact Or.inl q
          · exact Or.inr ⟨u, by omega, q2, q3⟩
        · rintro (q | ⟨u, q1, q2, q3, q4⟩)
          · exact Or.inl q
          · rcases Nat.lt_or_ge i u with z | z
            · exact Or.inr ⟨u, z, q2, q3, q4⟩
            · have e : u = i := by omega
              subst e
              exact absurd q3 c1
/-- the sets of a type all of whose parents are settled -/
theorem gather_ok {τ h : Nat → Nat → Int32} {x : Nat} (ci : CI τ h) (wf : WFT τ) (hx : x < 12) (hs : ¬ τ 3 x = -1 → bt (h 8 1) (sN (τ 3 x)) = true) (hf : ∀ u, u < 12 → bt (τ 4 x) u = true → bt (h 8 1) u = true) :
    ∃ v6 v7, p_X1_gatherSets τ x h = st2 (st2 h 6 x v6) 7 x v7 ∧ ∀ w, w < 12 → bt v6 w = abB τ x w ∧ bt v7 w = fcB τ x w := by
  have ok := OKB_of ci.1
  have h63 : ∀ v6 v, ∃ v7, p_X1_gatherSets_63 τ x v (st2 h 6 x v6) = st2 (st2 h 6 x v6) 7 x v7 ∧ ∀ w, w < 12 → (bt v7 w = true ↔ bt v w = true ∨ ∃ u, u < 12 ∧ bt (τ 4 x) u = true ∧ fcB τ u w = true) := by
    intro v6 v
    rw [p_X1_gatherSets_63]
    obtain ⟨v7, e, hv⟩ := gather67 τ x (st2 h 6 x v6) 13 0 v (by omega) (by omega)
    refine ⟨v7, e, fun w hw => ?_⟩
    rw [hv w hw]
    have e3 : (st2 h 6 x v6) 3 x = τ 4 x := by rw [st2_n (by omega)]; exact ok.fa hx
    have e7 : (st2 h 6 x v6) 7 = h 7 := st2_n (by omega)
    rw [e3, e7]
    constructor
    · rintro (q | ⟨u, -, q2, q3, q4⟩)
      · exact Or.inl q
      · exact Or.inr ⟨u, q2, q3, by rw [← ((ci.2.1 u q2 (hf u q2 q3)).2 w hw).2]; exact q4⟩
    · rintro (q | ⟨u, q2, q3, q4⟩)
      · exact Or.inl q
      · exact Or.inr ⟨u, Nat.zero_le u, q2, q3, by rw [((ci.2.1 u q2 (hf u q2 q3)).2 w hw).2]; exact q4⟩
  rw [p_X1_gatherSets]
  by_cases c : τ 3 x = -1
  · rw [if_pos c, p_X1_gatherSets_35, if_pos c]
    obtain ⟨v7, e, hv⟩ := h63 (bm x) ((st2 h 6 x (bm x)) 3 x)
    refine ⟨bm x, v7, e, fun w hw => ⟨?_, ?_⟩⟩
    · rw [abB_eq, b_bm (by omega) (by omega)]; simp [c]
    · rw [Bool.eq_iff_iff, hv w hw, fcB_eq, st2_n (by omega), ok.fa hx]
      simp only [c, decide_true, Bool.not_true, Bool.false_and, Bool.or_false, Bool.or_eq_true]
      refine or_congr Iff.rfl ?_
      rw [exB_iff]
      constructor
      · rintro ⟨u, q1, q2, q3⟩; exact ⟨u, q1, by simp [q2, q3]⟩
      · rintro ⟨u, q1, q2⟩; simp only [Bool.and_eq_true] at q2; exact ⟨u, q1, q2.1, q2.2⟩
  · rw [if_neg c, p_X1_gatherSets_35, if_neg c]
    have hT := ((wf.1 x hx).1.resolve_left c).1
    have hS := ci.2.1 _ hT (hs c)
    obtain ⟨v7, e, hv⟩ := h63 (bm x ||| h 6 (sN (τ 3 x))) ((st2 h 6 x (bm x ||| h 6 (sN (τ 3 x)))) 3 x ||| (st2 h 6 x (bm x ||| h 6 (sN (τ 3 x)))) 7 (sN (τ 3 x)))
    refine ⟨_, v7, e, fun w hw => ⟨?_, ?_⟩⟩
    · rw [abB_eq, b_or, b_bm (by omega) (by omega), (hS.2 w hw).1]; simp [c]
    · rw [Bool.eq_iff_iff, hv w hw, fcB_eq, b_or, st2_n (q := 3) (by omega), st2_n (q := 7) (by omega), ok.fa hx, (hS.2 w hw).2]
      simp only [c, decide_false, Bool.not_false, Bool.true_and, Bool.or_eq_true]
      refine or_congr Iff.rfl ?_
      rw [exB_iff]
      constructor
      · rintro ⟨u, q1, q2, q3⟩; exact ⟨u, q1, by simp [q2, q3]⟩
      · rintro ⟨u, q1, q2⟩; simp only [Bool.and_eq_true] at q2; exact ⟨u, q1, q2.1, q2.2⟩
/-- what loadParents comes to -/
theorem LP33_ok {τ : Nat → Nat → Int32} (wf : WFT τ) {d : Nat} {F : (Nat → Nat → Int32) → Nat → Int32 → Int32 × (Nat → Nat → Int32)} (hF : LIok τ (d + 1) F) {x : Nat} {y : Int32} (hc : cN y < d + 1) (hx : x < 12) (hO : ∀ u, u < 12 → bt (τ 4 x) u = true → OC τ y u) :
    ∀ k i h, 12 - i < k → i ≤ 12 → CI τ h → (∀ j, j < i → bt (τ 4 x) j = true → Gd τ j ∧ bt (h 8 1) j = true) → CI τ (p_X1_loadParents_33 τ F x y k i h).2 ∧ SM h (p_X1_loadParents_33 τ F x y k i h).2 ∧ (if fst (fun u => bt (τ 4 x) u && !(gdB τ u)) 12 < 12 then (p_X1_loadParents_33 τ F x y k i h).1 = vN τ (d + 1) y (fst (fun u => bt (τ 4 x) u && !(gdB τ u)) 12) else (p_X1_loadParents_33 τ F x y k i h).1 = nI x ∧ ∀ u, u < 12 → bt (τ 4 x) u = true → bt ((p_X1_loadParents_33 τ F x y k i h).2 8 1) u = true) := by
  intro k
  induction k with
  | zero => intro i h h1; omega
  | succ k ih =>
    intro i h hk hi ci hj
    have h0 : ∀ j, j < i → (bt (τ 4 x) j && !(gdB τ j)) = false := by
      intro j q
      by_cases z : bt (τ 4 x) j = true
      · simp [gdB_iff.mpr (hj j q z).1]
      · simp at z; simp [z]
    rw [p_X1_loadParents_33]
    by_cases c : 12 ≤ i
    · rw [if_pos c]
      have e : i = 12 := by omega
      subst e
      refine ⟨ci, SM.rf, ?_⟩
      rw [fst_none h0, if_neg (by omega)]
      exact ⟨rfl, fun u hu hb => (hj u hu hb).2⟩
    · rw [if_neg c]
      have hi2 : i < 12 := by omega
      by_cases c1 : bt (τ 4 x) i = true
      · rw [if_pos c1, p_X1_loadParents_58]
        obtain ⟨f1, f2, f3, f4⟩ := hF h i y ci hi2 hc (hO i hi2 c1)
        by_cases hg : Gd τ i
        · have e1 : (F h i y).1 = nI i := by rw [f1]; exact vN_good hg ((hO i hi2 c1).out hi2 hg)
          have e2 : gd (F h i y).1 = true := by rw [e1, gd_nI (by omega), decide_eq_true (by omega)]
          rw [if_pos e2]
          obtain ⟨g1, g2, g3⟩ := ih (i + 1) (F h i y).2 (by omega) (by omega) f2 (fun j q z => by
            rcases Nat.lt_or_ge j i with w | w
            · exact ⟨(hj j w z).1, f3 j (by omega) (hj j w z).2⟩
            · have e : j = i := by omega
              subst e
              exact ⟨hg, f4 hg⟩)
          exact ⟨g1, f3.tr g2, g3⟩
        · have e2 : gd (F h i y).1 = false := by rw [f1]; exact vN_bad wf hi2 hc hg
          rw [if_neg (by rw [e2]; decide)]
          refine ⟨f2, f3, ?_⟩
          have e3 : fst (fun u => bt (τ 4 x) u && !(gdB τ u)) 12 = i := fst_at hi2 (by simp [c1, gdB_f.mpr hg]) h0
          rw [e3, if_pos hi2]
          exact f1
      · rw [if_neg c1]
        exact ih (i + 1) h (by omega) (by omega) ci (fun j q z => by
          rcases Nat.lt_or_ge j i with w | w
          · exact hj j w z
          · have e : j = i := by omega
            subst e
            exact absurd z c1)
theorem LI_ok {τ : Nat → Nat → Int32} (wf : WFT τ) : ∀ d, LIok τ d (fun h t o => pLI τ d h t o) := by
  intro d
  induction d with
  | zero => intro h t o _ _ hc; exact absurd hc (Nat.not_lt_zero _)
  | succ d ih =>
    intro h t o ci ht hc oc
    show (pLI τ (d + 1) h t o).1 = _ ∧ CI τ (pLI τ (d + 1) h t o).2 ∧ SM h (pLI τ (d + 1) h t o).2 ∧ (Gd τ t → bt ((pLI τ (d + 1) h t o).2 8 1) t = true)
    rw [pLI, p_X1_loadInside, vN]
    by_cases c1 : thB τ t = true
    · rw [if_pos c1, if_pos c1]
      by_cases c2 : bt o t = true
      · rw [if_pos c2, if_pos c2]
        exact ⟨rfl, ci, SM.rf, fun hg => absurd (oc.out ht hg) (by simp [c2])⟩
      · rw [if_neg c2, if_neg c2]
        have c2' : bt o t = false := by simpa using c2
        have hc2 : cN (o ||| bm t) < d := by have := cN_or ht c2'; omega
        by_cases c3 : bt (h 8 1) t = true
        · rw [if_pos c3]
          have hg := (ci.2.1 t ht c3).1
          have := vN_good (n := d) hg c2'
          rw [vN, if_pos c1, if_neg c2] at this
          exact ⟨this.symm, ci, SM.rf, fun _ => c3⟩
        · rw [if_neg c3]
          cases d with
          | zero => exact absurd hc2 (Nat.not_lt_zero _)
          | succ d =>
          -- the parents
          have key : CI τ (p_X1_loadParents τ (fun h t o => pLI τ (d + 1) h t o) t (o ||| bm t) h).2 ∧ SM h (p_X1_loadParents τ (fun h t o => pLI τ (d + 1) h t o) t (o ||| bm t) h).2 ∧ (if (!decide (τ 3 t = -1) && !(gdB τ (sN (τ 3 t)))) = true then (p_X1_loadParents τ (fun h t o => pLI τ (d + 1) h t o) t (o ||| bm t) h).1 = vN τ (d + 1) (o ||| bm t) (sN (τ 3 t)) else if fst (fun u => bt (τ 4 t) u && !(gdB τ u)) 12 < 12 then (p_X1_loadParents τ (fun h t o => pLI τ (d + 1) h t o) t (o ||| bm t) h).1 = vN τ (d + 1) (o ||| bm t) (fst (fun u => bt (τ 4 t) u && !(gdB τ u)) 12) else (p_X1_loadParents τ (fun h t o => pLI τ (d + 1) h t o) t (o ||| bm t) h).1 = nI t ∧ (¬ τ 3 t = -1 → bt ((p_X1_loadParents τ (fun h t o => pLI τ (d + 1) h t o) t (o ||| bm t) h).2 8 1) (sN (τ 3 t)) = true) ∧ ∀ u, u < 12 → bt (τ 4 t) u = true → bt ((p_X1_loadParents τ (fun h t o => pLI τ (d + 1) h t o) t (o ||| bm t) h).2 8 1) u = true) := by
            have hO : ∀ u, u < 12 → bt (τ 4 t) u = true → OC τ (o ||| bm t) u := fun u hu hb => oc.step ht (lowr.face hu hb)
            rw [p_X1_loadParents]
            by_cases d1 : τ 3 t = -1
            · rw [if_pos d1, p_X1_loadParents_31]
              obtain ⟨g1, g2, g3⟩ := LP33_ok wf ih hc2 ht hO 13 0 h (by omega) (by omega) ci (fun j q => absurd q (Nat.not_lt_zero j))
              refine ⟨g1, g2, ?_⟩
              rw [if_neg (by simp [d1])]
              by_cases d2 : fst (fun u => bt (τ 4 t) u && !(gdB τ u)) 12 < 12
              · rw [if_pos d2] at g3 ⊢; exact g3
              · rw [if_neg d2] at g3 ⊢; exact ⟨g3.1, fun q => absurd d1 q, g3.2⟩
            · rw [if_neg d1, p_X1_loadParents_21]
              have hT := ((wf.1 t ht).1.resolve_left d1).1
              have hOs : OC τ (o ||| bm t) (sN (τ 3 t)) := oc.step ht (lowr.sup d1)
              obtain ⟨f1, f2, f3, f4⟩ := ih h (sN (τ 3 t)) (o ||| bm t) ci hT hc2 hOs
              by_cases hg : Gd τ (sN (τ 3 t))
              · have e1 : (pLI τ (d + 1) h (sN (τ 3 t)) (o ||| bm t)).1 = nI (sN (τ 3 t)) := by
                  show _ = _
                  have := f1
                  rw [this]; exact vN_good hg (hOs.out hT hg)
                have e2 : gd (pLI τ (d + 1) h (sN (τ 3 t)) (o ||| bm t)).1 = true := by rw [e1, gd_nI (by omega), decide_eq_true (by omega)]
                rw [if_pos e2, p_X1_loadParents_31]
                obtain ⟨g1, g2, g3⟩ := LP33_ok wf ih hc2 ht hO 13 0 (pLI τ (d + 1) h (sN (τ 3 t)) (o ||| bm t)).2 (by omega) (by omega) f2 (fun j q => absurd q (Nat.not_lt_zero j))
                refine ⟨g1, f3.tr g2, ?_⟩
                rw [if_neg (by simp [gdB_iff.mpr hg])]
                by_cases d2 : fst (fun u => bt (τ 4 t) u && !(gdB τ u)) 12 < 12
                · rw [if_pos d2] at g3 ⊢; exact g3
                · rw [if_neg d2] at g3 ⊢; exact ⟨g3.1, fun _ => g2 _ hT (f4 hg), g3.2⟩
              · have e2 : gd (pLI τ (d + 1) h (sN (τ 3 t)) (o ||| bm t)).1 = false := by
                  have := f1
                  rw [this]; exact vN_bad wf hT hc2 hg
                rw [if_neg (by rw [e2]; decide)]
                refine ⟨f2, f3, ?_⟩
                rw [if_pos (by simp [d1, gdB_f.mpr hg])]
                exact f1
          obtain ⟨r, h1, e⟩ : ∃ r h1, (p_X1_loadParents τ (fun h t o => pLI τ (d + 1) h t o) t (o ||| bm t) h) = (r, h1) := ⟨_, _, rfl⟩
          rw [e] at key ⊢
          obtain ⟨k1, k2, k3⟩ := key
          dsimp only at k1 k2 k3
          show (p_X1_loadInside_51 τ _ t o r h1).1 = _ ∧ CI τ (p_X1_loadInside_51 τ _ t o r h1).2 ∧ SM h (p_X1_loadInside_51 τ _ t o r h1).2 ∧ (Gd τ t → bt ((p_X1_loadInside_51 τ _ t o r h1).2 8 1) t = true)
          rw [p_X1_loadInside_51]
          by_cases d1 : (!decide (τ 3 t = -1) && !(gdB τ (sN (τ 3 t)))) = true
          · rw [if_pos d1] at k3 ⊢
            simp only [Bool.and_eq_true, Bool.not_eq_true', decide_eq_false_iff_not] at d1
            have hT := ((wf.1 t ht).1.resolve_left d1.1).1
            have nb := gdB_f.mp d1.2
            rw [if_neg (by rw [k3, vN_bad wf hT hc2 nb]; decide)]
            exact ⟨k3, k1, k2, fun hg => absurd (hg.sup d1.1) nb⟩
          · rw [if_neg d1] at k3 ⊢
            by_cases d2 : fst (fun u => bt (τ 4 t) u && !(gdB τ u)) 12 < 12
            · rw [if_pos d2] at k3 ⊢
              have hy := fst_yes _ _ d2
              simp only [Bool.and_eq_true, Bool.not_eq_true'] at hy
              have nb := gdB_f.mp hy.2
              rw [if_neg (by rw [k3, vN_bad wf d2 hc2 nb]; decide)]
              exact ⟨k3, k1, k2, fun hg => absurd (hg.face d2 hy.1) nb⟩
            · rw [if_neg d2] at k3 ⊢
              obtain ⟨q1, q2, q3⟩ := k3
              rw [if_pos (by rw [q1, gd_nI (by omega), decide_eq_true (by omega)])]
              by_cases d3 : wrB τ t = true
              · rw [if_pos d3, if_pos d3]
                exact ⟨rfl, k1, k2, fun hg => absurd hg.right (by simp [d3])⟩
              · rw [if_neg d3, if_neg d3, p_X1_loadInside_80]
                have hg : Gd τ t := by
                  refine Gd.mk c1 ?_ (fun u hu hb => (k1.2.1 u hu (q3 u hu hb)).1) (by simpa using d3)
                  by_cases z : τ 3 t = -1
                  · exact Or.inl z
                  · exact Or.inr (k1.2.1 _ ((wf.1 t ht).1.resolve_left z).1 (q2 z)).1
                obtain ⟨v6, v7, eg, hv⟩ := gather_ok k1 wf ht q2 q3
                rw [eg]
                have e8 : ∀ j, (st2 (st2 h1 6 t v6) 7 t v7) 8 j = h1 8 j := fun j => by rw [st2_n (by omega), st2_n (by omega)]
                have eb : ∀ u, u < 32 → bt (h1 8 1 ||| bm t) u = (bt (h1 8 1) u || decide (u = t)) := fun u hu => by rw [b_or, b_bm (by omega) hu]
                refine ⟨rfl, ⟨?_, ?_, ?_⟩, ?_, ?_⟩
                · show vwH (st2 _ 8 1 _) = τ
                  rw [vwH_s8, vwH_s7, vwH_s6]; exact k1.1
                · intro u hu hb
                  show Gd τ u ∧ ∀ w, w < 12 → bt ((st2 (st2 (st2 h1 6 t v6) 7 t v7) 8 1 _) 6 u) w = _ ∧ bt ((st2 (st2 (st2 h1 6 t v6) 7 t v7) 8 1 _) 7 u) w = _
                  have hb2 : bt ((st2 (st2 (st2 h1 6 t v6) 7 t v7) 8 1 ((st2 (st2 h1 6 t v6) 7 t v7) 8 1 ||| bm t)) 8 1) u = true := hb
                  rw [st2_k, pk_us, e8, eb u (by omega)] at hb2
                  rw [st2_n (q := 6) (by omega), st2_n (q := 6) (by omega), st2_k, st2_n (q := 7) (by omega), st2_k, st2_n (q := 7) (by omega)]
                  by_cases z : u = t
                  · subst z
                    rw [pk_us, pk_us]
                    exact ⟨hg, hv⟩
                  · rw [pk_un z, pk_un z]
                    simp [z] at hb2
                    exact k1.2.1 u hu hb2
                · intro u h5 h6
                  show bt ((st2 (st2 (st2 h1 6 t v6) 7 t v7) 8 1 ((st2 (st2 h1 6 t v6) 7 t v7) 8 1 ||| bm t)) 8 1) u = false
                  rw [st2_k, pk_us, e8, eb u h6, k1.2.2 u h5 h6]
                  simp
                  omega
                · intro u hu hb
                  show bt ((st2 (st2 (st2 h1 6 t v6) 7 t v7) 8 1 ((st2 (st2 h1 6 t v6) 7 t v7) 8 1 ||| bm t)) 8 1) u = true
                  rw [st2_k, pk_us, e8, eb u (by omega), k2 u hu hb]
                  rfl
                · intro _
                  show bt ((st2 (st2 (st2 h1 6 t v6) 7 t v7) 8 1 ((st2 (st2 h1 6 t v6) 7 t v7) 8 1 ||| bm t)) 8 1) t = true
                  rw [st2_k, pk_us, e8, eb t (by omega)]
                  simp
    · rw [if_neg c1, if_neg c1]
      exact ⟨rfl, ci, SM.rf, fun hg => absurd hg.there c1⟩
/-! the row of verdicts stays too -/
def rv5 (h : Nat → Nat → Int32) : Nat → Int32 := h 5
theorem rv5_s6 {h : Nat → Nat → Int32} {j : Nat} {v : Int32} : rv5 (st2 h 6 j v) = rv5 h := st2_n (by omega)
theorem rv5_s7 {h : Nat → Nat → Int32} {j : Nat} {v : Int32} : rv5 (st2 h 7 j v) = rv5 h := st2_n (by omega)
theorem rv5_s8 {h : Nat → Nat → Int32} {v : Int32} : rv5 (st2 h 8 1 v) = rv5 h := st2_n (by omega)
theorem rv5_gather67 (τ : Nat → Nat → Int32) (x : Nat) : ∀ (k n : Nat) (v : Int32) (h : Nat → Nat → Int32), rv5 (p_X1_gatherSets_67 τ x k n v h) = rv5 h := by
  intro k
  induction k with
  | zero => intro n v h; rfl
  | succ k ih =>
    intro n v h
    rw [p_X1_gatherSets_67]
    split
    · exact rv5_s7
    · split
      · exact ih _ _ _
      · exact ih _ _ _
theorem rv5_gather (τ : Nat → Nat → Int32) (x : Nat) (h : Nat → Nat → Int32) : rv5 (p_X1_gatherSets τ x h) = rv5 h := by
  have h63 : ∀ v h, rv5 (p_X1_gatherSets_63 τ x v h) = rv5 h := fun v h => by
    rw [p_X1_gatherSets_63]; exact rv5_gather67 _ _ _ _ _ _
  have h35 : ∀ v h, rv5 (p_X1_gatherSets_35 τ x v h) = rv5 h := fun v h => by
    rw [p_X1_gatherSets_35]
    split
    · rw [h63]; exact rv5_s6
    · rw [h63]; exact rv5_s6
  rw [p_X1_gatherSets]
  split <;> exact h35 _ _
theorem rv5_LP33 (τ : Nat → Nat → Int32) (F : (Nat → Nat → Int32) → Nat → Int32 → Int32 × (Nat → Nat → Int32)) (hF : ∀ h t o, rv5 (F h t o).2 = rv5 h) (x : Nat) (y : Int32) : ∀ (k n : Nat) (h : Nat → Nat → Int32), rv5 (p_X1_loadParents_33 τ F x y k n h).2 = rv5 h := by
  intro k
  induction k with
  | zero => intro n h; rfl
  | succ k ih =>
    intro n h
    rw [p_X1_loadParents_33]
    split
    · rfl
    · split
      · rw [p_X1_loadParents_58]
        split
        · rw [ih]; exact hF _ _ _
        · exact hF _ _ _
      · exact ih _ _
theorem rv5_LP (τ : Nat → Nat → Int32) (F : (Nat → Nat → Int32) → Nat → Int32 → Int32 × (Nat → Nat → Int32)) (hF : ∀ h t o, rv5 (F h t o).2 = rv5 h) (x : Nat) (y : Int32) (h : Nat → Nat → Int32) : rv5 (p_X1_loadParents τ F x y h).2 = rv5 h := by
  have h31 : ∀ h, rv5 (p_X1_loadParents_31 τ F x y h).2 = rv5 h := fun h => by rw [p_X1_loadParents_31]; exact rv5_LP33 τ F hF x y _ _ _
  rw [p_X1_loadParents]
  split
  · exact h31 _
  · rw [p_X1_loadParents_21]
    split
    · rw [h31]; exact hF _ _ _
    · exact hF _ _ _
theorem rv5_LI (τ : Nat → Nat → Int32) : ∀ (d : Nat) (h : Nat → Nat → Int32) (t : Nat) (o : Int32), rv5 (pLI τ d h t o).2 = rv5 h := by
  intro d
  induction d with
  | zero => intro h t o; rfl
  | succ d ih =>
    intro h t o
    have hG : ∀ h t o, rv5 (p_X1_loadParents τ (fun h t o => pLI τ d h t o) t o h).2 = rv5 h := fun h t o => rv5_LP τ _ (fun h t o => ih h t o) t o h
    rw [pLI, p_X1_loadInside]
    split
    · split
      · rfl
      · split
        · rfl
        · rw [p_X1_loadInside_51]
          split
          · split
            · exact hG _ _ _
            · rw [p_X1_loadInside_80]
              show rv5 (st2 _ 8 1 _) = _
              rw [rv5_s8, rv5_gather]
              exact hG _ _ _
          · exact hG _ _ _
    · rfl
end
