/-! ===== the words of the tables that every method may rest on, by their places ===== -/
def TT : List Cond := lw_tbl.filter goodWord
theorem TT_in {w : Cond} (h : w ∈ TT) : w ∈ lw_tbl := (List.mem_filter.mp h).1
theorem TT_good {w : Cond} (h : w ∈ TT) : goodWord w = true := (List.mem_filter.mp h).2
theorem mTs {w : Cond} (h : w ∈ k2_sels lw_privs) (g : goodWord w = true) : w ∈ TT := List.mem_filter.mpr ⟨List.mem_append_left _ h, g⟩
theorem mL1 {w : Cond} (h : w ∈ tables_1_1) : w ∈ lw_tbl := List.mem_append_right _ (List.mem_append_left _ h)
theorem mL2 {w : Cond} (h : w ∈ tables_1_2) : w ∈ lw_tbl := List.mem_append_right _ (List.mem_append_right _ (List.mem_append_left _ h))
theorem mL3 {w : Cond} (h : w ∈ tables_1_3) : w ∈ lw_tbl := List.mem_append_right _ (List.mem_append_right _ (List.mem_append_right _ (List.mem_append_left _ h)))
theorem mL4 {w : Cond} (h : w ∈ tables_1_4) : w ∈ lw_tbl := List.mem_append_right _ (List.mem_append_right _ (List.mem_append_right _ (List.mem_append_right _ h)))
theorem mT {w : Cond} (h : w ∈ lw_tbl) (g : goodWord w = true) : w ∈ TT := List.mem_filter.mpr ⟨h, g⟩
theorem goodC {c c' : Cond} (h : c' ∈ TT) : GoodIn (c :: TT) (c' :: TT) := fun w hw => by
  rcases List.mem_cons.mp hw with e | e
  · rw [e]; exact ⟨List.mem_cons_of_mem _ h, good_of_word (TT_good h)⟩
  · exact ⟨List.mem_cons_of_mem _ e, good_of_word (TT_good e)⟩
theorem goodP {c c' : Cond} {ps : List Cond} (hp : ∀ w ∈ ps, w ∈ TT) (h : c' ∈ TT) : GoodIn (c :: TT) (ps ++ (c' :: TT)) := fun w hw => by
  rcases List.mem_append.mp hw with e | e
  · exact ⟨List.mem_cons_of_mem _ (hp w e), good_of_word (TT_good (hp w e))⟩
  · exact goodC h w e
theorem goodPL {c' : Cond} {ps : List Cond} (hp : ∀ w ∈ ps, w ∈ TT) (h : c' ∈ TT) : GoodIn lw_tbl (ps ++ (c' :: TT)) := fun w hw => by
  rcases List.mem_append.mp hw with e | e
  · exact ⟨TT_in (hp w e), good_of_word (TT_good (hp w e))⟩
  · rcases List.mem_cons.mp e with e | e
    · rw [e]; exact ⟨TT_in h, good_of_word (TT_good h)⟩
    · exact ⟨TT_in e, good_of_word (TT_good e)⟩
theorem all4 {a b c d : Cond} (h1 : a ∈ TT) (h2 : b ∈ TT) (h3 : c ∈ TT) (h4 : d ∈ TT) : ∀ w ∈ [a, b, c, d], w ∈ TT := List.forall_mem_cons.mpr ⟨h1, List.forall_mem_cons.mpr ⟨h2, List.forall_mem_cons.mpr ⟨h3, List.forall_mem_cons.mpr ⟨h4, fun _ h => absurd h List.not_mem_nil⟩⟩⟩⟩
theorem all3 {a b c : Cond} (h1 : a ∈ TT) (h2 : b ∈ TT) (h3 : c ∈ TT) : ∀ w ∈ [a, b, c], w ∈ TT := List.forall_mem_cons.mpr ⟨h1, List.forall_mem_cons.mpr ⟨h2, List.forall_mem_cons.mpr ⟨h3, fun _ h => absurd h List.not_mem_nil⟩⟩⟩
theorem mw_1_0 : (Jvm.Cond.initialized "LinkPredictorLaw") ∈ TT := mT (mL1 (List.mem_of_getElem? (i := 0) rfl)) rfl
theorem mw_1_1 : (Jvm.Cond.initialized "LinkPredictor") ∈ TT := mT (mL1 (List.mem_of_getElem? (i := 1) rfl)) rfl
theorem mw_1_2 : (Jvm.Cond.initialized "LinkPredictor$Build") ∈ TT := mT (mL1 (List.mem_of_getElem? (i := 2) rfl)) rfl
theorem mw_1_3 : (Jvm.Cond.initialized "LinkPredictor$Hierarchy") ∈ TT := mT (mL1 (List.mem_of_getElem? (i := 3) rfl)) rfl
theorem mw_1_4 : (Jvm.Cond.initialized "LinkPredictor$Members") ∈ TT := mT (mL1 (List.mem_of_getElem? (i := 4) rfl)) rfl
theorem mw_1_5 : (Jvm.Cond.initialized "LinkPredictor$Reference") ∈ TT := mT (mL1 (List.mem_of_getElem? (i := 5) rfl)) rfl
theorem mw_1_6 : (Jvm.Cond.initialized "LinkPredictorModel") ∈ TT := mT (mL1 (List.mem_of_getElem? (i := 6) rfl)) rfl
theorem mw_1_7 : (Jvm.Cond.initialized "java/lang/System") ∈ TT := mT (mL1 (List.mem_of_getElem? (i := 7) rfl)) rfl
theorem mw_1_8 : (Jvm.Cond.initialized "java/lang/Integer") ∈ TT := mT (mL1 (List.mem_of_getElem? (i := 8) rfl)) rfl
theorem mw_1_9 : (Jvm.Cond.initialized "java/lang/Math") ∈ TT := mT (mL1 (List.mem_of_getElem? (i := 9) rfl)) rfl
theorem mw_1_10 : (Jvm.Cond.classLink "LinkPredictorLaw" (7 : Nat) "LinkPredictor") ∈ TT := mT (mL1 (List.mem_of_getElem? (i := 10) rfl)) rfl
theorem mw_1_11 : (Jvm.Cond.instantiable "LinkPredictor" (4 : Nat)) ∈ TT := mT (mL1 (List.mem_of_getElem? (i := 11) rfl)) rfl
theorem mw_1_12 : (Jvm.Cond.methodLink "LinkPredictorLaw" (9 : Nat) ({ cls := "LinkPredictor", name := "<init>", desc := "()V" } : Jvm.MethodName)) ∈ TT := mT (mL1 (List.mem_of_getElem? (i := 12) rfl)) rfl
theorem mw_1_13 : (Jvm.Cond.instanceMethod ({ cls := "LinkPredictor", name := "<init>", desc := "()V" } : Jvm.MethodName)) ∈ TT := mT (mL1 (List.mem_of_getElem? (i := 13) rfl)) rfl
theorem mw_1_14 : (Jvm.Cond.code ({ cls := "LinkPredictor", name := "<init>", desc := "()V" } : Jvm.MethodName) prog_1_method_1_code (2 : Nat) (Option.none : Option Jvm.ClassFile.FieldType)) ∈ TT := mT (mL1 (List.mem_of_getElem? (i := 14) rfl)) rfl
theorem mw_1_15 : (Jvm.Cond.methodLink "LinkPredictor" (3 : Nat) ({ cls := "java/lang/Object", name := "<init>", desc := "()V" } : Jvm.MethodName)) ∈ TT := mT (mL1 (List.mem_of_getElem? (i := 15) rfl)) rfl
theorem mw_1_16 : (Jvm.Cond.instanceMethod ({ cls := "java/lang/Object", name := "<init>", desc := "()V" } : Jvm.MethodName)) ∈ TT := mT (mL1 (List.mem_of_getElem? (i := 16) rfl)) rfl
theorem mw_1_17 : (Jvm.Cond.code ({ cls := "java/lang/Object", name := "<init>", desc := "()V" } : Jvm.MethodName) object_method_1_code (1 : Nat) (Option.none : Option Jvm.ClassFile.FieldType)) ∈ TT := mT (mL1 (List.mem_of_getElem? (i := 17) rfl)) rfl
theorem mw_1_18 : (Jvm.Cond.classLink "LinkPredictor" (9 : Nat) "LinkPredictor$Build") ∈ TT := mT (mL1 (List.mem_of_getElem? (i := 18) rfl)) rfl
theorem nw_1_19 : (Jvm.Cond.arrayOver (Jvm.ClassFile.FieldType.object "LinkPredictor$Build")) ∈ lw_tbl := mL1 (List.mem_of_getElem? (i := 19) rfl)
theorem mw_1_20 : (Jvm.Cond.instantiable "LinkPredictor$Build" (3 : Nat)) ∈ TT := mT (mL1 (List.mem_of_getElem? (i := 20) rfl)) rfl
theorem nw_1_21 : (Jvm.Cond.methodLinkNest "LinkPredictor" (11 : Nat) ({ cls := "LinkPredictor$Build", name := "<init>", desc := "()V" } : Jvm.MethodName) "LinkPredictor") ∈ lw_tbl := mL1 (List.mem_of_getElem? (i := 21) rfl)
theorem mw_1_22 : (Jvm.Cond.instanceMethod ({ cls := "LinkPredictor$Build", name := "<init>", desc := "()V" } : Jvm.MethodName)) ∈ TT := mT (mL1 (List.mem_of_getElem? (i := 22) rfl)) rfl
theorem mw_1_23 : (Jvm.Cond.code ({ cls := "LinkPredictor$Build", name := "<init>", desc := "()V" } : Jvm.MethodName) prog_2_method_1_code (1 : Nat) (Option.none : Option Jvm.ClassFile.FieldType)) ∈ TT := mT (mL1 (List.mem_of_getElem? (i := 23) rfl)) rfl
theorem mw_1_24 : (Jvm.Cond.methodLink "LinkPredictor$Build" (3 : Nat) ({ cls := "java/lang/Object", name := "<init>", desc := "()V" } : Jvm.MethodName)) ∈ TT := mT (mL1 (List.mem_of_getElem? (i := 24) rfl)) rfl
theorem mw_1_25 : (Jvm.Cond.classLink "LinkPredictor$Build" (9 : Nat) "LinkPredictor$Hierarchy") ∈ TT := mT (mL1 (List.mem_of_getElem? (i := 25) rfl)) rfl
theorem mw_1_26 : (Jvm.Cond.instantiable "LinkPredictor$Hierarchy" (10 : Nat)) ∈ TT := mT (mL1 (List.mem_of_getElem? (i := 26) rfl)) rfl
theorem mw_1_27 : (Jvm.Cond.methodLink "LinkPredictor$Build" (11 : Nat) ({ cls := "LinkPredictor$Hierarchy", name := "<init>", desc := "()V" } : Jvm.MethodName)) ∈ TT := mT (mL1 (List.mem_of_getElem? (i := 27) rfl)) rfl
theorem mw_1_28 : (Jvm.Cond.instanceMethod ({ cls := "LinkPredictor$Hierarchy", name := "<init>", desc := "()V" } : Jvm.MethodName)) ∈ TT := mT (mL1 (List.mem_of_getElem? (i := 28) rfl)) rfl
theorem mw_1_29 : (Jvm.Cond.code ({ cls := "LinkPredictor$Hierarchy", name := "<init>", desc := "()V" } : Jvm.MethodName) prog_3_method_1_code (1 : Nat) (Option.none : Option Jvm.ClassFile.FieldType)) ∈ TT := mT (mL1 (List.mem_of_getElem? (i := 29) rfl)) rfl
theorem mw_1_30 : (Jvm.Cond.methodLink "LinkPredictor$Hierarchy" (3 : Nat) ({ cls := "java/lang/Object", name := "<init>", desc := "()V" } : Jvm.MethodName)) ∈ TT := mT (mL1 (List.mem_of_getElem? (i := 30) rfl)) rfl
theorem nw_1_31 : (Jvm.Cond.methodLinkNest "LinkPredictor$Hierarchy" (36 : Nat) ({ cls := "LinkPredictor", name := "bit", desc := "(I)I" } : Jvm.MethodName) "LinkPredictor") ∈ lw_tbl := mL1 (List.mem_of_getElem? (i := 31) rfl)
theorem mw_1_32 : (Jvm.Cond.static ({ cls := "LinkPredictor", name := "bit", desc := "(I)I" } : Jvm.MethodName)) ∈ TT := mT (mL1 (List.mem_of_getElem? (i := 32) rfl)) rfl
theorem mw_1_33 : (Jvm.Cond.code ({ cls := "LinkPredictor", name := "bit", desc := "(I)I" } : Jvm.MethodName) prog_1_method_25_code (1 : Nat) (Option.some Jvm.ClassFile.FieldType.int)) ∈ TT := mT (mL1 (List.mem_of_getElem? (i := 33) rfl)) rfl
theorem mw_1_34 : (Jvm.Cond.methodLink "LinkPredictor$Hierarchy" (44 : Nat) ({ cls := "LinkPredictor$Hierarchy", name := "settle", desc := "()V" } : Jvm.MethodName)) ∈ TT := mT (mL1 (List.mem_of_getElem? (i := 34) rfl)) rfl
theorem nw_1_35 : (Jvm.Cond.privateMethod ({ cls := "LinkPredictor$Hierarchy", name := "settle", desc := "()V" } : Jvm.MethodName)) ∈ lw_tbl := mL1 (List.mem_of_getElem? (i := 35) rfl)
theorem mw_1_36 : (Jvm.Cond.instanceMethod ({ cls := "LinkPredictor$Hierarchy", name := "settle", desc := "()V" } : Jvm.MethodName)) ∈ TT := mT (mL1 (List.mem_of_getElem? (i := 36) rfl)) rfl
theorem mw_1_37 : (Jvm.Cond.code ({ cls := "LinkPredictor$Hierarchy", name := "settle", desc := "()V" } : Jvm.MethodName) prog_3_method_22_code (2 : Nat) (Option.none : Option Jvm.ClassFile.FieldType)) ∈ TT := mT (mL1 (List.mem_of_getElem? (i := 37) rfl)) rfl
theorem mw_1_38 : (Jvm.Cond.methodLink "LinkPredictor$Hierarchy" (78 : Nat) ({ cls := "LinkPredictor$Hierarchy", name := "loadInside", desc := "(II)I" } : Jvm.MethodName)) ∈ TT := mT (mL1 (List.mem_of_getElem? (i := 38) rfl)) rfl
theorem nw_1_39 : (Jvm.Cond.privateMethod ({ cls := "LinkPredictor$Hierarchy", name := "loadInside", desc := "(II)I" } : Jvm.MethodName)) ∈ lw_tbl := mL1 (List.mem_of_getElem? (i := 39) rfl)
theorem mw_1_40 : (Jvm.Cond.instanceMethod ({ cls := "LinkPredictor$Hierarchy", name := "loadInside", desc := "(II)I" } : Jvm.MethodName)) ∈ TT := mT (mL1 (List.mem_of_getElem? (i := 40) rfl)) rfl
theorem mw_1_41 : (Jvm.Cond.code ({ cls := "LinkPredictor$Hierarchy", name := "loadInside", desc := "(II)I" } : Jvm.MethodName) prog_3_method_23_code (4 : Nat) (Option.some Jvm.ClassFile.FieldType.int)) ∈ TT := mT (mL1 (List.mem_of_getElem? (i := 41) rfl)) rfl
theorem mw_1_42 : (Jvm.Cond.methodLink "LinkPredictor$Hierarchy" (47 : Nat) ({ cls := "LinkPredictor$Hierarchy", name := "isThere", desc := "(I)Z" } : Jvm.MethodName)) ∈ TT := mT (mL1 (List.mem_of_getElem? (i := 42) rfl)) rfl
theorem mw_1_43 : (Jvm.Cond.instanceMethod ({ cls := "LinkPredictor$Hierarchy", name := "isThere", desc := "(I)Z" } : Jvm.MethodName)) ∈ TT := mT (mL1 (List.mem_of_getElem? (i := 43) rfl)) rfl
theorem mw_1_44 : (Jvm.Cond.selects "LinkPredictor$Hierarchy" ({ cls := "LinkPredictor$Hierarchy", name := "isThere", desc := "(I)Z" } : Jvm.MethodName) ({ cls := "LinkPredictor$Hierarchy", name := "isThere", desc := "(I)Z" } : Jvm.MethodName)) ∈ TT := mT (mL1 (List.mem_of_getElem? (i := 44) rfl)) rfl
theorem mw_1_45 : (Jvm.Cond.code ({ cls := "LinkPredictor$Hierarchy", name := "isThere", desc := "(I)Z" } : Jvm.MethodName) prog_3_method_6_code (2 : Nat) (Option.some Jvm.ClassFile.FieldType.boolean)) ∈ TT := mT (mL1 (List.mem_of_getElem? (i := 45) rfl)) rfl
theorem nw_1_46 : (Jvm.Cond.methodLinkNest "LinkPredictor$Hierarchy" (57 : Nat) ({ cls := "LinkPredictor", name := "contains", desc := "(II)Z" } : Jvm.MethodName) "LinkPredictor") ∈ lw_tbl := mL1 (List.mem_of_getElem? (i := 46) rfl)
theorem mw_1_47 : (Jvm.Cond.static ({ cls := "LinkPredictor", name := "contains", desc := "(II)Z" } : Jvm.MethodName)) ∈ TT := mT (mL1 (List.mem_of_getElem? (i := 47) rfl)) rfl
theorem mw_1_48 : (Jvm.Cond.code ({ cls := "LinkPredictor", name := "contains", desc := "(II)Z" } : Jvm.MethodName) prog_1_method_26_code (2 : Nat) (Option.some Jvm.ClassFile.FieldType.boolean)) ∈ TT := mT (mL1 (List.mem_of_getElem? (i := 48) rfl)) rfl
theorem mw_1_49 : (Jvm.Cond.methodLink "LinkPredictor$Hierarchy" (82 : Nat) ({ cls := "LinkPredictor$Hierarchy", name := "loadParents", desc := "(II)I" } : Jvm.MethodName)) ∈ TT := mT (mL1 (List.mem_of_getElem? (i := 49) rfl)) rfl
theorem nw_1_50 : (Jvm.Cond.privateMethod ({ cls := "LinkPredictor$Hierarchy", name := "loadParents", desc := "(II)I" } : Jvm.MethodName)) ∈ lw_tbl := mL1 (List.mem_of_getElem? (i := 50) rfl)
theorem mw_1_51 : (Jvm.Cond.instanceMethod ({ cls := "LinkPredictor$Hierarchy", name := "loadParents", desc := "(II)I" } : Jvm.MethodName)) ∈ TT := mT (mL1 (List.mem_of_getElem? (i := 51) rfl)) rfl
theorem mw_1_52 : (Jvm.Cond.code ({ cls := "LinkPredictor$Hierarchy", name := "loadParents", desc := "(II)I" } : Jvm.MethodName) prog_3_method_24_code (5 : Nat) (Option.some Jvm.ClassFile.FieldType.int)) ∈ TT := mT (mL1 (List.mem_of_getElem? (i := 52) rfl)) rfl
theorem nw_1_53 : (Jvm.Cond.methodLinkNest "LinkPredictor$Hierarchy" (61 : Nat) ({ cls := "LinkPredictor", name := "isGood", desc := "(I)Z" } : Jvm.MethodName) "LinkPredictor") ∈ lw_tbl := mL1 (List.mem_of_getElem? (i := 53) rfl)
theorem mw_1_54 : (Jvm.Cond.static ({ cls := "LinkPredictor", name := "isGood", desc := "(I)Z" } : Jvm.MethodName)) ∈ TT := mT (mL1 (List.mem_of_getElem? (i := 54) rfl)) rfl
theorem mw_1_55 : (Jvm.Cond.code ({ cls := "LinkPredictor", name := "isGood", desc := "(I)Z" } : Jvm.MethodName) prog_1_method_24_code (1 : Nat) (Option.some Jvm.ClassFile.FieldType.boolean)) ∈ TT := mT (mL1 (List.mem_of_getElem? (i := 55) rfl)) rfl
theorem mw_1_56 : (Jvm.Cond.methodLink "LinkPredictor" (34 : Nat) ({ cls := "LinkPredictor", name := "isWithin", desc := "(II)Z" } : Jvm.MethodName)) ∈ TT := mT (mL1 (List.mem_of_getElem? (i := 56) rfl)) rfl
theorem mw_1_57 : (Jvm.Cond.static ({ cls := "LinkPredictor", name := "isWithin", desc := "(II)Z" } : Jvm.MethodName)) ∈ TT := mT (mL1 (List.mem_of_getElem? (i := 57) rfl)) rfl
theorem mw_1_58 : (Jvm.Cond.code ({ cls := "LinkPredictor", name := "isWithin", desc := "(II)Z" } : Jvm.MethodName) prog_1_method_22_code (2 : Nat) (Option.some Jvm.ClassFile.FieldType.boolean)) ∈ TT := mT (mL1 (List.mem_of_getElem? (i := 58) rfl)) rfl
theorem mw_1_59 : (Jvm.Cond.methodLink "LinkPredictor$Hierarchy" (85 : Nat) ({ cls := "LinkPredictor$Hierarchy", name := "hasWrongParents", desc := "(I)Z" } : Jvm.MethodName)) ∈ TT := mT (mL1 (List.mem_of_getElem? (i := 59) rfl)) rfl
theorem nw_1_60 : (Jvm.Cond.privateMethod ({ cls := "LinkPredictor$Hierarchy", name := "hasWrongParents", desc := "(I)Z" } : Jvm.MethodName)) ∈ lw_tbl := mL1 (List.mem_of_getElem? (i := 60) rfl)
theorem mw_1_61 : (Jvm.Cond.instanceMethod ({ cls := "LinkPredictor$Hierarchy", name := "hasWrongParents", desc := "(I)Z" } : Jvm.MethodName)) ∈ TT := mT (mL1 (List.mem_of_getElem? (i := 61) rfl)) rfl
theorem mw_1_62 : (Jvm.Cond.code ({ cls := "LinkPredictor$Hierarchy", name := "hasWrongParents", desc := "(I)Z" } : Jvm.MethodName) prog_3_method_25_code (4 : Nat) (Option.some Jvm.ClassFile.FieldType.boolean)) ∈ TT := mT (mL1 (List.mem_of_getElem? (i := 62) rfl)) rfl
theorem mw_1_63 : (Jvm.Cond.methodLink "LinkPredictor$Hierarchy" (92 : Nat) ({ cls := "LinkPredictor$Hierarchy", name := "isInterface", desc := "(I)Z" } : Jvm.MethodName)) ∈ TT := mT (mL1 (List.mem_of_getElem? (i := 63) rfl)) rfl
theorem mw_1_64 : (Jvm.Cond.instanceMethod ({ cls := "LinkPredictor$Hierarchy", name := "isInterface", desc := "(I)Z" } : Jvm.MethodName)) ∈ TT := mT (mL1 (List.mem_of_getElem? (i := 64) rfl)) rfl
theorem mw_1_65 : (Jvm.Cond.selects "LinkPredictor$Hierarchy" ({ cls := "LinkPredictor$Hierarchy", name := "isInterface", desc := "(I)Z" } : Jvm.MethodName) ({ cls := "LinkPredictor$Hierarchy", name := "isInterface", desc := "(I)Z" } : Jvm.MethodName)) ∈ TT := mT (mL1 (List.mem_of_getElem? (i := 65) rfl)) rfl
theorem mw_1_66 : (Jvm.Cond.code ({ cls := "LinkPredictor$Hierarchy", name := "isInterface", desc := "(I)Z" } : Jvm.MethodName) prog_3_method_7_code (2 : Nat) (Option.some Jvm.ClassFile.FieldType.boolean)) ∈ TT := mT (mL1 (List.mem_of_getElem? (i := 66) rfl)) rfl
theorem mw_1_67 : (Jvm.Cond.methodLink "LinkPredictor$Hierarchy" (88 : Nat) ({ cls := "LinkPredictor$Hierarchy", name := "gatherSets", desc := "(I)V" } : Jvm.MethodName)) ∈ TT := mT (mL1 (List.mem_of_getElem? (i := 67) rfl)) rfl
theorem nw_1_68 : (Jvm.Cond.privateMethod ({ cls := "LinkPredictor$Hierarchy", name := "gatherSets", desc := "(I)V" } : Jvm.MethodName)) ∈ lw_tbl := mL1 (List.mem_of_getElem? (i := 68) rfl)
theorem mw_1_69 : (Jvm.Cond.instanceMethod ({ cls := "LinkPredictor$Hierarchy", name := "gatherSets", desc := "(I)V" } : Jvm.MethodName)) ∈ TT := mT (mL1 (List.mem_of_getElem? (i := 69) rfl)) rfl
theorem mw_1_70 : (Jvm.Cond.code ({ cls := "LinkPredictor$Hierarchy", name := "gatherSets", desc := "(I)V" } : Jvm.MethodName) prog_3_method_26_code (5 : Nat) (Option.none : Option Jvm.ClassFile.FieldType)) ∈ TT := mT (mL1 (List.mem_of_getElem? (i := 70) rfl)) rfl
theorem mw_1_71 : (Jvm.Cond.fieldLink "LinkPredictor$Hierarchy" (40 : Nat) "LinkPredictor$Hierarchy" "there" "I") ∈ TT := mT (mL1 (List.mem_of_getElem? (i := 71) rfl)) rfl
theorem mw_1_72 : (Jvm.Cond.fieldLink "LinkPredictor$Hierarchy" (9 : Nat) "LinkPredictor$Hierarchy" "flags" "[I") ∈ TT := mT (mL1 (List.mem_of_getElem? (i := 72) rfl)) rfl
theorem mw_1_73 : (Jvm.Cond.fieldLink "LinkPredictor$Hierarchy" (15 : Nat) "LinkPredictor$Hierarchy" "packs" "[I") ∈ TT := mT (mL1 (List.mem_of_getElem? (i := 73) rfl)) rfl
theorem mw_1_74 : (Jvm.Cond.fieldLink "LinkPredictor$Hierarchy" (18 : Nat) "LinkPredictor$Hierarchy" "supers" "[I") ∈ TT := mT (mL1 (List.mem_of_getElem? (i := 74) rfl)) rfl
theorem mw_1_75 : (Jvm.Cond.fieldLink "LinkPredictor$Hierarchy" (21 : Nat) "LinkPredictor$Hierarchy" "directFaces" "[I") ∈ TT := mT (mL1 (List.mem_of_getElem? (i := 75) rfl)) rfl
theorem mw_1_76 : (Jvm.Cond.fieldLink "LinkPredictor$Hierarchy" (24 : Nat) "LinkPredictor$Hierarchy" "hosts" "[I") ∈ TT := mT (mL1 (List.mem_of_getElem? (i := 76) rfl)) rfl
theorem mw_1_77 : (Jvm.Cond.fieldLink "LinkPredictor$Hierarchy" (27 : Nat) "LinkPredictor$Hierarchy" "verdicts" "[I") ∈ TT := mT (mL1 (List.mem_of_getElem? (i := 77) rfl)) rfl
theorem mw_1_78 : (Jvm.Cond.fieldLink "LinkPredictor$Hierarchy" (72 : Nat) "LinkPredictor$Hierarchy" "settled" "I") ∈ TT := mT (mL1 (List.mem_of_getElem? (i := 78) rfl)) rfl
theorem mw_1_79 : (Jvm.Cond.fieldLink "LinkPredictor$Hierarchy" (30 : Nat) "LinkPredictor$Hierarchy" "aboves" "[I") ∈ TT := mT (mL1 (List.mem_of_getElem? (i := 79) rfl)) rfl
theorem mw_1_80 : (Jvm.Cond.fieldLink "LinkPredictor$Hierarchy" (33 : Nat) "LinkPredictor$Hierarchy" "allFaces" "[I") ∈ TT := mT (mL1 (List.mem_of_getElem? (i := 80) rfl)) rfl
theorem mw_1_81 : (Jvm.Cond.lays "LinkPredictor$Hierarchy" "LinkPredictor$Hierarchy" "there" "I") ∈ TT := mT (mL1 (List.mem_of_getElem? (i := 81) rfl)) rfl
theorem mw_1_82 : (Jvm.Cond.soleField "LinkPredictor$Hierarchy" "there") ∈ TT := mT (mL1 (List.mem_of_getElem? (i := 82) rfl)) rfl
theorem mw_1_83 : (Jvm.Cond.laysFinal "LinkPredictor$Hierarchy" "LinkPredictor$Hierarchy" "flags" "[I") ∈ TT := mT (mL1 (List.mem_of_getElem? (i := 83) rfl)) rfl
theorem mw_1_84 : (Jvm.Cond.soleField "LinkPredictor$Hierarchy" "flags") ∈ TT := mT (mL1 (List.mem_of_getElem? (i := 84) rfl)) rfl
theorem mw_1_85 : (Jvm.Cond.laysFinal "LinkPredictor$Hierarchy" "LinkPredictor$Hierarchy" "packs" "[I") ∈ TT := mT (mL1 (List.mem_of_getElem? (i := 85) rfl)) rfl
theorem mw_1_86 : (Jvm.Cond.soleField "LinkPredictor$Hierarchy" "packs") ∈ TT := mT (mL1 (List.mem_of_getElem? (i := 86) rfl)) rfl
theorem mw_1_87 : (Jvm.Cond.laysFinal "LinkPredictor$Hierarchy" "LinkPredictor$Hierarchy" "supers" "[I") ∈ TT := mT (mL1 (List.mem_of_getElem? (i := 87) rfl)) rfl
theorem mw_1_88 : (Jvm.Cond.soleField "LinkPredictor$Hierarchy" "supers") ∈ TT := mT (mL1 (List.mem_of_getElem? (i := 88) rfl)) rfl
theorem mw_1_89 : (Jvm.Cond.laysFinal "LinkPredictor$Hierarchy" "LinkPredictor$Hierarchy" "directFaces" "[I") ∈ TT := mT (mL1 (List.mem_of_getElem? (i := 89) rfl)) rfl
theorem mw_1_90 : (Jvm.Cond.soleField "LinkPredictor$Hierarchy" "directFaces") ∈ TT := mT (mL1 (List.mem_of_getElem? (i := 90) rfl)) rfl
theorem mw_1_91 : (Jvm.Cond.laysFinal "LinkPredictor$Hierarchy" "LinkPredictor$Hierarchy" "hosts" "[I") ∈ TT := mT (mL1 (List.mem_of_getElem? (i := 91) rfl)) rfl
theorem mw_1_92 : (Jvm.Cond.soleField "LinkPredictor$Hierarchy" "hosts") ∈ TT := mT (mL1 (List.mem_of_getElem? (i := 92) rfl)) rfl
theorem mw_1_93 : (Jvm.Cond.laysFinal "LinkPredictor$Hierarchy" "LinkPredictor$Hierarchy" "verdicts" "[I") ∈ TT := mT (mL1 (List.mem_of_getElem? (i := 93) rfl)) rfl
theorem mw_1_94 : (Jvm.Cond.soleField "LinkPredictor$Hierarchy" "verdicts") ∈ TT := mT (mL1 (List.mem_of_getElem? (i := 94) rfl)) rfl
theorem mw_1_95 : (Jvm.Cond.lays "LinkPredictor$Hierarchy" "LinkPredictor$Hierarchy" "settled" "I") ∈ TT := mT (mL1 (List.mem_of_getElem? (i := 95) rfl)) rfl
theorem mw_1_96 : (Jvm.Cond.soleField "LinkPredictor$Hierarchy" "settled") ∈ TT := mT (mL1 (List.mem_of_getElem? (i := 96) rfl)) rfl
theorem mw_1_97 : (Jvm.Cond.laysFinal "LinkPredictor$Hierarchy" "LinkPredictor$Hierarchy" "aboves" "[I") ∈ TT := mT (mL1 (List.mem_of_getElem? (i := 97) rfl)) rfl
theorem mw_1_98 : (Jvm.Cond.soleField "LinkPredictor$Hierarchy" "aboves") ∈ TT := mT (mL1 (List.mem_of_getElem? (i := 98) rfl)) rfl
theorem mw_1_99 : (Jvm.Cond.laysFinal "LinkPredictor$Hierarchy" "LinkPredictor$Hierarchy" "allFaces" "[I") ∈ TT := mT (mL1 (List.mem_of_getElem? (i := 99) rfl)) rfl
theorem mw_1_100 : (Jvm.Cond.soleField "LinkPredictor$Hierarchy" "allFaces") ∈ TT := mT (mL1 (List.mem_of_getElem? (i := 100) rfl)) rfl
theorem mw_1_101 : (Jvm.Cond.superclass "LinkPredictor$Hierarchy" "java/lang/Object") ∈ TT := mT (mL1 (List.mem_of_getElem? (i := 101) rfl)) rfl
theorem mw_1_102 : (Jvm.Cond.arrayClass Jvm.ClassFile.FieldType.int) ∈ TT := mT (mL1 (List.mem_of_getElem? (i := 102) rfl)) rfl
theorem mw_1_103 : (Jvm.Cond.classLink "LinkPredictor$Build" (18 : Nat) "LinkPredictor$Members") ∈ TT := mT (mL1 (List.mem_of_getElem? (i := 103) rfl)) rfl
theorem mw_1_104 : (Jvm.Cond.instantiable "LinkPredictor$Members" (6 : Nat)) ∈ TT := mT (mL1 (List.mem_of_getElem? (i := 104) rfl)) rfl
theorem nw_1_105 : (Jvm.Cond.methodLinkNest "LinkPredictor$Build" (20 : Nat) ({ cls := "LinkPredictor$Members", name := "<init>", desc := "()V" } : Jvm.MethodName) "LinkPredictor") ∈ lw_tbl := mL1 (List.mem_of_getElem? (i := 105) rfl)
theorem mw_1_106 : (Jvm.Cond.instanceMethod ({ cls := "LinkPredictor$Members", name := "<init>", desc := "()V" } : Jvm.MethodName)) ∈ TT := mT (mL1 (List.mem_of_getElem? (i := 106) rfl)) rfl
theorem mw_1_107 : (Jvm.Cond.code ({ cls := "LinkPredictor$Members", name := "<init>", desc := "()V" } : Jvm.MethodName) prog_4_method_1_code (1 : Nat) (Option.none : Option Jvm.ClassFile.FieldType)) ∈ TT := mT (mL1 (List.mem_of_getElem? (i := 107) rfl)) rfl
theorem mw_1_108 : (Jvm.Cond.methodLink "LinkPredictor$Members" (3 : Nat) ({ cls := "java/lang/Object", name := "<init>", desc := "()V" } : Jvm.MethodName)) ∈ TT := mT (mL1 (List.mem_of_getElem? (i := 108) rfl)) rfl
theorem mw_1_109 : (Jvm.Cond.fieldLink "LinkPredictor$Members" (24 : Nat) "LinkPredictor$Members" "size" "I") ∈ TT := mT (mL1 (List.mem_of_getElem? (i := 109) rfl)) rfl
theorem mw_1_110 : (Jvm.Cond.fieldLink "LinkPredictor$Members" (36 : Nat) "LinkPredictor$Members" "gone" "I") ∈ TT := mT (mL1 (List.mem_of_getElem? (i := 110) rfl)) rfl
theorem mw_1_111 : (Jvm.Cond.fieldLink "LinkPredictor$Members" (9 : Nat) "LinkPredictor$Members" "owners" "[I") ∈ TT := mT (mL1 (List.mem_of_getElem? (i := 111) rfl)) rfl
theorem mw_1_112 : (Jvm.Cond.fieldLink "LinkPredictor$Members" (15 : Nat) "LinkPredictor$Members" "keys" "[I") ∈ TT := mT (mL1 (List.mem_of_getElem? (i := 112) rfl)) rfl
theorem mw_1_113 : (Jvm.Cond.fieldLink "LinkPredictor$Members" (18 : Nat) "LinkPredictor$Members" "accesses" "[I") ∈ TT := mT (mL1 (List.mem_of_getElem? (i := 113) rfl)) rfl
theorem mw_1_114 : (Jvm.Cond.fieldLink "LinkPredictor$Members" (21 : Nat) "LinkPredictor$Members" "flags" "[I") ∈ TT := mT (mL1 (List.mem_of_getElem? (i := 114) rfl)) rfl
theorem mw_1_115 : (Jvm.Cond.lays "LinkPredictor$Members" "LinkPredictor$Members" "size" "I") ∈ TT := mT (mL1 (List.mem_of_getElem? (i := 115) rfl)) rfl
theorem mw_1_116 : (Jvm.Cond.soleField "LinkPredictor$Members" "size") ∈ TT := mT (mL1 (List.mem_of_getElem? (i := 116) rfl)) rfl
theorem mw_1_117 : (Jvm.Cond.lays "LinkPredictor$Members" "LinkPredictor$Members" "gone" "I") ∈ TT := mT (mL1 (List.mem_of_getElem? (i := 117) rfl)) rfl
theorem mw_1_118 : (Jvm.Cond.soleField "LinkPredictor$Members" "gone") ∈ TT := mT (mL1 (List.mem_of_getElem? (i := 118) rfl)) rfl
theorem mw_1_119 : (Jvm.Cond.laysFinal "LinkPredictor$Members" "LinkPredictor$Members" "owners" "[I") ∈ TT := mT (mL1 (List.mem_of_getElem? (i := 119) rfl)) rfl
theorem mw_1_120 : (Jvm.Cond.soleField "LinkPredictor$Members" "owners") ∈ TT := mT (mL1 (List.mem_of_getElem? (i := 120) rfl)) rfl
theorem mw_1_121 : (Jvm.Cond.laysFinal "LinkPredictor$Members" "LinkPredictor$Members" "keys" "[I") ∈ TT := mT (mL1 (List.mem_of_getElem? (i := 121) rfl)) rfl
theorem mw_1_122 : (Jvm.Cond.soleField "LinkPredictor$Members" "keys") ∈ TT := mT (mL1 (List.mem_of_getElem? (i := 122) rfl)) rfl
theorem mw_1_123 : (Jvm.Cond.laysFinal "LinkPredictor$Members" "LinkPredictor$Members" "accesses" "[I") ∈ TT := mT (mL1 (List.mem_of_getElem? (i := 123) rfl)) rfl
theorem mw_1_124 : (Jvm.Cond.soleField "LinkPredictor$Members" "accesses") ∈ TT := mT (mL1 (List.mem_of_getElem? (i := 124) rfl)) rfl
theorem mw_1_125 : (Jvm.Cond.laysFinal "LinkPredictor$Members" "LinkPredictor$Members" "flags" "[I") ∈ TT := mT (mL1 (List.mem_of_getElem? (i := 125) rfl)) rfl
theorem mw_1_126 : (Jvm.Cond.soleField "LinkPredictor$Members" "flags") ∈ TT := mT (mL1 (List.mem_of_getElem? (i := 126) rfl)) rfl
theorem mw_1_127 : (Jvm.Cond.superclass "LinkPredictor$Members" "java/lang/Object") ∈ TT := mT (mL1 (List.mem_of_getElem? (i := 127) rfl)) rfl
theorem mw_1_128 : (Jvm.Cond.fieldLink "LinkPredictor$Build" (12 : Nat) "LinkPredictor$Build" "types" "LLinkPredictor$Hierarchy;") ∈ TT := mT (mL1 (List.mem_of_getElem? (i := 128) rfl)) rfl
theorem nw_1_129 : (Jvm.Cond.fieldLinkNest "LinkPredictor" (38 : Nat) "LinkPredictor$Build" "types" "LLinkPredictor$Hierarchy;" "LinkPredictor") ∈ lw_tbl := mL1 (List.mem_of_getElem? (i := 129) rfl)
theorem mw_1_130 : (Jvm.Cond.fieldLink "LinkPredictor$Build" (21 : Nat) "LinkPredictor$Build" "members" "LLinkPredictor$Members;") ∈ TT := mT (mL1 (List.mem_of_getElem? (i := 130) rfl)) rfl
theorem nw_1_131 : (Jvm.Cond.fieldLinkNest "LinkPredictor" (58 : Nat) "LinkPredictor$Build" "members" "LLinkPredictor$Members;" "LinkPredictor") ∈ lw_tbl := mL1 (List.mem_of_getElem? (i := 131) rfl)
theorem mw_1_132 : (Jvm.Cond.fieldLink "LinkPredictor$Build" (109 : Nat) "LinkPredictor$Build" "searched" "I") ∈ TT := mT (mL1 (List.mem_of_getElem? (i := 132) rfl)) rfl
theorem mw_1_133 : (Jvm.Cond.laysFinal "LinkPredictor$Build" "LinkPredictor$Build" "types" "LLinkPredictor$Hierarchy;") ∈ TT := mT (mL1 (List.mem_of_getElem? (i := 133) rfl)) rfl
theorem mw_1_134 : (Jvm.Cond.soleField "LinkPredictor$Build" "types") ∈ TT := mT (mL1 (List.mem_of_getElem? (i := 134) rfl)) rfl
theorem mw_1_135 : (Jvm.Cond.laysFinal "LinkPredictor$Build" "LinkPredictor$Build" "members" "LLinkPredictor$Members;") ∈ TT := mT (mL1 (List.mem_of_getElem? (i := 135) rfl)) rfl
theorem mw_1_136 : (Jvm.Cond.soleField "LinkPredictor$Build" "members") ∈ TT := mT (mL1 (List.mem_of_getElem? (i := 136) rfl)) rfl
theorem mw_1_137 : (Jvm.Cond.lays "LinkPredictor$Build" "LinkPredictor$Build" "searched" "I") ∈ TT := mT (mL1 (List.mem_of_getElem? (i := 137) rfl)) rfl
theorem mw_1_138 : (Jvm.Cond.soleField "LinkPredictor$Build" "searched") ∈ TT := mT (mL1 (List.mem_of_getElem? (i := 138) rfl)) rfl
theorem mw_1_139 : (Jvm.Cond.superclass "LinkPredictor$Build" "java/lang/Object") ∈ TT := mT (mL1 (List.mem_of_getElem? (i := 139) rfl)) rfl
theorem mw_1_140 : (Jvm.Cond.classLink "LinkPredictor" (16 : Nat) "LinkPredictor$Reference") ∈ TT := mT (mL1 (List.mem_of_getElem? (i := 140) rfl)) rfl
theorem nw_1_141 : (Jvm.Cond.arrayOver (Jvm.ClassFile.FieldType.object "LinkPredictor$Reference")) ∈ lw_tbl := mL1 (List.mem_of_getElem? (i := 141) rfl)
theorem mw_1_142 : (Jvm.Cond.instantiable "LinkPredictor$Reference" (4 : Nat)) ∈ TT := mT (mL1 (List.mem_of_getElem? (i := 142) rfl)) rfl
theorem nw_1_143 : (Jvm.Cond.methodLinkNest "LinkPredictor" (22 : Nat) ({ cls := "LinkPredictor$Reference", name := "<init>", desc := "()V" } : Jvm.MethodName) "LinkPredictor") ∈ lw_tbl := mL1 (List.mem_of_getElem? (i := 143) rfl)
theorem mw_1_144 : (Jvm.Cond.instanceMethod ({ cls := "LinkPredictor$Reference", name := "<init>", desc := "()V" } : Jvm.MethodName)) ∈ TT := mT (mL1 (List.mem_of_getElem? (i := 144) rfl)) rfl
theorem mw_1_145 : (Jvm.Cond.code ({ cls := "LinkPredictor$Reference", name := "<init>", desc := "()V" } : Jvm.MethodName) prog_5_method_1_code (1 : Nat) (Option.none : Option Jvm.ClassFile.FieldType)) ∈ TT := mT (mL1 (List.mem_of_getElem? (i := 145) rfl)) rfl
theorem mw_1_146 : (Jvm.Cond.methodLink "LinkPredictor$Reference" (3 : Nat) ({ cls := "java/lang/Object", name := "<init>", desc := "()V" } : Jvm.MethodName)) ∈ TT := mT (mL1 (List.mem_of_getElem? (i := 146) rfl)) rfl
theorem mw_1_147 : (Jvm.Cond.fieldLink "LinkPredictor$Reference" (9 : Nat) "LinkPredictor$Reference" "kind" "I") ∈ TT := mT (mL1 (List.mem_of_getElem? (i := 147) rfl)) rfl
theorem nw_1_148 : (Jvm.Cond.fieldLinkNest "LinkPredictor$Build" (71 : Nat) "LinkPredictor$Reference" "kind" "I" "LinkPredictor") ∈ lw_tbl := mL1 (List.mem_of_getElem? (i := 148) rfl)
theorem mw_1_149 : (Jvm.Cond.fieldLink "LinkPredictor$Reference" (15 : Nat) "LinkPredictor$Reference" "holder" "I") ∈ TT := mT (mL1 (List.mem_of_getElem? (i := 149) rfl)) rfl
theorem nw_1_150 : (Jvm.Cond.fieldLinkNest "LinkPredictor$Build" (51 : Nat) "LinkPredictor$Reference" "holder" "I" "LinkPredictor") ∈ lw_tbl := mL1 (List.mem_of_getElem? (i := 150) rfl)
theorem mw_1_151 : (Jvm.Cond.fieldLink "LinkPredictor$Reference" (18 : Nat) "LinkPredictor$Reference" "way" "I") ∈ TT := mT (mL1 (List.mem_of_getElem? (i := 151) rfl)) rfl
theorem nw_1_152 : (Jvm.Cond.fieldLinkNest "LinkPredictor$Build" (64 : Nat) "LinkPredictor$Reference" "way" "I" "LinkPredictor") ∈ lw_tbl := mL1 (List.mem_of_getElem? (i := 152) rfl)
theorem mw_1_153 : (Jvm.Cond.fieldLink "LinkPredictor$Reference" (21 : Nat) "LinkPredictor$Reference" "sign" "I") ∈ TT := mT (mL1 (List.mem_of_getElem? (i := 153) rfl)) rfl
theorem nw_1_154 : (Jvm.Cond.fieldLinkNest "LinkPredictor$Build" (99 : Nat) "LinkPredictor$Reference" "sign" "I" "LinkPredictor") ∈ lw_tbl := mL1 (List.mem_of_getElem? (i := 154) rfl)
theorem mw_1_155 : (Jvm.Cond.lays "LinkPredictor$Reference" "LinkPredictor$Reference" "kind" "I") ∈ TT := mT (mL1 (List.mem_of_getElem? (i := 155) rfl)) rfl
theorem mw_1_156 : (Jvm.Cond.soleField "LinkPredictor$Reference" "kind") ∈ TT := mT (mL1 (List.mem_of_getElem? (i := 156) rfl)) rfl
theorem mw_1_157 : (Jvm.Cond.lays "LinkPredictor$Reference" "LinkPredictor$Reference" "holder" "I") ∈ TT := mT (mL1 (List.mem_of_getElem? (i := 157) rfl)) rfl
theorem mw_1_158 : (Jvm.Cond.soleField "LinkPredictor$Reference" "holder") ∈ TT := mT (mL1 (List.mem_of_getElem? (i := 158) rfl)) rfl
theorem mw_1_159 : (Jvm.Cond.lays "LinkPredictor$Reference" "LinkPredictor$Reference" "way" "I") ∈ TT := mT (mL1 (List.mem_of_getElem? (i := 159) rfl)) rfl
theorem mw_1_160 : (Jvm.Cond.soleField "LinkPredictor$Reference" "way") ∈ TT := mT (mL1 (List.mem_of_getElem? (i := 160) rfl)) rfl
theorem mw_1_161 : (Jvm.Cond.lays "LinkPredictor$Reference" "LinkPredictor$Reference" "sign" "I") ∈ TT := mT (mL1 (List.mem_of_getElem? (i := 161) rfl)) rfl
theorem mw_1_162 : (Jvm.Cond.soleField "LinkPredictor$Reference" "sign") ∈ TT := mT (mL1 (List.mem_of_getElem? (i := 162) rfl)) rfl
theorem mw_1_163 : (Jvm.Cond.superclass "LinkPredictor$Reference" "java/lang/Object") ∈ TT := mT (mL1 (List.mem_of_getElem? (i := 163) rfl)) rfl
theorem mw_1_164 : (Jvm.Cond.fieldLink "LinkPredictor" (12 : Nat) "LinkPredictor" "builds" "[LLinkPredictor$Build;") ∈ TT := mT (mL1 (List.mem_of_getElem? (i := 164) rfl)) rfl
theorem mw_1_165 : (Jvm.Cond.fieldLink "LinkPredictor" (18 : Nat) "LinkPredictor" "references" "[LLinkPredictor$Reference;") ∈ TT := mT (mL1 (List.mem_of_getElem? (i := 165) rfl)) rfl
theorem mw_1_166 : (Jvm.Cond.fieldLink "LinkPredictor" (23 : Nat) "LinkPredictor" "referenceCount" "I") ∈ TT := mT (mL1 (List.mem_of_getElem? (i := 166) rfl)) rfl
theorem mw_1_167 : (Jvm.Cond.fieldLink "LinkPredictor" (27 : Nat) "LinkPredictor" "written" "I") ∈ TT := mT (mL1 (List.mem_of_getElem? (i := 167) rfl)) rfl
theorem mw_1_168 : (Jvm.Cond.laysFinal "LinkPredictor" "LinkPredictor" "builds" "[LLinkPredictor$Build;") ∈ TT := mT (mL1 (List.mem_of_getElem? (i := 168) rfl)) rfl
theorem mw_1_169 : (Jvm.Cond.soleField "LinkPredictor" "builds") ∈ TT := mT (mL1 (List.mem_of_getElem? (i := 169) rfl)) rfl
theorem mw_1_170 : (Jvm.Cond.laysFinal "LinkPredictor" "LinkPredictor" "references" "[LLinkPredictor$Reference;") ∈ TT := mT (mL1 (List.mem_of_getElem? (i := 170) rfl)) rfl
theorem mw_1_171 : (Jvm.Cond.soleField "LinkPredictor" "references") ∈ TT := mT (mL1 (List.mem_of_getElem? (i := 171) rfl)) rfl
theorem mw_1_172 : (Jvm.Cond.lays "LinkPredictor" "LinkPredictor" "referenceCount" "I") ∈ TT := mT (mL1 (List.mem_of_getElem? (i := 172) rfl)) rfl
theorem mw_1_173 : (Jvm.Cond.soleField "LinkPredictor" "referenceCount") ∈ TT := mT (mL1 (List.mem_of_getElem? (i := 173) rfl)) rfl
theorem mw_1_174 : (Jvm.Cond.lays "LinkPredictor" "LinkPredictor" "written" "I") ∈ TT := mT (mL1 (List.mem_of_getElem? (i := 174) rfl)) rfl
theorem mw_1_175 : (Jvm.Cond.soleField "LinkPredictor" "written") ∈ TT := mT (mL1 (List.mem_of_getElem? (i := 175) rfl)) rfl
theorem mw_1_176 : (Jvm.Cond.superclass "LinkPredictor" "java/lang/Object") ∈ TT := mT (mL1 (List.mem_of_getElem? (i := 176) rfl)) rfl
theorem mw_1_177 : (Jvm.Cond.methodLink "LinkPredictorLaw" (13 : Nat) ({ cls := "LinkPredictor", name := "type", desc := "(IIIII)Z" } : Jvm.MethodName)) ∈ TT := mT (mL1 (List.mem_of_getElem? (i := 177) rfl)) rfl
theorem mw_1_178 : (Jvm.Cond.instanceMethod ({ cls := "LinkPredictor", name := "type", desc := "(IIIII)Z" } : Jvm.MethodName)) ∈ TT := mT (mL1 (List.mem_of_getElem? (i := 178) rfl)) rfl
theorem mw_1_179 : (Jvm.Cond.selects "LinkPredictor" ({ cls := "LinkPredictor", name := "type", desc := "(IIIII)Z" } : Jvm.MethodName) ({ cls := "LinkPredictor", name := "type", desc := "(IIIII)Z" } : Jvm.MethodName)) ∈ TT := mT (mL1 (List.mem_of_getElem? (i := 179) rfl)) rfl
theorem mw_1_180 : (Jvm.Cond.code ({ cls := "LinkPredictor", name := "type", desc := "(IIIII)Z" } : Jvm.MethodName) prog_1_method_2_code (6 : Nat) (Option.some Jvm.ClassFile.FieldType.boolean)) ∈ TT := mT (mL1 (List.mem_of_getElem? (i := 180) rfl)) rfl
theorem mw_1_181 : (Jvm.Cond.methodLink "LinkPredictor" (30 : Nat) ({ cls := "LinkPredictor", name := "isOrdinaryType", desc := "(I)Z" } : Jvm.MethodName)) ∈ TT := mT (mL1 (List.mem_of_getElem? (i := 181) rfl)) rfl
theorem mw_1_182 : (Jvm.Cond.static ({ cls := "LinkPredictor", name := "isOrdinaryType", desc := "(I)Z" } : Jvm.MethodName)) ∈ TT := mT (mL1 (List.mem_of_getElem? (i := 182) rfl)) rfl
theorem mw_1_183 : (Jvm.Cond.code ({ cls := "LinkPredictor", name := "isOrdinaryType", desc := "(I)Z" } : Jvm.MethodName) prog_1_method_23_code (1 : Nat) (Option.some Jvm.ClassFile.FieldType.boolean)) ∈ TT := mT (mL1 (List.mem_of_getElem? (i := 183) rfl)) rfl
theorem mw_1_184 : (Jvm.Cond.methodLink "LinkPredictor" (42 : Nat) ({ cls := "LinkPredictor$Hierarchy", name := "define", desc := "(IIIII)V" } : Jvm.MethodName)) ∈ TT := mT (mL1 (List.mem_of_getElem? (i := 184) rfl)) rfl
theorem mw_1_185 : (Jvm.Cond.instanceMethod ({ cls := "LinkPredictor$Hierarchy", name := "define", desc := "(IIIII)V" } : Jvm.MethodName)) ∈ TT := mT (mL1 (List.mem_of_getElem? (i := 185) rfl)) rfl
theorem mw_1_186 : (Jvm.Cond.selects "LinkPredictor$Hierarchy" ({ cls := "LinkPredictor$Hierarchy", name := "define", desc := "(IIIII)V" } : Jvm.MethodName) ({ cls := "LinkPredictor$Hierarchy", name := "define", desc := "(IIIII)V" } : Jvm.MethodName)) ∈ TT := mT (mL1 (List.mem_of_getElem? (i := 186) rfl)) rfl
theorem mw_1_187 : (Jvm.Cond.code ({ cls := "LinkPredictor$Hierarchy", name := "define", desc := "(IIIII)V" } : Jvm.MethodName) prog_3_method_2_code (6 : Nat) (Option.none : Option Jvm.ClassFile.FieldType)) ∈ TT := mT (mL1 (List.mem_of_getElem? (i := 187) rfl)) rfl
theorem mw_1_188 : (Jvm.Cond.methodLink "LinkPredictorLaw" (18 : Nat) ({ cls := "LinkPredictor", name := "nest", desc := "(II)Z" } : Jvm.MethodName)) ∈ TT := mT (mL1 (List.mem_of_getElem? (i := 188) rfl)) rfl
theorem mw_1_189 : (Jvm.Cond.instanceMethod ({ cls := "LinkPredictor", name := "nest", desc := "(II)Z" } : Jvm.MethodName)) ∈ TT := mT (mL1 (List.mem_of_getElem? (i := 189) rfl)) rfl
theorem mw_1_190 : (Jvm.Cond.selects "LinkPredictor" ({ cls := "LinkPredictor", name := "nest", desc := "(II)Z" } : Jvm.MethodName) ({ cls := "LinkPredictor", name := "nest", desc := "(II)Z" } : Jvm.MethodName)) ∈ TT := mT (mL1 (List.mem_of_getElem? (i := 190) rfl)) rfl
theorem mw_1_191 : (Jvm.Cond.code ({ cls := "LinkPredictor", name := "nest", desc := "(II)Z" } : Jvm.MethodName) prog_1_method_3_code (3 : Nat) (Option.some Jvm.ClassFile.FieldType.boolean)) ∈ TT := mT (mL1 (List.mem_of_getElem? (i := 191) rfl)) rfl
theorem mw_1_192 : (Jvm.Cond.methodLink "LinkPredictor" (48 : Nat) ({ cls := "LinkPredictor$Hierarchy", name := "putHost", desc := "(II)Z" } : Jvm.MethodName)) ∈ TT := mT (mL1 (List.mem_of_getElem? (i := 192) rfl)) rfl
theorem mw_1_193 : (Jvm.Cond.instanceMethod ({ cls := "LinkPredictor$Hierarchy", name := "putHost", desc := "(II)Z" } : Jvm.MethodName)) ∈ TT := mT (mL1 (List.mem_of_getElem? (i := 193) rfl)) rfl
theorem mw_1_194 : (Jvm.Cond.selects "LinkPredictor$Hierarchy" ({ cls := "LinkPredictor$Hierarchy", name := "putHost", desc := "(II)Z" } : Jvm.MethodName) ({ cls := "LinkPredictor$Hierarchy", name := "putHost", desc := "(II)Z" } : Jvm.MethodName)) ∈ TT := mT (mL1 (List.mem_of_getElem? (i := 194) rfl)) rfl
theorem mw_1_195 : (Jvm.Cond.code ({ cls := "LinkPredictor$Hierarchy", name := "putHost", desc := "(II)Z" } : Jvm.MethodName) prog_3_method_3_code (3 : Nat) (Option.some Jvm.ClassFile.FieldType.boolean)) ∈ TT := mT (mL1 (List.mem_of_getElem? (i := 195) rfl)) rfl
theorem mw_1_196 : (Jvm.Cond.methodLink "LinkPredictorLaw" (23 : Nat) ({ cls := "LinkPredictor", name := "drop", desc := "(I)Z" } : Jvm.MethodName)) ∈ TT := mT (mL1 (List.mem_of_getElem? (i := 196) rfl)) rfl
theorem mw_1_197 : (Jvm.Cond.instanceMethod ({ cls := "LinkPredictor", name := "drop", desc := "(I)Z" } : Jvm.MethodName)) ∈ TT := mT (mL1 (List.mem_of_getElem? (i := 197) rfl)) rfl
theorem mw_1_198 : (Jvm.Cond.selects "LinkPredictor" ({ cls := "LinkPredictor", name := "drop", desc := "(I)Z" } : Jvm.MethodName) ({ cls := "LinkPredictor", name := "drop", desc := "(I)Z" } : Jvm.MethodName)) ∈ TT := mT (mL1 (List.mem_of_getElem? (i := 198) rfl)) rfl
theorem mw_1_199 : (Jvm.Cond.code ({ cls := "LinkPredictor", name := "drop", desc := "(I)Z" } : Jvm.MethodName) prog_1_method_4_code (2 : Nat) (Option.some Jvm.ClassFile.FieldType.boolean)) ∈ TT := mT (mL1 (List.mem_of_getElem? (i := 199) rfl)) rfl
theorem mw_1_200 : (Jvm.Cond.methodLink "LinkPredictor" (51 : Nat) ({ cls := "LinkPredictor$Build", name := "discardType", desc := "(I)Z" } : Jvm.MethodName)) ∈ TT := mT (mL1 (List.mem_of_getElem? (i := 200) rfl)) rfl
theorem mw_1_201 : (Jvm.Cond.instanceMethod ({ cls := "LinkPredictor$Build", name := "discardType", desc := "(I)Z" } : Jvm.MethodName)) ∈ TT := mT (mL1 (List.mem_of_getElem? (i := 201) rfl)) rfl
theorem mw_1_202 : (Jvm.Cond.selects "LinkPredictor$Build" ({ cls := "LinkPredictor$Build", name := "discardType", desc := "(I)Z" } : Jvm.MethodName) ({ cls := "LinkPredictor$Build", name := "discardType", desc := "(I)Z" } : Jvm.MethodName)) ∈ TT := mT (mL1 (List.mem_of_getElem? (i := 202) rfl)) rfl
theorem mw_1_203 : (Jvm.Cond.code ({ cls := "LinkPredictor$Build", name := "discardType", desc := "(I)Z" } : Jvm.MethodName) prog_2_method_2_code (2 : Nat) (Option.some Jvm.ClassFile.FieldType.boolean)) ∈ TT := mT (mL1 (List.mem_of_getElem? (i := 203) rfl)) rfl
theorem mw_1_204 : (Jvm.Cond.methodLink "LinkPredictor$Build" (25 : Nat) ({ cls := "LinkPredictor$Hierarchy", name := "takeAway", desc := "(I)Z" } : Jvm.MethodName)) ∈ TT := mT (mL1 (List.mem_of_getElem? (i := 204) rfl)) rfl
theorem mw_1_205 : (Jvm.Cond.instanceMethod ({ cls := "LinkPredictor$Hierarchy", name := "takeAway", desc := "(I)Z" } : Jvm.MethodName)) ∈ TT := mT (mL1 (List.mem_of_getElem? (i := 205) rfl)) rfl
theorem mw_1_206 : (Jvm.Cond.selects "LinkPredictor$Hierarchy" ({ cls := "LinkPredictor$Hierarchy", name := "takeAway", desc := "(I)Z" } : Jvm.MethodName) ({ cls := "LinkPredictor$Hierarchy", name := "takeAway", desc := "(I)Z" } : Jvm.MethodName)) ∈ TT := mT (mL1 (List.mem_of_getElem? (i := 206) rfl)) rfl
theorem mw_1_207 : (Jvm.Cond.code ({ cls := "LinkPredictor$Hierarchy", name := "takeAway", desc := "(I)Z" } : Jvm.MethodName) prog_3_method_4_code (2 : Nat) (Option.some Jvm.ClassFile.FieldType.boolean)) ∈ TT := mT (mL1 (List.mem_of_getElem? (i := 207) rfl)) rfl
theorem mw_1_208 : (Jvm.Cond.methodLink "LinkPredictor$Build" (29 : Nat) ({ cls := "LinkPredictor$Members", name := "discardAllOf", desc := "(I)V" } : Jvm.MethodName)) ∈ TT := mT (mL1 (List.mem_of_getElem? (i := 208) rfl)) rfl
theorem mw_1_209 : (Jvm.Cond.instanceMethod ({ cls := "LinkPredictor$Members", name := "discardAllOf", desc := "(I)V" } : Jvm.MethodName)) ∈ TT := mT (mL1 (List.mem_of_getElem? (i := 209) rfl)) rfl
theorem mw_1_210 : (Jvm.Cond.selects "LinkPredictor$Members" ({ cls := "LinkPredictor$Members", name := "discardAllOf", desc := "(I)V" } : Jvm.MethodName) ({ cls := "LinkPredictor$Members", name := "discardAllOf", desc := "(I)V" } : Jvm.MethodName)) ∈ TT := mT (mL1 (List.mem_of_getElem? (i := 210) rfl)) rfl
theorem mw_1_211 : (Jvm.Cond.code ({ cls := "LinkPredictor$Members", name := "discardAllOf", desc := "(I)V" } : Jvm.MethodName) prog_4_method_5_code (3 : Nat) (Option.none : Option Jvm.ClassFile.FieldType)) ∈ TT := mT (mL1 (List.mem_of_getElem? (i := 211) rfl)) rfl
theorem nw_1_212 : (Jvm.Cond.methodLinkNest "LinkPredictor$Members" (39 : Nat) ({ cls := "LinkPredictor", name := "bit", desc := "(I)I" } : Jvm.MethodName) "LinkPredictor") ∈ lw_tbl := mL1 (List.mem_of_getElem? (i := 212) rfl)
theorem mw_1_213 : (Jvm.Cond.methodLink "LinkPredictorLaw" (28 : Nat) ({ cls := "LinkPredictor", name := "member", desc := "(IZIII)I" } : Jvm.MethodName)) ∈ TT := mT (mL1 (List.mem_of_getElem? (i := 213) rfl)) rfl
theorem mw_1_214 : (Jvm.Cond.instanceMethod ({ cls := "LinkPredictor", name := "member", desc := "(IZIII)I" } : Jvm.MethodName)) ∈ TT := mT (mL1 (List.mem_of_getElem? (i := 214) rfl)) rfl
theorem mw_1_215 : (Jvm.Cond.selects "LinkPredictor" ({ cls := "LinkPredictor", name := "member", desc := "(IZIII)I" } : Jvm.MethodName) ({ cls := "LinkPredictor", name := "member", desc := "(IZIII)I" } : Jvm.MethodName)) ∈ TT := mT (mL1 (List.mem_of_getElem? (i := 215) rfl)) rfl
theorem mw_1_216 : (Jvm.Cond.code ({ cls := "LinkPredictor", name := "member", desc := "(IZIII)I" } : Jvm.MethodName) prog_1_method_5_code (6 : Nat) (Option.some Jvm.ClassFile.FieldType.int)) ∈ TT := mT (mL1 (List.mem_of_getElem? (i := 216) rfl)) rfl
theorem mw_1_217 : (Jvm.Cond.methodLink "LinkPredictor" (54 : Nat) ({ cls := "LinkPredictor$Build", name := "addMember", desc := "(IZIII)I" } : Jvm.MethodName)) ∈ TT := mT (mL1 (List.mem_of_getElem? (i := 217) rfl)) rfl
theorem mw_1_218 : (Jvm.Cond.instanceMethod ({ cls := "LinkPredictor$Build", name := "addMember", desc := "(IZIII)I" } : Jvm.MethodName)) ∈ TT := mT (mL1 (List.mem_of_getElem? (i := 218) rfl)) rfl
theorem mw_1_219 : (Jvm.Cond.selects "LinkPredictor$Build" ({ cls := "LinkPredictor$Build", name := "addMember", desc := "(IZIII)I" } : Jvm.MethodName) ({ cls := "LinkPredictor$Build", name := "addMember", desc := "(IZIII)I" } : Jvm.MethodName)) ∈ TT := mT (mL1 (List.mem_of_getElem? (i := 219) rfl)) rfl
theorem mw_1_220 : (Jvm.Cond.code ({ cls := "LinkPredictor$Build", name := "addMember", desc := "(IZIII)I" } : Jvm.MethodName) prog_2_method_3_code (6 : Nat) (Option.some Jvm.ClassFile.FieldType.int)) ∈ TT := mT (mL1 (List.mem_of_getElem? (i := 220) rfl)) rfl
theorem mw_1_221 : (Jvm.Cond.methodLink "LinkPredictor$Build" (33 : Nat) ({ cls := "LinkPredictor$Hierarchy", name := "isThere", desc := "(I)Z" } : Jvm.MethodName)) ∈ TT := mT (mL1 (List.mem_of_getElem? (i := 221) rfl)) rfl
theorem mw_1_222 : (Jvm.Cond.methodLink "LinkPredictor$Build" (36 : Nat) ({ cls := "LinkPredictor$Members", name := "find", desc := "(IZI)I" } : Jvm.MethodName)) ∈ TT := mT (mL1 (List.mem_of_getElem? (i := 222) rfl)) rfl
theorem mw_1_223 : (Jvm.Cond.instanceMethod ({ cls := "LinkPredictor$Members", name := "find", desc := "(IZI)I" } : Jvm.MethodName)) ∈ TT := mT (mL1 (List.mem_of_getElem? (i := 223) rfl)) rfl
theorem mw_1_224 : (Jvm.Cond.selects "LinkPredictor$Members" ({ cls := "LinkPredictor$Members", name := "find", desc := "(IZI)I" } : Jvm.MethodName) ({ cls := "LinkPredictor$Members", name := "find", desc := "(IZI)I" } : Jvm.MethodName)) ∈ TT := mT (mL1 (List.mem_of_getElem? (i := 224) rfl)) rfl
theorem mw_1_225 : (Jvm.Cond.code ({ cls := "LinkPredictor$Members", name := "find", desc := "(IZI)I" } : Jvm.MethodName) prog_4_method_7_code (6 : Nat) (Option.some Jvm.ClassFile.FieldType.int)) ∈ TT := mT (mL1 (List.mem_of_getElem? (i := 225) rfl)) rfl
theorem mw_1_226 : (Jvm.Cond.methodLink "LinkPredictor$Members" (28 : Nat) ({ cls := "LinkPredictor$Members", name := "keyOf", desc := "(ZI)I" } : Jvm.MethodName)) ∈ TT := mT (mL1 (List.mem_of_getElem? (i := 226) rfl)) rfl
theorem mw_1_227 : (Jvm.Cond.static ({ cls := "LinkPredictor$Members", name := "keyOf", desc := "(ZI)I" } : Jvm.MethodName)) ∈ TT := mT (mL1 (List.mem_of_getElem? (i := 227) rfl)) rfl
theorem mw_1_228 : (Jvm.Cond.code ({ cls := "LinkPredictor$Members", name := "keyOf", desc := "(ZI)I" } : Jvm.MethodName) prog_4_method_20_code (2 : Nat) (Option.some Jvm.ClassFile.FieldType.int)) ∈ TT := mT (mL1 (List.mem_of_getElem? (i := 228) rfl)) rfl
theorem nw_1_229 : (Jvm.Cond.methodLinkNest "LinkPredictor$Members" (49 : Nat) ({ cls := "LinkPredictor", name := "contains", desc := "(II)Z" } : Jvm.MethodName) "LinkPredictor") ∈ lw_tbl := mL1 (List.mem_of_getElem? (i := 229) rfl)
theorem mw_1_230 : (Jvm.Cond.methodLink "LinkPredictor$Build" (40 : Nat) ({ cls := "LinkPredictor$Members", name := "append", desc := "(IZIII)I" } : Jvm.MethodName)) ∈ TT := mT (mL1 (List.mem_of_getElem? (i := 230) rfl)) rfl
theorem mw_1_231 : (Jvm.Cond.instanceMethod ({ cls := "LinkPredictor$Members", name := "append", desc := "(IZIII)I" } : Jvm.MethodName)) ∈ TT := mT (mL1 (List.mem_of_getElem? (i := 231) rfl)) rfl
theorem mw_1_232 : (Jvm.Cond.selects "LinkPredictor$Members" ({ cls := "LinkPredictor$Members", name := "append", desc := "(IZIII)I" } : Jvm.MethodName) ({ cls := "LinkPredictor$Members", name := "append", desc := "(IZIII)I" } : Jvm.MethodName)) ∈ TT := mT (mL1 (List.mem_of_getElem? (i := 232) rfl)) rfl
theorem mw_1_233 : (Jvm.Cond.code ({ cls := "LinkPredictor$Members", name := "append", desc := "(IZIII)I" } : Jvm.MethodName) prog_4_method_2_code (7 : Nat) (Option.some Jvm.ClassFile.FieldType.int)) ∈ TT := mT (mL1 (List.mem_of_getElem? (i := 233) rfl)) rfl
theorem mw_1_234 : (Jvm.Cond.methodLink "LinkPredictorLaw" (33 : Nat) ({ cls := "LinkPredictor", name := "remake", desc := "(III)Z" } : Jvm.MethodName)) ∈ TT := mT (mL1 (List.mem_of_getElem? (i := 234) rfl)) rfl
theorem mw_1_235 : (Jvm.Cond.instanceMethod ({ cls := "LinkPredictor", name := "remake", desc := "(III)Z" } : Jvm.MethodName)) ∈ TT := mT (mL1 (List.mem_of_getElem? (i := 235) rfl)) rfl
theorem mw_1_236 : (Jvm.Cond.selects "LinkPredictor" ({ cls := "LinkPredictor", name := "remake", desc := "(III)Z" } : Jvm.MethodName) ({ cls := "LinkPredictor", name := "remake", desc := "(III)Z" } : Jvm.MethodName)) ∈ TT := mT (mL1 (List.mem_of_getElem? (i := 236) rfl)) rfl
theorem mw_1_237 : (Jvm.Cond.code ({ cls := "LinkPredictor", name := "remake", desc := "(III)Z" } : Jvm.MethodName) prog_1_method_6_code (4 : Nat) (Option.some Jvm.ClassFile.FieldType.boolean)) ∈ TT := mT (mL1 (List.mem_of_getElem? (i := 237) rfl)) rfl
theorem mw_1_238 : (Jvm.Cond.methodLink "LinkPredictor" (62 : Nat) ({ cls := "LinkPredictor$Members", name := "change", desc := "(III)Z" } : Jvm.MethodName)) ∈ TT := mT (mL1 (List.mem_of_getElem? (i := 238) rfl)) rfl
theorem mw_1_239 : (Jvm.Cond.instanceMethod ({ cls := "LinkPredictor$Members", name := "change", desc := "(III)Z" } : Jvm.MethodName)) ∈ TT := mT (mL1 (List.mem_of_getElem? (i := 239) rfl)) rfl
theorem mw_2_0 : (Jvm.Cond.selects "LinkPredictor$Members" ({ cls := "LinkPredictor$Members", name := "change", desc := "(III)Z" } : Jvm.MethodName) ({ cls := "LinkPredictor$Members", name := "change", desc := "(III)Z" } : Jvm.MethodName)) ∈ TT := mT (mL2 (List.mem_of_getElem? (i := 0) rfl)) rfl
theorem mw_2_1 : (Jvm.Cond.code ({ cls := "LinkPredictor$Members", name := "change", desc := "(III)Z" } : Jvm.MethodName) prog_4_method_3_code (4 : Nat) (Option.some Jvm.ClassFile.FieldType.boolean)) ∈ TT := mT (mL2 (List.mem_of_getElem? (i := 1) rfl)) rfl
theorem mw_2_2 : (Jvm.Cond.methodLink "LinkPredictor$Members" (32 : Nat) ({ cls := "LinkPredictor$Members", name := "isPresent", desc := "(I)Z" } : Jvm.MethodName)) ∈ TT := mT (mL2 (List.mem_of_getElem? (i := 2) rfl)) rfl
theorem nw_2_3 : (Jvm.Cond.privateMethod ({ cls := "LinkPredictor$Members", name := "isPresent", desc := "(I)Z" } : Jvm.MethodName)) ∈ lw_tbl := mL2 (List.mem_of_getElem? (i := 3) rfl)
theorem mw_2_4 : (Jvm.Cond.instanceMethod ({ cls := "LinkPredictor$Members", name := "isPresent", desc := "(I)Z" } : Jvm.MethodName)) ∈ TT := mT (mL2 (List.mem_of_getElem? (i := 4) rfl)) rfl
theorem mw_2_5 : (Jvm.Cond.code ({ cls := "LinkPredictor$Members", name := "isPresent", desc := "(I)Z" } : Jvm.MethodName) prog_4_method_19_code (2 : Nat) (Option.some Jvm.ClassFile.FieldType.boolean)) ∈ TT := mT (mL2 (List.mem_of_getElem? (i := 5) rfl)) rfl
theorem nw_2_6 : (Jvm.Cond.methodLinkNest "LinkPredictor$Members" (64 : Nat) ({ cls := "LinkPredictor", name := "isWithin", desc := "(II)Z" } : Jvm.MethodName) "LinkPredictor") ∈ lw_tbl := mL2 (List.mem_of_getElem? (i := 6) rfl)
theorem mw_2_7 : (Jvm.Cond.methodLink "LinkPredictorLaw" (38 : Nat) ({ cls := "LinkPredictor", name := "remove", desc := "(I)Z" } : Jvm.MethodName)) ∈ TT := mT (mL2 (List.mem_of_getElem? (i := 7) rfl)) rfl
theorem mw_2_8 : (Jvm.Cond.instanceMethod ({ cls := "LinkPredictor", name := "remove", desc := "(I)Z" } : Jvm.MethodName)) ∈ TT := mT (mL2 (List.mem_of_getElem? (i := 8) rfl)) rfl
theorem mw_2_9 : (Jvm.Cond.selects "LinkPredictor" ({ cls := "LinkPredictor", name := "remove", desc := "(I)Z" } : Jvm.MethodName) ({ cls := "LinkPredictor", name := "remove", desc := "(I)Z" } : Jvm.MethodName)) ∈ TT := mT (mL2 (List.mem_of_getElem? (i := 9) rfl)) rfl
theorem mw_2_10 : (Jvm.Cond.code ({ cls := "LinkPredictor", name := "remove", desc := "(I)Z" } : Jvm.MethodName) prog_1_method_7_code (2 : Nat) (Option.some Jvm.ClassFile.FieldType.boolean)) ∈ TT := mT (mL2 (List.mem_of_getElem? (i := 10) rfl)) rfl
theorem mw_2_11 : (Jvm.Cond.methodLink "LinkPredictor" (68 : Nat) ({ cls := "LinkPredictor$Members", name := "discard", desc := "(I)Z" } : Jvm.MethodName)) ∈ TT := mT (mL2 (List.mem_of_getElem? (i := 11) rfl)) rfl
theorem mw_2_12 : (Jvm.Cond.instanceMethod ({ cls := "LinkPredictor$Members", name := "discard", desc := "(I)Z" } : Jvm.MethodName)) ∈ TT := mT (mL2 (List.mem_of_getElem? (i := 12) rfl)) rfl
theorem mw_2_13 : (Jvm.Cond.selects "LinkPredictor$Members" ({ cls := "LinkPredictor$Members", name := "discard", desc := "(I)Z" } : Jvm.MethodName) ({ cls := "LinkPredictor$Members", name := "discard", desc := "(I)Z" } : Jvm.MethodName)) ∈ TT := mT (mL2 (List.mem_of_getElem? (i := 13) rfl)) rfl
theorem mw_2_14 : (Jvm.Cond.code ({ cls := "LinkPredictor$Members", name := "discard", desc := "(I)Z" } : Jvm.MethodName) prog_4_method_4_code (2 : Nat) (Option.some Jvm.ClassFile.FieldType.boolean)) ∈ TT := mT (mL2 (List.mem_of_getElem? (i := 14) rfl)) rfl
theorem mw_2_15 : (Jvm.Cond.methodLink "LinkPredictorLaw" (42 : Nat) ({ cls := "LinkPredictor", name := "branch", desc := "()I" } : Jvm.MethodName)) ∈ TT := mT (mL2 (List.mem_of_getElem? (i := 15) rfl)) rfl
theorem mw_2_16 : (Jvm.Cond.instanceMethod ({ cls := "LinkPredictor", name := "branch", desc := "()I" } : Jvm.MethodName)) ∈ TT := mT (mL2 (List.mem_of_getElem? (i := 16) rfl)) rfl
theorem mw_2_17 : (Jvm.Cond.selects "LinkPredictor" ({ cls := "LinkPredictor", name := "branch", desc := "()I" } : Jvm.MethodName) ({ cls := "LinkPredictor", name := "branch", desc := "()I" } : Jvm.MethodName)) ∈ TT := mT (mL2 (List.mem_of_getElem? (i := 17) rfl)) rfl
theorem mw_2_18 : (Jvm.Cond.code ({ cls := "LinkPredictor", name := "branch", desc := "()I" } : Jvm.MethodName) prog_1_method_8_code (1 : Nat) (Option.some Jvm.ClassFile.FieldType.int)) ∈ TT := mT (mL2 (List.mem_of_getElem? (i := 18) rfl)) rfl
theorem mw_2_19 : (Jvm.Cond.methodLink "LinkPredictor" (71 : Nat) ({ cls := "LinkPredictor$Build", name := "becomeAs", desc := "(LLinkPredictor$Build;)V" } : Jvm.MethodName)) ∈ TT := mT (mL2 (List.mem_of_getElem? (i := 19) rfl)) rfl
theorem mw_2_20 : (Jvm.Cond.instanceMethod ({ cls := "LinkPredictor$Build", name := "becomeAs", desc := "(LLinkPredictor$Build;)V" } : Jvm.MethodName)) ∈ TT := mT (mL2 (List.mem_of_getElem? (i := 20) rfl)) rfl
theorem mw_2_21 : (Jvm.Cond.selects "LinkPredictor$Build" ({ cls := "LinkPredictor$Build", name := "becomeAs", desc := "(LLinkPredictor$Build;)V" } : Jvm.MethodName) ({ cls := "LinkPredictor$Build", name := "becomeAs", desc := "(LLinkPredictor$Build;)V" } : Jvm.MethodName)) ∈ TT := mT (mL2 (List.mem_of_getElem? (i := 21) rfl)) rfl
theorem mw_2_22 : (Jvm.Cond.code ({ cls := "LinkPredictor$Build", name := "becomeAs", desc := "(LLinkPredictor$Build;)V" } : Jvm.MethodName) prog_2_method_4_code (2 : Nat) (Option.none : Option Jvm.ClassFile.FieldType)) ∈ TT := mT (mL2 (List.mem_of_getElem? (i := 22) rfl)) rfl
theorem mw_2_23 : (Jvm.Cond.methodLink "LinkPredictor$Build" (44 : Nat) ({ cls := "LinkPredictor$Hierarchy", name := "becomeAs", desc := "(LLinkPredictor$Hierarchy;)V" } : Jvm.MethodName)) ∈ TT := mT (mL2 (List.mem_of_getElem? (i := 23) rfl)) rfl
theorem mw_2_24 : (Jvm.Cond.instanceMethod ({ cls := "LinkPredictor$Hierarchy", name := "becomeAs", desc := "(LLinkPredictor$Hierarchy;)V" } : Jvm.MethodName)) ∈ TT := mT (mL2 (List.mem_of_getElem? (i := 24) rfl)) rfl
theorem mw_2_25 : (Jvm.Cond.selects "LinkPredictor$Hierarchy" ({ cls := "LinkPredictor$Hierarchy", name := "becomeAs", desc := "(LLinkPredictor$Hierarchy;)V" } : Jvm.MethodName) ({ cls := "LinkPredictor$Hierarchy", name := "becomeAs", desc := "(LLinkPredictor$Hierarchy;)V" } : Jvm.MethodName)) ∈ TT := mT (mL2 (List.mem_of_getElem? (i := 25) rfl)) rfl
theorem mw_2_26 : (Jvm.Cond.code ({ cls := "LinkPredictor$Hierarchy", name := "becomeAs", desc := "(LLinkPredictor$Hierarchy;)V" } : Jvm.MethodName) prog_3_method_5_code (2 : Nat) (Option.none : Option Jvm.ClassFile.FieldType)) ∈ TT := mT (mL2 (List.mem_of_getElem? (i := 26) rfl)) rfl
theorem mw_2_27 : (Jvm.Cond.methodLink "LinkPredictor$Hierarchy" (51 : Nat) ({ cls := "java/lang/System", name := "arraycopy", desc := "(Ljava/lang/Object;ILjava/lang/Object;II)V" } : Jvm.MethodName)) ∈ TT := mT (mL2 (List.mem_of_getElem? (i := 27) rfl)) rfl
theorem mw_2_28 : (Jvm.Cond.static ({ cls := "java/lang/System", name := "arraycopy", desc := "(Ljava/lang/Object;ILjava/lang/Object;II)V" } : Jvm.MethodName)) ∈ TT := mT (mL2 (List.mem_of_getElem? (i := 28) rfl)) rfl
theorem mw_2_29 : (Jvm.Cond.native ({ cls := "java/lang/System", name := "arraycopy", desc := "(Ljava/lang/Object;ILjava/lang/Object;II)V" } : Jvm.MethodName)) ∈ TT := mT (mL2 (List.mem_of_getElem? (i := 29) rfl)) rfl
theorem mw_2_30 : (Jvm.Cond.methodLink "LinkPredictor$Build" (48 : Nat) ({ cls := "LinkPredictor$Members", name := "becomeAs", desc := "(LLinkPredictor$Members;)V" } : Jvm.MethodName)) ∈ TT := mT (mL2 (List.mem_of_getElem? (i := 30) rfl)) rfl
theorem mw_2_31 : (Jvm.Cond.instanceMethod ({ cls := "LinkPredictor$Members", name := "becomeAs", desc := "(LLinkPredictor$Members;)V" } : Jvm.MethodName)) ∈ TT := mT (mL2 (List.mem_of_getElem? (i := 31) rfl)) rfl
theorem mw_2_32 : (Jvm.Cond.selects "LinkPredictor$Members" ({ cls := "LinkPredictor$Members", name := "becomeAs", desc := "(LLinkPredictor$Members;)V" } : Jvm.MethodName) ({ cls := "LinkPredictor$Members", name := "becomeAs", desc := "(LLinkPredictor$Members;)V" } : Jvm.MethodName)) ∈ TT := mT (mL2 (List.mem_of_getElem? (i := 32) rfl)) rfl
theorem mw_2_33 : (Jvm.Cond.code ({ cls := "LinkPredictor$Members", name := "becomeAs", desc := "(LLinkPredictor$Members;)V" } : Jvm.MethodName) prog_4_method_6_code (2 : Nat) (Option.none : Option Jvm.ClassFile.FieldType)) ∈ TT := mT (mL2 (List.mem_of_getElem? (i := 33) rfl)) rfl
theorem mw_2_34 : (Jvm.Cond.methodLink "LinkPredictor$Members" (43 : Nat) ({ cls := "java/lang/System", name := "arraycopy", desc := "(Ljava/lang/Object;ILjava/lang/Object;II)V" } : Jvm.MethodName)) ∈ TT := mT (mL2 (List.mem_of_getElem? (i := 34) rfl)) rfl
theorem mw_2_35 : (Jvm.Cond.methodLink "LinkPredictor" (75 : Nat) ({ cls := "LinkPredictor$Hierarchy", name := "countThere", desc := "()I" } : Jvm.MethodName)) ∈ TT := mT (mL2 (List.mem_of_getElem? (i := 35) rfl)) rfl
theorem mw_2_36 : (Jvm.Cond.instanceMethod ({ cls := "LinkPredictor$Hierarchy", name := "countThere", desc := "()I" } : Jvm.MethodName)) ∈ TT := mT (mL2 (List.mem_of_getElem? (i := 36) rfl)) rfl
theorem mw_2_37 : (Jvm.Cond.selects "LinkPredictor$Hierarchy" ({ cls := "LinkPredictor$Hierarchy", name := "countThere", desc := "()I" } : Jvm.MethodName) ({ cls := "LinkPredictor$Hierarchy", name := "countThere", desc := "()I" } : Jvm.MethodName)) ∈ TT := mT (mL2 (List.mem_of_getElem? (i := 37) rfl)) rfl
theorem mw_2_38 : (Jvm.Cond.code ({ cls := "LinkPredictor$Hierarchy", name := "countThere", desc := "()I" } : Jvm.MethodName) prog_3_method_19_code (1 : Nat) (Option.some Jvm.ClassFile.FieldType.int)) ∈ TT := mT (mL2 (List.mem_of_getElem? (i := 38) rfl)) rfl
theorem mw_2_39 : (Jvm.Cond.methodLink "LinkPredictor$Hierarchy" (67 : Nat) ({ cls := "java/lang/Integer", name := "bitCount", desc := "(I)I" } : Jvm.MethodName)) ∈ TT := mT (mL2 (List.mem_of_getElem? (i := 39) rfl)) rfl
theorem mw_2_40 : (Jvm.Cond.static ({ cls := "java/lang/Integer", name := "bitCount", desc := "(I)I" } : Jvm.MethodName)) ∈ TT := mT (mL2 (List.mem_of_getElem? (i := 40) rfl)) rfl
theorem mw_2_41 : (Jvm.Cond.code ({ cls := "java/lang/Integer", name := "bitCount", desc := "(I)I" } : Jvm.MethodName) prog_8_method_49_code (1 : Nat) (Option.some Jvm.ClassFile.FieldType.int)) ∈ TT := mT (mL2 (List.mem_of_getElem? (i := 41) rfl)) rfl
theorem mw_2_42 : (Jvm.Cond.constant "java/lang/Integer" (265 : Nat) (1431655765 : Int32)) ∈ TT := mT (mL2 (List.mem_of_getElem? (i := 42) rfl)) rfl
theorem mw_2_43 : (Jvm.Cond.constant "java/lang/Integer" (266 : Nat) (858993459 : Int32)) ∈ TT := mT (mL2 (List.mem_of_getElem? (i := 43) rfl)) rfl
theorem mw_2_44 : (Jvm.Cond.constant "java/lang/Integer" (267 : Nat) (252645135 : Int32)) ∈ TT := mT (mL2 (List.mem_of_getElem? (i := 44) rfl)) rfl
theorem mw_2_45 : (Jvm.Cond.methodLink "LinkPredictorLaw" (47 : Nat) ({ cls := "LinkPredictor", name := "write", desc := "(I)Z" } : Jvm.MethodName)) ∈ TT := mT (mL2 (List.mem_of_getElem? (i := 45) rfl)) rfl
theorem mw_2_46 : (Jvm.Cond.instanceMethod ({ cls := "LinkPredictor", name := "write", desc := "(I)Z" } : Jvm.MethodName)) ∈ TT := mT (mL2 (List.mem_of_getElem? (i := 46) rfl)) rfl
theorem mw_2_47 : (Jvm.Cond.selects "LinkPredictor" ({ cls := "LinkPredictor", name := "write", desc := "(I)Z" } : Jvm.MethodName) ({ cls := "LinkPredictor", name := "write", desc := "(I)Z" } : Jvm.MethodName)) ∈ TT := mT (mL2 (List.mem_of_getElem? (i := 47) rfl)) rfl
theorem mw_2_48 : (Jvm.Cond.code ({ cls := "LinkPredictor", name := "write", desc := "(I)Z" } : Jvm.MethodName) prog_1_method_9_code (2 : Nat) (Option.some Jvm.ClassFile.FieldType.boolean)) ∈ TT := mT (mL2 (List.mem_of_getElem? (i := 48) rfl)) rfl
theorem mw_2_49 : (Jvm.Cond.methodLink "LinkPredictorLaw" (51 : Nat) ({ cls := "LinkPredictor", name := "refer", desc := "(IIII)I" } : Jvm.MethodName)) ∈ TT := mT (mL2 (List.mem_of_getElem? (i := 49) rfl)) rfl
theorem mw_2_50 : (Jvm.Cond.instanceMethod ({ cls := "LinkPredictor", name := "refer", desc := "(IIII)I" } : Jvm.MethodName)) ∈ TT := mT (mL2 (List.mem_of_getElem? (i := 50) rfl)) rfl
theorem mw_2_51 : (Jvm.Cond.selects "LinkPredictor" ({ cls := "LinkPredictor", name := "refer", desc := "(IIII)I" } : Jvm.MethodName) ({ cls := "LinkPredictor", name := "refer", desc := "(IIII)I" } : Jvm.MethodName)) ∈ TT := mT (mL2 (List.mem_of_getElem? (i := 51) rfl)) rfl
theorem mw_2_52 : (Jvm.Cond.code ({ cls := "LinkPredictor", name := "refer", desc := "(IIII)I" } : Jvm.MethodName) prog_1_method_10_code (5 : Nat) (Option.some Jvm.ClassFile.FieldType.int)) ∈ TT := mT (mL2 (List.mem_of_getElem? (i := 52) rfl)) rfl
theorem mw_2_53 : (Jvm.Cond.methodLink "LinkPredictor" (79 : Nat) ({ cls := "LinkPredictor$Reference", name := "put", desc := "(IIII)V" } : Jvm.MethodName)) ∈ TT := mT (mL2 (List.mem_of_getElem? (i := 53) rfl)) rfl
theorem mw_2_54 : (Jvm.Cond.instanceMethod ({ cls := "LinkPredictor$Reference", name := "put", desc := "(IIII)V" } : Jvm.MethodName)) ∈ TT := mT (mL2 (List.mem_of_getElem? (i := 54) rfl)) rfl
theorem mw_2_55 : (Jvm.Cond.selects "LinkPredictor$Reference" ({ cls := "LinkPredictor$Reference", name := "put", desc := "(IIII)V" } : Jvm.MethodName) ({ cls := "LinkPredictor$Reference", name := "put", desc := "(IIII)V" } : Jvm.MethodName)) ∈ TT := mT (mL2 (List.mem_of_getElem? (i := 55) rfl)) rfl
theorem mw_2_56 : (Jvm.Cond.code ({ cls := "LinkPredictor$Reference", name := "put", desc := "(IIII)V" } : Jvm.MethodName) prog_5_method_2_code (5 : Nat) (Option.none : Option Jvm.ClassFile.FieldType)) ∈ TT := mT (mL2 (List.mem_of_getElem? (i := 56) rfl)) rfl
theorem mw_2_57 : (Jvm.Cond.methodLink "LinkPredictorLaw" (56 : Nat) ({ cls := "LinkPredictor", name := "forget", desc := "()I" } : Jvm.MethodName)) ∈ TT := mT (mL2 (List.mem_of_getElem? (i := 57) rfl)) rfl
theorem mw_2_58 : (Jvm.Cond.instanceMethod ({ cls := "LinkPredictor", name := "forget", desc := "()I" } : Jvm.MethodName)) ∈ TT := mT (mL2 (List.mem_of_getElem? (i := 58) rfl)) rfl
theorem mw_2_59 : (Jvm.Cond.selects "LinkPredictor" ({ cls := "LinkPredictor", name := "forget", desc := "()I" } : Jvm.MethodName) ({ cls := "LinkPredictor", name := "forget", desc := "()I" } : Jvm.MethodName)) ∈ TT := mT (mL2 (List.mem_of_getElem? (i := 59) rfl)) rfl
theorem mw_2_60 : (Jvm.Cond.code ({ cls := "LinkPredictor", name := "forget", desc := "()I" } : Jvm.MethodName) prog_1_method_11_code (2 : Nat) (Option.some Jvm.ClassFile.FieldType.int)) ∈ TT := mT (mL2 (List.mem_of_getElem? (i := 60) rfl)) rfl
theorem mw_2_61 : (Jvm.Cond.methodLink "LinkPredictorLaw" (60 : Nat) ({ cls := "LinkPredictor", name := "load", desc := "(II)I" } : Jvm.MethodName)) ∈ TT := mT (mL2 (List.mem_of_getElem? (i := 61) rfl)) rfl
theorem mw_2_62 : (Jvm.Cond.instanceMethod ({ cls := "LinkPredictor", name := "load", desc := "(II)I" } : Jvm.MethodName)) ∈ TT := mT (mL2 (List.mem_of_getElem? (i := 62) rfl)) rfl
theorem mw_2_63 : (Jvm.Cond.selects "LinkPredictor" ({ cls := "LinkPredictor", name := "load", desc := "(II)I" } : Jvm.MethodName) ({ cls := "LinkPredictor", name := "load", desc := "(II)I" } : Jvm.MethodName)) ∈ TT := mT (mL2 (List.mem_of_getElem? (i := 63) rfl)) rfl
theorem mw_2_64 : (Jvm.Cond.code ({ cls := "LinkPredictor", name := "load", desc := "(II)I" } : Jvm.MethodName) prog_1_method_12_code (3 : Nat) (Option.some Jvm.ClassFile.FieldType.int)) ∈ TT := mT (mL2 (List.mem_of_getElem? (i := 64) rfl)) rfl
theorem mw_2_65 : (Jvm.Cond.methodLink "LinkPredictor" (83 : Nat) ({ cls := "LinkPredictor$Hierarchy", name := "loading", desc := "(I)I" } : Jvm.MethodName)) ∈ TT := mT (mL2 (List.mem_of_getElem? (i := 65) rfl)) rfl
theorem mw_2_66 : (Jvm.Cond.instanceMethod ({ cls := "LinkPredictor$Hierarchy", name := "loading", desc := "(I)I" } : Jvm.MethodName)) ∈ TT := mT (mL2 (List.mem_of_getElem? (i := 66) rfl)) rfl
theorem mw_2_67 : (Jvm.Cond.selects "LinkPredictor$Hierarchy" ({ cls := "LinkPredictor$Hierarchy", name := "loading", desc := "(I)I" } : Jvm.MethodName) ({ cls := "LinkPredictor$Hierarchy", name := "loading", desc := "(I)I" } : Jvm.MethodName)) ∈ TT := mT (mL2 (List.mem_of_getElem? (i := 67) rfl)) rfl
theorem mw_2_68 : (Jvm.Cond.code ({ cls := "LinkPredictor$Hierarchy", name := "loading", desc := "(I)I" } : Jvm.MethodName) prog_3_method_12_code (2 : Nat) (Option.some Jvm.ClassFile.FieldType.int)) ∈ TT := mT (mL2 (List.mem_of_getElem? (i := 68) rfl)) rfl
theorem mw_2_69 : (Jvm.Cond.methodLink "LinkPredictorLaw" (65 : Nat) ({ cls := "LinkPredictor", name := "resolve", desc := "(II)I" } : Jvm.MethodName)) ∈ TT := mT (mL2 (List.mem_of_getElem? (i := 69) rfl)) rfl
theorem mw_2_70 : (Jvm.Cond.instanceMethod ({ cls := "LinkPredictor", name := "resolve", desc := "(II)I" } : Jvm.MethodName)) ∈ TT := mT (mL2 (List.mem_of_getElem? (i := 70) rfl)) rfl
theorem mw_2_71 : (Jvm.Cond.selects "LinkPredictor" ({ cls := "LinkPredictor", name := "resolve", desc := "(II)I" } : Jvm.MethodName) ({ cls := "LinkPredictor", name := "resolve", desc := "(II)I" } : Jvm.MethodName)) ∈ TT := mT (mL2 (List.mem_of_getElem? (i := 71) rfl)) rfl
theorem mw_2_72 : (Jvm.Cond.code ({ cls := "LinkPredictor", name := "resolve", desc := "(II)I" } : Jvm.MethodName) prog_1_method_13_code (3 : Nat) (Option.some Jvm.ClassFile.FieldType.int)) ∈ TT := mT (mL2 (List.mem_of_getElem? (i := 72) rfl)) rfl
theorem mw_2_73 : (Jvm.Cond.methodLink "LinkPredictor" (87 : Nat) ({ cls := "LinkPredictor$Build", name := "resolution", desc := "(LLinkPredictor$Reference;)I" } : Jvm.MethodName)) ∈ TT := mT (mL2 (List.mem_of_getElem? (i := 73) rfl)) rfl
theorem mw_2_74 : (Jvm.Cond.instanceMethod ({ cls := "LinkPredictor$Build", name := "resolution", desc := "(LLinkPredictor$Reference;)I" } : Jvm.MethodName)) ∈ TT := mT (mL2 (List.mem_of_getElem? (i := 74) rfl)) rfl
theorem mw_2_75 : (Jvm.Cond.selects "LinkPredictor$Build" ({ cls := "LinkPredictor$Build", name := "resolution", desc := "(LLinkPredictor$Reference;)I" } : Jvm.MethodName) ({ cls := "LinkPredictor$Build", name := "resolution", desc := "(LLinkPredictor$Reference;)I" } : Jvm.MethodName)) ∈ TT := mT (mL2 (List.mem_of_getElem? (i := 75) rfl)) rfl
theorem mw_2_76 : (Jvm.Cond.code ({ cls := "LinkPredictor$Build", name := "resolution", desc := "(LLinkPredictor$Reference;)I" } : Jvm.MethodName) prog_2_method_5_code (3 : Nat) (Option.some Jvm.ClassFile.FieldType.int)) ∈ TT := mT (mL2 (List.mem_of_getElem? (i := 76) rfl)) rfl
theorem mw_2_77 : (Jvm.Cond.methodLink "LinkPredictor$Build" (57 : Nat) ({ cls := "LinkPredictor$Hierarchy", name := "loading", desc := "(I)I" } : Jvm.MethodName)) ∈ TT := mT (mL2 (List.mem_of_getElem? (i := 77) rfl)) rfl
theorem nw_2_78 : (Jvm.Cond.methodLinkNest "LinkPredictor$Build" (61 : Nat) ({ cls := "LinkPredictor", name := "isGood", desc := "(I)Z" } : Jvm.MethodName) "LinkPredictor") ∈ lw_tbl := mL2 (List.mem_of_getElem? (i := 78) rfl)
theorem mw_2_79 : (Jvm.Cond.methodLink "LinkPredictor$Build" (67 : Nat) ({ cls := "LinkPredictor$Hierarchy", name := "reaching", desc := "(II)I" } : Jvm.MethodName)) ∈ TT := mT (mL2 (List.mem_of_getElem? (i := 79) rfl)) rfl
theorem mw_2_80 : (Jvm.Cond.instanceMethod ({ cls := "LinkPredictor$Hierarchy", name := "reaching", desc := "(II)I" } : Jvm.MethodName)) ∈ TT := mT (mL2 (List.mem_of_getElem? (i := 80) rfl)) rfl
theorem mw_2_81 : (Jvm.Cond.selects "LinkPredictor$Hierarchy" ({ cls := "LinkPredictor$Hierarchy", name := "reaching", desc := "(II)I" } : Jvm.MethodName) ({ cls := "LinkPredictor$Hierarchy", name := "reaching", desc := "(II)I" } : Jvm.MethodName)) ∈ TT := mT (mL2 (List.mem_of_getElem? (i := 81) rfl)) rfl
theorem mw_2_82 : (Jvm.Cond.code ({ cls := "LinkPredictor$Hierarchy", name := "reaching", desc := "(II)I" } : Jvm.MethodName) prog_3_method_13_code (4 : Nat) (Option.some Jvm.ClassFile.FieldType.int)) ∈ TT := mT (mL2 (List.mem_of_getElem? (i := 82) rfl)) rfl
theorem mw_2_83 : (Jvm.Cond.methodLink "LinkPredictor$Hierarchy" (64 : Nat) ({ cls := "LinkPredictor$Hierarchy", name := "isSamePackage", desc := "(II)Z" } : Jvm.MethodName)) ∈ TT := mT (mL2 (List.mem_of_getElem? (i := 83) rfl)) rfl
theorem mw_2_84 : (Jvm.Cond.instanceMethod ({ cls := "LinkPredictor$Hierarchy", name := "isSamePackage", desc := "(II)Z" } : Jvm.MethodName)) ∈ TT := mT (mL2 (List.mem_of_getElem? (i := 84) rfl)) rfl
theorem mw_2_85 : (Jvm.Cond.selects "LinkPredictor$Hierarchy" ({ cls := "LinkPredictor$Hierarchy", name := "isSamePackage", desc := "(II)Z" } : Jvm.MethodName) ({ cls := "LinkPredictor$Hierarchy", name := "isSamePackage", desc := "(II)Z" } : Jvm.MethodName)) ∈ TT := mT (mL2 (List.mem_of_getElem? (i := 85) rfl)) rfl
theorem mw_2_86 : (Jvm.Cond.code ({ cls := "LinkPredictor$Hierarchy", name := "isSamePackage", desc := "(II)Z" } : Jvm.MethodName) prog_3_method_14_code (3 : Nat) (Option.some Jvm.ClassFile.FieldType.boolean)) ∈ TT := mT (mL2 (List.mem_of_getElem? (i := 86) rfl)) rfl
theorem mw_2_87 : (Jvm.Cond.methodLink "LinkPredictor$Build" (74 : Nat) ({ cls := "LinkPredictor$Reference", name := "isOfField", desc := "()Z" } : Jvm.MethodName)) ∈ TT := mT (mL2 (List.mem_of_getElem? (i := 87) rfl)) rfl
theorem mw_2_88 : (Jvm.Cond.instanceMethod ({ cls := "LinkPredictor$Reference", name := "isOfField", desc := "()Z" } : Jvm.MethodName)) ∈ TT := mT (mL2 (List.mem_of_getElem? (i := 88) rfl)) rfl
theorem mw_2_89 : (Jvm.Cond.selects "LinkPredictor$Reference" ({ cls := "LinkPredictor$Reference", name := "isOfField", desc := "()Z" } : Jvm.MethodName) ({ cls := "LinkPredictor$Reference", name := "isOfField", desc := "()Z" } : Jvm.MethodName)) ∈ TT := mT (mL2 (List.mem_of_getElem? (i := 89) rfl)) rfl
theorem mw_2_90 : (Jvm.Cond.code ({ cls := "LinkPredictor$Reference", name := "isOfField", desc := "()Z" } : Jvm.MethodName) prog_5_method_3_code (1 : Nat) (Option.some Jvm.ClassFile.FieldType.boolean)) ∈ TT := mT (mL2 (List.mem_of_getElem? (i := 90) rfl)) rfl
theorem mw_2_91 : (Jvm.Cond.methodLink "LinkPredictor$Build" (78 : Nat) ({ cls := "LinkPredictor$Build", name := "lookUpField", desc := "(LLinkPredictor$Reference;)I" } : Jvm.MethodName)) ∈ TT := mT (mL2 (List.mem_of_getElem? (i := 91) rfl)) rfl
theorem nw_2_92 : (Jvm.Cond.privateMethod ({ cls := "LinkPredictor$Build", name := "lookUpField", desc := "(LLinkPredictor$Reference;)I" } : Jvm.MethodName)) ∈ lw_tbl := mL2 (List.mem_of_getElem? (i := 92) rfl)
theorem mw_2_93 : (Jvm.Cond.instanceMethod ({ cls := "LinkPredictor$Build", name := "lookUpField", desc := "(LLinkPredictor$Reference;)I" } : Jvm.MethodName)) ∈ TT := mT (mL2 (List.mem_of_getElem? (i := 93) rfl)) rfl
theorem mw_2_94 : (Jvm.Cond.code ({ cls := "LinkPredictor$Build", name := "lookUpField", desc := "(LLinkPredictor$Reference;)I" } : Jvm.MethodName) prog_2_method_7_code (3 : Nat) (Option.some Jvm.ClassFile.FieldType.int)) ∈ TT := mT (mL2 (List.mem_of_getElem? (i := 94) rfl)) rfl
theorem mw_2_95 : (Jvm.Cond.methodLink "LinkPredictor$Build" (112 : Nat) ({ cls := "LinkPredictor$Build", name := "findField", desc := "(II)I" } : Jvm.MethodName)) ∈ TT := mT (mL2 (List.mem_of_getElem? (i := 95) rfl)) rfl
theorem nw_2_96 : (Jvm.Cond.privateMethod ({ cls := "LinkPredictor$Build", name := "findField", desc := "(II)I" } : Jvm.MethodName)) ∈ lw_tbl := mL2 (List.mem_of_getElem? (i := 96) rfl)
theorem mw_2_97 : (Jvm.Cond.instanceMethod ({ cls := "LinkPredictor$Build", name := "findField", desc := "(II)I" } : Jvm.MethodName)) ∈ TT := mT (mL2 (List.mem_of_getElem? (i := 97) rfl)) rfl
theorem mw_2_98 : (Jvm.Cond.code ({ cls := "LinkPredictor$Build", name := "findField", desc := "(II)I" } : Jvm.MethodName) prog_2_method_8_code (5 : Nat) (Option.some Jvm.ClassFile.FieldType.int)) ∈ TT := mT (mL2 (List.mem_of_getElem? (i := 98) rfl)) rfl
theorem nw_2_99 : (Jvm.Cond.methodLinkNest "LinkPredictor$Build" (115 : Nat) ({ cls := "LinkPredictor", name := "contains", desc := "(II)Z" } : Jvm.MethodName) "LinkPredictor") ∈ lw_tbl := mL2 (List.mem_of_getElem? (i := 99) rfl)
theorem nw_2_100 : (Jvm.Cond.methodLinkNest "LinkPredictor$Build" (118 : Nat) ({ cls := "LinkPredictor", name := "bit", desc := "(I)I" } : Jvm.MethodName) "LinkPredictor") ∈ lw_tbl := mL2 (List.mem_of_getElem? (i := 100) rfl)
theorem mw_2_101 : (Jvm.Cond.methodLink "LinkPredictor$Build" (121 : Nat) ({ cls := "LinkPredictor$Hierarchy", name := "directFacesOf", desc := "(I)I" } : Jvm.MethodName)) ∈ TT := mT (mL2 (List.mem_of_getElem? (i := 101) rfl)) rfl
theorem mw_2_102 : (Jvm.Cond.instanceMethod ({ cls := "LinkPredictor$Hierarchy", name := "directFacesOf", desc := "(I)I" } : Jvm.MethodName)) ∈ TT := mT (mL2 (List.mem_of_getElem? (i := 102) rfl)) rfl
theorem mw_2_103 : (Jvm.Cond.selects "LinkPredictor$Hierarchy" ({ cls := "LinkPredictor$Hierarchy", name := "directFacesOf", desc := "(I)I" } : Jvm.MethodName) ({ cls := "LinkPredictor$Hierarchy", name := "directFacesOf", desc := "(I)I" } : Jvm.MethodName)) ∈ TT := mT (mL2 (List.mem_of_getElem? (i := 103) rfl)) rfl
theorem mw_2_104 : (Jvm.Cond.code ({ cls := "LinkPredictor$Hierarchy", name := "directFacesOf", desc := "(I)I" } : Jvm.MethodName) prog_3_method_10_code (2 : Nat) (Option.some Jvm.ClassFile.FieldType.int)) ∈ TT := mT (mL2 (List.mem_of_getElem? (i := 104) rfl)) rfl
theorem mw_2_105 : (Jvm.Cond.methodLink "LinkPredictor$Build" (124 : Nat) ({ cls := "LinkPredictor$Hierarchy", name := "superOf", desc := "(I)I" } : Jvm.MethodName)) ∈ TT := mT (mL2 (List.mem_of_getElem? (i := 105) rfl)) rfl
theorem mw_2_106 : (Jvm.Cond.instanceMethod ({ cls := "LinkPredictor$Hierarchy", name := "superOf", desc := "(I)I" } : Jvm.MethodName)) ∈ TT := mT (mL2 (List.mem_of_getElem? (i := 106) rfl)) rfl
theorem mw_2_107 : (Jvm.Cond.selects "LinkPredictor$Hierarchy" ({ cls := "LinkPredictor$Hierarchy", name := "superOf", desc := "(I)I" } : Jvm.MethodName) ({ cls := "LinkPredictor$Hierarchy", name := "superOf", desc := "(I)I" } : Jvm.MethodName)) ∈ TT := mT (mL2 (List.mem_of_getElem? (i := 107) rfl)) rfl
theorem mw_2_108 : (Jvm.Cond.code ({ cls := "LinkPredictor$Hierarchy", name := "superOf", desc := "(I)I" } : Jvm.MethodName) prog_3_method_9_code (2 : Nat) (Option.some Jvm.ClassFile.FieldType.int)) ∈ TT := mT (mL2 (List.mem_of_getElem? (i := 108) rfl)) rfl
theorem mw_2_109 : (Jvm.Cond.methodLink "LinkPredictor$Build" (82 : Nat) ({ cls := "LinkPredictor$Build", name := "lookUpMethod", desc := "(LLinkPredictor$Reference;)I" } : Jvm.MethodName)) ∈ TT := mT (mL2 (List.mem_of_getElem? (i := 109) rfl)) rfl
theorem nw_2_110 : (Jvm.Cond.privateMethod ({ cls := "LinkPredictor$Build", name := "lookUpMethod", desc := "(LLinkPredictor$Reference;)I" } : Jvm.MethodName)) ∈ lw_tbl := mL2 (List.mem_of_getElem? (i := 110) rfl)
theorem mw_2_111 : (Jvm.Cond.instanceMethod ({ cls := "LinkPredictor$Build", name := "lookUpMethod", desc := "(LLinkPredictor$Reference;)I" } : Jvm.MethodName)) ∈ TT := mT (mL2 (List.mem_of_getElem? (i := 111) rfl)) rfl
theorem mw_2_112 : (Jvm.Cond.code ({ cls := "LinkPredictor$Build", name := "lookUpMethod", desc := "(LLinkPredictor$Reference;)I" } : Jvm.MethodName) prog_2_method_9_code (4 : Nat) (Option.some Jvm.ClassFile.FieldType.int)) ∈ TT := mT (mL2 (List.mem_of_getElem? (i := 112) rfl)) rfl
theorem mw_2_113 : (Jvm.Cond.methodLink "LinkPredictor$Build" (127 : Nat) ({ cls := "LinkPredictor$Hierarchy", name := "isInterface", desc := "(I)Z" } : Jvm.MethodName)) ∈ TT := mT (mL2 (List.mem_of_getElem? (i := 113) rfl)) rfl
theorem mw_2_114 : (Jvm.Cond.methodLink "LinkPredictor$Build" (130 : Nat) ({ cls := "LinkPredictor$Build", name := "findInInterface", desc := "(II)I" } : Jvm.MethodName)) ∈ TT := mT (mL2 (List.mem_of_getElem? (i := 114) rfl)) rfl
theorem nw_2_115 : (Jvm.Cond.privateMethod ({ cls := "LinkPredictor$Build", name := "findInInterface", desc := "(II)I" } : Jvm.MethodName)) ∈ lw_tbl := mL2 (List.mem_of_getElem? (i := 115) rfl)
theorem mw_2_116 : (Jvm.Cond.instanceMethod ({ cls := "LinkPredictor$Build", name := "findInInterface", desc := "(II)I" } : Jvm.MethodName)) ∈ TT := mT (mL2 (List.mem_of_getElem? (i := 116) rfl)) rfl
theorem mw_2_117 : (Jvm.Cond.code ({ cls := "LinkPredictor$Build", name := "findInInterface", desc := "(II)I" } : Jvm.MethodName) prog_2_method_10_code (5 : Nat) (Option.some Jvm.ClassFile.FieldType.int)) ∈ TT := mT (mL2 (List.mem_of_getElem? (i := 117) rfl)) rfl
theorem mw_2_118 : (Jvm.Cond.methodLink "LinkPredictor$Build" (96 : Nat) ({ cls := "LinkPredictor$Members", name := "accessOf", desc := "(I)I" } : Jvm.MethodName)) ∈ TT := mT (mL2 (List.mem_of_getElem? (i := 118) rfl)) rfl
theorem mw_2_119 : (Jvm.Cond.instanceMethod ({ cls := "LinkPredictor$Members", name := "accessOf", desc := "(I)I" } : Jvm.MethodName)) ∈ TT := mT (mL2 (List.mem_of_getElem? (i := 119) rfl)) rfl
theorem mw_2_120 : (Jvm.Cond.selects "LinkPredictor$Members" ({ cls := "LinkPredictor$Members", name := "accessOf", desc := "(I)I" } : Jvm.MethodName) ({ cls := "LinkPredictor$Members", name := "accessOf", desc := "(I)I" } : Jvm.MethodName)) ∈ TT := mT (mL2 (List.mem_of_getElem? (i := 120) rfl)) rfl
theorem mw_2_121 : (Jvm.Cond.code ({ cls := "LinkPredictor$Members", name := "accessOf", desc := "(I)I" } : Jvm.MethodName) prog_4_method_15_code (2 : Nat) (Option.some Jvm.ClassFile.FieldType.int)) ∈ TT := mT (mL2 (List.mem_of_getElem? (i := 121) rfl)) rfl
theorem mw_2_122 : (Jvm.Cond.methodLink "LinkPredictor$Build" (139 : Nat) ({ cls := "LinkPredictor$Members", name := "isStatic", desc := "(I)Z" } : Jvm.MethodName)) ∈ TT := mT (mL2 (List.mem_of_getElem? (i := 122) rfl)) rfl
theorem mw_2_123 : (Jvm.Cond.instanceMethod ({ cls := "LinkPredictor$Members", name := "isStatic", desc := "(I)Z" } : Jvm.MethodName)) ∈ TT := mT (mL2 (List.mem_of_getElem? (i := 123) rfl)) rfl
theorem mw_2_124 : (Jvm.Cond.selects "LinkPredictor$Members" ({ cls := "LinkPredictor$Members", name := "isStatic", desc := "(I)Z" } : Jvm.MethodName) ({ cls := "LinkPredictor$Members", name := "isStatic", desc := "(I)Z" } : Jvm.MethodName)) ∈ TT := mT (mL2 (List.mem_of_getElem? (i := 124) rfl)) rfl
theorem mw_2_125 : (Jvm.Cond.code ({ cls := "LinkPredictor$Members", name := "isStatic", desc := "(I)Z" } : Jvm.MethodName) prog_4_method_11_code (2 : Nat) (Option.some Jvm.ClassFile.FieldType.boolean)) ∈ TT := mT (mL2 (List.mem_of_getElem? (i := 125) rfl)) rfl
theorem mw_2_126 : (Jvm.Cond.methodLink "LinkPredictor$Build" (133 : Nat) ({ cls := "LinkPredictor$Build", name := "findInAbove", desc := "(II)I" } : Jvm.MethodName)) ∈ TT := mT (mL2 (List.mem_of_getElem? (i := 126) rfl)) rfl
theorem nw_2_127 : (Jvm.Cond.privateMethod ({ cls := "LinkPredictor$Build", name := "findInAbove", desc := "(II)I" } : Jvm.MethodName)) ∈ lw_tbl := mL2 (List.mem_of_getElem? (i := 127) rfl)
theorem mw_2_128 : (Jvm.Cond.instanceMethod ({ cls := "LinkPredictor$Build", name := "findInAbove", desc := "(II)I" } : Jvm.MethodName)) ∈ TT := mT (mL2 (List.mem_of_getElem? (i := 128) rfl)) rfl
theorem mw_2_129 : (Jvm.Cond.code ({ cls := "LinkPredictor$Build", name := "findInAbove", desc := "(II)I" } : Jvm.MethodName) prog_2_method_11_code (6 : Nat) (Option.some Jvm.ClassFile.FieldType.int)) ∈ TT := mT (mL2 (List.mem_of_getElem? (i := 129) rfl)) rfl
theorem mw_2_130 : (Jvm.Cond.methodLink "LinkPredictor$Build" (136 : Nat) ({ cls := "LinkPredictor$Build", name := "findBest", desc := "(II)I" } : Jvm.MethodName)) ∈ TT := mT (mL2 (List.mem_of_getElem? (i := 130) rfl)) rfl
theorem nw_2_131 : (Jvm.Cond.privateMethod ({ cls := "LinkPredictor$Build", name := "findBest", desc := "(II)I" } : Jvm.MethodName)) ∈ lw_tbl := mL2 (List.mem_of_getElem? (i := 131) rfl)
theorem mw_2_132 : (Jvm.Cond.instanceMethod ({ cls := "LinkPredictor$Build", name := "findBest", desc := "(II)I" } : Jvm.MethodName)) ∈ TT := mT (mL2 (List.mem_of_getElem? (i := 132) rfl)) rfl
theorem mw_2_133 : (Jvm.Cond.code ({ cls := "LinkPredictor$Build", name := "findBest", desc := "(II)I" } : Jvm.MethodName) prog_2_method_12_code (5 : Nat) (Option.some Jvm.ClassFile.FieldType.int)) ∈ TT := mT (mL2 (List.mem_of_getElem? (i := 133) rfl)) rfl
theorem mw_2_134 : (Jvm.Cond.methodLink "LinkPredictor$Build" (142 : Nat) ({ cls := "LinkPredictor$Hierarchy", name := "facesOf", desc := "(I)I" } : Jvm.MethodName)) ∈ TT := mT (mL2 (List.mem_of_getElem? (i := 134) rfl)) rfl
theorem mw_2_135 : (Jvm.Cond.instanceMethod ({ cls := "LinkPredictor$Hierarchy", name := "facesOf", desc := "(I)I" } : Jvm.MethodName)) ∈ TT := mT (mL2 (List.mem_of_getElem? (i := 135) rfl)) rfl
theorem mw_2_136 : (Jvm.Cond.selects "LinkPredictor$Hierarchy" ({ cls := "LinkPredictor$Hierarchy", name := "facesOf", desc := "(I)I" } : Jvm.MethodName) ({ cls := "LinkPredictor$Hierarchy", name := "facesOf", desc := "(I)I" } : Jvm.MethodName)) ∈ TT := mT (mL2 (List.mem_of_getElem? (i := 136) rfl)) rfl
theorem mw_2_137 : (Jvm.Cond.code ({ cls := "LinkPredictor$Hierarchy", name := "facesOf", desc := "(I)I" } : Jvm.MethodName) prog_3_method_11_code (2 : Nat) (Option.some Jvm.ClassFile.FieldType.int)) ∈ TT := mT (mL2 (List.mem_of_getElem? (i := 137) rfl)) rfl
theorem mw_2_138 : (Jvm.Cond.methodLink "LinkPredictor$Build" (145 : Nat) ({ cls := "LinkPredictor$Members", name := "ownersOfInheritable", desc := "(I)I" } : Jvm.MethodName)) ∈ TT := mT (mL2 (List.mem_of_getElem? (i := 138) rfl)) rfl
theorem mw_2_139 : (Jvm.Cond.instanceMethod ({ cls := "LinkPredictor$Members", name := "ownersOfInheritable", desc := "(I)I" } : Jvm.MethodName)) ∈ TT := mT (mL2 (List.mem_of_getElem? (i := 139) rfl)) rfl
theorem mw_2_140 : (Jvm.Cond.selects "LinkPredictor$Members" ({ cls := "LinkPredictor$Members", name := "ownersOfInheritable", desc := "(I)I" } : Jvm.MethodName) ({ cls := "LinkPredictor$Members", name := "ownersOfInheritable", desc := "(I)I" } : Jvm.MethodName)) ∈ TT := mT (mL2 (List.mem_of_getElem? (i := 140) rfl)) rfl
theorem mw_2_141 : (Jvm.Cond.code ({ cls := "LinkPredictor$Members", name := "ownersOfInheritable", desc := "(I)I" } : Jvm.MethodName) prog_4_method_8_code (5 : Nat) (Option.some Jvm.ClassFile.FieldType.int)) ∈ TT := mT (mL2 (List.mem_of_getElem? (i := 141) rfl)) rfl
theorem mw_2_142 : (Jvm.Cond.methodLink "LinkPredictor$Members" (53 : Nat) ({ cls := "LinkPredictor$Members", name := "isInheritable", desc := "(I)Z" } : Jvm.MethodName)) ∈ TT := mT (mL2 (List.mem_of_getElem? (i := 142) rfl)) rfl
theorem mw_2_143 : (Jvm.Cond.instanceMethod ({ cls := "LinkPredictor$Members", name := "isInheritable", desc := "(I)Z" } : Jvm.MethodName)) ∈ TT := mT (mL2 (List.mem_of_getElem? (i := 143) rfl)) rfl
theorem mw_2_144 : (Jvm.Cond.selects "LinkPredictor$Members" ({ cls := "LinkPredictor$Members", name := "isInheritable", desc := "(I)Z" } : Jvm.MethodName) ({ cls := "LinkPredictor$Members", name := "isInheritable", desc := "(I)Z" } : Jvm.MethodName)) ∈ TT := mT (mL2 (List.mem_of_getElem? (i := 144) rfl)) rfl
theorem mw_2_145 : (Jvm.Cond.code ({ cls := "LinkPredictor$Members", name := "isInheritable", desc := "(I)Z" } : Jvm.MethodName) prog_4_method_9_code (2 : Nat) (Option.some Jvm.ClassFile.FieldType.boolean)) ∈ TT := mT (mL2 (List.mem_of_getElem? (i := 145) rfl)) rfl
theorem mw_2_146 : (Jvm.Cond.methodLink "LinkPredictor$Build" (148 : Nat) ({ cls := "LinkPredictor$Hierarchy", name := "mostSpecificOf", desc := "(I)I" } : Jvm.MethodName)) ∈ TT := mT (mL2 (List.mem_of_getElem? (i := 146) rfl)) rfl
theorem mw_2_147 : (Jvm.Cond.instanceMethod ({ cls := "LinkPredictor$Hierarchy", name := "mostSpecificOf", desc := "(I)I" } : Jvm.MethodName)) ∈ TT := mT (mL2 (List.mem_of_getElem? (i := 147) rfl)) rfl
theorem mw_2_148 : (Jvm.Cond.selects "LinkPredictor$Hierarchy" ({ cls := "LinkPredictor$Hierarchy", name := "mostSpecificOf", desc := "(I)I" } : Jvm.MethodName) ({ cls := "LinkPredictor$Hierarchy", name := "mostSpecificOf", desc := "(I)I" } : Jvm.MethodName)) ∈ TT := mT (mL2 (List.mem_of_getElem? (i := 148) rfl)) rfl
theorem mw_2_149 : (Jvm.Cond.code ({ cls := "LinkPredictor$Hierarchy", name := "mostSpecificOf", desc := "(I)I" } : Jvm.MethodName) prog_3_method_17_code (4 : Nat) (Option.some Jvm.ClassFile.FieldType.int)) ∈ TT := mT (mL2 (List.mem_of_getElem? (i := 149) rfl)) rfl
theorem mw_2_150 : (Jvm.Cond.methodLink "LinkPredictor$Build" (151 : Nat) ({ cls := "LinkPredictor$Build", name := "findOnlyWithBody", desc := "(II)I" } : Jvm.MethodName)) ∈ TT := mT (mL2 (List.mem_of_getElem? (i := 150) rfl)) rfl
theorem nw_2_151 : (Jvm.Cond.privateMethod ({ cls := "LinkPredictor$Build", name := "findOnlyWithBody", desc := "(II)I" } : Jvm.MethodName)) ∈ lw_tbl := mL2 (List.mem_of_getElem? (i := 151) rfl)
theorem mw_2_152 : (Jvm.Cond.instanceMethod ({ cls := "LinkPredictor$Build", name := "findOnlyWithBody", desc := "(II)I" } : Jvm.MethodName)) ∈ TT := mT (mL2 (List.mem_of_getElem? (i := 152) rfl)) rfl
theorem mw_2_153 : (Jvm.Cond.code ({ cls := "LinkPredictor$Build", name := "findOnlyWithBody", desc := "(II)I" } : Jvm.MethodName) prog_2_method_14_code (6 : Nat) (Option.some Jvm.ClassFile.FieldType.int)) ∈ TT := mT (mL2 (List.mem_of_getElem? (i := 153) rfl)) rfl
theorem mw_2_154 : (Jvm.Cond.methodLink "LinkPredictor$Build" (162 : Nat) ({ cls := "LinkPredictor$Members", name := "isAbstract", desc := "(I)Z" } : Jvm.MethodName)) ∈ TT := mT (mL2 (List.mem_of_getElem? (i := 154) rfl)) rfl
theorem mw_2_155 : (Jvm.Cond.instanceMethod ({ cls := "LinkPredictor$Members", name := "isAbstract", desc := "(I)Z" } : Jvm.MethodName)) ∈ TT := mT (mL2 (List.mem_of_getElem? (i := 155) rfl)) rfl
theorem mw_2_156 : (Jvm.Cond.selects "LinkPredictor$Members" ({ cls := "LinkPredictor$Members", name := "isAbstract", desc := "(I)Z" } : Jvm.MethodName) ({ cls := "LinkPredictor$Members", name := "isAbstract", desc := "(I)Z" } : Jvm.MethodName)) ∈ TT := mT (mL2 (List.mem_of_getElem? (i := 156) rfl)) rfl
theorem mw_2_157 : (Jvm.Cond.code ({ cls := "LinkPredictor$Members", name := "isAbstract", desc := "(I)Z" } : Jvm.MethodName) prog_4_method_12_code (2 : Nat) (Option.some Jvm.ClassFile.FieldType.boolean)) ∈ TT := mT (mL2 (List.mem_of_getElem? (i := 157) rfl)) rfl
theorem mw_2_158 : (Jvm.Cond.methodLink "LinkPredictor$Build" (154 : Nat) ({ cls := "LinkPredictor$Build", name := "findLeast", desc := "(II)I" } : Jvm.MethodName)) ∈ TT := mT (mL2 (List.mem_of_getElem? (i := 158) rfl)) rfl
theorem nw_2_159 : (Jvm.Cond.privateMethod ({ cls := "LinkPredictor$Build", name := "findLeast", desc := "(II)I" } : Jvm.MethodName)) ∈ lw_tbl := mL2 (List.mem_of_getElem? (i := 159) rfl)
theorem mw_2_160 : (Jvm.Cond.instanceMethod ({ cls := "LinkPredictor$Build", name := "findLeast", desc := "(II)I" } : Jvm.MethodName)) ∈ TT := mT (mL2 (List.mem_of_getElem? (i := 160) rfl)) rfl
theorem mw_2_161 : (Jvm.Cond.code ({ cls := "LinkPredictor$Build", name := "findLeast", desc := "(II)I" } : Jvm.MethodName) prog_2_method_13_code (6 : Nat) (Option.some Jvm.ClassFile.FieldType.int)) ∈ TT := mT (mL2 (List.mem_of_getElem? (i := 161) rfl)) rfl
theorem mw_2_162 : (Jvm.Cond.methodLink "LinkPredictor$Build" (157 : Nat) ({ cls := "java/lang/Math", name := "min", desc := "(II)I" } : Jvm.MethodName)) ∈ TT := mT (mL2 (List.mem_of_getElem? (i := 162) rfl)) rfl
theorem mw_2_163 : (Jvm.Cond.static ({ cls := "java/lang/Math", name := "min", desc := "(II)I" } : Jvm.MethodName)) ∈ TT := mT (mL2 (List.mem_of_getElem? (i := 163) rfl)) rfl
theorem mw_2_164 : (Jvm.Cond.code ({ cls := "java/lang/Math", name := "min", desc := "(II)I" } : Jvm.MethodName) prog_9_method_69_code (2 : Nat) (Option.some Jvm.ClassFile.FieldType.int)) ∈ TT := mT (mL2 (List.mem_of_getElem? (i := 164) rfl)) rfl
theorem mw_2_165 : (Jvm.Cond.methodLink "LinkPredictor$Build" (85 : Nat) ({ cls := "LinkPredictor$Build", name := "checkMember", desc := "(LLinkPredictor$Reference;I)I" } : Jvm.MethodName)) ∈ TT := mT (mL2 (List.mem_of_getElem? (i := 165) rfl)) rfl
theorem nw_2_166 : (Jvm.Cond.privateMethod ({ cls := "LinkPredictor$Build", name := "checkMember", desc := "(LLinkPredictor$Reference;I)I" } : Jvm.MethodName)) ∈ lw_tbl := mL2 (List.mem_of_getElem? (i := 166) rfl)
theorem mw_2_167 : (Jvm.Cond.instanceMethod ({ cls := "LinkPredictor$Build", name := "checkMember", desc := "(LLinkPredictor$Reference;I)I" } : Jvm.MethodName)) ∈ TT := mT (mL2 (List.mem_of_getElem? (i := 167) rfl)) rfl
theorem mw_2_168 : (Jvm.Cond.code ({ cls := "LinkPredictor$Build", name := "checkMember", desc := "(LLinkPredictor$Reference;I)I" } : Jvm.MethodName) prog_2_method_15_code (3 : Nat) (Option.some Jvm.ClassFile.FieldType.int)) ∈ TT := mT (mL2 (List.mem_of_getElem? (i := 168) rfl)) rfl
theorem mw_2_169 : (Jvm.Cond.methodLink "LinkPredictor$Build" (165 : Nat) ({ cls := "LinkPredictor$Build", name := "isAccessible", desc := "(III)Z" } : Jvm.MethodName)) ∈ TT := mT (mL2 (List.mem_of_getElem? (i := 169) rfl)) rfl
theorem nw_2_170 : (Jvm.Cond.privateMethod ({ cls := "LinkPredictor$Build", name := "isAccessible", desc := "(III)Z" } : Jvm.MethodName)) ∈ lw_tbl := mL2 (List.mem_of_getElem? (i := 170) rfl)
theorem mw_2_171 : (Jvm.Cond.instanceMethod ({ cls := "LinkPredictor$Build", name := "isAccessible", desc := "(III)Z" } : Jvm.MethodName)) ∈ TT := mT (mL2 (List.mem_of_getElem? (i := 171) rfl)) rfl
theorem mw_2_172 : (Jvm.Cond.code ({ cls := "LinkPredictor$Build", name := "isAccessible", desc := "(III)Z" } : Jvm.MethodName) prog_2_method_16_code (5 : Nat) (Option.some Jvm.ClassFile.FieldType.boolean)) ∈ TT := mT (mL2 (List.mem_of_getElem? (i := 172) rfl)) rfl
theorem mw_2_173 : (Jvm.Cond.methodLink "LinkPredictor$Build" (178 : Nat) ({ cls := "LinkPredictor$Members", name := "ownerOf", desc := "(I)I" } : Jvm.MethodName)) ∈ TT := mT (mL2 (List.mem_of_getElem? (i := 173) rfl)) rfl
theorem mw_2_174 : (Jvm.Cond.instanceMethod ({ cls := "LinkPredictor$Members", name := "ownerOf", desc := "(I)I" } : Jvm.MethodName)) ∈ TT := mT (mL2 (List.mem_of_getElem? (i := 174) rfl)) rfl
theorem mw_2_175 : (Jvm.Cond.selects "LinkPredictor$Members" ({ cls := "LinkPredictor$Members", name := "ownerOf", desc := "(I)I" } : Jvm.MethodName) ({ cls := "LinkPredictor$Members", name := "ownerOf", desc := "(I)I" } : Jvm.MethodName)) ∈ TT := mT (mL2 (List.mem_of_getElem? (i := 175) rfl)) rfl
theorem mw_2_176 : (Jvm.Cond.code ({ cls := "LinkPredictor$Members", name := "ownerOf", desc := "(I)I" } : Jvm.MethodName) prog_4_method_14_code (2 : Nat) (Option.some Jvm.ClassFile.FieldType.int)) ∈ TT := mT (mL2 (List.mem_of_getElem? (i := 176) rfl)) rfl
theorem mw_2_177 : (Jvm.Cond.methodLink "LinkPredictor$Build" (184 : Nat) ({ cls := "LinkPredictor$Hierarchy", name := "isSamePackage", desc := "(II)Z" } : Jvm.MethodName)) ∈ TT := mT (mL2 (List.mem_of_getElem? (i := 177) rfl)) rfl
theorem mw_2_178 : (Jvm.Cond.methodLink "LinkPredictor$Build" (187 : Nat) ({ cls := "LinkPredictor$Build", name := "isInherited", desc := "(III)Z" } : Jvm.MethodName)) ∈ TT := mT (mL2 (List.mem_of_getElem? (i := 178) rfl)) rfl
theorem nw_2_179 : (Jvm.Cond.privateMethod ({ cls := "LinkPredictor$Build", name := "isInherited", desc := "(III)Z" } : Jvm.MethodName)) ∈ lw_tbl := mL2 (List.mem_of_getElem? (i := 179) rfl)
theorem mw_2_180 : (Jvm.Cond.instanceMethod ({ cls := "LinkPredictor$Build", name := "isInherited", desc := "(III)Z" } : Jvm.MethodName)) ∈ TT := mT (mL2 (List.mem_of_getElem? (i := 180) rfl)) rfl
theorem mw_2_181 : (Jvm.Cond.code ({ cls := "LinkPredictor$Build", name := "isInherited", desc := "(III)Z" } : Jvm.MethodName) prog_2_method_17_code (4 : Nat) (Option.some Jvm.ClassFile.FieldType.boolean)) ∈ TT := mT (mL2 (List.mem_of_getElem? (i := 181) rfl)) rfl
theorem mw_2_182 : (Jvm.Cond.methodLink "LinkPredictor$Build" (193 : Nat) ({ cls := "LinkPredictor$Hierarchy", name := "hasAbove", desc := "(II)Z" } : Jvm.MethodName)) ∈ TT := mT (mL2 (List.mem_of_getElem? (i := 182) rfl)) rfl
theorem mw_2_183 : (Jvm.Cond.instanceMethod ({ cls := "LinkPredictor$Hierarchy", name := "hasAbove", desc := "(II)Z" } : Jvm.MethodName)) ∈ TT := mT (mL2 (List.mem_of_getElem? (i := 183) rfl)) rfl
theorem mw_2_184 : (Jvm.Cond.selects "LinkPredictor$Hierarchy" ({ cls := "LinkPredictor$Hierarchy", name := "hasAbove", desc := "(II)Z" } : Jvm.MethodName) ({ cls := "LinkPredictor$Hierarchy", name := "hasAbove", desc := "(II)Z" } : Jvm.MethodName)) ∈ TT := mT (mL2 (List.mem_of_getElem? (i := 184) rfl)) rfl
theorem mw_2_185 : (Jvm.Cond.code ({ cls := "LinkPredictor$Hierarchy", name := "hasAbove", desc := "(II)Z" } : Jvm.MethodName) prog_3_method_15_code (3 : Nat) (Option.some Jvm.ClassFile.FieldType.boolean)) ∈ TT := mT (mL2 (List.mem_of_getElem? (i := 185) rfl)) rfl
theorem mw_2_186 : (Jvm.Cond.methodLink "LinkPredictor$Build" (181 : Nat) ({ cls := "LinkPredictor$Hierarchy", name := "liesUnder", desc := "(II)Z" } : Jvm.MethodName)) ∈ TT := mT (mL2 (List.mem_of_getElem? (i := 186) rfl)) rfl
theorem mw_2_187 : (Jvm.Cond.instanceMethod ({ cls := "LinkPredictor$Hierarchy", name := "liesUnder", desc := "(II)Z" } : Jvm.MethodName)) ∈ TT := mT (mL2 (List.mem_of_getElem? (i := 187) rfl)) rfl
theorem mw_2_188 : (Jvm.Cond.selects "LinkPredictor$Hierarchy" ({ cls := "LinkPredictor$Hierarchy", name := "liesUnder", desc := "(II)Z" } : Jvm.MethodName) ({ cls := "LinkPredictor$Hierarchy", name := "liesUnder", desc := "(II)Z" } : Jvm.MethodName)) ∈ TT := mT (mL2 (List.mem_of_getElem? (i := 188) rfl)) rfl
theorem mw_2_189 : (Jvm.Cond.code ({ cls := "LinkPredictor$Hierarchy", name := "liesUnder", desc := "(II)Z" } : Jvm.MethodName) prog_3_method_16_code (3 : Nat) (Option.some Jvm.ClassFile.FieldType.boolean)) ∈ TT := mT (mL2 (List.mem_of_getElem? (i := 189) rfl)) rfl
theorem mw_2_190 : (Jvm.Cond.methodLink "LinkPredictor$Build" (190 : Nat) ({ cls := "LinkPredictor$Hierarchy", name := "nestOf", desc := "(I)I" } : Jvm.MethodName)) ∈ TT := mT (mL2 (List.mem_of_getElem? (i := 190) rfl)) rfl
theorem mw_2_191 : (Jvm.Cond.instanceMethod ({ cls := "LinkPredictor$Hierarchy", name := "nestOf", desc := "(I)I" } : Jvm.MethodName)) ∈ TT := mT (mL2 (List.mem_of_getElem? (i := 191) rfl)) rfl
theorem mw_2_192 : (Jvm.Cond.selects "LinkPredictor$Hierarchy" ({ cls := "LinkPredictor$Hierarchy", name := "nestOf", desc := "(I)I" } : Jvm.MethodName) ({ cls := "LinkPredictor$Hierarchy", name := "nestOf", desc := "(I)I" } : Jvm.MethodName)) ∈ TT := mT (mL2 (List.mem_of_getElem? (i := 192) rfl)) rfl
theorem mw_2_193 : (Jvm.Cond.code ({ cls := "LinkPredictor$Hierarchy", name := "nestOf", desc := "(I)I" } : Jvm.MethodName) prog_3_method_18_code (3 : Nat) (Option.some Jvm.ClassFile.FieldType.int)) ∈ TT := mT (mL2 (List.mem_of_getElem? (i := 193) rfl)) rfl
theorem mw_2_194 : (Jvm.Cond.methodLink "LinkPredictor$Build" (169 : Nat) ({ cls := "LinkPredictor$Reference", name := "needsStatic", desc := "()Z" } : Jvm.MethodName)) ∈ TT := mT (mL2 (List.mem_of_getElem? (i := 194) rfl)) rfl
theorem mw_2_195 : (Jvm.Cond.instanceMethod ({ cls := "LinkPredictor$Reference", name := "needsStatic", desc := "()Z" } : Jvm.MethodName)) ∈ TT := mT (mL2 (List.mem_of_getElem? (i := 195) rfl)) rfl
theorem mw_2_196 : (Jvm.Cond.selects "LinkPredictor$Reference" ({ cls := "LinkPredictor$Reference", name := "needsStatic", desc := "()Z" } : Jvm.MethodName) ({ cls := "LinkPredictor$Reference", name := "needsStatic", desc := "()Z" } : Jvm.MethodName)) ∈ TT := mT (mL2 (List.mem_of_getElem? (i := 196) rfl)) rfl
theorem mw_2_197 : (Jvm.Cond.code ({ cls := "LinkPredictor$Reference", name := "needsStatic", desc := "()Z" } : Jvm.MethodName) prog_5_method_5_code (1 : Nat) (Option.some Jvm.ClassFile.FieldType.boolean)) ∈ TT := mT (mL2 (List.mem_of_getElem? (i := 197) rfl)) rfl
theorem mw_2_198 : (Jvm.Cond.methodLink "LinkPredictor$Build" (172 : Nat) ({ cls := "LinkPredictor$Reference", name := "isPut", desc := "()Z" } : Jvm.MethodName)) ∈ TT := mT (mL2 (List.mem_of_getElem? (i := 198) rfl)) rfl
theorem mw_2_199 : (Jvm.Cond.instanceMethod ({ cls := "LinkPredictor$Reference", name := "isPut", desc := "()Z" } : Jvm.MethodName)) ∈ TT := mT (mL2 (List.mem_of_getElem? (i := 199) rfl)) rfl
theorem mw_2_200 : (Jvm.Cond.selects "LinkPredictor$Reference" ({ cls := "LinkPredictor$Reference", name := "isPut", desc := "()Z" } : Jvm.MethodName) ({ cls := "LinkPredictor$Reference", name := "isPut", desc := "()Z" } : Jvm.MethodName)) ∈ TT := mT (mL2 (List.mem_of_getElem? (i := 200) rfl)) rfl
theorem mw_2_201 : (Jvm.Cond.code ({ cls := "LinkPredictor$Reference", name := "isPut", desc := "()Z" } : Jvm.MethodName) prog_5_method_4_code (1 : Nat) (Option.some Jvm.ClassFile.FieldType.boolean)) ∈ TT := mT (mL2 (List.mem_of_getElem? (i := 201) rfl)) rfl
theorem mw_2_202 : (Jvm.Cond.methodLink "LinkPredictor$Build" (175 : Nat) ({ cls := "LinkPredictor$Members", name := "isFinal", desc := "(I)Z" } : Jvm.MethodName)) ∈ TT := mT (mL2 (List.mem_of_getElem? (i := 202) rfl)) rfl
theorem mw_2_203 : (Jvm.Cond.instanceMethod ({ cls := "LinkPredictor$Members", name := "isFinal", desc := "(I)Z" } : Jvm.MethodName)) ∈ TT := mT (mL2 (List.mem_of_getElem? (i := 203) rfl)) rfl
theorem mw_2_204 : (Jvm.Cond.selects "LinkPredictor$Members" ({ cls := "LinkPredictor$Members", name := "isFinal", desc := "(I)Z" } : Jvm.MethodName) ({ cls := "LinkPredictor$Members", name := "isFinal", desc := "(I)Z" } : Jvm.MethodName)) ∈ TT := mT (mL2 (List.mem_of_getElem? (i := 204) rfl)) rfl
theorem mw_2_205 : (Jvm.Cond.code ({ cls := "LinkPredictor$Members", name := "isFinal", desc := "(I)Z" } : Jvm.MethodName) prog_4_method_13_code (2 : Nat) (Option.some Jvm.ClassFile.FieldType.boolean)) ∈ TT := mT (mL2 (List.mem_of_getElem? (i := 205) rfl)) rfl
theorem mw_2_206 : (Jvm.Cond.methodLink "LinkPredictorLaw" (69 : Nat) ({ cls := "LinkPredictor", name := "select", desc := "(III)I" } : Jvm.MethodName)) ∈ TT := mT (mL2 (List.mem_of_getElem? (i := 206) rfl)) rfl
theorem mw_2_207 : (Jvm.Cond.instanceMethod ({ cls := "LinkPredictor", name := "select", desc := "(III)I" } : Jvm.MethodName)) ∈ TT := mT (mL2 (List.mem_of_getElem? (i := 207) rfl)) rfl
theorem mw_2_208 : (Jvm.Cond.selects "LinkPredictor" ({ cls := "LinkPredictor", name := "select", desc := "(III)I" } : Jvm.MethodName) ({ cls := "LinkPredictor", name := "select", desc := "(III)I" } : Jvm.MethodName)) ∈ TT := mT (mL2 (List.mem_of_getElem? (i := 208) rfl)) rfl
theorem mw_2_209 : (Jvm.Cond.code ({ cls := "LinkPredictor", name := "select", desc := "(III)I" } : Jvm.MethodName) prog_1_method_14_code (5 : Nat) (Option.some Jvm.ClassFile.FieldType.int)) ∈ TT := mT (mL2 (List.mem_of_getElem? (i := 209) rfl)) rfl
theorem mw_2_210 : (Jvm.Cond.methodLink "LinkPredictor" (91 : Nat) ({ cls := "LinkPredictor$Build", name := "selection", desc := "(LLinkPredictor$Reference;II)I" } : Jvm.MethodName)) ∈ TT := mT (mL2 (List.mem_of_getElem? (i := 210) rfl)) rfl
theorem mw_2_211 : (Jvm.Cond.instanceMethod ({ cls := "LinkPredictor$Build", name := "selection", desc := "(LLinkPredictor$Reference;II)I" } : Jvm.MethodName)) ∈ TT := mT (mL2 (List.mem_of_getElem? (i := 211) rfl)) rfl
theorem mw_2_212 : (Jvm.Cond.selects "LinkPredictor$Build" ({ cls := "LinkPredictor$Build", name := "selection", desc := "(LLinkPredictor$Reference;II)I" } : Jvm.MethodName) ({ cls := "LinkPredictor$Build", name := "selection", desc := "(LLinkPredictor$Reference;II)I" } : Jvm.MethodName)) ∈ TT := mT (mL2 (List.mem_of_getElem? (i := 212) rfl)) rfl
theorem mw_2_213 : (Jvm.Cond.code ({ cls := "LinkPredictor$Build", name := "selection", desc := "(LLinkPredictor$Reference;II)I" } : Jvm.MethodName) prog_2_method_6_code (6 : Nat) (Option.some Jvm.ClassFile.FieldType.int)) ∈ TT := mT (mL2 (List.mem_of_getElem? (i := 213) rfl)) rfl
theorem mw_2_214 : (Jvm.Cond.methodLink "LinkPredictor$Build" (89 : Nat) ({ cls := "LinkPredictor$Reference", name := "hasReceiver", desc := "()Z" } : Jvm.MethodName)) ∈ TT := mT (mL2 (List.mem_of_getElem? (i := 214) rfl)) rfl
theorem mw_2_215 : (Jvm.Cond.instanceMethod ({ cls := "LinkPredictor$Reference", name := "hasReceiver", desc := "()Z" } : Jvm.MethodName)) ∈ TT := mT (mL2 (List.mem_of_getElem? (i := 215) rfl)) rfl
theorem mw_2_216 : (Jvm.Cond.selects "LinkPredictor$Reference" ({ cls := "LinkPredictor$Reference", name := "hasReceiver", desc := "()Z" } : Jvm.MethodName) ({ cls := "LinkPredictor$Reference", name := "hasReceiver", desc := "()Z" } : Jvm.MethodName)) ∈ TT := mT (mL2 (List.mem_of_getElem? (i := 216) rfl)) rfl
theorem mw_2_217 : (Jvm.Cond.code ({ cls := "LinkPredictor$Reference", name := "hasReceiver", desc := "()Z" } : Jvm.MethodName) prog_5_method_6_code (1 : Nat) (Option.some Jvm.ClassFile.FieldType.boolean)) ∈ TT := mT (mL2 (List.mem_of_getElem? (i := 217) rfl)) rfl
theorem mw_2_218 : (Jvm.Cond.methodLink "LinkPredictor$Build" (92 : Nat) ({ cls := "LinkPredictor$Build", name := "isFit", desc := "(II)Z" } : Jvm.MethodName)) ∈ TT := mT (mL2 (List.mem_of_getElem? (i := 218) rfl)) rfl
theorem nw_2_219 : (Jvm.Cond.privateMethod ({ cls := "LinkPredictor$Build", name := "isFit", desc := "(II)Z" } : Jvm.MethodName)) ∈ lw_tbl := mL2 (List.mem_of_getElem? (i := 219) rfl)
theorem mw_2_220 : (Jvm.Cond.instanceMethod ({ cls := "LinkPredictor$Build", name := "isFit", desc := "(II)Z" } : Jvm.MethodName)) ∈ TT := mT (mL2 (List.mem_of_getElem? (i := 220) rfl)) rfl
theorem mw_2_221 : (Jvm.Cond.code ({ cls := "LinkPredictor$Build", name := "isFit", desc := "(II)Z" } : Jvm.MethodName) prog_2_method_18_code (3 : Nat) (Option.some Jvm.ClassFile.FieldType.boolean)) ∈ TT := mT (mL2 (List.mem_of_getElem? (i := 221) rfl)) rfl
theorem mw_2_222 : (Jvm.Cond.methodLink "LinkPredictor$Build" (196 : Nat) ({ cls := "LinkPredictor$Hierarchy", name := "canBeMade", desc := "(I)Z" } : Jvm.MethodName)) ∈ TT := mT (mL2 (List.mem_of_getElem? (i := 222) rfl)) rfl
theorem mw_2_223 : (Jvm.Cond.instanceMethod ({ cls := "LinkPredictor$Hierarchy", name := "canBeMade", desc := "(I)Z" } : Jvm.MethodName)) ∈ TT := mT (mL2 (List.mem_of_getElem? (i := 223) rfl)) rfl
theorem mw_2_224 : (Jvm.Cond.selects "LinkPredictor$Hierarchy" ({ cls := "LinkPredictor$Hierarchy", name := "canBeMade", desc := "(I)Z" } : Jvm.MethodName) ({ cls := "LinkPredictor$Hierarchy", name := "canBeMade", desc := "(I)Z" } : Jvm.MethodName)) ∈ TT := mT (mL2 (List.mem_of_getElem? (i := 224) rfl)) rfl
theorem mw_2_225 : (Jvm.Cond.code ({ cls := "LinkPredictor$Hierarchy", name := "canBeMade", desc := "(I)Z" } : Jvm.MethodName) prog_3_method_8_code (2 : Nat) (Option.some Jvm.ClassFile.FieldType.boolean)) ∈ TT := mT (mL2 (List.mem_of_getElem? (i := 225) rfl)) rfl
theorem mw_2_226 : (Jvm.Cond.methodLink "LinkPredictor$Build" (102 : Nat) ({ cls := "LinkPredictor$Build", name := "selectFor", desc := "(III)I" } : Jvm.MethodName)) ∈ TT := mT (mL2 (List.mem_of_getElem? (i := 226) rfl)) rfl
theorem nw_2_227 : (Jvm.Cond.privateMethod ({ cls := "LinkPredictor$Build", name := "selectFor", desc := "(III)I" } : Jvm.MethodName)) ∈ lw_tbl := mL2 (List.mem_of_getElem? (i := 227) rfl)
theorem mw_2_228 : (Jvm.Cond.instanceMethod ({ cls := "LinkPredictor$Build", name := "selectFor", desc := "(III)I" } : Jvm.MethodName)) ∈ TT := mT (mL2 (List.mem_of_getElem? (i := 228) rfl)) rfl
theorem mw_2_229 : (Jvm.Cond.code ({ cls := "LinkPredictor$Build", name := "selectFor", desc := "(III)I" } : Jvm.MethodName) prog_2_method_19_code (7 : Nat) (Option.some Jvm.ClassFile.FieldType.int)) ∈ TT := mT (mL2 (List.mem_of_getElem? (i := 229) rfl)) rfl
theorem mw_2_230 : (Jvm.Cond.methodLink "LinkPredictor$Build" (199 : Nat) ({ cls := "LinkPredictor$Build", name := "overrides", desc := "(II)Z" } : Jvm.MethodName)) ∈ TT := mT (mL2 (List.mem_of_getElem? (i := 230) rfl)) rfl
theorem nw_2_231 : (Jvm.Cond.privateMethod ({ cls := "LinkPredictor$Build", name := "overrides", desc := "(II)Z" } : Jvm.MethodName)) ∈ lw_tbl := mL2 (List.mem_of_getElem? (i := 231) rfl)
theorem mw_2_232 : (Jvm.Cond.instanceMethod ({ cls := "LinkPredictor$Build", name := "overrides", desc := "(II)Z" } : Jvm.MethodName)) ∈ TT := mT (mL2 (List.mem_of_getElem? (i := 232) rfl)) rfl
theorem mw_2_233 : (Jvm.Cond.code ({ cls := "LinkPredictor$Build", name := "overrides", desc := "(II)Z" } : Jvm.MethodName) prog_2_method_21_code (3 : Nat) (Option.some Jvm.ClassFile.FieldType.boolean)) ∈ TT := mT (mL2 (List.mem_of_getElem? (i := 233) rfl)) rfl
theorem mw_2_234 : (Jvm.Cond.methodLink "LinkPredictor$Build" (205 : Nat) ({ cls := "LinkPredictor$Members", name := "isInheritable", desc := "(I)Z" } : Jvm.MethodName)) ∈ TT := mT (mL2 (List.mem_of_getElem? (i := 234) rfl)) rfl
theorem mw_2_235 : (Jvm.Cond.methodLink "LinkPredictor$Build" (202 : Nat) ({ cls := "LinkPredictor$Build", name := "selectFromFaces", desc := "(II)I" } : Jvm.MethodName)) ∈ TT := mT (mL2 (List.mem_of_getElem? (i := 235) rfl)) rfl
theorem nw_2_236 : (Jvm.Cond.privateMethod ({ cls := "LinkPredictor$Build", name := "selectFromFaces", desc := "(II)I" } : Jvm.MethodName)) ∈ lw_tbl := mL2 (List.mem_of_getElem? (i := 236) rfl)
theorem mw_2_237 : (Jvm.Cond.instanceMethod ({ cls := "LinkPredictor$Build", name := "selectFromFaces", desc := "(II)I" } : Jvm.MethodName)) ∈ TT := mT (mL2 (List.mem_of_getElem? (i := 237) rfl)) rfl
theorem mw_2_238 : (Jvm.Cond.code ({ cls := "LinkPredictor$Build", name := "selectFromFaces", desc := "(II)I" } : Jvm.MethodName) prog_2_method_20_code (5 : Nat) (Option.some Jvm.ClassFile.FieldType.int)) ∈ TT := mT (mL2 (List.mem_of_getElem? (i := 238) rfl)) rfl
theorem mw_2_239 : (Jvm.Cond.methodLink "LinkPredictor$Build" (106 : Nat) ({ cls := "LinkPredictor$Build", name := "checkSelected", desc := "(LLinkPredictor$Reference;I)I" } : Jvm.MethodName)) ∈ TT := mT (mL2 (List.mem_of_getElem? (i := 239) rfl)) rfl
theorem nw_3_0 : (Jvm.Cond.privateMethod ({ cls := "LinkPredictor$Build", name := "checkSelected", desc := "(LLinkPredictor$Reference;I)I" } : Jvm.MethodName)) ∈ lw_tbl := mL3 (List.mem_of_getElem? (i := 0) rfl)
theorem mw_3_1 : (Jvm.Cond.instanceMethod ({ cls := "LinkPredictor$Build", name := "checkSelected", desc := "(LLinkPredictor$Reference;I)I" } : Jvm.MethodName)) ∈ TT := mT (mL3 (List.mem_of_getElem? (i := 1) rfl)) rfl
theorem mw_3_2 : (Jvm.Cond.code ({ cls := "LinkPredictor$Build", name := "checkSelected", desc := "(LLinkPredictor$Reference;I)I" } : Jvm.MethodName) prog_2_method_22_code (4 : Nat) (Option.some Jvm.ClassFile.FieldType.int)) ∈ TT := mT (mL3 (List.mem_of_getElem? (i := 2) rfl)) rfl
theorem mw_3_3 : (Jvm.Cond.methodLink "LinkPredictorLaw" (74 : Nat) ({ cls := "LinkPredictor", name := "compare", desc := "(I)I" } : Jvm.MethodName)) ∈ TT := mT (mL3 (List.mem_of_getElem? (i := 3) rfl)) rfl
theorem mw_3_4 : (Jvm.Cond.instanceMethod ({ cls := "LinkPredictor", name := "compare", desc := "(I)I" } : Jvm.MethodName)) ∈ TT := mT (mL3 (List.mem_of_getElem? (i := 4) rfl)) rfl
theorem mw_3_5 : (Jvm.Cond.selects "LinkPredictor" ({ cls := "LinkPredictor", name := "compare", desc := "(I)I" } : Jvm.MethodName) ({ cls := "LinkPredictor", name := "compare", desc := "(I)I" } : Jvm.MethodName)) ∈ TT := mT (mL3 (List.mem_of_getElem? (i := 5) rfl)) rfl
theorem mw_3_6 : (Jvm.Cond.code ({ cls := "LinkPredictor", name := "compare", desc := "(I)I" } : Jvm.MethodName) prog_1_method_15_code (4 : Nat) (Option.some Jvm.ClassFile.FieldType.int)) ∈ TT := mT (mL3 (List.mem_of_getElem? (i := 6) rfl)) rfl
theorem mw_3_7 : (Jvm.Cond.methodLink "LinkPredictor" (95 : Nat) ({ cls := "LinkPredictor", name := "areAlike", desc := "(II)Z" } : Jvm.MethodName)) ∈ TT := mT (mL3 (List.mem_of_getElem? (i := 7) rfl)) rfl
theorem nw_3_8 : (Jvm.Cond.privateMethod ({ cls := "LinkPredictor", name := "areAlike", desc := "(II)Z" } : Jvm.MethodName)) ∈ lw_tbl := mL3 (List.mem_of_getElem? (i := 8) rfl)
theorem mw_3_9 : (Jvm.Cond.instanceMethod ({ cls := "LinkPredictor", name := "areAlike", desc := "(II)Z" } : Jvm.MethodName)) ∈ TT := mT (mL3 (List.mem_of_getElem? (i := 9) rfl)) rfl
theorem mw_3_10 : (Jvm.Cond.code ({ cls := "LinkPredictor", name := "areAlike", desc := "(II)Z" } : Jvm.MethodName) prog_1_method_21_code (5 : Nat) (Option.some Jvm.ClassFile.FieldType.boolean)) ∈ TT := mT (mL3 (List.mem_of_getElem? (i := 10) rfl)) rfl
theorem mw_3_11 : (Jvm.Cond.methodLink "LinkPredictor" (126 : Nat) ({ cls := "LinkPredictor$Members", name := "isSameThing", desc := "(ILLinkPredictor$Members;I)Z" } : Jvm.MethodName)) ∈ TT := mT (mL3 (List.mem_of_getElem? (i := 11) rfl)) rfl
theorem mw_3_12 : (Jvm.Cond.instanceMethod ({ cls := "LinkPredictor$Members", name := "isSameThing", desc := "(ILLinkPredictor$Members;I)Z" } : Jvm.MethodName)) ∈ TT := mT (mL3 (List.mem_of_getElem? (i := 12) rfl)) rfl
theorem mw_3_13 : (Jvm.Cond.selects "LinkPredictor$Members" ({ cls := "LinkPredictor$Members", name := "isSameThing", desc := "(ILLinkPredictor$Members;I)Z" } : Jvm.MethodName) ({ cls := "LinkPredictor$Members", name := "isSameThing", desc := "(ILLinkPredictor$Members;I)Z" } : Jvm.MethodName)) ∈ TT := mT (mL3 (List.mem_of_getElem? (i := 13) rfl)) rfl
theorem mw_3_14 : (Jvm.Cond.code ({ cls := "LinkPredictor$Members", name := "isSameThing", desc := "(ILLinkPredictor$Members;I)Z" } : Jvm.MethodName) prog_4_method_10_code (4 : Nat) (Option.some Jvm.ClassFile.FieldType.boolean)) ∈ TT := mT (mL3 (List.mem_of_getElem? (i := 14) rfl)) rfl
theorem mw_3_15 : (Jvm.Cond.methodLink "LinkPredictor" (98 : Nat) ({ cls := "LinkPredictor", name := "isGood", desc := "(I)Z" } : Jvm.MethodName)) ∈ TT := mT (mL3 (List.mem_of_getElem? (i := 15) rfl)) rfl
theorem mw_3_16 : (Jvm.Cond.methodLink "LinkPredictorLaw" (79 : Nat) ({ cls := "LinkPredictor", name := "receivers", desc := "(II)I" } : Jvm.MethodName)) ∈ TT := mT (mL3 (List.mem_of_getElem? (i := 16) rfl)) rfl
theorem mw_3_17 : (Jvm.Cond.instanceMethod ({ cls := "LinkPredictor", name := "receivers", desc := "(II)I" } : Jvm.MethodName)) ∈ TT := mT (mL3 (List.mem_of_getElem? (i := 17) rfl)) rfl
theorem mw_3_18 : (Jvm.Cond.selects "LinkPredictor" ({ cls := "LinkPredictor", name := "receivers", desc := "(II)I" } : Jvm.MethodName) ({ cls := "LinkPredictor", name := "receivers", desc := "(II)I" } : Jvm.MethodName)) ∈ TT := mT (mL3 (List.mem_of_getElem? (i := 18) rfl)) rfl
theorem mw_3_19 : (Jvm.Cond.code ({ cls := "LinkPredictor", name := "receivers", desc := "(II)I" } : Jvm.MethodName) prog_1_method_16_code (10 : Nat) (Option.some Jvm.ClassFile.FieldType.int)) ∈ TT := mT (mL3 (List.mem_of_getElem? (i := 19) rfl)) rfl
theorem mw_3_20 : (Jvm.Cond.methodLink "LinkPredictor" (101 : Nat) ({ cls := "LinkPredictor", name := "isSuchReceiver", desc := "(III)Z" } : Jvm.MethodName)) ∈ TT := mT (mL3 (List.mem_of_getElem? (i := 20) rfl)) rfl
theorem nw_3_21 : (Jvm.Cond.privateMethod ({ cls := "LinkPredictor", name := "isSuchReceiver", desc := "(III)Z" } : Jvm.MethodName)) ∈ lw_tbl := mL3 (List.mem_of_getElem? (i := 21) rfl)
theorem mw_3_22 : (Jvm.Cond.instanceMethod ({ cls := "LinkPredictor", name := "isSuchReceiver", desc := "(III)Z" } : Jvm.MethodName)) ∈ TT := mT (mL3 (List.mem_of_getElem? (i := 22) rfl)) rfl
theorem mw_3_23 : (Jvm.Cond.code ({ cls := "LinkPredictor", name := "isSuchReceiver", desc := "(III)Z" } : Jvm.MethodName) prog_1_method_20_code (4 : Nat) (Option.some Jvm.ClassFile.FieldType.boolean)) ∈ TT := mT (mL3 (List.mem_of_getElem? (i := 23) rfl)) rfl
theorem mw_3_24 : (Jvm.Cond.methodLink "LinkPredictorLaw" (83 : Nat) ({ cls := "LinkPredictor", name := "isUnder", desc := "(III)Z" } : Jvm.MethodName)) ∈ TT := mT (mL3 (List.mem_of_getElem? (i := 24) rfl)) rfl
theorem mw_3_25 : (Jvm.Cond.instanceMethod ({ cls := "LinkPredictor", name := "isUnder", desc := "(III)Z" } : Jvm.MethodName)) ∈ TT := mT (mL3 (List.mem_of_getElem? (i := 25) rfl)) rfl
theorem mw_3_26 : (Jvm.Cond.selects "LinkPredictor" ({ cls := "LinkPredictor", name := "isUnder", desc := "(III)Z" } : Jvm.MethodName) ({ cls := "LinkPredictor", name := "isUnder", desc := "(III)Z" } : Jvm.MethodName)) ∈ TT := mT (mL3 (List.mem_of_getElem? (i := 26) rfl)) rfl
theorem mw_3_27 : (Jvm.Cond.code ({ cls := "LinkPredictor", name := "isUnder", desc := "(III)Z" } : Jvm.MethodName) prog_1_method_17_code (5 : Nat) (Option.some Jvm.ClassFile.FieldType.boolean)) ∈ TT := mT (mL3 (List.mem_of_getElem? (i := 27) rfl)) rfl
theorem mw_3_28 : (Jvm.Cond.methodLink "LinkPredictor" (104 : Nat) ({ cls := "LinkPredictor$Hierarchy", name := "liesUnder", desc := "(II)Z" } : Jvm.MethodName)) ∈ TT := mT (mL3 (List.mem_of_getElem? (i := 28) rfl)) rfl
theorem mw_3_29 : (Jvm.Cond.methodLink "LinkPredictorLaw" (87 : Nat) ({ cls := "LinkPredictor", name := "count", desc := "(II)I" } : Jvm.MethodName)) ∈ TT := mT (mL3 (List.mem_of_getElem? (i := 29) rfl)) rfl
theorem mw_3_30 : (Jvm.Cond.instanceMethod ({ cls := "LinkPredictor", name := "count", desc := "(II)I" } : Jvm.MethodName)) ∈ TT := mT (mL3 (List.mem_of_getElem? (i := 30) rfl)) rfl
theorem mw_3_31 : (Jvm.Cond.selects "LinkPredictor" ({ cls := "LinkPredictor", name := "count", desc := "(II)I" } : Jvm.MethodName) ({ cls := "LinkPredictor", name := "count", desc := "(II)I" } : Jvm.MethodName)) ∈ TT := mT (mL3 (List.mem_of_getElem? (i := 31) rfl)) rfl
theorem mw_3_32 : (Jvm.Cond.code ({ cls := "LinkPredictor", name := "count", desc := "(II)I" } : Jvm.MethodName) prog_1_method_18_code (4 : Nat) (Option.some Jvm.ClassFile.FieldType.int)) ∈ TT := mT (mL3 (List.mem_of_getElem? (i := 32) rfl)) rfl
theorem mw_3_33 : (Jvm.Cond.methodLink "LinkPredictor" (107 : Nat) ({ cls := "LinkPredictor$Members", name := "countPresent", desc := "()I" } : Jvm.MethodName)) ∈ TT := mT (mL3 (List.mem_of_getElem? (i := 33) rfl)) rfl
theorem mw_3_34 : (Jvm.Cond.instanceMethod ({ cls := "LinkPredictor$Members", name := "countPresent", desc := "()I" } : Jvm.MethodName)) ∈ TT := mT (mL3 (List.mem_of_getElem? (i := 34) rfl)) rfl
theorem mw_3_35 : (Jvm.Cond.selects "LinkPredictor$Members" ({ cls := "LinkPredictor$Members", name := "countPresent", desc := "()I" } : Jvm.MethodName) ({ cls := "LinkPredictor$Members", name := "countPresent", desc := "()I" } : Jvm.MethodName)) ∈ TT := mT (mL3 (List.mem_of_getElem? (i := 35) rfl)) rfl
theorem mw_3_36 : (Jvm.Cond.code ({ cls := "LinkPredictor$Members", name := "countPresent", desc := "()I" } : Jvm.MethodName) prog_4_method_17_code (1 : Nat) (Option.some Jvm.ClassFile.FieldType.int)) ∈ TT := mT (mL3 (List.mem_of_getElem? (i := 36) rfl)) rfl
theorem mw_3_37 : (Jvm.Cond.methodLink "LinkPredictor$Members" (56 : Nat) ({ cls := "java/lang/Integer", name := "bitCount", desc := "(I)I" } : Jvm.MethodName)) ∈ TT := mT (mL3 (List.mem_of_getElem? (i := 37) rfl)) rfl
theorem mw_3_38 : (Jvm.Cond.methodLink "LinkPredictor" (110 : Nat) ({ cls := "LinkPredictor$Members", name := "countAll", desc := "()I" } : Jvm.MethodName)) ∈ TT := mT (mL3 (List.mem_of_getElem? (i := 38) rfl)) rfl
theorem mw_3_39 : (Jvm.Cond.instanceMethod ({ cls := "LinkPredictor$Members", name := "countAll", desc := "()I" } : Jvm.MethodName)) ∈ TT := mT (mL3 (List.mem_of_getElem? (i := 39) rfl)) rfl
theorem mw_3_40 : (Jvm.Cond.selects "LinkPredictor$Members" ({ cls := "LinkPredictor$Members", name := "countAll", desc := "()I" } : Jvm.MethodName) ({ cls := "LinkPredictor$Members", name := "countAll", desc := "()I" } : Jvm.MethodName)) ∈ TT := mT (mL3 (List.mem_of_getElem? (i := 40) rfl)) rfl
theorem mw_3_41 : (Jvm.Cond.code ({ cls := "LinkPredictor$Members", name := "countAll", desc := "()I" } : Jvm.MethodName) prog_4_method_16_code (1 : Nat) (Option.some Jvm.ClassFile.FieldType.int)) ∈ TT := mT (mL3 (List.mem_of_getElem? (i := 41) rfl)) rfl
theorem mw_3_42 : (Jvm.Cond.methodLink "LinkPredictor" (113 : Nat) ({ cls := "LinkPredictor", name := "countGoodReferences", desc := "(LLinkPredictor$Build;)I" } : Jvm.MethodName)) ∈ TT := mT (mL3 (List.mem_of_getElem? (i := 42) rfl)) rfl
theorem nw_3_43 : (Jvm.Cond.privateMethod ({ cls := "LinkPredictor", name := "countGoodReferences", desc := "(LLinkPredictor$Build;)I" } : Jvm.MethodName)) ∈ lw_tbl := mL3 (List.mem_of_getElem? (i := 43) rfl)
theorem mw_3_44 : (Jvm.Cond.instanceMethod ({ cls := "LinkPredictor", name := "countGoodReferences", desc := "(LLinkPredictor$Build;)I" } : Jvm.MethodName)) ∈ TT := mT (mL3 (List.mem_of_getElem? (i := 44) rfl)) rfl
theorem mw_3_45 : (Jvm.Cond.code ({ cls := "LinkPredictor", name := "countGoodReferences", desc := "(LLinkPredictor$Build;)I" } : Jvm.MethodName) prog_1_method_19_code (4 : Nat) (Option.some Jvm.ClassFile.FieldType.int)) ∈ TT := mT (mL3 (List.mem_of_getElem? (i := 45) rfl)) rfl
theorem mw_3_46 : (Jvm.Cond.methodLink "LinkPredictor" (117 : Nat) ({ cls := "LinkPredictor$Hierarchy", name := "countLoaded", desc := "()I" } : Jvm.MethodName)) ∈ TT := mT (mL3 (List.mem_of_getElem? (i := 46) rfl)) rfl
theorem mw_3_47 : (Jvm.Cond.instanceMethod ({ cls := "LinkPredictor$Hierarchy", name := "countLoaded", desc := "()I" } : Jvm.MethodName)) ∈ TT := mT (mL3 (List.mem_of_getElem? (i := 47) rfl)) rfl
theorem mw_3_48 : (Jvm.Cond.selects "LinkPredictor$Hierarchy" ({ cls := "LinkPredictor$Hierarchy", name := "countLoaded", desc := "()I" } : Jvm.MethodName) ({ cls := "LinkPredictor$Hierarchy", name := "countLoaded", desc := "()I" } : Jvm.MethodName)) ∈ TT := mT (mL3 (List.mem_of_getElem? (i := 48) rfl)) rfl
theorem mw_3_49 : (Jvm.Cond.code ({ cls := "LinkPredictor$Hierarchy", name := "countLoaded", desc := "()I" } : Jvm.MethodName) prog_3_method_20_code (1 : Nat) (Option.some Jvm.ClassFile.FieldType.int)) ∈ TT := mT (mL3 (List.mem_of_getElem? (i := 49) rfl)) rfl
theorem mw_3_50 : (Jvm.Cond.methodLink "LinkPredictor" (120 : Nat) ({ cls := "LinkPredictor$Members", name := "countAbstractMethods", desc := "()I" } : Jvm.MethodName)) ∈ TT := mT (mL3 (List.mem_of_getElem? (i := 50) rfl)) rfl
theorem mw_3_51 : (Jvm.Cond.instanceMethod ({ cls := "LinkPredictor$Members", name := "countAbstractMethods", desc := "()I" } : Jvm.MethodName)) ∈ TT := mT (mL3 (List.mem_of_getElem? (i := 51) rfl)) rfl
theorem mw_3_52 : (Jvm.Cond.selects "LinkPredictor$Members" ({ cls := "LinkPredictor$Members", name := "countAbstractMethods", desc := "()I" } : Jvm.MethodName) ({ cls := "LinkPredictor$Members", name := "countAbstractMethods", desc := "()I" } : Jvm.MethodName)) ∈ TT := mT (mL3 (List.mem_of_getElem? (i := 52) rfl)) rfl
theorem mw_3_53 : (Jvm.Cond.code ({ cls := "LinkPredictor$Members", name := "countAbstractMethods", desc := "()I" } : Jvm.MethodName) prog_4_method_18_code (3 : Nat) (Option.some Jvm.ClassFile.FieldType.int)) ∈ TT := mT (mL3 (List.mem_of_getElem? (i := 53) rfl)) rfl
theorem mw_3_54 : (Jvm.Cond.methodLink "LinkPredictor$Members" (61 : Nat) ({ cls := "LinkPredictor$Members", name := "isAbstract", desc := "(I)Z" } : Jvm.MethodName)) ∈ TT := mT (mL3 (List.mem_of_getElem? (i := 54) rfl)) rfl
theorem mw_3_55 : (Jvm.Cond.methodLink "LinkPredictor" (123 : Nat) ({ cls := "LinkPredictor$Hierarchy", name := "nestSharers", desc := "()I" } : Jvm.MethodName)) ∈ TT := mT (mL3 (List.mem_of_getElem? (i := 55) rfl)) rfl
theorem mw_3_56 : (Jvm.Cond.instanceMethod ({ cls := "LinkPredictor$Hierarchy", name := "nestSharers", desc := "()I" } : Jvm.MethodName)) ∈ TT := mT (mL3 (List.mem_of_getElem? (i := 56) rfl)) rfl
theorem mw_3_57 : (Jvm.Cond.selects "LinkPredictor$Hierarchy" ({ cls := "LinkPredictor$Hierarchy", name := "nestSharers", desc := "()I" } : Jvm.MethodName) ({ cls := "LinkPredictor$Hierarchy", name := "nestSharers", desc := "()I" } : Jvm.MethodName)) ∈ TT := mT (mL3 (List.mem_of_getElem? (i := 57) rfl)) rfl
theorem mw_3_58 : (Jvm.Cond.code ({ cls := "LinkPredictor$Hierarchy", name := "nestSharers", desc := "()I" } : Jvm.MethodName) prog_3_method_21_code (4 : Nat) (Option.some Jvm.ClassFile.FieldType.int)) ∈ TT := mT (mL3 (List.mem_of_getElem? (i := 58) rfl)) rfl
theorem mw_3_59 : (Jvm.Cond.methodLink "LinkPredictor$Hierarchy" (75 : Nat) ({ cls := "LinkPredictor$Hierarchy", name := "nestOf", desc := "(I)I" } : Jvm.MethodName)) ∈ TT := mT (mL3 (List.mem_of_getElem? (i := 59) rfl)) rfl
theorem mw_3_60 : (Jvm.Cond.classLink "LinkPredictorLaw" (10 : Nat) "LinkPredictorModel") ∈ TT := mT (mL3 (List.mem_of_getElem? (i := 60) rfl)) rfl
theorem mw_3_61 : (Jvm.Cond.instantiable "LinkPredictorModel" (21 : Nat)) ∈ TT := mT (mL3 (List.mem_of_getElem? (i := 61) rfl)) rfl
theorem mw_3_62 : (Jvm.Cond.methodLink "LinkPredictorLaw" (12 : Nat) ({ cls := "LinkPredictorModel", name := "<init>", desc := "()V" } : Jvm.MethodName)) ∈ TT := mT (mL3 (List.mem_of_getElem? (i := 62) rfl)) rfl
theorem mw_3_63 : (Jvm.Cond.instanceMethod ({ cls := "LinkPredictorModel", name := "<init>", desc := "()V" } : Jvm.MethodName)) ∈ TT := mT (mL3 (List.mem_of_getElem? (i := 63) rfl)) rfl
theorem mw_3_64 : (Jvm.Cond.code ({ cls := "LinkPredictorModel", name := "<init>", desc := "()V" } : Jvm.MethodName) prog_7_method_1_code (3 : Nat) (Option.none : Option Jvm.ClassFile.FieldType)) ∈ TT := mT (mL3 (List.mem_of_getElem? (i := 64) rfl)) rfl
theorem mw_3_65 : (Jvm.Cond.methodLink "LinkPredictorModel" (1 : Nat) ({ cls := "java/lang/Object", name := "<init>", desc := "()V" } : Jvm.MethodName)) ∈ TT := mT (mL3 (List.mem_of_getElem? (i := 65) rfl)) rfl
theorem mw_3_66 : (Jvm.Cond.fieldLink "LinkPredictorModel" (7 : Nat) "LinkPredictorModel" "there" "[Z") ∈ TT := mT (mL3 (List.mem_of_getElem? (i := 66) rfl)) rfl
theorem mw_3_67 : (Jvm.Cond.fieldLink "LinkPredictorModel" (13 : Nat) "LinkPredictorModel" "flags" "[I") ∈ TT := mT (mL3 (List.mem_of_getElem? (i := 67) rfl)) rfl
theorem mw_3_68 : (Jvm.Cond.fieldLink "LinkPredictorModel" (17 : Nat) "LinkPredictorModel" "pack" "[I") ∈ TT := mT (mL3 (List.mem_of_getElem? (i := 68) rfl)) rfl
theorem mw_3_69 : (Jvm.Cond.fieldLink "LinkPredictorModel" (20 : Nat) "LinkPredictorModel" "above" "[I") ∈ TT := mT (mL3 (List.mem_of_getElem? (i := 69) rfl)) rfl
theorem mw_3_70 : (Jvm.Cond.fieldLink "LinkPredictorModel" (23 : Nat) "LinkPredictorModel" "faces" "[I") ∈ TT := mT (mL3 (List.mem_of_getElem? (i := 70) rfl)) rfl
theorem mw_3_71 : (Jvm.Cond.fieldLink "LinkPredictorModel" (26 : Nat) "LinkPredictorModel" "host" "[I") ∈ TT := mT (mL3 (List.mem_of_getElem? (i := 71) rfl)) rfl
theorem mw_3_72 : (Jvm.Cond.fieldLink "LinkPredictorModel" (29 : Nat) "LinkPredictorModel" "method" "[Z") ∈ TT := mT (mL3 (List.mem_of_getElem? (i := 72) rfl)) rfl
theorem mw_3_73 : (Jvm.Cond.fieldLink "LinkPredictorModel" (32 : Nat) "LinkPredictorModel" "gone" "[Z") ∈ TT := mT (mL3 (List.mem_of_getElem? (i := 73) rfl)) rfl
theorem mw_3_74 : (Jvm.Cond.fieldLink "LinkPredictorModel" (35 : Nat) "LinkPredictorModel" "many" "[I") ∈ TT := mT (mL3 (List.mem_of_getElem? (i := 74) rfl)) rfl
theorem mw_3_75 : (Jvm.Cond.fieldLink "LinkPredictorModel" (38 : Nat) "LinkPredictorModel" "owner" "[I") ∈ TT := mT (mL3 (List.mem_of_getElem? (i := 75) rfl)) rfl
theorem mw_3_76 : (Jvm.Cond.fieldLink "LinkPredictorModel" (41 : Nat) "LinkPredictorModel" "sign" "[I") ∈ TT := mT (mL3 (List.mem_of_getElem? (i := 76) rfl)) rfl
theorem mw_3_77 : (Jvm.Cond.fieldLink "LinkPredictorModel" (44 : Nat) "LinkPredictorModel" "access" "[I") ∈ TT := mT (mL3 (List.mem_of_getElem? (i := 77) rfl)) rfl
theorem mw_3_78 : (Jvm.Cond.fieldLink "LinkPredictorModel" (47 : Nat) "LinkPredictorModel" "marks" "[I") ∈ TT := mT (mL3 (List.mem_of_getElem? (i := 78) rfl)) rfl
theorem mw_3_79 : (Jvm.Cond.fieldLink "LinkPredictorModel" (50 : Nat) "LinkPredictorModel" "kind" "[I") ∈ TT := mT (mL3 (List.mem_of_getElem? (i := 79) rfl)) rfl
theorem mw_3_80 : (Jvm.Cond.fieldLink "LinkPredictorModel" (53 : Nat) "LinkPredictorModel" "holder" "[I") ∈ TT := mT (mL3 (List.mem_of_getElem? (i := 80) rfl)) rfl
theorem mw_3_81 : (Jvm.Cond.fieldLink "LinkPredictorModel" (56 : Nat) "LinkPredictorModel" "way" "[I") ∈ TT := mT (mL3 (List.mem_of_getElem? (i := 81) rfl)) rfl
theorem mw_3_82 : (Jvm.Cond.fieldLink "LinkPredictorModel" (59 : Nat) "LinkPredictorModel" "asked" "[I") ∈ TT := mT (mL3 (List.mem_of_getElem? (i := 82) rfl)) rfl
theorem mw_3_83 : (Jvm.Cond.fieldLink "LinkPredictorModel" (91 : Nat) "LinkPredictorModel" "references" "I") ∈ TT := mT (mL3 (List.mem_of_getElem? (i := 83) rfl)) rfl
theorem mw_3_84 : (Jvm.Cond.fieldLink "LinkPredictorModel" (68 : Nat) "LinkPredictorModel" "written" "I") ∈ TT := mT (mL3 (List.mem_of_getElem? (i := 84) rfl)) rfl
theorem mw_3_85 : (Jvm.Cond.fieldLink "LinkPredictorModel" (62 : Nat) "LinkPredictorModel" "row" "[I") ∈ TT := mT (mL3 (List.mem_of_getElem? (i := 85) rfl)) rfl
theorem mw_3_86 : (Jvm.Cond.fieldLink "LinkPredictorModel" (65 : Nat) "LinkPredictorModel" "stage" "[I") ∈ TT := mT (mL3 (List.mem_of_getElem? (i := 86) rfl)) rfl
theorem mw_3_87 : (Jvm.Cond.laysFinal "LinkPredictorModel" "LinkPredictorModel" "there" "[Z") ∈ TT := mT (mL3 (List.mem_of_getElem? (i := 87) rfl)) rfl
theorem mw_3_88 : (Jvm.Cond.soleField "LinkPredictorModel" "there") ∈ TT := mT (mL3 (List.mem_of_getElem? (i := 88) rfl)) rfl
theorem mw_3_89 : (Jvm.Cond.laysFinal "LinkPredictorModel" "LinkPredictorModel" "flags" "[I") ∈ TT := mT (mL3 (List.mem_of_getElem? (i := 89) rfl)) rfl
theorem mw_3_90 : (Jvm.Cond.soleField "LinkPredictorModel" "flags") ∈ TT := mT (mL3 (List.mem_of_getElem? (i := 90) rfl)) rfl
theorem mw_3_91 : (Jvm.Cond.laysFinal "LinkPredictorModel" "LinkPredictorModel" "pack" "[I") ∈ TT := mT (mL3 (List.mem_of_getElem? (i := 91) rfl)) rfl
theorem mw_3_92 : (Jvm.Cond.soleField "LinkPredictorModel" "pack") ∈ TT := mT (mL3 (List.mem_of_getElem? (i := 92) rfl)) rfl
theorem mw_3_93 : (Jvm.Cond.laysFinal "LinkPredictorModel" "LinkPredictorModel" "above" "[I") ∈ TT := mT (mL3 (List.mem_of_getElem? (i := 93) rfl)) rfl
theorem mw_3_94 : (Jvm.Cond.soleField "LinkPredictorModel" "above") ∈ TT := mT (mL3 (List.mem_of_getElem? (i := 94) rfl)) rfl
theorem mw_3_95 : (Jvm.Cond.laysFinal "LinkPredictorModel" "LinkPredictorModel" "faces" "[I") ∈ TT := mT (mL3 (List.mem_of_getElem? (i := 95) rfl)) rfl
theorem mw_3_96 : (Jvm.Cond.soleField "LinkPredictorModel" "faces") ∈ TT := mT (mL3 (List.mem_of_getElem? (i := 96) rfl)) rfl
theorem mw_3_97 : (Jvm.Cond.laysFinal "LinkPredictorModel" "LinkPredictorModel" "host" "[I") ∈ TT := mT (mL3 (List.mem_of_getElem? (i := 97) rfl)) rfl
theorem mw_3_98 : (Jvm.Cond.soleField "LinkPredictorModel" "host") ∈ TT := mT (mL3 (List.mem_of_getElem? (i := 98) rfl)) rfl
theorem mw_3_99 : (Jvm.Cond.laysFinal "LinkPredictorModel" "LinkPredictorModel" "method" "[Z") ∈ TT := mT (mL3 (List.mem_of_getElem? (i := 99) rfl)) rfl
theorem mw_3_100 : (Jvm.Cond.soleField "LinkPredictorModel" "method") ∈ TT := mT (mL3 (List.mem_of_getElem? (i := 100) rfl)) rfl
theorem mw_3_101 : (Jvm.Cond.laysFinal "LinkPredictorModel" "LinkPredictorModel" "gone" "[Z") ∈ TT := mT (mL3 (List.mem_of_getElem? (i := 101) rfl)) rfl
theorem mw_3_102 : (Jvm.Cond.soleField "LinkPredictorModel" "gone") ∈ TT := mT (mL3 (List.mem_of_getElem? (i := 102) rfl)) rfl
theorem mw_3_103 : (Jvm.Cond.laysFinal "LinkPredictorModel" "LinkPredictorModel" "many" "[I") ∈ TT := mT (mL3 (List.mem_of_getElem? (i := 103) rfl)) rfl
theorem mw_3_104 : (Jvm.Cond.soleField "LinkPredictorModel" "many") ∈ TT := mT (mL3 (List.mem_of_getElem? (i := 104) rfl)) rfl
theorem mw_3_105 : (Jvm.Cond.laysFinal "LinkPredictorModel" "LinkPredictorModel" "owner" "[I") ∈ TT := mT (mL3 (List.mem_of_getElem? (i := 105) rfl)) rfl
theorem mw_3_106 : (Jvm.Cond.soleField "LinkPredictorModel" "owner") ∈ TT := mT (mL3 (List.mem_of_getElem? (i := 106) rfl)) rfl
theorem mw_3_107 : (Jvm.Cond.laysFinal "LinkPredictorModel" "LinkPredictorModel" "sign" "[I") ∈ TT := mT (mL3 (List.mem_of_getElem? (i := 107) rfl)) rfl
theorem mw_3_108 : (Jvm.Cond.soleField "LinkPredictorModel" "sign") ∈ TT := mT (mL3 (List.mem_of_getElem? (i := 108) rfl)) rfl
theorem mw_3_109 : (Jvm.Cond.laysFinal "LinkPredictorModel" "LinkPredictorModel" "access" "[I") ∈ TT := mT (mL3 (List.mem_of_getElem? (i := 109) rfl)) rfl
theorem mw_3_110 : (Jvm.Cond.soleField "LinkPredictorModel" "access") ∈ TT := mT (mL3 (List.mem_of_getElem? (i := 110) rfl)) rfl
theorem mw_3_111 : (Jvm.Cond.laysFinal "LinkPredictorModel" "LinkPredictorModel" "marks" "[I") ∈ TT := mT (mL3 (List.mem_of_getElem? (i := 111) rfl)) rfl
theorem mw_3_112 : (Jvm.Cond.soleField "LinkPredictorModel" "marks") ∈ TT := mT (mL3 (List.mem_of_getElem? (i := 112) rfl)) rfl
theorem mw_3_113 : (Jvm.Cond.laysFinal "LinkPredictorModel" "LinkPredictorModel" "kind" "[I") ∈ TT := mT (mL3 (List.mem_of_getElem? (i := 113) rfl)) rfl
theorem mw_3_114 : (Jvm.Cond.soleField "LinkPredictorModel" "kind") ∈ TT := mT (mL3 (List.mem_of_getElem? (i := 114) rfl)) rfl
theorem mw_3_115 : (Jvm.Cond.laysFinal "LinkPredictorModel" "LinkPredictorModel" "holder" "[I") ∈ TT := mT (mL3 (List.mem_of_getElem? (i := 115) rfl)) rfl
theorem mw_3_116 : (Jvm.Cond.soleField "LinkPredictorModel" "holder") ∈ TT := mT (mL3 (List.mem_of_getElem? (i := 116) rfl)) rfl
theorem mw_3_117 : (Jvm.Cond.laysFinal "LinkPredictorModel" "LinkPredictorModel" "way" "[I") ∈ TT := mT (mL3 (List.mem_of_getElem? (i := 117) rfl)) rfl
theorem mw_3_118 : (Jvm.Cond.soleField "LinkPredictorModel" "way") ∈ TT := mT (mL3 (List.mem_of_getElem? (i := 118) rfl)) rfl
theorem mw_3_119 : (Jvm.Cond.laysFinal "LinkPredictorModel" "LinkPredictorModel" "asked" "[I") ∈ TT := mT (mL3 (List.mem_of_getElem? (i := 119) rfl)) rfl
theorem mw_3_120 : (Jvm.Cond.soleField "LinkPredictorModel" "asked") ∈ TT := mT (mL3 (List.mem_of_getElem? (i := 120) rfl)) rfl
theorem mw_3_121 : (Jvm.Cond.lays "LinkPredictorModel" "LinkPredictorModel" "references" "I") ∈ TT := mT (mL3 (List.mem_of_getElem? (i := 121) rfl)) rfl
theorem mw_3_122 : (Jvm.Cond.soleField "LinkPredictorModel" "references") ∈ TT := mT (mL3 (List.mem_of_getElem? (i := 122) rfl)) rfl
theorem mw_3_123 : (Jvm.Cond.lays "LinkPredictorModel" "LinkPredictorModel" "written" "I") ∈ TT := mT (mL3 (List.mem_of_getElem? (i := 123) rfl)) rfl
theorem mw_3_124 : (Jvm.Cond.soleField "LinkPredictorModel" "written") ∈ TT := mT (mL3 (List.mem_of_getElem? (i := 124) rfl)) rfl
theorem mw_3_125 : (Jvm.Cond.laysFinal "LinkPredictorModel" "LinkPredictorModel" "row" "[I") ∈ TT := mT (mL3 (List.mem_of_getElem? (i := 125) rfl)) rfl
theorem mw_3_126 : (Jvm.Cond.soleField "LinkPredictorModel" "row") ∈ TT := mT (mL3 (List.mem_of_getElem? (i := 126) rfl)) rfl
theorem mw_3_127 : (Jvm.Cond.laysFinal "LinkPredictorModel" "LinkPredictorModel" "stage" "[I") ∈ TT := mT (mL3 (List.mem_of_getElem? (i := 127) rfl)) rfl
theorem mw_3_128 : (Jvm.Cond.soleField "LinkPredictorModel" "stage") ∈ TT := mT (mL3 (List.mem_of_getElem? (i := 128) rfl)) rfl
theorem mw_3_129 : (Jvm.Cond.superclass "LinkPredictorModel" "java/lang/Object") ∈ TT := mT (mL3 (List.mem_of_getElem? (i := 129) rfl)) rfl
theorem mw_3_130 : (Jvm.Cond.arrayClass Jvm.ClassFile.FieldType.boolean) ∈ TT := mT (mL3 (List.mem_of_getElem? (i := 130) rfl)) rfl
theorem mw_3_131 : (Jvm.Cond.methodLink "LinkPredictorLaw" (17 : Nat) ({ cls := "LinkPredictorModel", name := "type", desc := "(IIIII)Z" } : Jvm.MethodName)) ∈ TT := mT (mL3 (List.mem_of_getElem? (i := 131) rfl)) rfl
theorem mw_3_132 : (Jvm.Cond.instanceMethod ({ cls := "LinkPredictorModel", name := "type", desc := "(IIIII)Z" } : Jvm.MethodName)) ∈ TT := mT (mL3 (List.mem_of_getElem? (i := 132) rfl)) rfl
theorem mw_3_133 : (Jvm.Cond.selects "LinkPredictorModel" ({ cls := "LinkPredictorModel", name := "type", desc := "(IIIII)Z" } : Jvm.MethodName) ({ cls := "LinkPredictorModel", name := "type", desc := "(IIIII)Z" } : Jvm.MethodName)) ∈ TT := mT (mL3 (List.mem_of_getElem? (i := 133) rfl)) rfl
theorem mw_3_134 : (Jvm.Cond.code ({ cls := "LinkPredictorModel", name := "type", desc := "(IIIII)Z" } : Jvm.MethodName) prog_7_method_6_code (7 : Nat) (Option.some Jvm.ClassFile.FieldType.boolean)) ∈ TT := mT (mL3 (List.mem_of_getElem? (i := 134) rfl)) rfl
theorem mw_3_135 : (Jvm.Cond.methodLink "LinkPredictorModel" (72 : Nat) ({ cls := "LinkPredictorModel", name := "in", desc := "(II)Z" } : Jvm.MethodName)) ∈ TT := mT (mL3 (List.mem_of_getElem? (i := 135) rfl)) rfl
theorem mw_3_136 : (Jvm.Cond.static ({ cls := "LinkPredictorModel", name := "in", desc := "(II)Z" } : Jvm.MethodName)) ∈ TT := mT (mL3 (List.mem_of_getElem? (i := 136) rfl)) rfl
theorem mw_3_137 : (Jvm.Cond.code ({ cls := "LinkPredictorModel", name := "in", desc := "(II)Z" } : Jvm.MethodName) prog_7_method_2_code (2 : Nat) (Option.some Jvm.ClassFile.FieldType.boolean)) ∈ TT := mT (mL3 (List.mem_of_getElem? (i := 137) rfl)) rfl
theorem mw_3_138 : (Jvm.Cond.methodLink "LinkPredictorModel" (76 : Nat) ({ cls := "LinkPredictorModel", name := "at", desc := "(I)I" } : Jvm.MethodName)) ∈ TT := mT (mL3 (List.mem_of_getElem? (i := 138) rfl)) rfl
theorem nw_3_139 : (Jvm.Cond.privateMethod ({ cls := "LinkPredictorModel", name := "at", desc := "(I)I" } : Jvm.MethodName)) ∈ lw_tbl := mL3 (List.mem_of_getElem? (i := 139) rfl)
theorem mw_3_140 : (Jvm.Cond.instanceMethod ({ cls := "LinkPredictorModel", name := "at", desc := "(I)I" } : Jvm.MethodName)) ∈ TT := mT (mL3 (List.mem_of_getElem? (i := 140) rfl)) rfl
theorem mw_3_141 : (Jvm.Cond.code ({ cls := "LinkPredictorModel", name := "at", desc := "(I)I" } : Jvm.MethodName) prog_7_method_4_code (2 : Nat) (Option.some Jvm.ClassFile.FieldType.int)) ∈ TT := mT (mL3 (List.mem_of_getElem? (i := 141) rfl)) rfl
theorem mw_3_142 : (Jvm.Cond.methodLink "LinkPredictorLaw" (22 : Nat) ({ cls := "LinkPredictorModel", name := "nest", desc := "(II)Z" } : Jvm.MethodName)) ∈ TT := mT (mL3 (List.mem_of_getElem? (i := 142) rfl)) rfl
theorem mw_3_143 : (Jvm.Cond.instanceMethod ({ cls := "LinkPredictorModel", name := "nest", desc := "(II)Z" } : Jvm.MethodName)) ∈ TT := mT (mL3 (List.mem_of_getElem? (i := 143) rfl)) rfl
theorem mw_3_144 : (Jvm.Cond.selects "LinkPredictorModel" ({ cls := "LinkPredictorModel", name := "nest", desc := "(II)Z" } : Jvm.MethodName) ({ cls := "LinkPredictorModel", name := "nest", desc := "(II)Z" } : Jvm.MethodName)) ∈ TT := mT (mL3 (List.mem_of_getElem? (i := 144) rfl)) rfl
theorem mw_3_145 : (Jvm.Cond.code ({ cls := "LinkPredictorModel", name := "nest", desc := "(II)Z" } : Jvm.MethodName) prog_7_method_7_code (3 : Nat) (Option.some Jvm.ClassFile.FieldType.boolean)) ∈ TT := mT (mL3 (List.mem_of_getElem? (i := 145) rfl)) rfl
theorem mw_3_146 : (Jvm.Cond.methodLink "LinkPredictorModel" (80 : Nat) ({ cls := "LinkPredictorModel", name := "isThere", desc := "(I)Z" } : Jvm.MethodName)) ∈ TT := mT (mL3 (List.mem_of_getElem? (i := 146) rfl)) rfl
theorem nw_3_147 : (Jvm.Cond.privateMethod ({ cls := "LinkPredictorModel", name := "isThere", desc := "(I)Z" } : Jvm.MethodName)) ∈ lw_tbl := mL3 (List.mem_of_getElem? (i := 147) rfl)
theorem mw_3_148 : (Jvm.Cond.instanceMethod ({ cls := "LinkPredictorModel", name := "isThere", desc := "(I)Z" } : Jvm.MethodName)) ∈ TT := mT (mL3 (List.mem_of_getElem? (i := 148) rfl)) rfl
theorem mw_3_149 : (Jvm.Cond.code ({ cls := "LinkPredictorModel", name := "isThere", desc := "(I)Z" } : Jvm.MethodName) prog_7_method_5_code (2 : Nat) (Option.some Jvm.ClassFile.FieldType.boolean)) ∈ TT := mT (mL3 (List.mem_of_getElem? (i := 149) rfl)) rfl
theorem mw_3_150 : (Jvm.Cond.methodLink "LinkPredictorLaw" (27 : Nat) ({ cls := "LinkPredictorModel", name := "drop", desc := "(I)Z" } : Jvm.MethodName)) ∈ TT := mT (mL3 (List.mem_of_getElem? (i := 150) rfl)) rfl
theorem mw_3_151 : (Jvm.Cond.instanceMethod ({ cls := "LinkPredictorModel", name := "drop", desc := "(I)Z" } : Jvm.MethodName)) ∈ TT := mT (mL3 (List.mem_of_getElem? (i := 151) rfl)) rfl
theorem mw_3_152 : (Jvm.Cond.selects "LinkPredictorModel" ({ cls := "LinkPredictorModel", name := "drop", desc := "(I)Z" } : Jvm.MethodName) ({ cls := "LinkPredictorModel", name := "drop", desc := "(I)Z" } : Jvm.MethodName)) ∈ TT := mT (mL3 (List.mem_of_getElem? (i := 152) rfl)) rfl
theorem mw_3_153 : (Jvm.Cond.code ({ cls := "LinkPredictorModel", name := "drop", desc := "(I)Z" } : Jvm.MethodName) prog_7_method_8_code (3 : Nat) (Option.some Jvm.ClassFile.FieldType.boolean)) ∈ TT := mT (mL3 (List.mem_of_getElem? (i := 153) rfl)) rfl
theorem mw_3_154 : (Jvm.Cond.methodLink "LinkPredictorLaw" (32 : Nat) ({ cls := "LinkPredictorModel", name := "member", desc := "(IZIII)I" } : Jvm.MethodName)) ∈ TT := mT (mL3 (List.mem_of_getElem? (i := 154) rfl)) rfl
theorem mw_3_155 : (Jvm.Cond.instanceMethod ({ cls := "LinkPredictorModel", name := "member", desc := "(IZIII)I" } : Jvm.MethodName)) ∈ TT := mT (mL3 (List.mem_of_getElem? (i := 155) rfl)) rfl
theorem mw_3_156 : (Jvm.Cond.selects "LinkPredictorModel" ({ cls := "LinkPredictorModel", name := "member", desc := "(IZIII)I" } : Jvm.MethodName) ({ cls := "LinkPredictorModel", name := "member", desc := "(IZIII)I" } : Jvm.MethodName)) ∈ TT := mT (mL3 (List.mem_of_getElem? (i := 156) rfl)) rfl
theorem mw_3_157 : (Jvm.Cond.code ({ cls := "LinkPredictorModel", name := "member", desc := "(IZIII)I" } : Jvm.MethodName) prog_7_method_10_code (7 : Nat) (Option.some Jvm.ClassFile.FieldType.int)) ∈ TT := mT (mL3 (List.mem_of_getElem? (i := 157) rfl)) rfl
theorem mw_3_158 : (Jvm.Cond.methodLink "LinkPredictorModel" (84 : Nat) ({ cls := "LinkPredictorModel", name := "own", desc := "(IIZI)I" } : Jvm.MethodName)) ∈ TT := mT (mL3 (List.mem_of_getElem? (i := 158) rfl)) rfl
theorem nw_3_159 : (Jvm.Cond.privateMethod ({ cls := "LinkPredictorModel", name := "own", desc := "(IIZI)I" } : Jvm.MethodName)) ∈ lw_tbl := mL3 (List.mem_of_getElem? (i := 159) rfl)
theorem mw_3_160 : (Jvm.Cond.instanceMethod ({ cls := "LinkPredictorModel", name := "own", desc := "(IIZI)I" } : Jvm.MethodName)) ∈ TT := mT (mL3 (List.mem_of_getElem? (i := 160) rfl)) rfl
theorem mw_3_161 : (Jvm.Cond.code ({ cls := "LinkPredictorModel", name := "own", desc := "(IIZI)I" } : Jvm.MethodName) prog_7_method_9_code (7 : Nat) (Option.some Jvm.ClassFile.FieldType.int)) ∈ TT := mT (mL3 (List.mem_of_getElem? (i := 161) rfl)) rfl
theorem mw_3_162 : (Jvm.Cond.methodLink "LinkPredictorLaw" (37 : Nat) ({ cls := "LinkPredictorModel", name := "remake", desc := "(III)Z" } : Jvm.MethodName)) ∈ TT := mT (mL3 (List.mem_of_getElem? (i := 162) rfl)) rfl
theorem mw_3_163 : (Jvm.Cond.instanceMethod ({ cls := "LinkPredictorModel", name := "remake", desc := "(III)Z" } : Jvm.MethodName)) ∈ TT := mT (mL3 (List.mem_of_getElem? (i := 163) rfl)) rfl
theorem mw_3_164 : (Jvm.Cond.selects "LinkPredictorModel" ({ cls := "LinkPredictorModel", name := "remake", desc := "(III)Z" } : Jvm.MethodName) ({ cls := "LinkPredictorModel", name := "remake", desc := "(III)Z" } : Jvm.MethodName)) ∈ TT := mT (mL3 (List.mem_of_getElem? (i := 164) rfl)) rfl
theorem mw_3_165 : (Jvm.Cond.code ({ cls := "LinkPredictorModel", name := "remake", desc := "(III)Z" } : Jvm.MethodName) prog_7_method_12_code (4 : Nat) (Option.some Jvm.ClassFile.FieldType.boolean)) ∈ TT := mT (mL3 (List.mem_of_getElem? (i := 165) rfl)) rfl
theorem mw_3_166 : (Jvm.Cond.methodLink "LinkPredictorModel" (88 : Nat) ({ cls := "LinkPredictorModel", name := "isMember", desc := "(I)Z" } : Jvm.MethodName)) ∈ TT := mT (mL3 (List.mem_of_getElem? (i := 166) rfl)) rfl
theorem nw_3_167 : (Jvm.Cond.privateMethod ({ cls := "LinkPredictorModel", name := "isMember", desc := "(I)Z" } : Jvm.MethodName)) ∈ lw_tbl := mL3 (List.mem_of_getElem? (i := 167) rfl)
theorem mw_3_168 : (Jvm.Cond.instanceMethod ({ cls := "LinkPredictorModel", name := "isMember", desc := "(I)Z" } : Jvm.MethodName)) ∈ TT := mT (mL3 (List.mem_of_getElem? (i := 168) rfl)) rfl
theorem mw_3_169 : (Jvm.Cond.code ({ cls := "LinkPredictorModel", name := "isMember", desc := "(I)Z" } : Jvm.MethodName) prog_7_method_11_code (2 : Nat) (Option.some Jvm.ClassFile.FieldType.boolean)) ∈ TT := mT (mL3 (List.mem_of_getElem? (i := 169) rfl)) rfl
theorem mw_3_170 : (Jvm.Cond.methodLink "LinkPredictorLaw" (41 : Nat) ({ cls := "LinkPredictorModel", name := "remove", desc := "(I)Z" } : Jvm.MethodName)) ∈ TT := mT (mL3 (List.mem_of_getElem? (i := 170) rfl)) rfl
theorem mw_3_171 : (Jvm.Cond.instanceMethod ({ cls := "LinkPredictorModel", name := "remove", desc := "(I)Z" } : Jvm.MethodName)) ∈ TT := mT (mL3 (List.mem_of_getElem? (i := 171) rfl)) rfl
theorem mw_3_172 : (Jvm.Cond.selects "LinkPredictorModel" ({ cls := "LinkPredictorModel", name := "remove", desc := "(I)Z" } : Jvm.MethodName) ({ cls := "LinkPredictorModel", name := "remove", desc := "(I)Z" } : Jvm.MethodName)) ∈ TT := mT (mL3 (List.mem_of_getElem? (i := 172) rfl)) rfl
theorem mw_3_173 : (Jvm.Cond.code ({ cls := "LinkPredictorModel", name := "remove", desc := "(I)Z" } : Jvm.MethodName) prog_7_method_13_code (2 : Nat) (Option.some Jvm.ClassFile.FieldType.boolean)) ∈ TT := mT (mL3 (List.mem_of_getElem? (i := 173) rfl)) rfl
theorem mw_3_174 : (Jvm.Cond.methodLink "LinkPredictorLaw" (46 : Nat) ({ cls := "LinkPredictorModel", name := "branch", desc := "()I" } : Jvm.MethodName)) ∈ TT := mT (mL3 (List.mem_of_getElem? (i := 174) rfl)) rfl
theorem mw_3_175 : (Jvm.Cond.instanceMethod ({ cls := "LinkPredictorModel", name := "branch", desc := "()I" } : Jvm.MethodName)) ∈ TT := mT (mL3 (List.mem_of_getElem? (i := 175) rfl)) rfl
theorem mw_3_176 : (Jvm.Cond.selects "LinkPredictorModel" ({ cls := "LinkPredictorModel", name := "branch", desc := "()I" } : Jvm.MethodName) ({ cls := "LinkPredictorModel", name := "branch", desc := "()I" } : Jvm.MethodName)) ∈ TT := mT (mL3 (List.mem_of_getElem? (i := 176) rfl)) rfl
theorem mw_3_177 : (Jvm.Cond.code ({ cls := "LinkPredictorModel", name := "branch", desc := "()I" } : Jvm.MethodName) prog_7_method_14_code (3 : Nat) (Option.some Jvm.ClassFile.FieldType.int)) ∈ TT := mT (mL3 (List.mem_of_getElem? (i := 177) rfl)) rfl
theorem mw_3_178 : (Jvm.Cond.methodLink "LinkPredictorLaw" (50 : Nat) ({ cls := "LinkPredictorModel", name := "write", desc := "(I)Z" } : Jvm.MethodName)) ∈ TT := mT (mL3 (List.mem_of_getElem? (i := 178) rfl)) rfl
theorem mw_3_179 : (Jvm.Cond.instanceMethod ({ cls := "LinkPredictorModel", name := "write", desc := "(I)Z" } : Jvm.MethodName)) ∈ TT := mT (mL3 (List.mem_of_getElem? (i := 179) rfl)) rfl
theorem mw_3_180 : (Jvm.Cond.selects "LinkPredictorModel" ({ cls := "LinkPredictorModel", name := "write", desc := "(I)Z" } : Jvm.MethodName) ({ cls := "LinkPredictorModel", name := "write", desc := "(I)Z" } : Jvm.MethodName)) ∈ TT := mT (mL3 (List.mem_of_getElem? (i := 180) rfl)) rfl
theorem mw_3_181 : (Jvm.Cond.code ({ cls := "LinkPredictorModel", name := "write", desc := "(I)Z" } : Jvm.MethodName) prog_7_method_15_code (2 : Nat) (Option.some Jvm.ClassFile.FieldType.boolean)) ∈ TT := mT (mL3 (List.mem_of_getElem? (i := 181) rfl)) rfl
theorem mw_3_182 : (Jvm.Cond.methodLink "LinkPredictorLaw" (55 : Nat) ({ cls := "LinkPredictorModel", name := "refer", desc := "(IIII)I" } : Jvm.MethodName)) ∈ TT := mT (mL3 (List.mem_of_getElem? (i := 182) rfl)) rfl
theorem mw_3_183 : (Jvm.Cond.instanceMethod ({ cls := "LinkPredictorModel", name := "refer", desc := "(IIII)I" } : Jvm.MethodName)) ∈ TT := mT (mL3 (List.mem_of_getElem? (i := 183) rfl)) rfl
theorem mw_3_184 : (Jvm.Cond.selects "LinkPredictorModel" ({ cls := "LinkPredictorModel", name := "refer", desc := "(IIII)I" } : Jvm.MethodName) ({ cls := "LinkPredictorModel", name := "refer", desc := "(IIII)I" } : Jvm.MethodName)) ∈ TT := mT (mL3 (List.mem_of_getElem? (i := 184) rfl)) rfl
theorem mw_3_185 : (Jvm.Cond.code ({ cls := "LinkPredictorModel", name := "refer", desc := "(IIII)I" } : Jvm.MethodName) prog_7_method_16_code (5 : Nat) (Option.some Jvm.ClassFile.FieldType.int)) ∈ TT := mT (mL3 (List.mem_of_getElem? (i := 185) rfl)) rfl
theorem mw_3_186 : (Jvm.Cond.methodLink "LinkPredictorLaw" (59 : Nat) ({ cls := "LinkPredictorModel", name := "forget", desc := "()I" } : Jvm.MethodName)) ∈ TT := mT (mL3 (List.mem_of_getElem? (i := 186) rfl)) rfl
theorem mw_3_187 : (Jvm.Cond.instanceMethod ({ cls := "LinkPredictorModel", name := "forget", desc := "()I" } : Jvm.MethodName)) ∈ TT := mT (mL3 (List.mem_of_getElem? (i := 187) rfl)) rfl
theorem mw_3_188 : (Jvm.Cond.selects "LinkPredictorModel" ({ cls := "LinkPredictorModel", name := "forget", desc := "()I" } : Jvm.MethodName) ({ cls := "LinkPredictorModel", name := "forget", desc := "()I" } : Jvm.MethodName)) ∈ TT := mT (mL3 (List.mem_of_getElem? (i := 188) rfl)) rfl
theorem mw_3_189 : (Jvm.Cond.code ({ cls := "LinkPredictorModel", name := "forget", desc := "()I" } : Jvm.MethodName) prog_7_method_17_code (2 : Nat) (Option.some Jvm.ClassFile.FieldType.int)) ∈ TT := mT (mL3 (List.mem_of_getElem? (i := 189) rfl)) rfl
theorem mw_3_190 : (Jvm.Cond.methodLink "LinkPredictorLaw" (64 : Nat) ({ cls := "LinkPredictorModel", name := "load", desc := "(II)I" } : Jvm.MethodName)) ∈ TT := mT (mL3 (List.mem_of_getElem? (i := 190) rfl)) rfl
theorem mw_3_191 : (Jvm.Cond.instanceMethod ({ cls := "LinkPredictorModel", name := "load", desc := "(II)I" } : Jvm.MethodName)) ∈ TT := mT (mL3 (List.mem_of_getElem? (i := 191) rfl)) rfl
theorem mw_3_192 : (Jvm.Cond.selects "LinkPredictorModel" ({ cls := "LinkPredictorModel", name := "load", desc := "(II)I" } : Jvm.MethodName) ({ cls := "LinkPredictorModel", name := "load", desc := "(II)I" } : Jvm.MethodName)) ∈ TT := mT (mL3 (List.mem_of_getElem? (i := 192) rfl)) rfl
theorem mw_3_193 : (Jvm.Cond.code ({ cls := "LinkPredictorModel", name := "load", desc := "(II)I" } : Jvm.MethodName) prog_7_method_37_code (3 : Nat) (Option.some Jvm.ClassFile.FieldType.int)) ∈ TT := mT (mL3 (List.mem_of_getElem? (i := 193) rfl)) rfl
theorem mw_3_194 : (Jvm.Cond.methodLink "LinkPredictorModel" (104 : Nat) ({ cls := "LinkPredictorModel", name := "loaded", desc := "(II)I" } : Jvm.MethodName)) ∈ TT := mT (mL3 (List.mem_of_getElem? (i := 194) rfl)) rfl
theorem nw_3_195 : (Jvm.Cond.privateMethod ({ cls := "LinkPredictorModel", name := "loaded", desc := "(II)I" } : Jvm.MethodName)) ∈ lw_tbl := mL3 (List.mem_of_getElem? (i := 195) rfl)
theorem mw_3_196 : (Jvm.Cond.instanceMethod ({ cls := "LinkPredictorModel", name := "loaded", desc := "(II)I" } : Jvm.MethodName)) ∈ TT := mT (mL3 (List.mem_of_getElem? (i := 196) rfl)) rfl
theorem mw_3_197 : (Jvm.Cond.code ({ cls := "LinkPredictorModel", name := "loaded", desc := "(II)I" } : Jvm.MethodName) prog_7_method_20_code (10 : Nat) (Option.some Jvm.ClassFile.FieldType.int)) ∈ TT := mT (mL3 (List.mem_of_getElem? (i := 197) rfl)) rfl
theorem mw_3_198 : (Jvm.Cond.methodLink "LinkPredictorModel" (97 : Nat) ({ cls := "LinkPredictorModel", name := "verdict", desc := "(II)I" } : Jvm.MethodName)) ∈ TT := mT (mL3 (List.mem_of_getElem? (i := 198) rfl)) rfl
theorem mw_3_199 : (Jvm.Cond.static ({ cls := "LinkPredictorModel", name := "verdict", desc := "(II)I" } : Jvm.MethodName)) ∈ TT := mT (mL3 (List.mem_of_getElem? (i := 199) rfl)) rfl
theorem mw_3_200 : (Jvm.Cond.code ({ cls := "LinkPredictorModel", name := "verdict", desc := "(II)I" } : Jvm.MethodName) prog_7_method_18_code (2 : Nat) (Option.some Jvm.ClassFile.FieldType.int)) ∈ TT := mT (mL3 (List.mem_of_getElem? (i := 200) rfl)) rfl
theorem mw_3_201 : (Jvm.Cond.methodLink "LinkPredictorModel" (94 : Nat) ({ cls := "LinkPredictorModel", name := "has", desc := "(II)Z" } : Jvm.MethodName)) ∈ TT := mT (mL3 (List.mem_of_getElem? (i := 201) rfl)) rfl
theorem mw_3_202 : (Jvm.Cond.static ({ cls := "LinkPredictorModel", name := "has", desc := "(II)Z" } : Jvm.MethodName)) ∈ TT := mT (mL3 (List.mem_of_getElem? (i := 202) rfl)) rfl
theorem mw_3_203 : (Jvm.Cond.code ({ cls := "LinkPredictorModel", name := "has", desc := "(II)Z" } : Jvm.MethodName) prog_7_method_3_code (2 : Nat) (Option.some Jvm.ClassFile.FieldType.boolean)) ∈ TT := mT (mL3 (List.mem_of_getElem? (i := 203) rfl)) rfl
theorem mw_3_204 : (Jvm.Cond.methodLink "LinkPredictorModel" (101 : Nat) ({ cls := "LinkPredictorModel", name := "isChanged", desc := "(II)Z" } : Jvm.MethodName)) ∈ TT := mT (mL3 (List.mem_of_getElem? (i := 204) rfl)) rfl
theorem nw_3_205 : (Jvm.Cond.privateMethod ({ cls := "LinkPredictorModel", name := "isChanged", desc := "(II)Z" } : Jvm.MethodName)) ∈ lw_tbl := mL3 (List.mem_of_getElem? (i := 205) rfl)
theorem mw_3_206 : (Jvm.Cond.instanceMethod ({ cls := "LinkPredictorModel", name := "isChanged", desc := "(II)Z" } : Jvm.MethodName)) ∈ TT := mT (mL3 (List.mem_of_getElem? (i := 206) rfl)) rfl
theorem mw_3_207 : (Jvm.Cond.code ({ cls := "LinkPredictorModel", name := "isChanged", desc := "(II)Z" } : Jvm.MethodName) prog_7_method_19_code (6 : Nat) (Option.some Jvm.ClassFile.FieldType.boolean)) ∈ TT := mT (mL3 (List.mem_of_getElem? (i := 207) rfl)) rfl
theorem mw_3_208 : (Jvm.Cond.methodLink "LinkPredictorLaw" (68 : Nat) ({ cls := "LinkPredictorModel", name := "resolve", desc := "(II)I" } : Jvm.MethodName)) ∈ TT := mT (mL3 (List.mem_of_getElem? (i := 208) rfl)) rfl
theorem mw_3_209 : (Jvm.Cond.instanceMethod ({ cls := "LinkPredictorModel", name := "resolve", desc := "(II)I" } : Jvm.MethodName)) ∈ TT := mT (mL3 (List.mem_of_getElem? (i := 209) rfl)) rfl
theorem mw_3_210 : (Jvm.Cond.selects "LinkPredictorModel" ({ cls := "LinkPredictorModel", name := "resolve", desc := "(II)I" } : Jvm.MethodName) ({ cls := "LinkPredictorModel", name := "resolve", desc := "(II)I" } : Jvm.MethodName)) ∈ TT := mT (mL3 (List.mem_of_getElem? (i := 210) rfl)) rfl
theorem mw_3_211 : (Jvm.Cond.code ({ cls := "LinkPredictorModel", name := "resolve", desc := "(II)I" } : Jvm.MethodName) prog_7_method_38_code (3 : Nat) (Option.some Jvm.ClassFile.FieldType.int)) ∈ TT := mT (mL3 (List.mem_of_getElem? (i := 211) rfl)) rfl
theorem mw_3_212 : (Jvm.Cond.methodLink "LinkPredictorModel" (152 : Nat) ({ cls := "LinkPredictorModel", name := "isAsk", desc := "(II)Z" } : Jvm.MethodName)) ∈ TT := mT (mL3 (List.mem_of_getElem? (i := 212) rfl)) rfl
theorem nw_3_213 : (Jvm.Cond.privateMethod ({ cls := "LinkPredictorModel", name := "isAsk", desc := "(II)Z" } : Jvm.MethodName)) ∈ lw_tbl := mL3 (List.mem_of_getElem? (i := 213) rfl)
theorem mw_3_214 : (Jvm.Cond.instanceMethod ({ cls := "LinkPredictorModel", name := "isAsk", desc := "(II)Z" } : Jvm.MethodName)) ∈ TT := mT (mL3 (List.mem_of_getElem? (i := 214) rfl)) rfl
theorem mw_3_215 : (Jvm.Cond.code ({ cls := "LinkPredictorModel", name := "isAsk", desc := "(II)Z" } : Jvm.MethodName) prog_7_method_36_code (3 : Nat) (Option.some Jvm.ClassFile.FieldType.boolean)) ∈ TT := mT (mL3 (List.mem_of_getElem? (i := 215) rfl)) rfl
theorem mw_3_216 : (Jvm.Cond.methodLink "LinkPredictorModel" (143 : Nat) ({ cls := "LinkPredictorModel", name := "resolved", desc := "(II)I" } : Jvm.MethodName)) ∈ TT := mT (mL3 (List.mem_of_getElem? (i := 216) rfl)) rfl
theorem nw_3_217 : (Jvm.Cond.privateMethod ({ cls := "LinkPredictorModel", name := "resolved", desc := "(II)I" } : Jvm.MethodName)) ∈ lw_tbl := mL3 (List.mem_of_getElem? (i := 217) rfl)
theorem mw_3_218 : (Jvm.Cond.instanceMethod ({ cls := "LinkPredictorModel", name := "resolved", desc := "(II)I" } : Jvm.MethodName)) ∈ TT := mT (mL3 (List.mem_of_getElem? (i := 218) rfl)) rfl
theorem mw_3_219 : (Jvm.Cond.code ({ cls := "LinkPredictorModel", name := "resolved", desc := "(II)I" } : Jvm.MethodName) prog_7_method_33_code (12 : Nat) (Option.some Jvm.ClassFile.FieldType.int)) ∈ TT := mT (mL3 (List.mem_of_getElem? (i := 219) rfl)) rfl
theorem mw_3_220 : (Jvm.Cond.methodLink "LinkPredictorModel" (133 : Nat) ({ cls := "LinkPredictorModel", name := "field", desc := "(III)I" } : Jvm.MethodName)) ∈ TT := mT (mL3 (List.mem_of_getElem? (i := 220) rfl)) rfl
theorem nw_3_221 : (Jvm.Cond.privateMethod ({ cls := "LinkPredictorModel", name := "field", desc := "(III)I" } : Jvm.MethodName)) ∈ lw_tbl := mL3 (List.mem_of_getElem? (i := 221) rfl)
theorem mw_3_222 : (Jvm.Cond.instanceMethod ({ cls := "LinkPredictorModel", name := "field", desc := "(III)I" } : Jvm.MethodName)) ∈ TT := mT (mL3 (List.mem_of_getElem? (i := 222) rfl)) rfl
theorem mw_3_223 : (Jvm.Cond.code ({ cls := "LinkPredictorModel", name := "field", desc := "(III)I" } : Jvm.MethodName) prog_7_method_27_code (10 : Nat) (Option.some Jvm.ClassFile.FieldType.int)) ∈ TT := mT (mL3 (List.mem_of_getElem? (i := 223) rfl)) rfl
theorem mw_3_224 : (Jvm.Cond.methodLink "LinkPredictorModel" (120 : Nat) ({ cls := "LinkPredictorModel", name := "lay", desc := "(II)I" } : Jvm.MethodName)) ∈ TT := mT (mL3 (List.mem_of_getElem? (i := 224) rfl)) rfl
theorem nw_3_225 : (Jvm.Cond.privateMethod ({ cls := "LinkPredictorModel", name := "lay", desc := "(II)I" } : Jvm.MethodName)) ∈ lw_tbl := mL3 (List.mem_of_getElem? (i := 225) rfl)
theorem mw_3_226 : (Jvm.Cond.instanceMethod ({ cls := "LinkPredictorModel", name := "lay", desc := "(II)I" } : Jvm.MethodName)) ∈ TT := mT (mL3 (List.mem_of_getElem? (i := 226) rfl)) rfl
theorem mw_3_227 : (Jvm.Cond.code ({ cls := "LinkPredictorModel", name := "lay", desc := "(II)I" } : Jvm.MethodName) prog_7_method_28_code (5 : Nat) (Option.some Jvm.ClassFile.FieldType.int)) ∈ TT := mT (mL3 (List.mem_of_getElem? (i := 227) rfl)) rfl
theorem mw_3_228 : (Jvm.Cond.methodLink "LinkPredictorModel" (136 : Nat) ({ cls := "LinkPredictorModel", name := "find", desc := "(III)I" } : Jvm.MethodName)) ∈ TT := mT (mL3 (List.mem_of_getElem? (i := 228) rfl)) rfl
theorem nw_3_229 : (Jvm.Cond.privateMethod ({ cls := "LinkPredictorModel", name := "find", desc := "(III)I" } : Jvm.MethodName)) ∈ lw_tbl := mL3 (List.mem_of_getElem? (i := 229) rfl)
theorem mw_3_230 : (Jvm.Cond.instanceMethod ({ cls := "LinkPredictorModel", name := "find", desc := "(III)I" } : Jvm.MethodName)) ∈ TT := mT (mL3 (List.mem_of_getElem? (i := 230) rfl)) rfl
theorem mw_3_231 : (Jvm.Cond.code ({ cls := "LinkPredictorModel", name := "find", desc := "(III)I" } : Jvm.MethodName) prog_7_method_32_code (9 : Nat) (Option.some Jvm.ClassFile.FieldType.int)) ∈ TT := mT (mL3 (List.mem_of_getElem? (i := 231) rfl)) rfl
theorem mw_3_232 : (Jvm.Cond.methodLink "LinkPredictorModel" (126 : Nat) ({ cls := "LinkPredictorModel", name := "specific", desc := "(III)I" } : Jvm.MethodName)) ∈ TT := mT (mL3 (List.mem_of_getElem? (i := 232) rfl)) rfl
theorem nw_3_233 : (Jvm.Cond.privateMethod ({ cls := "LinkPredictorModel", name := "specific", desc := "(III)I" } : Jvm.MethodName)) ∈ lw_tbl := mL3 (List.mem_of_getElem? (i := 233) rfl)
theorem mw_3_234 : (Jvm.Cond.instanceMethod ({ cls := "LinkPredictorModel", name := "specific", desc := "(III)I" } : Jvm.MethodName)) ∈ TT := mT (mL3 (List.mem_of_getElem? (i := 234) rfl)) rfl
theorem mw_3_235 : (Jvm.Cond.code ({ cls := "LinkPredictorModel", name := "specific", desc := "(III)I" } : Jvm.MethodName) prog_7_method_30_code (10 : Nat) (Option.some Jvm.ClassFile.FieldType.int)) ∈ TT := mT (mL3 (List.mem_of_getElem? (i := 235) rfl)) rfl
theorem mw_3_236 : (Jvm.Cond.methodLink "LinkPredictorModel" (110 : Nat) ({ cls := "LinkPredictorModel", name := "facesOf", desc := "(II)I" } : Jvm.MethodName)) ∈ TT := mT (mL3 (List.mem_of_getElem? (i := 236) rfl)) rfl
theorem nw_3_237 : (Jvm.Cond.privateMethod ({ cls := "LinkPredictorModel", name := "facesOf", desc := "(II)I" } : Jvm.MethodName)) ∈ lw_tbl := mL3 (List.mem_of_getElem? (i := 237) rfl)
theorem mw_3_238 : (Jvm.Cond.instanceMethod ({ cls := "LinkPredictorModel", name := "facesOf", desc := "(II)I" } : Jvm.MethodName)) ∈ TT := mT (mL3 (List.mem_of_getElem? (i := 238) rfl)) rfl
theorem mw_3_239 : (Jvm.Cond.code ({ cls := "LinkPredictorModel", name := "facesOf", desc := "(II)I" } : Jvm.MethodName) prog_7_method_23_code (7 : Nat) (Option.some Jvm.ClassFile.FieldType.int)) ∈ TT := mT (mL3 (List.mem_of_getElem? (i := 239) rfl)) rfl
theorem mw_4_0 : (Jvm.Cond.methodLink "LinkPredictorModel" (107 : Nat) ({ cls := "LinkPredictorModel", name := "aboveOf", desc := "(II)I" } : Jvm.MethodName)) ∈ TT := mT (mL4 (List.mem_of_getElem? (i := 0) rfl)) rfl
theorem nw_4_1 : (Jvm.Cond.privateMethod ({ cls := "LinkPredictorModel", name := "aboveOf", desc := "(II)I" } : Jvm.MethodName)) ∈ lw_tbl := mL4 (List.mem_of_getElem? (i := 1) rfl)
theorem mw_4_2 : (Jvm.Cond.instanceMethod ({ cls := "LinkPredictorModel", name := "aboveOf", desc := "(II)I" } : Jvm.MethodName)) ∈ TT := mT (mL4 (List.mem_of_getElem? (i := 2) rfl)) rfl
theorem mw_4_3 : (Jvm.Cond.code ({ cls := "LinkPredictorModel", name := "aboveOf", desc := "(II)I" } : Jvm.MethodName) prog_7_method_22_code (5 : Nat) (Option.some Jvm.ClassFile.FieldType.int)) ∈ TT := mT (mL4 (List.mem_of_getElem? (i := 3) rfl)) rfl
theorem mw_4_4 : (Jvm.Cond.methodLink "LinkPredictorModel" (123 : Nat) ({ cls := "LinkPredictorModel", name := "offers", desc := "(III)Z" } : Jvm.MethodName)) ∈ TT := mT (mL4 (List.mem_of_getElem? (i := 4) rfl)) rfl
theorem nw_4_5 : (Jvm.Cond.privateMethod ({ cls := "LinkPredictorModel", name := "offers", desc := "(III)Z" } : Jvm.MethodName)) ∈ lw_tbl := mL4 (List.mem_of_getElem? (i := 5) rfl)
theorem mw_4_6 : (Jvm.Cond.instanceMethod ({ cls := "LinkPredictorModel", name := "offers", desc := "(III)Z" } : Jvm.MethodName)) ∈ TT := mT (mL4 (List.mem_of_getElem? (i := 6) rfl)) rfl
theorem mw_4_7 : (Jvm.Cond.code ({ cls := "LinkPredictorModel", name := "offers", desc := "(III)Z" } : Jvm.MethodName) prog_7_method_29_code (5 : Nat) (Option.some Jvm.ClassFile.FieldType.boolean)) ∈ TT := mT (mL4 (List.mem_of_getElem? (i := 7) rfl)) rfl
theorem mw_4_8 : (Jvm.Cond.methodLink "LinkPredictorModel" (116 : Nat) ({ cls := "LinkPredictorModel", name := "under", desc := "(III)Z" } : Jvm.MethodName)) ∈ TT := mT (mL4 (List.mem_of_getElem? (i := 8) rfl)) rfl
theorem nw_4_9 : (Jvm.Cond.privateMethod ({ cls := "LinkPredictorModel", name := "under", desc := "(III)Z" } : Jvm.MethodName)) ∈ lw_tbl := mL4 (List.mem_of_getElem? (i := 9) rfl)
theorem mw_4_10 : (Jvm.Cond.instanceMethod ({ cls := "LinkPredictorModel", name := "under", desc := "(III)Z" } : Jvm.MethodName)) ∈ TT := mT (mL4 (List.mem_of_getElem? (i := 10) rfl)) rfl
theorem mw_4_11 : (Jvm.Cond.code ({ cls := "LinkPredictorModel", name := "under", desc := "(III)Z" } : Jvm.MethodName) prog_7_method_24_code (4 : Nat) (Option.some Jvm.ClassFile.FieldType.boolean)) ∈ TT := mT (mL4 (List.mem_of_getElem? (i := 11) rfl)) rfl
theorem mw_4_12 : (Jvm.Cond.methodLink "LinkPredictorModel" (130 : Nat) ({ cls := "LinkPredictorModel", name := "bodied", desc := "(III)I" } : Jvm.MethodName)) ∈ TT := mT (mL4 (List.mem_of_getElem? (i := 12) rfl)) rfl
theorem nw_4_13 : (Jvm.Cond.privateMethod ({ cls := "LinkPredictorModel", name := "bodied", desc := "(III)I" } : Jvm.MethodName)) ∈ lw_tbl := mL4 (List.mem_of_getElem? (i := 13) rfl)
theorem mw_4_14 : (Jvm.Cond.instanceMethod ({ cls := "LinkPredictorModel", name := "bodied", desc := "(III)I" } : Jvm.MethodName)) ∈ TT := mT (mL4 (List.mem_of_getElem? (i := 14) rfl)) rfl
theorem mw_4_15 : (Jvm.Cond.code ({ cls := "LinkPredictorModel", name := "bodied", desc := "(III)I" } : Jvm.MethodName) prog_7_method_31_code (7 : Nat) (Option.some Jvm.ClassFile.FieldType.int)) ∈ TT := mT (mL4 (List.mem_of_getElem? (i := 15) rfl)) rfl
theorem mw_4_16 : (Jvm.Cond.methodLink "LinkPredictorModel" (139 : Nat) ({ cls := "LinkPredictorModel", name := "isOpen", desc := "(IIII)Z" } : Jvm.MethodName)) ∈ TT := mT (mL4 (List.mem_of_getElem? (i := 16) rfl)) rfl
theorem nw_4_17 : (Jvm.Cond.privateMethod ({ cls := "LinkPredictorModel", name := "isOpen", desc := "(IIII)Z" } : Jvm.MethodName)) ∈ lw_tbl := mL4 (List.mem_of_getElem? (i := 17) rfl)
theorem mw_4_18 : (Jvm.Cond.instanceMethod ({ cls := "LinkPredictorModel", name := "isOpen", desc := "(IIII)Z" } : Jvm.MethodName)) ∈ TT := mT (mL4 (List.mem_of_getElem? (i := 18) rfl)) rfl
theorem mw_4_19 : (Jvm.Cond.code ({ cls := "LinkPredictorModel", name := "isOpen", desc := "(IIII)Z" } : Jvm.MethodName) prog_7_method_26_code (9 : Nat) (Option.some Jvm.ClassFile.FieldType.boolean)) ∈ TT := mT (mL4 (List.mem_of_getElem? (i := 19) rfl)) rfl
theorem mw_4_20 : (Jvm.Cond.methodLink "LinkPredictorModel" (113 : Nat) ({ cls := "LinkPredictorModel", name := "nestOf", desc := "(II)I" } : Jvm.MethodName)) ∈ TT := mT (mL4 (List.mem_of_getElem? (i := 20) rfl)) rfl
theorem nw_4_21 : (Jvm.Cond.privateMethod ({ cls := "LinkPredictorModel", name := "nestOf", desc := "(II)I" } : Jvm.MethodName)) ∈ lw_tbl := mL4 (List.mem_of_getElem? (i := 21) rfl)
theorem mw_4_22 : (Jvm.Cond.instanceMethod ({ cls := "LinkPredictorModel", name := "nestOf", desc := "(II)I" } : Jvm.MethodName)) ∈ TT := mT (mL4 (List.mem_of_getElem? (i := 22) rfl)) rfl
theorem mw_4_23 : (Jvm.Cond.code ({ cls := "LinkPredictorModel", name := "nestOf", desc := "(II)I" } : Jvm.MethodName) prog_7_method_25_code (5 : Nat) (Option.some Jvm.ClassFile.FieldType.int)) ∈ TT := mT (mL4 (List.mem_of_getElem? (i := 23) rfl)) rfl
theorem mw_4_24 : (Jvm.Cond.methodLink "LinkPredictorLaw" (73 : Nat) ({ cls := "LinkPredictorModel", name := "select", desc := "(III)I" } : Jvm.MethodName)) ∈ TT := mT (mL4 (List.mem_of_getElem? (i := 24) rfl)) rfl
theorem mw_4_25 : (Jvm.Cond.instanceMethod ({ cls := "LinkPredictorModel", name := "select", desc := "(III)I" } : Jvm.MethodName)) ∈ TT := mT (mL4 (List.mem_of_getElem? (i := 25) rfl)) rfl
theorem mw_4_26 : (Jvm.Cond.selects "LinkPredictorModel" ({ cls := "LinkPredictorModel", name := "select", desc := "(III)I" } : Jvm.MethodName) ({ cls := "LinkPredictorModel", name := "select", desc := "(III)I" } : Jvm.MethodName)) ∈ TT := mT (mL4 (List.mem_of_getElem? (i := 26) rfl)) rfl
theorem mw_4_27 : (Jvm.Cond.code ({ cls := "LinkPredictorModel", name := "select", desc := "(III)I" } : Jvm.MethodName) prog_7_method_40_code (4 : Nat) (Option.some Jvm.ClassFile.FieldType.int)) ∈ TT := mT (mL4 (List.mem_of_getElem? (i := 27) rfl)) rfl
theorem mw_4_28 : (Jvm.Cond.methodLink "LinkPredictorModel" (155 : Nat) ({ cls := "LinkPredictorModel", name := "selects", desc := "(II)Z" } : Jvm.MethodName)) ∈ TT := mT (mL4 (List.mem_of_getElem? (i := 28) rfl)) rfl
theorem nw_4_29 : (Jvm.Cond.privateMethod ({ cls := "LinkPredictorModel", name := "selects", desc := "(II)Z" } : Jvm.MethodName)) ∈ lw_tbl := mL4 (List.mem_of_getElem? (i := 29) rfl)
theorem mw_4_30 : (Jvm.Cond.instanceMethod ({ cls := "LinkPredictorModel", name := "selects", desc := "(II)Z" } : Jvm.MethodName)) ∈ TT := mT (mL4 (List.mem_of_getElem? (i := 30) rfl)) rfl
theorem mw_4_31 : (Jvm.Cond.code ({ cls := "LinkPredictorModel", name := "selects", desc := "(II)Z" } : Jvm.MethodName) prog_7_method_39_code (3 : Nat) (Option.some Jvm.ClassFile.FieldType.boolean)) ∈ TT := mT (mL4 (List.mem_of_getElem? (i := 31) rfl)) rfl
theorem mw_4_32 : (Jvm.Cond.methodLink "LinkPredictorModel" (158 : Nat) ({ cls := "LinkPredictorModel", name := "selected", desc := "(III)I" } : Jvm.MethodName)) ∈ TT := mT (mL4 (List.mem_of_getElem? (i := 32) rfl)) rfl
theorem nw_4_33 : (Jvm.Cond.privateMethod ({ cls := "LinkPredictorModel", name := "selected", desc := "(III)I" } : Jvm.MethodName)) ∈ lw_tbl := mL4 (List.mem_of_getElem? (i := 33) rfl)
theorem mw_4_34 : (Jvm.Cond.instanceMethod ({ cls := "LinkPredictorModel", name := "selected", desc := "(III)I" } : Jvm.MethodName)) ∈ TT := mT (mL4 (List.mem_of_getElem? (i := 34) rfl)) rfl
theorem mw_4_35 : (Jvm.Cond.code ({ cls := "LinkPredictorModel", name := "selected", desc := "(III)I" } : Jvm.MethodName) prog_7_method_35_code (10 : Nat) (Option.some Jvm.ClassFile.FieldType.int)) ∈ TT := mT (mL4 (List.mem_of_getElem? (i := 35) rfl)) rfl
theorem mw_4_36 : (Jvm.Cond.methodLink "LinkPredictorModel" (146 : Nat) ({ cls := "LinkPredictorModel", name := "isLoaded", desc := "(II)Z" } : Jvm.MethodName)) ∈ TT := mT (mL4 (List.mem_of_getElem? (i := 36) rfl)) rfl
theorem nw_4_37 : (Jvm.Cond.privateMethod ({ cls := "LinkPredictorModel", name := "isLoaded", desc := "(II)Z" } : Jvm.MethodName)) ∈ lw_tbl := mL4 (List.mem_of_getElem? (i := 37) rfl)
theorem mw_4_38 : (Jvm.Cond.instanceMethod ({ cls := "LinkPredictorModel", name := "isLoaded", desc := "(II)Z" } : Jvm.MethodName)) ∈ TT := mT (mL4 (List.mem_of_getElem? (i := 38) rfl)) rfl
theorem mw_4_39 : (Jvm.Cond.code ({ cls := "LinkPredictorModel", name := "isLoaded", desc := "(II)Z" } : Jvm.MethodName) prog_7_method_21_code (3 : Nat) (Option.some Jvm.ClassFile.FieldType.boolean)) ∈ TT := mT (mL4 (List.mem_of_getElem? (i := 39) rfl)) rfl
theorem mw_4_40 : (Jvm.Cond.methodLink "LinkPredictorModel" (149 : Nat) ({ cls := "LinkPredictorModel", name := "overrides", desc := "(III)Z" } : Jvm.MethodName)) ∈ TT := mT (mL4 (List.mem_of_getElem? (i := 40) rfl)) rfl
theorem nw_4_41 : (Jvm.Cond.privateMethod ({ cls := "LinkPredictorModel", name := "overrides", desc := "(III)Z" } : Jvm.MethodName)) ∈ lw_tbl := mL4 (List.mem_of_getElem? (i := 41) rfl)
theorem mw_4_42 : (Jvm.Cond.instanceMethod ({ cls := "LinkPredictorModel", name := "overrides", desc := "(III)Z" } : Jvm.MethodName)) ∈ TT := mT (mL4 (List.mem_of_getElem? (i := 42) rfl)) rfl
theorem mw_4_43 : (Jvm.Cond.code ({ cls := "LinkPredictorModel", name := "overrides", desc := "(III)Z" } : Jvm.MethodName) prog_7_method_34_code (6 : Nat) (Option.some Jvm.ClassFile.FieldType.boolean)) ∈ TT := mT (mL4 (List.mem_of_getElem? (i := 43) rfl)) rfl
theorem mw_4_44 : (Jvm.Cond.methodLink "LinkPredictorLaw" (78 : Nat) ({ cls := "LinkPredictorModel", name := "compare", desc := "(I)I" } : Jvm.MethodName)) ∈ TT := mT (mL4 (List.mem_of_getElem? (i := 44) rfl)) rfl
theorem mw_4_45 : (Jvm.Cond.instanceMethod ({ cls := "LinkPredictorModel", name := "compare", desc := "(I)I" } : Jvm.MethodName)) ∈ TT := mT (mL4 (List.mem_of_getElem? (i := 45) rfl)) rfl
theorem mw_4_46 : (Jvm.Cond.selects "LinkPredictorModel" ({ cls := "LinkPredictorModel", name := "compare", desc := "(I)I" } : Jvm.MethodName) ({ cls := "LinkPredictorModel", name := "compare", desc := "(I)I" } : Jvm.MethodName)) ∈ TT := mT (mL4 (List.mem_of_getElem? (i := 46) rfl)) rfl
theorem mw_4_47 : (Jvm.Cond.code ({ cls := "LinkPredictorModel", name := "compare", desc := "(I)I" } : Jvm.MethodName) prog_7_method_42_code (4 : Nat) (Option.some Jvm.ClassFile.FieldType.int)) ∈ TT := mT (mL4 (List.mem_of_getElem? (i := 47) rfl)) rfl
theorem mw_4_48 : (Jvm.Cond.methodLink "LinkPredictorModel" (161 : Nat) ({ cls := "LinkPredictorModel", name := "areAlike", desc := "(II)Z" } : Jvm.MethodName)) ∈ TT := mT (mL4 (List.mem_of_getElem? (i := 48) rfl)) rfl
theorem nw_4_49 : (Jvm.Cond.privateMethod ({ cls := "LinkPredictorModel", name := "areAlike", desc := "(II)Z" } : Jvm.MethodName)) ∈ lw_tbl := mL4 (List.mem_of_getElem? (i := 49) rfl)
theorem mw_4_50 : (Jvm.Cond.instanceMethod ({ cls := "LinkPredictorModel", name := "areAlike", desc := "(II)Z" } : Jvm.MethodName)) ∈ TT := mT (mL4 (List.mem_of_getElem? (i := 50) rfl)) rfl
theorem mw_4_51 : (Jvm.Cond.code ({ cls := "LinkPredictorModel", name := "areAlike", desc := "(II)Z" } : Jvm.MethodName) prog_7_method_41_code (7 : Nat) (Option.some Jvm.ClassFile.FieldType.boolean)) ∈ TT := mT (mL4 (List.mem_of_getElem? (i := 51) rfl)) rfl
theorem mw_4_52 : (Jvm.Cond.methodLink "LinkPredictorLaw" (82 : Nat) ({ cls := "LinkPredictorModel", name := "receivers", desc := "(II)I" } : Jvm.MethodName)) ∈ TT := mT (mL4 (List.mem_of_getElem? (i := 52) rfl)) rfl
theorem mw_4_53 : (Jvm.Cond.instanceMethod ({ cls := "LinkPredictorModel", name := "receivers", desc := "(II)I" } : Jvm.MethodName)) ∈ TT := mT (mL4 (List.mem_of_getElem? (i := 53) rfl)) rfl
theorem mw_4_54 : (Jvm.Cond.selects "LinkPredictorModel" ({ cls := "LinkPredictorModel", name := "receivers", desc := "(II)I" } : Jvm.MethodName) ({ cls := "LinkPredictorModel", name := "receivers", desc := "(II)I" } : Jvm.MethodName)) ∈ TT := mT (mL4 (List.mem_of_getElem? (i := 54) rfl)) rfl
theorem mw_4_55 : (Jvm.Cond.code ({ cls := "LinkPredictorModel", name := "receivers", desc := "(II)I" } : Jvm.MethodName) prog_7_method_43_code (9 : Nat) (Option.some Jvm.ClassFile.FieldType.int)) ∈ TT := mT (mL4 (List.mem_of_getElem? (i := 55) rfl)) rfl
theorem mw_4_56 : (Jvm.Cond.methodLink "LinkPredictorLaw" (86 : Nat) ({ cls := "LinkPredictorModel", name := "isUnder", desc := "(III)Z" } : Jvm.MethodName)) ∈ TT := mT (mL4 (List.mem_of_getElem? (i := 56) rfl)) rfl
theorem mw_4_57 : (Jvm.Cond.instanceMethod ({ cls := "LinkPredictorModel", name := "isUnder", desc := "(III)Z" } : Jvm.MethodName)) ∈ TT := mT (mL4 (List.mem_of_getElem? (i := 57) rfl)) rfl
theorem mw_4_58 : (Jvm.Cond.selects "LinkPredictorModel" ({ cls := "LinkPredictorModel", name := "isUnder", desc := "(III)Z" } : Jvm.MethodName) ({ cls := "LinkPredictorModel", name := "isUnder", desc := "(III)Z" } : Jvm.MethodName)) ∈ TT := mT (mL4 (List.mem_of_getElem? (i := 58) rfl)) rfl
theorem mw_4_59 : (Jvm.Cond.code ({ cls := "LinkPredictorModel", name := "isUnder", desc := "(III)Z" } : Jvm.MethodName) prog_7_method_44_code (4 : Nat) (Option.some Jvm.ClassFile.FieldType.boolean)) ∈ TT := mT (mL4 (List.mem_of_getElem? (i := 59) rfl)) rfl
theorem mw_4_60 : (Jvm.Cond.methodLink "LinkPredictorLaw" (90 : Nat) ({ cls := "LinkPredictorModel", name := "count", desc := "(II)I" } : Jvm.MethodName)) ∈ TT := mT (mL4 (List.mem_of_getElem? (i := 60) rfl)) rfl
theorem mw_4_61 : (Jvm.Cond.instanceMethod ({ cls := "LinkPredictorModel", name := "count", desc := "(II)I" } : Jvm.MethodName)) ∈ TT := mT (mL4 (List.mem_of_getElem? (i := 61) rfl)) rfl
theorem mw_4_62 : (Jvm.Cond.selects "LinkPredictorModel" ({ cls := "LinkPredictorModel", name := "count", desc := "(II)I" } : Jvm.MethodName) ({ cls := "LinkPredictorModel", name := "count", desc := "(II)I" } : Jvm.MethodName)) ∈ TT := mT (mL4 (List.mem_of_getElem? (i := 62) rfl)) rfl
theorem mw_4_63 : (Jvm.Cond.code ({ cls := "LinkPredictorModel", name := "count", desc := "(II)I" } : Jvm.MethodName) prog_7_method_46_code (5 : Nat) (Option.some Jvm.ClassFile.FieldType.int)) ∈ TT := mT (mL4 (List.mem_of_getElem? (i := 63) rfl)) rfl
theorem mw_4_64 : (Jvm.Cond.methodLink "LinkPredictorModel" (164 : Nat) ({ cls := "LinkPredictorModel", name := "neighbours", desc := "(I)I" } : Jvm.MethodName)) ∈ TT := mT (mL4 (List.mem_of_getElem? (i := 64) rfl)) rfl
theorem nw_4_65 : (Jvm.Cond.privateMethod ({ cls := "LinkPredictorModel", name := "neighbours", desc := "(I)I" } : Jvm.MethodName)) ∈ lw_tbl := mL4 (List.mem_of_getElem? (i := 65) rfl)
theorem mw_4_66 : (Jvm.Cond.instanceMethod ({ cls := "LinkPredictorModel", name := "neighbours", desc := "(I)I" } : Jvm.MethodName)) ∈ TT := mT (mL4 (List.mem_of_getElem? (i := 66) rfl)) rfl
theorem mw_4_67 : (Jvm.Cond.code ({ cls := "LinkPredictorModel", name := "neighbours", desc := "(I)I" } : Jvm.MethodName) prog_7_method_45_code (5 : Nat) (Option.some Jvm.ClassFile.FieldType.int)) ∈ TT := mT (mL4 (List.mem_of_getElem? (i := 67) rfl)) rfl
theorem ms_0 : Cond.selects "LinkPredictor$Hierarchy" ⟨"LinkPredictor$Hierarchy", "settle", "()V"⟩ ⟨"LinkPredictor$Hierarchy", "settle", "()V"⟩ ∈ TT := mTs (List.mem_of_getElem? (i := 0) rfl) rfl
theorem ms_1 : Cond.selects "LinkPredictor$Hierarchy" ⟨"LinkPredictor$Hierarchy", "loadInside", "(II)I"⟩ ⟨"LinkPredictor$Hierarchy", "loadInside", "(II)I"⟩ ∈ TT := mTs (List.mem_of_getElem? (i := 1) rfl) rfl
theorem ms_2 : Cond.selects "LinkPredictor$Hierarchy" ⟨"LinkPredictor$Hierarchy", "loadParents", "(II)I"⟩ ⟨"LinkPredictor$Hierarchy", "loadParents", "(II)I"⟩ ∈ TT := mTs (List.mem_of_getElem? (i := 2) rfl) rfl
theorem ms_3 : Cond.selects "LinkPredictor$Hierarchy" ⟨"LinkPredictor$Hierarchy", "hasWrongParents", "(I)Z"⟩ ⟨"LinkPredictor$Hierarchy", "hasWrongParents", "(I)Z"⟩ ∈ TT := mTs (List.mem_of_getElem? (i := 3) rfl) rfl
theorem ms_4 : Cond.selects "LinkPredictor$Hierarchy" ⟨"LinkPredictor$Hierarchy", "gatherSets", "(I)V"⟩ ⟨"LinkPredictor$Hierarchy", "gatherSets", "(I)V"⟩ ∈ TT := mTs (List.mem_of_getElem? (i := 4) rfl) rfl
theorem ms_5 : Cond.selects "LinkPredictor$Members" ⟨"LinkPredictor$Members", "isPresent", "(I)Z"⟩ ⟨"LinkPredictor$Members", "isPresent", "(I)Z"⟩ ∈ TT := mTs (List.mem_of_getElem? (i := 5) rfl) rfl
theorem ms_6 : Cond.selects "LinkPredictor$Build" ⟨"LinkPredictor$Build", "lookUpField", "(LLinkPredictor$Reference;)I"⟩ ⟨"LinkPredictor$Build", "lookUpField", "(LLinkPredictor$Reference;)I"⟩ ∈ TT := mTs (List.mem_of_getElem? (i := 6) rfl) rfl
theorem ms_7 : Cond.selects "LinkPredictor$Build" ⟨"LinkPredictor$Build", "findField", "(II)I"⟩ ⟨"LinkPredictor$Build", "findField", "(II)I"⟩ ∈ TT := mTs (List.mem_of_getElem? (i := 7) rfl) rfl
theorem ms_8 : Cond.selects "LinkPredictor$Build" ⟨"LinkPredictor$Build", "lookUpMethod", "(LLinkPredictor$Reference;)I"⟩ ⟨"LinkPredictor$Build", "lookUpMethod", "(LLinkPredictor$Reference;)I"⟩ ∈ TT := mTs (List.mem_of_getElem? (i := 8) rfl) rfl
theorem ms_9 : Cond.selects "LinkPredictor$Build" ⟨"LinkPredictor$Build", "findInInterface", "(II)I"⟩ ⟨"LinkPredictor$Build", "findInInterface", "(II)I"⟩ ∈ TT := mTs (List.mem_of_getElem? (i := 9) rfl) rfl
theorem ms_10 : Cond.selects "LinkPredictor$Build" ⟨"LinkPredictor$Build", "findInAbove", "(II)I"⟩ ⟨"LinkPredictor$Build", "findInAbove", "(II)I"⟩ ∈ TT := mTs (List.mem_of_getElem? (i := 10) rfl) rfl
theorem ms_11 : Cond.selects "LinkPredictor$Build" ⟨"LinkPredictor$Build", "findBest", "(II)I"⟩ ⟨"LinkPredictor$Build", "findBest", "(II)I"⟩ ∈ TT := mTs (List.mem_of_getElem? (i := 11) rfl) rfl
theorem ms_12 : Cond.selects "LinkPredictor$Build" ⟨"LinkPredictor$Build", "findOnlyWithBody", "(II)I"⟩ ⟨"LinkPredictor$Build", "findOnlyWithBody", "(II)I"⟩ ∈ TT := mTs (List.mem_of_getElem? (i := 12) rfl) rfl
theorem ms_13 : Cond.selects "LinkPredictor$Build" ⟨"LinkPredictor$Build", "findLeast", "(II)I"⟩ ⟨"LinkPredictor$Build", "findLeast", "(II)I"⟩ ∈ TT := mTs (List.mem_of_getElem? (i := 13) rfl) rfl
theorem ms_14 : Cond.selects "LinkPredictor$Build" ⟨"LinkPredictor$Build", "checkMember", "(LLinkPredictor$Reference;I)I"⟩ ⟨"LinkPredictor$Build", "checkMember", "(LLinkPredictor$Reference;I)I"⟩ ∈ TT := mTs (List.mem_of_getElem? (i := 14) rfl) rfl
theorem ms_15 : Cond.selects "LinkPredictor$Build" ⟨"LinkPredictor$Build", "isAccessible", "(III)Z"⟩ ⟨"LinkPredictor$Build", "isAccessible", "(III)Z"⟩ ∈ TT := mTs (List.mem_of_getElem? (i := 15) rfl) rfl
theorem ms_16 : Cond.selects "LinkPredictor$Build" ⟨"LinkPredictor$Build", "isInherited", "(III)Z"⟩ ⟨"LinkPredictor$Build", "isInherited", "(III)Z"⟩ ∈ TT := mTs (List.mem_of_getElem? (i := 16) rfl) rfl
theorem ms_17 : Cond.selects "LinkPredictor$Build" ⟨"LinkPredictor$Build", "isFit", "(II)Z"⟩ ⟨"LinkPredictor$Build", "isFit", "(II)Z"⟩ ∈ TT := mTs (List.mem_of_getElem? (i := 17) rfl) rfl
theorem ms_18 : Cond.selects "LinkPredictor$Build" ⟨"LinkPredictor$Build", "selectFor", "(III)I"⟩ ⟨"LinkPredictor$Build", "selectFor", "(III)I"⟩ ∈ TT := mTs (List.mem_of_getElem? (i := 18) rfl) rfl
theorem ms_19 : Cond.selects "LinkPredictor$Build" ⟨"LinkPredictor$Build", "overrides", "(II)Z"⟩ ⟨"LinkPredictor$Build", "overrides", "(II)Z"⟩ ∈ TT := mTs (List.mem_of_getElem? (i := 19) rfl) rfl
theorem ms_20 : Cond.selects "LinkPredictor$Build" ⟨"LinkPredictor$Build", "selectFromFaces", "(II)I"⟩ ⟨"LinkPredictor$Build", "selectFromFaces", "(II)I"⟩ ∈ TT := mTs (List.mem_of_getElem? (i := 20) rfl) rfl
theorem ms_21 : Cond.selects "LinkPredictor$Build" ⟨"LinkPredictor$Build", "checkSelected", "(LLinkPredictor$Reference;I)I"⟩ ⟨"LinkPredictor$Build", "checkSelected", "(LLinkPredictor$Reference;I)I"⟩ ∈ TT := mTs (List.mem_of_getElem? (i := 21) rfl) rfl
theorem ms_22 : Cond.selects "LinkPredictor" ⟨"LinkPredictor", "areAlike", "(II)Z"⟩ ⟨"LinkPredictor", "areAlike", "(II)Z"⟩ ∈ TT := mTs (List.mem_of_getElem? (i := 22) rfl) rfl
theorem ms_23 : Cond.selects "LinkPredictor" ⟨"LinkPredictor", "isSuchReceiver", "(III)Z"⟩ ⟨"LinkPredictor", "isSuchReceiver", "(III)Z"⟩ ∈ TT := mTs (List.mem_of_getElem? (i := 23) rfl) rfl
theorem ms_24 : Cond.selects "LinkPredictor" ⟨"LinkPredictor", "countGoodReferences", "(LLinkPredictor$Build;)I"⟩ ⟨"LinkPredictor", "countGoodReferences", "(LLinkPredictor$Build;)I"⟩ ∈ TT := mTs (List.mem_of_getElem? (i := 24) rfl) rfl
theorem ms_25 : Cond.selects "LinkPredictorModel" ⟨"LinkPredictorModel", "at", "(I)I"⟩ ⟨"LinkPredictorModel", "at", "(I)I"⟩ ∈ TT := mTs (List.mem_of_getElem? (i := 25) rfl) rfl
theorem ms_26 : Cond.selects "LinkPredictorModel" ⟨"LinkPredictorModel", "isThere", "(I)Z"⟩ ⟨"LinkPredictorModel", "isThere", "(I)Z"⟩ ∈ TT := mTs (List.mem_of_getElem? (i := 26) rfl) rfl
theorem ms_27 : Cond.selects "LinkPredictorModel" ⟨"LinkPredictorModel", "own", "(IIZI)I"⟩ ⟨"LinkPredictorModel", "own", "(IIZI)I"⟩ ∈ TT := mTs (List.mem_of_getElem? (i := 27) rfl) rfl
theorem ms_28 : Cond.selects "LinkPredictorModel" ⟨"LinkPredictorModel", "isMember", "(I)Z"⟩ ⟨"LinkPredictorModel", "isMember", "(I)Z"⟩ ∈ TT := mTs (List.mem_of_getElem? (i := 28) rfl) rfl
theorem ms_29 : Cond.selects "LinkPredictorModel" ⟨"LinkPredictorModel", "loaded", "(II)I"⟩ ⟨"LinkPredictorModel", "loaded", "(II)I"⟩ ∈ TT := mTs (List.mem_of_getElem? (i := 29) rfl) rfl
theorem ms_30 : Cond.selects "LinkPredictorModel" ⟨"LinkPredictorModel", "isChanged", "(II)Z"⟩ ⟨"LinkPredictorModel", "isChanged", "(II)Z"⟩ ∈ TT := mTs (List.mem_of_getElem? (i := 30) rfl) rfl
theorem ms_31 : Cond.selects "LinkPredictorModel" ⟨"LinkPredictorModel", "isAsk", "(II)Z"⟩ ⟨"LinkPredictorModel", "isAsk", "(II)Z"⟩ ∈ TT := mTs (List.mem_of_getElem? (i := 31) rfl) rfl
theorem ms_32 : Cond.selects "LinkPredictorModel" ⟨"LinkPredictorModel", "resolved", "(II)I"⟩ ⟨"LinkPredictorModel", "resolved", "(II)I"⟩ ∈ TT := mTs (List.mem_of_getElem? (i := 32) rfl) rfl
theorem ms_33 : Cond.selects "LinkPredictorModel" ⟨"LinkPredictorModel", "field", "(III)I"⟩ ⟨"LinkPredictorModel", "field", "(III)I"⟩ ∈ TT := mTs (List.mem_of_getElem? (i := 33) rfl) rfl
theorem ms_34 : Cond.selects "LinkPredictorModel" ⟨"LinkPredictorModel", "lay", "(II)I"⟩ ⟨"LinkPredictorModel", "lay", "(II)I"⟩ ∈ TT := mTs (List.mem_of_getElem? (i := 34) rfl) rfl
theorem ms_35 : Cond.selects "LinkPredictorModel" ⟨"LinkPredictorModel", "find", "(III)I"⟩ ⟨"LinkPredictorModel", "find", "(III)I"⟩ ∈ TT := mTs (List.mem_of_getElem? (i := 35) rfl) rfl
theorem ms_36 : Cond.selects "LinkPredictorModel" ⟨"LinkPredictorModel", "specific", "(III)I"⟩ ⟨"LinkPredictorModel", "specific", "(III)I"⟩ ∈ TT := mTs (List.mem_of_getElem? (i := 36) rfl) rfl
theorem ms_37 : Cond.selects "LinkPredictorModel" ⟨"LinkPredictorModel", "facesOf", "(II)I"⟩ ⟨"LinkPredictorModel", "facesOf", "(II)I"⟩ ∈ TT := mTs (List.mem_of_getElem? (i := 37) rfl) rfl
theorem ms_38 : Cond.selects "LinkPredictorModel" ⟨"LinkPredictorModel", "aboveOf", "(II)I"⟩ ⟨"LinkPredictorModel", "aboveOf", "(II)I"⟩ ∈ TT := mTs (List.mem_of_getElem? (i := 38) rfl) rfl
theorem ms_39 : Cond.selects "LinkPredictorModel" ⟨"LinkPredictorModel", "offers", "(III)Z"⟩ ⟨"LinkPredictorModel", "offers", "(III)Z"⟩ ∈ TT := mTs (List.mem_of_getElem? (i := 39) rfl) rfl
theorem ms_40 : Cond.selects "LinkPredictorModel" ⟨"LinkPredictorModel", "under", "(III)Z"⟩ ⟨"LinkPredictorModel", "under", "(III)Z"⟩ ∈ TT := mTs (List.mem_of_getElem? (i := 40) rfl) rfl
theorem ms_41 : Cond.selects "LinkPredictorModel" ⟨"LinkPredictorModel", "bodied", "(III)I"⟩ ⟨"LinkPredictorModel", "bodied", "(III)I"⟩ ∈ TT := mTs (List.mem_of_getElem? (i := 41) rfl) rfl
theorem ms_42 : Cond.selects "LinkPredictorModel" ⟨"LinkPredictorModel", "isOpen", "(IIII)Z"⟩ ⟨"LinkPredictorModel", "isOpen", "(IIII)Z"⟩ ∈ TT := mTs (List.mem_of_getElem? (i := 42) rfl) rfl
theorem ms_43 : Cond.selects "LinkPredictorModel" ⟨"LinkPredictorModel", "nestOf", "(II)I"⟩ ⟨"LinkPredictorModel", "nestOf", "(II)I"⟩ ∈ TT := mTs (List.mem_of_getElem? (i := 43) rfl) rfl
theorem ms_44 : Cond.selects "LinkPredictorModel" ⟨"LinkPredictorModel", "selects", "(II)Z"⟩ ⟨"LinkPredictorModel", "selects", "(II)Z"⟩ ∈ TT := mTs (List.mem_of_getElem? (i := 44) rfl) rfl
theorem ms_45 : Cond.selects "LinkPredictorModel" ⟨"LinkPredictorModel", "selected", "(III)I"⟩ ⟨"LinkPredictorModel", "selected", "(III)I"⟩ ∈ TT := mTs (List.mem_of_getElem? (i := 45) rfl) rfl
theorem ms_46 : Cond.selects "LinkPredictorModel" ⟨"LinkPredictorModel", "isLoaded", "(II)Z"⟩ ⟨"LinkPredictorModel", "isLoaded", "(II)Z"⟩ ∈ TT := mTs (List.mem_of_getElem? (i := 46) rfl) rfl
theorem ms_47 : Cond.selects "LinkPredictorModel" ⟨"LinkPredictorModel", "overrides", "(III)Z"⟩ ⟨"LinkPredictorModel", "overrides", "(III)Z"⟩ ∈ TT := mTs (List.mem_of_getElem? (i := 47) rfl) rfl
theorem ms_48 : Cond.selects "LinkPredictorModel" ⟨"LinkPredictorModel", "areAlike", "(II)Z"⟩ ⟨"LinkPredictorModel", "areAlike", "(II)Z"⟩ ∈ TT := mTs (List.mem_of_getElem? (i := 48) rfl) rfl
theorem ms_49 : Cond.selects "LinkPredictorModel" ⟨"LinkPredictorModel", "neighbours", "(I)I"⟩ ⟨"LinkPredictorModel", "neighbours", "(I)I"⟩ ∈ TT := mTs (List.mem_of_getElem? (i := 49) rfl) rfl
def wsX4_bit : List Cond := .code yX4_bit cX4_bit 1 (some .int) :: TT
def wsX4_contains : List Cond := .code yX4_contains cX4_contains 2 (some .boolean) :: TT
def wsX1_isThere : List Cond := .code yX1_isThere cX1_isThere 2 (some .boolean) :: TT
def wsX4_isWithin : List Cond := .code yX4_isWithin cX4_isWithin 2 (some .boolean) :: TT
def wsX4_isGood : List Cond := .code yX4_isGood cX4_isGood 1 (some .boolean) :: TT
def wsX1_isInterface : List Cond := .code yX1_isInterface cX1_isInterface 2 (some .boolean) :: TT
def wsX1_hasWrongParents : List Cond := .code yX1_hasWrongParents cX1_hasWrongParents 4 (some .boolean) :: TT
def wsX1_gatherSets : List Cond := .code yX1_gatherSets cX1_gatherSets 5 none :: TT
def wsX1_loadInside : List Cond := .code yX1_loadInside cX1_loadInside 4 (some .int) :: TT
def wsX1_loadParents : List Cond := .code yX1_loadParents cX1_loadParents 5 (some .int) :: TT
def wsX1_settle : List Cond := .code yX1_settle cX1_settle 2 none :: TT
def wsX1_init : List Cond := .code yX1_init cX1_init 1 none :: TT
def wsX2_init : List Cond := .code yX2_init cX2_init 1 none :: TT
def wsX0_init : List Cond := .code yX0_init cX0_init 1 none :: TT
def wsX1_takeAway : List Cond := .code yX1_takeAway cX1_takeAway 2 (some .boolean) :: TT
def wsX2_discardAllOf : List Cond := .code yX2_discardAllOf cX2_discardAllOf 3 none :: TT
def wsX0_discardType : List Cond := .code yX0_discardType cX0_discardType 2 (some .boolean) :: TT
def wsX2_keyOf : List Cond := .code yX2_keyOf cX2_keyOf 2 (some .int) :: TT
def wsX2_find : List Cond := .code yX2_find cX2_find 6 (some .int) :: TT
def wsX2_append : List Cond := .code yX2_append cX2_append 7 (some .int) :: TT
def wsX0_addMember : List Cond := .code yX0_addMember cX0_addMember 6 (some .int) :: TT
def wsX1_becomeAs : List Cond := .code yX1_becomeAs cX1_becomeAs 2 none :: TT
def wsX2_becomeAs : List Cond := .code yX2_becomeAs cX2_becomeAs 2 none :: TT
def wsX0_becomeAs : List Cond := .code yX0_becomeAs cX0_becomeAs 2 none :: TT
def wsX1_loading : List Cond := .code yX1_loading cX1_loading 2 (some .int) :: TT
def wsX1_isSamePackage : List Cond := .code yX1_isSamePackage cX1_isSamePackage 3 (some .boolean) :: TT
def wsX1_reaching : List Cond := .code yX1_reaching cX1_reaching 4 (some .int) :: TT
def wsX3_isOfField : List Cond := .code yX3_isOfField cX3_isOfField 1 (some .boolean) :: TT
def wsX1_directFacesOf : List Cond := .code yX1_directFacesOf cX1_directFacesOf 2 (some .int) :: TT
def wsX1_superOf : List Cond := .code yX1_superOf cX1_superOf 2 (some .int) :: TT
def wsX0_findField : List Cond := .code yX0_findField cX0_findField 5 (some .int) :: TT
def wsX0_lookUpField : List Cond := .code yX0_lookUpField cX0_lookUpField 3 (some .int) :: TT
def wsX2_accessOf : List Cond := .code yX2_accessOf cX2_accessOf 2 (some .int) :: TT
def wsX2_isStatic : List Cond := .code yX2_isStatic cX2_isStatic 2 (some .boolean) :: TT
def wsX0_findInInterface : List Cond := .code yX0_findInInterface cX0_findInInterface 5 (some .int) :: TT
def wsX0_findInAbove : List Cond := .code yX0_findInAbove cX0_findInAbove 6 (some .int) :: TT
def wsX1_facesOf : List Cond := .code yX1_facesOf cX1_facesOf 2 (some .int) :: TT
def wsX2_isInheritable : List Cond := .code yX2_isInheritable cX2_isInheritable 2 (some .boolean) :: TT
def wsX2_ownersOfInheritable : List Cond := .code yX2_ownersOfInheritable cX2_ownersOfInheritable 5 (some .int) :: TT
def wsX1_mostSpecificOf : List Cond := .code yX1_mostSpecificOf cX1_mostSpecificOf 4 (some .int) :: TT
def wsX2_isAbstract : List Cond := .code yX2_isAbstract cX2_isAbstract 2 (some .boolean) :: TT
def wsX0_findOnlyWithBody : List Cond := .code yX0_findOnlyWithBody cX0_findOnlyWithBody 6 (some .int) :: TT
def wsX0_findLeast : List Cond := .code yX0_findLeast cX0_findLeast 6 (some .int) :: TT
def wsX0_findBest : List Cond := .code yX0_findBest cX0_findBest 5 (some .int) :: TT
def wsX0_lookUpMethod : List Cond := .code yX0_lookUpMethod cX0_lookUpMethod 4 (some .int) :: TT
def wsX2_ownerOf : List Cond := .code yX2_ownerOf cX2_ownerOf 2 (some .int) :: TT
def wsX1_hasAbove : List Cond := .code yX1_hasAbove cX1_hasAbove 3 (some .boolean) :: TT
def wsX1_liesUnder : List Cond := .code yX1_liesUnder cX1_liesUnder 3 (some .boolean) :: TT
def wsX0_isInherited : List Cond := .code yX0_isInherited cX0_isInherited 4 (some .boolean) :: TT
def wsX1_nestOf : List Cond := .code yX1_nestOf cX1_nestOf 3 (some .int) :: TT
def wsX0_isAccessible : List Cond := .code yX0_isAccessible cX0_isAccessible 5 (some .boolean) :: TT
def wsX3_needsStatic : List Cond := .code yX3_needsStatic cX3_needsStatic 1 (some .boolean) :: TT
def wsX3_isPut : List Cond := .code yX3_isPut cX3_isPut 1 (some .boolean) :: TT
def wsX2_isFinal : List Cond := .code yX2_isFinal cX2_isFinal 2 (some .boolean) :: TT
def wsX0_checkMember : List Cond := .code yX0_checkMember cX0_checkMember 3 (some .int) :: TT
def wsX0_resolution : List Cond := .code yX0_resolution cX0_resolution 3 (some .int) :: TT
def wsX3_hasReceiver : List Cond := .code yX3_hasReceiver cX3_hasReceiver 1 (some .boolean) :: TT
def wsX1_canBeMade : List Cond := .code yX1_canBeMade cX1_canBeMade 2 (some .boolean) :: TT
def wsX0_isFit : List Cond := .code yX0_isFit cX0_isFit 3 (some .boolean) :: TT
def wsX0_overrides : List Cond := .code yX0_overrides cX0_overrides 3 (some .boolean) :: TT
def wsX0_selectFromFaces : List Cond := .code yX0_selectFromFaces cX0_selectFromFaces 5 (some .int) :: TT
def wsX0_selectFor : List Cond := .code yX0_selectFor cX0_selectFor 7 (some .int) :: TT
def wsX0_checkSelected : List Cond := .code yX0_checkSelected cX0_checkSelected 4 (some .int) :: TT
def wsX0_selection : List Cond := .code yX0_selection cX0_selection 6 (some .int) :: TT
def wsX1_define : List Cond := .code yX1_define cX1_define 6 none :: TT
def wsX1_putHost : List Cond := .code yX1_putHost cX1_putHost 3 (some .boolean) :: TT
def wsJ6_bitCount_0f7a4 : List Cond := .code yJ6_bitCount_0f7a4 cJ6_bitCount_0f7a4 1 (some .int) :: TT
def wsX1_countThere : List Cond := .code yX1_countThere cX1_countThere 1 (some .int) :: TT
def wsX1_countLoaded : List Cond := .code yX1_countLoaded cX1_countLoaded 1 (some .int) :: TT
def wsX1_nestSharers : List Cond := .code yX1_nestSharers cX1_nestSharers 4 (some .int) :: TT
def wsX2_isPresent : List Cond := .code yX2_isPresent cX2_isPresent 2 (some .boolean) :: TT
def wsX2_change : List Cond := .code yX2_change cX2_change 4 (some .boolean) :: TT
def wsX2_discard : List Cond := .code yX2_discard cX2_discard 2 (some .boolean) :: TT
def wsX2_isSameThing : List Cond := .code yX2_isSameThing cX2_isSameThing 4 (some .boolean) :: TT
def wsX2_countAll : List Cond := .code yX2_countAll cX2_countAll 1 (some .int) :: TT
def wsX2_countPresent : List Cond := .code yX2_countPresent cX2_countPresent 1 (some .int) :: TT
def wsX2_countAbstractMethods : List Cond := .code yX2_countAbstractMethods cX2_countAbstractMethods 3 (some .int) :: TT
def wsX3_init : List Cond := .code yX3_init cX3_init 1 none :: TT
def wsX3_put : List Cond := .code yX3_put cX3_put 5 none :: TT
def wsX4_init : List Cond := .code yX4_init cX4_init 2 none :: TT
def wsX4_isOrdinaryType : List Cond := .code yX4_isOrdinaryType cX4_isOrdinaryType 1 (some .boolean) :: TT
def wsX4_type : List Cond := .code yX4_type cX4_type 6 (some .boolean) :: TT
def wsX4_nest : List Cond := .code yX4_nest cX4_nest 3 (some .boolean) :: TT
def wsX4_drop : List Cond := .code yX4_drop cX4_drop 2 (some .boolean) :: TT
def wsX4_member : List Cond := .code yX4_member cX4_member 6 (some .int) :: TT
def wsX4_remake : List Cond := .code yX4_remake cX4_remake 4 (some .boolean) :: TT
def wsX4_remove : List Cond := .code yX4_remove cX4_remove 2 (some .boolean) :: TT
def wsX4_branch : List Cond := .code yX4_branch cX4_branch 1 (some .int) :: TT
def wsX4_write : List Cond := .code yX4_write cX4_write 2 (some .boolean) :: TT
def wsX4_refer : List Cond := .code yX4_refer cX4_refer 5 (some .int) :: TT
def wsX4_forget : List Cond := .code yX4_forget cX4_forget 2 (some .int) :: TT
def wsX4_load : List Cond := .code yX4_load cX4_load 3 (some .int) :: TT
def wsX4_resolve : List Cond := .code yX4_resolve cX4_resolve 3 (some .int) :: TT
def wsX4_select : List Cond := .code yX4_select cX4_select 5 (some .int) :: TT
def wsX4_areAlike : List Cond := .code yX4_areAlike cX4_areAlike 5 (some .boolean) :: TT
def wsX4_compare : List Cond := .code yX4_compare cX4_compare 4 (some .int) :: TT
def wsX4_isSuchReceiver : List Cond := .code yX4_isSuchReceiver cX4_isSuchReceiver 4 (some .boolean) :: TT
def wsX4_receivers : List Cond := .code yX4_receivers cX4_receivers 10 (some .int) :: TT
def wsX4_isUnder : List Cond := .code yX4_isUnder cX4_isUnder 5 (some .boolean) :: TT
def wsX4_countGoodReferences : List Cond := .code yX4_countGoodReferences cX4_countGoodReferences 4 (some .int) :: TT
def wsX4_count : List Cond := .code yX4_count cX4_count 4 (some .int) :: TT
def wsX5_init : List Cond := .code yX5_init cX5_init 3 none :: TT
def wsX5_in : List Cond := .code yX5_in cX5_in 2 (some .boolean) :: TT
def wsX5_has : List Cond := .code yX5_has cX5_has 2 (some .boolean) :: TT
def wsX5_at : List Cond := .code yX5_at cX5_at 2 (some .int) :: TT
def wsX5_isThere : List Cond := .code yX5_isThere cX5_isThere 2 (some .boolean) :: TT
def wsX5_type : List Cond := .code yX5_type cX5_type 7 (some .boolean) :: TT
def wsX5_nest : List Cond := .code yX5_nest cX5_nest 3 (some .boolean) :: TT
def wsX5_drop : List Cond := .code yX5_drop cX5_drop 3 (some .boolean) :: TT
def wsX5_own : List Cond := .code yX5_own cX5_own 7 (some .int) :: TT
def wsX5_member : List Cond := .code yX5_member cX5_member 7 (some .int) :: TT
def wsX5_isMember : List Cond := .code yX5_isMember cX5_isMember 2 (some .boolean) :: TT
def wsX5_remake : List Cond := .code yX5_remake cX5_remake 4 (some .boolean) :: TT
def wsX5_remove : List Cond := .code yX5_remove cX5_remove 2 (some .boolean) :: TT
def wsX5_branch : List Cond := .code yX5_branch cX5_branch 3 (some .int) :: TT
def wsX5_write : List Cond := .code yX5_write cX5_write 2 (some .boolean) :: TT
def wsX5_refer : List Cond := .code yX5_refer cX5_refer 5 (some .int) :: TT
def wsX5_forget : List Cond := .code yX5_forget cX5_forget 2 (some .int) :: TT
def wsX5_verdict : List Cond := .code yX5_verdict cX5_verdict 2 (some .int) :: TT
def wsX5_isChanged : List Cond := .code yX5_isChanged cX5_isChanged 6 (some .boolean) :: TT
def wsX5_loaded : List Cond := .code yX5_loaded cX5_loaded 10 (some .int) :: TT
def wsX5_isLoaded : List Cond := .code yX5_isLoaded cX5_isLoaded 3 (some .boolean) :: TT
def wsX5_aboveOf : List Cond := .code yX5_aboveOf cX5_aboveOf 5 (some .int) :: TT
def wsX5_facesOf : List Cond := .code yX5_facesOf cX5_facesOf 7 (some .int) :: TT
def wsX5_under : List Cond := .code yX5_under cX5_under 4 (some .boolean) :: TT
def wsX5_nestOf : List Cond := .code yX5_nestOf cX5_nestOf 5 (some .int) :: TT
def wsX5_isOpen : List Cond := .code yX5_isOpen cX5_isOpen 9 (some .boolean) :: TT
def wsX5_lay : List Cond := .code yX5_lay cX5_lay 5 (some .int) :: TT
def wsX5_field : List Cond := .code yX5_field cX5_field 10 (some .int) :: TT
def wsX5_offers : List Cond := .code yX5_offers cX5_offers 5 (some .boolean) :: TT
def wsX5_specific : List Cond := .code yX5_specific cX5_specific 10 (some .int) :: TT
def wsX5_bodied : List Cond := .code yX5_bodied cX5_bodied 7 (some .int) :: TT
def wsX5_find : List Cond := .code yX5_find cX5_find 9 (some .int) :: TT
def wsX5_resolved : List Cond := .code yX5_resolved cX5_resolved 12 (some .int) :: TT
def wsX5_overrides : List Cond := .code yX5_overrides cX5_overrides 6 (some .boolean) :: TT
def wsX5_selected : List Cond := .code yX5_selected cX5_selected 10 (some .int) :: TT
def wsX5_isAsk : List Cond := .code yX5_isAsk cX5_isAsk 3 (some .boolean) :: TT
def wsX5_load : List Cond := .code yX5_load cX5_load 3 (some .int) :: TT
def wsX5_resolve : List Cond := .code yX5_resolve cX5_resolve 3 (some .int) :: TT
def wsX5_selects : List Cond := .code yX5_selects cX5_selects 3 (some .boolean) :: TT
def wsX5_select : List Cond := .code yX5_select cX5_select 4 (some .int) :: TT
def wsX5_areAlike : List Cond := .code yX5_areAlike cX5_areAlike 7 (some .boolean) :: TT
def wsX5_compare : List Cond := .code yX5_compare cX5_compare 4 (some .int) :: TT
def wsX5_receivers : List Cond := .code yX5_receivers cX5_receivers 9 (some .int) :: TT
def wsX5_isUnder : List Cond := .code yX5_isUnder cX5_isUnder 4 (some .boolean) :: TT
def wsX5_neighbours : List Cond := .code yX5_neighbours cX5_neighbours 5 (some .int) :: TT
def wsX5_count : List Cond := .code yX5_count cX5_count 5 (some .int) :: TT
def wsJ9_min_7cf53 : List Cond := .code yJ9_min_7cf53 cJ9_min_7cf53 2 (some .int) :: TT
theorem inT_X0 : ∀ w ∈ wsX00, w ∈ TT := by
  show ∀ w ∈ (List.range 3).map (u_lay RX0 TX0), w ∈ TT
  exact List.forall_mem_cons.mpr ⟨mw_1_133, List.forall_mem_cons.mpr ⟨mw_1_135, List.forall_mem_cons.mpr ⟨mw_1_137, fun _ h => absurd h List.not_mem_nil⟩⟩⟩
theorem inT_X1 : ∀ w ∈ wsX10, w ∈ TT := by
  show ∀ w ∈ (List.range 10).map (u_lay RX1 TX1), w ∈ TT
  exact List.forall_mem_cons.mpr ⟨mw_1_81, List.forall_mem_cons.mpr ⟨mw_1_83, List.forall_mem_cons.mpr ⟨mw_1_85, List.forall_mem_cons.mpr ⟨mw_1_87, List.forall_mem_cons.mpr ⟨mw_1_89, List.forall_mem_cons.mpr ⟨mw_1_91, List.forall_mem_cons.mpr ⟨mw_1_93, List.forall_mem_cons.mpr ⟨mw_1_95, List.forall_mem_cons.mpr ⟨mw_1_97, List.forall_mem_cons.mpr ⟨mw_1_99, fun _ h => absurd h List.not_mem_nil⟩⟩⟩⟩⟩⟩⟩⟩⟩⟩
theorem inT_X2 : ∀ w ∈ wsX20, w ∈ TT := by
  show ∀ w ∈ (List.range 6).map (u_lay RX2 TX2), w ∈ TT
  exact List.forall_mem_cons.mpr ⟨mw_1_115, List.forall_mem_cons.mpr ⟨mw_1_117, List.forall_mem_cons.mpr ⟨mw_1_119, List.forall_mem_cons.mpr ⟨mw_1_121, List.forall_mem_cons.mpr ⟨mw_1_123, List.forall_mem_cons.mpr ⟨mw_1_125, fun _ h => absurd h List.not_mem_nil⟩⟩⟩⟩⟩⟩
theorem inT_X3 : ∀ w ∈ wsX30, w ∈ TT := by
  show ∀ w ∈ (List.range 4).map (u_lay RX3 TX3), w ∈ TT
  exact List.forall_mem_cons.mpr ⟨mw_1_155, List.forall_mem_cons.mpr ⟨mw_1_157, List.forall_mem_cons.mpr ⟨mw_1_159, List.forall_mem_cons.mpr ⟨mw_1_161, fun _ h => absurd h List.not_mem_nil⟩⟩⟩⟩
theorem inT_X4 : ∀ w ∈ wsX40, w ∈ TT := by
  show ∀ w ∈ (List.range 4).map (u_lay RX4 TX4), w ∈ TT
  exact List.forall_mem_cons.mpr ⟨mw_1_168, List.forall_mem_cons.mpr ⟨mw_1_170, List.forall_mem_cons.mpr ⟨mw_1_172, List.forall_mem_cons.mpr ⟨mw_1_174, fun _ h => absurd h List.not_mem_nil⟩⟩⟩⟩
theorem inT_X5 : ∀ w ∈ wsX50, w ∈ TT := by
  show ∀ w ∈ (List.range 21).map (u_lay RX5 TX5), w ∈ TT
  exact List.forall_mem_cons.mpr ⟨mw_3_87, List.forall_mem_cons.mpr ⟨mw_3_89, List.forall_mem_cons.mpr ⟨mw_3_91, List.forall_mem_cons.mpr ⟨mw_3_93, List.forall_mem_cons.mpr ⟨mw_3_95, List.forall_mem_cons.mpr ⟨mw_3_97, List.forall_mem_cons.mpr ⟨mw_3_99, List.forall_mem_cons.mpr ⟨mw_3_101, List.forall_mem_cons.mpr ⟨mw_3_103, List.forall_mem_cons.mpr ⟨mw_3_105, List.forall_mem_cons.mpr ⟨mw_3_107, List.forall_mem_cons.mpr ⟨mw_3_109, List.forall_mem_cons.mpr ⟨mw_3_111, List.forall_mem_cons.mpr ⟨mw_3_113, List.forall_mem_cons.mpr ⟨mw_3_115, List.forall_mem_cons.mpr ⟨mw_3_117, List.forall_mem_cons.mpr ⟨mw_3_119, List.forall_mem_cons.mpr ⟨mw_3_121, List.forall_mem_cons.mpr ⟨mw_3_123, List.forall_mem_cons.mpr ⟨mw_3_125, List.forall_mem_cons.mpr ⟨mw_3_127, fun _ h => absurd h List.not_mem_nil⟩⟩⟩⟩⟩⟩⟩⟩⟩⟩⟩⟩⟩⟩⟩⟩⟩⟩⟩⟩⟩
