theorem dX0_selectFor_0 : decode cX0_selectFor 0 = .ok (.iload_n 1, 1) := by decide +kernel
theorem dX0_selectFor_1 : decode cX0_selectFor 1 = .ok (.istore 4, 2) := by decide +kernel
theorem dX0_selectFor_3 : decode cX0_selectFor 3 = .ok (.iconst 0, 1) := by decide +kernel
theorem dX0_selectFor_4 : decode cX0_selectFor 4 = .ok (.istore 5, 2) := by decide +kernel
theorem dX0_selectFor_6 : decode cX0_selectFor 6 = .ok (.iload 5, 2) := by decide +kernel
theorem dX0_selectFor_8 : decode cX0_selectFor 8 = .ok (.bipush 12, 2) := by decide +kernel
theorem dX0_selectFor_10 : decode cX0_selectFor 10 = .ok (.if_icmp .ge 62, 3) := by decide +kernel
theorem dX0_selectFor_13 : decode cX0_selectFor 13 = .ok (.iload 4, 2) := by decide +kernel
theorem dX0_selectFor_15 : decode cX0_selectFor 15 = .ok (.iconst (-1), 1) := by decide +kernel
theorem dX0_selectFor_16 : decode cX0_selectFor 16 = .ok (.if_icmp .eq 56, 3) := by decide +kernel
theorem dX0_selectFor_19 : decode cX0_selectFor 19 = .ok (.aload_n 0, 1) := by decide +kernel
theorem dX0_selectFor_20 : decode cX0_selectFor 20 = .ok (.getfield 21, 3) := by decide +kernel
theorem dX0_selectFor_23 : decode cX0_selectFor 23 = .ok (.iload 4, 2) := by decide +kernel
theorem dX0_selectFor_25 : decode cX0_selectFor 25 = .ok (.iconst 1, 1) := by decide +kernel
theorem dX0_selectFor_26 : decode cX0_selectFor 26 = .ok (.iload_n 3, 1) := by decide +kernel
theorem dX0_selectFor_27 : decode cX0_selectFor 27 = .ok (.invokevirtual 36, 3) := by decide +kernel
theorem dX0_selectFor_30 : decode cX0_selectFor 30 = .ok (.istore 6, 2) := by decide +kernel
theorem dX0_selectFor_32 : decode cX0_selectFor 32 = .ok (.iload 6, 2) := by decide +kernel
theorem dX0_selectFor_34 : decode cX0_selectFor 34 = .ok (.bipush (-2), 2) := by decide +kernel
theorem dX0_selectFor_36 : decode cX0_selectFor 36 = .ok (.if_icmp .eq 19, 3) := by decide +kernel
theorem dX0_selectFor_39 : decode cX0_selectFor 39 = .ok (.aload_n 0, 1) := by decide +kernel
theorem dX0_selectFor_40 : decode cX0_selectFor 40 = .ok (.iload 6, 2) := by decide +kernel
theorem dX0_selectFor_42 : decode cX0_selectFor 42 = .ok (.iload_n 2, 1) := by decide +kernel
theorem dX0_selectFor_43 : decode cX0_selectFor 43 = .ok (.invokevirtual 199, 3) := by decide +kernel
theorem dX0_selectFor_46 : decode cX0_selectFor 46 = .ok (.ifCond .eq 9, 3) := by decide +kernel
theorem dX0_selectFor_49 : decode cX0_selectFor 49 = .ok (.bipush 16, 2) := by decide +kernel
theorem dX0_selectFor_51 : decode cX0_selectFor 51 = .ok (.iload 6, 2) := by decide +kernel
theorem dX0_selectFor_53 : decode cX0_selectFor 53 = .ok (.iadd, 1) := by decide +kernel
theorem dX0_selectFor_54 : decode cX0_selectFor 54 = .ok (.ireturn, 1) := by decide +kernel
theorem dX0_selectFor_55 : decode cX0_selectFor 55 = .ok (.aload_n 0, 1) := by decide +kernel
theorem dX0_selectFor_56 : decode cX0_selectFor 56 = .ok (.getfield 12, 3) := by decide +kernel
theorem dX0_selectFor_59 : decode cX0_selectFor 59 = .ok (.iload 4, 2) := by decide +kernel
theorem dX0_selectFor_61 : decode cX0_selectFor 61 = .ok (.invokevirtual 124, 3) := by decide +kernel
theorem dX0_selectFor_64 : decode cX0_selectFor 64 = .ok (.istore 4, 2) := by decide +kernel
theorem dX0_selectFor_66 : decode cX0_selectFor 66 = .ok (.iinc 5 1, 3) := by decide +kernel
theorem dX0_selectFor_69 : decode cX0_selectFor 69 = .ok (.goto (-63), 3) := by decide +kernel
theorem dX0_selectFor_72 : decode cX0_selectFor 72 = .ok (.aload_n 0, 1) := by decide +kernel
theorem dX0_selectFor_73 : decode cX0_selectFor 73 = .ok (.iload_n 1, 1) := by decide +kernel
theorem dX0_selectFor_74 : decode cX0_selectFor 74 = .ok (.iload_n 3, 1) := by decide +kernel
theorem dX0_selectFor_75 : decode cX0_selectFor 75 = .ok (.invokevirtual 202, 3) := by decide +kernel
theorem dX0_selectFor_78 : decode cX0_selectFor 78 = .ok (.ireturn, 1) := by decide +kernel
set_option maxRecDepth 20000 in
theorem ggX0_selectFromFaces_X1_facesOf : GoodIn wsX0_selectFromFaces wsX1_facesOf := goodIn_r _ [7, 8, 52, 53, 54, 55, 56, 57, 58, 59, 60, 61] (by decide +kernel) (by decide +kernel)
set_option maxRecDepth 20000 in
theorem gX0_selectFromFaces_X1_facesOf : GoodIn wsX0_selectFromFaces (wsV RX0 142 RX1 yX1_facesOf wsX1_facesOf) := goodIn_app (goodIn_of _ (by decide +kernel)) ggX0_selectFromFaces_X1_facesOf
set_option maxRecDepth 20000 in
theorem ggX0_selectFromFaces_X2_ownersOfInheritable : GoodIn wsX0_selectFromFaces wsX2_ownersOfInheritable := goodIn_r _ [13, 14, 15, 16, 17, 18, 19, 12, 20, 21, 22, 23, 24, 25, 26, 27, 28, 29, 30, 31, 62, 63, 64, 65, 66, 67] (by decide +kernel) (by decide +kernel)
set_option maxRecDepth 20000 in
theorem gX0_selectFromFaces_X2_ownersOfInheritable : GoodIn wsX0_selectFromFaces (wsV RX0 145 RX2 yX2_ownersOfInheritable wsX2_ownersOfInheritable) := goodIn_app (goodIn_of _ (by decide +kernel)) ggX0_selectFromFaces_X2_ownersOfInheritable
set_option maxRecDepth 20000 in
theorem ggX0_selectFromFaces_X1_mostSpecificOf : GoodIn wsX0_selectFromFaces wsX1_mostSpecificOf := goodIn_r _ [35, 8, 21, 22, 23, 52, 53, 54, 55, 56, 57, 58, 59, 60, 61] (by decide +kernel) (by decide +kernel)
set_option maxRecDepth 20000 in
theorem gX0_selectFromFaces_X1_mostSpecificOf : GoodIn wsX0_selectFromFaces (wsV RX0 148 RX1 yX1_mostSpecificOf wsX1_mostSpecificOf) := goodIn_app (goodIn_of _ (by decide +kernel)) ggX0_selectFromFaces_X1_mostSpecificOf
set_option maxRecDepth 20000 in
theorem ggX0_selectFromFaces_X0_findOnlyWithBody : GoodIn wsX0_selectFromFaces wsX0_findOnlyWithBody := goodIn_r _ [40, 2, 21, 22, 23, 41, 42, 43, 12, 44, 14, 15, 17, 16, 18, 19, 20, 45, 46, 47, 48, 29, 49, 50, 51, 62, 63, 64, 65, 66, 67] (by decide +kernel) (by decide +kernel)
set_option maxRecDepth 20000 in
theorem gX0_selectFromFaces_X0_findOnlyWithBody : GoodIn wsX0_selectFromFaces (wsV RX0 151 RX0 yX0_findOnlyWithBody wsX0_findOnlyWithBody) := goodIn_app (goodIn_of _ (by decide +kernel)) ggX0_selectFromFaces_X0_findOnlyWithBody
theorem dX0_selectFromFaces_0 : decode cX0_selectFromFaces 0 = .ok (.aload_n 0, 1) := by decide +kernel
theorem dX0_selectFromFaces_1 : decode cX0_selectFromFaces 1 = .ok (.getfield 12, 3) := by decide +kernel
theorem dX0_selectFromFaces_4 : decode cX0_selectFromFaces 4 = .ok (.iload_n 1, 1) := by decide +kernel
theorem dX0_selectFromFaces_5 : decode cX0_selectFromFaces 5 = .ok (.invokevirtual 142, 3) := by decide +kernel
theorem dX0_selectFromFaces_8 : decode cX0_selectFromFaces 8 = .ok (.aload_n 0, 1) := by decide +kernel
theorem dX0_selectFromFaces_9 : decode cX0_selectFromFaces 9 = .ok (.getfield 21, 3) := by decide +kernel
theorem dX0_selectFromFaces_12 : decode cX0_selectFromFaces 12 = .ok (.iload_n 2, 1) := by decide +kernel
theorem dX0_selectFromFaces_13 : decode cX0_selectFromFaces 13 = .ok (.invokevirtual 145, 3) := by decide +kernel
theorem dX0_selectFromFaces_16 : decode cX0_selectFromFaces 16 = .ok (.iand, 1) := by decide +kernel
theorem dX0_selectFromFaces_17 : decode cX0_selectFromFaces 17 = .ok (.istore_n 3, 1) := by decide +kernel
theorem dX0_selectFromFaces_18 : decode cX0_selectFromFaces 18 = .ok (.aload_n 0, 1) := by decide +kernel
theorem dX0_selectFromFaces_19 : decode cX0_selectFromFaces 19 = .ok (.aload_n 0, 1) := by decide +kernel
theorem dX0_selectFromFaces_20 : decode cX0_selectFromFaces 20 = .ok (.getfield 12, 3) := by decide +kernel
theorem dX0_selectFromFaces_23 : decode cX0_selectFromFaces 23 = .ok (.iload_n 3, 1) := by decide +kernel
theorem dX0_selectFromFaces_24 : decode cX0_selectFromFaces 24 = .ok (.invokevirtual 148, 3) := by decide +kernel
theorem dX0_selectFromFaces_27 : decode cX0_selectFromFaces 27 = .ok (.iload_n 2, 1) := by decide +kernel
theorem dX0_selectFromFaces_28 : decode cX0_selectFromFaces 28 = .ok (.invokevirtual 151, 3) := by decide +kernel
theorem dX0_selectFromFaces_31 : decode cX0_selectFromFaces 31 = .ok (.istore 4, 2) := by decide +kernel
theorem dX0_selectFromFaces_33 : decode cX0_selectFromFaces 33 = .ok (.iload 4, 2) := by decide +kernel
theorem dX0_selectFromFaces_35 : decode cX0_selectFromFaces 35 = .ok (.bipush (-4), 2) := by decide +kernel
theorem dX0_selectFromFaces_37 : decode cX0_selectFromFaces 37 = .ok (.if_icmp .ne 9, 3) := by decide +kernel
theorem dX0_selectFromFaces_40 : decode cX0_selectFromFaces 40 = .ok (.sipush 192, 3) := by decide +kernel
theorem dX0_selectFromFaces_43 : decode cX0_selectFromFaces 43 = .ok (.iload_n 1, 1) := by decide +kernel
theorem dX0_selectFromFaces_44 : decode cX0_selectFromFaces 44 = .ok (.iadd, 1) := by decide +kernel
theorem dX0_selectFromFaces_45 : decode cX0_selectFromFaces 45 = .ok (.ireturn, 1) := by decide +kernel
theorem dX0_selectFromFaces_46 : decode cX0_selectFromFaces 46 = .ok (.iload 4, 2) := by decide +kernel
theorem dX0_selectFromFaces_48 : decode cX0_selectFromFaces 48 = .ok (.bipush (-2), 2) := by decide +kernel
theorem dX0_selectFromFaces_50 : decode cX0_selectFromFaces 50 = .ok (.if_icmp .ne 11, 3) := by decide +kernel
theorem dX0_selectFromFaces_53 : decode cX0_selectFromFaces 53 = .ok (.sipush 448, 3) := by decide +kernel
theorem dX0_selectFromFaces_56 : decode cX0_selectFromFaces 56 = .ok (.iload_n 1, 1) := by decide +kernel
theorem dX0_selectFromFaces_57 : decode cX0_selectFromFaces 57 = .ok (.iadd, 1) := by decide +kernel
theorem dX0_selectFromFaces_58 : decode cX0_selectFromFaces 58 = .ok (.goto 8, 3) := by decide +kernel
theorem dX0_selectFromFaces_61 : decode cX0_selectFromFaces 61 = .ok (.bipush 16, 2) := by decide +kernel
theorem dX0_selectFromFaces_63 : decode cX0_selectFromFaces 63 = .ok (.iload 4, 2) := by decide +kernel
theorem dX0_selectFromFaces_65 : decode cX0_selectFromFaces 65 = .ok (.iadd, 1) := by decide +kernel
theorem dX0_selectFromFaces_66 : decode cX0_selectFromFaces 66 = .ok (.ireturn, 1) := by decide +kernel
set_option maxRecDepth 20000 in
theorem ggX0_overrides_X2_isInheritable : GoodIn wsX0_overrides wsX2_isInheritable := goodIn_r _ [7, 8, 9, 28, 29, 30, 31, 32, 33] (by decide +kernel) (by decide +kernel)
set_option maxRecDepth 20000 in
theorem gX0_overrides_X2_isInheritable : GoodIn wsX0_overrides (wsV RX0 205 RX2 yX2_isInheritable wsX2_isInheritable) := goodIn_app (goodIn_of _ (by decide +kernel)) ggX0_overrides_X2_isInheritable
set_option maxRecDepth 20000 in
theorem ggX0_overrides_X2_accessOf : GoodIn wsX0_overrides wsX2_accessOf := goodIn_r _ [13, 8, 28, 29, 30, 31, 32, 33] (by decide +kernel) (by decide +kernel)
set_option maxRecDepth 20000 in
theorem gX0_overrides_X2_accessOf : GoodIn wsX0_overrides (wsV RX0 96 RX2 yX2_accessOf wsX2_accessOf) := goodIn_app (goodIn_of _ (by decide +kernel)) ggX0_overrides_X2_accessOf
set_option maxRecDepth 20000 in
theorem ggX0_overrides_X2_ownerOf : GoodIn wsX0_overrides wsX2_ownerOf := goodIn_r _ [17, 18, 28, 29, 30, 31, 32, 33] (by decide +kernel) (by decide +kernel)
set_option maxRecDepth 20000 in
theorem gX0_overrides_X2_ownerOf : GoodIn wsX0_overrides (wsV RX0 178 RX2 yX2_ownerOf wsX2_ownerOf) := goodIn_app (goodIn_of _ (by decide +kernel)) ggX0_overrides_X2_ownerOf
set_option maxRecDepth 20000 in
theorem ggX0_overrides_X1_isSamePackage : GoodIn wsX0_overrides wsX1_isSamePackage := goodIn_r _ [23, 24, 34, 35, 36, 37, 38, 39, 40, 41, 42, 43] (by decide +kernel) (by decide +kernel)
set_option maxRecDepth 20000 in
theorem gX0_overrides_X1_isSamePackage : GoodIn wsX0_overrides (wsV RX0 184 RX1 yX1_isSamePackage wsX1_isSamePackage) := goodIn_app (goodIn_of _ (by decide +kernel)) ggX0_overrides_X1_isSamePackage
theorem dX0_overrides_0 : decode cX0_overrides 0 = .ok (.aload_n 0, 1) := by decide +kernel
theorem dX0_overrides_1 : decode cX0_overrides 1 = .ok (.getfield 21, 3) := by decide +kernel
theorem dX0_overrides_4 : decode cX0_overrides 4 = .ok (.iload_n 1, 1) := by decide +kernel
theorem dX0_overrides_5 : decode cX0_overrides 5 = .ok (.invokevirtual 205, 3) := by decide +kernel
theorem dX0_overrides_8 : decode cX0_overrides 8 = .ok (.ifCond .ne 5, 3) := by decide +kernel
theorem dX0_overrides_11 : decode cX0_overrides 11 = .ok (.iconst 0, 1) := by decide +kernel
theorem dX0_overrides_12 : decode cX0_overrides 12 = .ok (.ireturn, 1) := by decide +kernel
theorem dX0_overrides_13 : decode cX0_overrides 13 = .ok (.iload_n 1, 1) := by decide +kernel
theorem dX0_overrides_14 : decode cX0_overrides 14 = .ok (.iload_n 2, 1) := by decide +kernel
theorem dX0_overrides_15 : decode cX0_overrides 15 = .ok (.if_icmp .eq 41, 3) := by decide +kernel
theorem dX0_overrides_18 : decode cX0_overrides 18 = .ok (.aload_n 0, 1) := by decide +kernel
theorem dX0_overrides_19 : decode cX0_overrides 19 = .ok (.getfield 21, 3) := by decide +kernel
theorem dX0_overrides_22 : decode cX0_overrides 22 = .ok (.iload_n 2, 1) := by decide +kernel
theorem dX0_overrides_23 : decode cX0_overrides 23 = .ok (.invokevirtual 96, 3) := by decide +kernel
theorem dX0_overrides_26 : decode cX0_overrides 26 = .ok (.iconst 1, 1) := by decide +kernel
theorem dX0_overrides_27 : decode cX0_overrides 27 = .ok (.if_icmp .ne 29, 3) := by decide +kernel
theorem dX0_overrides_30 : decode cX0_overrides 30 = .ok (.aload_n 0, 1) := by decide +kernel
theorem dX0_overrides_31 : decode cX0_overrides 31 = .ok (.getfield 12, 3) := by decide +kernel
theorem dX0_overrides_34 : decode cX0_overrides 34 = .ok (.aload_n 0, 1) := by decide +kernel
theorem dX0_overrides_35 : decode cX0_overrides 35 = .ok (.getfield 21, 3) := by decide +kernel
theorem dX0_overrides_38 : decode cX0_overrides 38 = .ok (.iload_n 1, 1) := by decide +kernel
theorem dX0_overrides_39 : decode cX0_overrides 39 = .ok (.invokevirtual 178, 3) := by decide +kernel
theorem dX0_overrides_42 : decode cX0_overrides 42 = .ok (.aload_n 0, 1) := by decide +kernel
theorem dX0_overrides_43 : decode cX0_overrides 43 = .ok (.getfield 21, 3) := by decide +kernel
theorem dX0_overrides_46 : decode cX0_overrides 46 = .ok (.iload_n 2, 1) := by decide +kernel
theorem dX0_overrides_47 : decode cX0_overrides 47 = .ok (.invokevirtual 178, 3) := by decide +kernel
theorem dX0_overrides_50 : decode cX0_overrides 50 = .ok (.invokevirtual 184, 3) := by decide +kernel
theorem dX0_overrides_53 : decode cX0_overrides 53 = .ok (.ifCond .eq 7, 3) := by decide +kernel
theorem dX0_overrides_56 : decode cX0_overrides 56 = .ok (.iconst 1, 1) := by decide +kernel
theorem dX0_overrides_57 : decode cX0_overrides 57 = .ok (.goto 4, 3) := by decide +kernel
theorem dX0_overrides_60 : decode cX0_overrides 60 = .ok (.iconst 0, 1) := by decide +kernel
theorem dX0_overrides_61 : decode cX0_overrides 61 = .ok (.ireturn, 1) := by decide +kernel
set_option maxRecDepth 20000 in
theorem ggX0_checkSelected_X2_isAbstract : GoodIn wsX0_checkSelected wsX2_isAbstract := goodIn_r _ [6, 7, 20, 21, 22, 23, 24, 25] (by decide +kernel) (by decide +kernel)
set_option maxRecDepth 20000 in
theorem gX0_checkSelected_X2_isAbstract : GoodIn wsX0_checkSelected (wsV RX0 162 RX2 yX2_isAbstract wsX2_isAbstract) := goodIn_app (goodIn_of _ (by decide +kernel)) ggX0_checkSelected_X2_isAbstract
set_option maxRecDepth 20000 in
theorem ggX0_checkSelected_X2_accessOf : GoodIn wsX0_checkSelected wsX2_accessOf := goodIn_r _ [11, 12, 20, 21, 22, 23, 24, 25] (by decide +kernel) (by decide +kernel)
set_option maxRecDepth 20000 in
theorem gX0_checkSelected_X2_accessOf : GoodIn wsX0_checkSelected (wsV RX0 96 RX2 yX2_accessOf wsX2_accessOf) := goodIn_app (goodIn_of _ (by decide +kernel)) ggX0_checkSelected_X2_accessOf
theorem dX0_checkSelected_0 : decode cX0_checkSelected 0 = .ok (.aload_n 0, 1) := by decide +kernel
theorem dX0_checkSelected_1 : decode cX0_checkSelected 1 = .ok (.getfield 21, 3) := by decide +kernel
theorem dX0_checkSelected_4 : decode cX0_checkSelected 4 = .ok (.iload_n 2, 1) := by decide +kernel
theorem dX0_checkSelected_5 : decode cX0_checkSelected 5 = .ok (.invokevirtual 162, 3) := by decide +kernel
theorem dX0_checkSelected_8 : decode cX0_checkSelected 8 = .ok (.ifCond .eq 9, 3) := by decide +kernel
theorem dX0_checkSelected_11 : decode cX0_checkSelected 11 = .ok (.sipush 464, 3) := by decide +kernel
theorem dX0_checkSelected_14 : decode cX0_checkSelected 14 = .ok (.iload_n 2, 1) := by decide +kernel
theorem dX0_checkSelected_15 : decode cX0_checkSelected 15 = .ok (.iadd, 1) := by decide +kernel
theorem dX0_checkSelected_16 : decode cX0_checkSelected 16 = .ok (.ireturn, 1) := by decide +kernel
theorem dX0_checkSelected_17 : decode cX0_checkSelected 17 = .ok (.aload_n 0, 1) := by decide +kernel
theorem dX0_checkSelected_18 : decode cX0_checkSelected 18 = .ok (.getfield 21, 3) := by decide +kernel
theorem dX0_checkSelected_21 : decode cX0_checkSelected 21 = .ok (.iload_n 2, 1) := by decide +kernel
theorem dX0_checkSelected_22 : decode cX0_checkSelected 22 = .ok (.invokevirtual 96, 3) := by decide +kernel
theorem dX0_checkSelected_25 : decode cX0_checkSelected 25 = .ok (.istore_n 3, 1) := by decide +kernel
theorem dX0_checkSelected_26 : decode cX0_checkSelected 26 = .ok (.aload_n 1, 1) := by decide +kernel
theorem dX0_checkSelected_27 : decode cX0_checkSelected 27 = .ok (.getfield 71, 3) := by decide +kernel
theorem dX0_checkSelected_30 : decode cX0_checkSelected 30 = .ok (.bipush 7, 2) := by decide +kernel
theorem dX0_checkSelected_32 : decode cX0_checkSelected 32 = .ok (.if_icmp .ne 18, 3) := by decide +kernel
theorem dX0_checkSelected_35 : decode cX0_checkSelected 35 = .ok (.iload_n 3, 1) := by decide +kernel
theorem dX0_checkSelected_36 : decode cX0_checkSelected 36 = .ok (.iconst 3, 1) := by decide +kernel
theorem dX0_checkSelected_37 : decode cX0_checkSelected 37 = .ok (.if_icmp .eq 13, 3) := by decide +kernel
theorem dX0_checkSelected_40 : decode cX0_checkSelected 40 = .ok (.iload_n 3, 1) := by decide +kernel
theorem dX0_checkSelected_41 : decode cX0_checkSelected 41 = .ok (.ifCond .eq 9, 3) := by decide +kernel
theorem dX0_checkSelected_44 : decode cX0_checkSelected 44 = .ok (.sipush 272, 3) := by decide +kernel
theorem dX0_checkSelected_47 : decode cX0_checkSelected 47 = .ok (.iload_n 2, 1) := by decide +kernel
theorem dX0_checkSelected_48 : decode cX0_checkSelected 48 = .ok (.iadd, 1) := by decide +kernel
theorem dX0_checkSelected_49 : decode cX0_checkSelected 49 = .ok (.ireturn, 1) := by decide +kernel
theorem dX0_checkSelected_50 : decode cX0_checkSelected 50 = .ok (.bipush 16, 2) := by decide +kernel
theorem dX0_checkSelected_52 : decode cX0_checkSelected 52 = .ok (.iload_n 2, 1) := by decide +kernel
theorem dX0_checkSelected_53 : decode cX0_checkSelected 53 = .ok (.iadd, 1) := by decide +kernel
theorem dX0_checkSelected_54 : decode cX0_checkSelected 54 = .ok (.ireturn, 1) := by decide +kernel
set_option maxRecDepth 20000 in
theorem ggX1_init_X4_bit : GoodIn wsX1_init wsX4_bit := goodIn_r _ [16] (by decide +kernel) (by decide +kernel)
set_option maxRecDepth 20000 in
theorem gX1_init_X4_bit_n36 : GoodIn wsX1_init (wsX4_bit) := ggX1_init_X4_bit
set_option maxRecDepth 20000 in
theorem ggX1_init_X1_settle : GoodIn wsX1_init wsX1_settle := goodIn_r _ [21, 22, 10, 23, 24, 25, 20, 26, 27, 28, 29, 30, 13, 31, 15, 32, 14, 16, 33, 34, 35, 36, 37, 38, 39, 40, 41, 42, 43, 44, 7, 5, 8, 45, 46, 47, 48, 49, 50, 51, 52, 11, 12, 53, 54, 55, 56, 57, 58, 59, 60, 61, 62, 63] (by decide +kernel) (by decide +kernel)
set_option maxRecDepth 20000 in
theorem gX1_init_X1_settle : GoodIn wsX1_init (wsV RX1 44 RX1 yX1_settle wsX1_settle) := goodIn_app (goodIn_of _ (by decide +kernel)) ggX1_init_X1_settle
theorem dX1_init_0 : decode cX1_init 0 = .ok (.aload_n 0, 1) := by decide +kernel
theorem dX1_init_1 : decode cX1_init 1 = .ok (.invokespecial 3, 3) := by decide +kernel
theorem dX1_init_4 : decode cX1_init 4 = .ok (.aload_n 0, 1) := by decide +kernel
theorem dX1_init_5 : decode cX1_init 5 = .ok (.bipush 12, 2) := by decide +kernel
theorem dX1_init_7 : decode cX1_init 7 = .ok (.newarray .int, 2) := by decide +kernel
theorem dX1_init_9 : decode cX1_init 9 = .ok (.putfield 9, 3) := by decide +kernel
theorem dX1_init_12 : decode cX1_init 12 = .ok (.aload_n 0, 1) := by decide +kernel
theorem dX1_init_13 : decode cX1_init 13 = .ok (.bipush 12, 2) := by decide +kernel
theorem dX1_init_15 : decode cX1_init 15 = .ok (.newarray .int, 2) := by decide +kernel
theorem dX1_init_17 : decode cX1_init 17 = .ok (.putfield 15, 3) := by decide +kernel
theorem dX1_init_20 : decode cX1_init 20 = .ok (.aload_n 0, 1) := by decide +kernel
theorem dX1_init_21 : decode cX1_init 21 = .ok (.bipush 12, 2) := by decide +kernel
theorem dX1_init_23 : decode cX1_init 23 = .ok (.newarray .int, 2) := by decide +kernel
theorem dX1_init_25 : decode cX1_init 25 = .ok (.putfield 18, 3) := by decide +kernel
theorem dX1_init_28 : decode cX1_init 28 = .ok (.aload_n 0, 1) := by decide +kernel
theorem dX1_init_29 : decode cX1_init 29 = .ok (.bipush 12, 2) := by decide +kernel
theorem dX1_init_31 : decode cX1_init 31 = .ok (.newarray .int, 2) := by decide +kernel
theorem dX1_init_33 : decode cX1_init 33 = .ok (.putfield 21, 3) := by decide +kernel
theorem dX1_init_36 : decode cX1_init 36 = .ok (.aload_n 0, 1) := by decide +kernel
theorem dX1_init_37 : decode cX1_init 37 = .ok (.bipush 12, 2) := by decide +kernel
theorem dX1_init_39 : decode cX1_init 39 = .ok (.newarray .int, 2) := by decide +kernel
theorem dX1_init_41 : decode cX1_init 41 = .ok (.putfield 24, 3) := by decide +kernel
theorem dX1_init_44 : decode cX1_init 44 = .ok (.aload_n 0, 1) := by decide +kernel
theorem dX1_init_45 : decode cX1_init 45 = .ok (.bipush 12, 2) := by decide +kernel
theorem dX1_init_47 : decode cX1_init 47 = .ok (.newarray .int, 2) := by decide +kernel
theorem dX1_init_49 : decode cX1_init 49 = .ok (.putfield 27, 3) := by decide +kernel
theorem dX1_init_52 : decode cX1_init 52 = .ok (.aload_n 0, 1) := by decide +kernel
theorem dX1_init_53 : decode cX1_init 53 = .ok (.bipush 12, 2) := by decide +kernel
theorem dX1_init_55 : decode cX1_init 55 = .ok (.newarray .int, 2) := by decide +kernel
theorem dX1_init_57 : decode cX1_init 57 = .ok (.putfield 30, 3) := by decide +kernel
theorem dX1_init_60 : decode cX1_init 60 = .ok (.aload_n 0, 1) := by decide +kernel
theorem dX1_init_61 : decode cX1_init 61 = .ok (.bipush 12, 2) := by decide +kernel
theorem dX1_init_63 : decode cX1_init 63 = .ok (.newarray .int, 2) := by decide +kernel
theorem dX1_init_65 : decode cX1_init 65 = .ok (.putfield 33, 3) := by decide +kernel
theorem dX1_init_68 : decode cX1_init 68 = .ok (.aload_n 0, 1) := by decide +kernel
theorem dX1_init_69 : decode cX1_init 69 = .ok (.iconst 0, 1) := by decide +kernel
theorem dX1_init_70 : decode cX1_init 70 = .ok (.invokestatic 36, 3) := by decide +kernel
theorem dX1_init_73 : decode cX1_init 73 = .ok (.putfield 40, 3) := by decide +kernel
theorem dX1_init_76 : decode cX1_init 76 = .ok (.aload_n 0, 1) := by decide +kernel
theorem dX1_init_77 : decode cX1_init 77 = .ok (.getfield 9, 3) := by decide +kernel
theorem dX1_init_80 : decode cX1_init 80 = .ok (.iconst 0, 1) := by decide +kernel
theorem dX1_init_81 : decode cX1_init 81 = .ok (.iconst 1, 1) := by decide +kernel
theorem dX1_init_82 : decode cX1_init 82 = .ok (.iastore, 1) := by decide +kernel
theorem dX1_init_83 : decode cX1_init 83 = .ok (.aload_n 0, 1) := by decide +kernel
theorem dX1_init_84 : decode cX1_init 84 = .ok (.getfield 18, 3) := by decide +kernel
theorem dX1_init_87 : decode cX1_init 87 = .ok (.iconst 0, 1) := by decide +kernel
theorem dX1_init_88 : decode cX1_init 88 = .ok (.iconst (-1), 1) := by decide +kernel
theorem dX1_init_89 : decode cX1_init 89 = .ok (.iastore, 1) := by decide +kernel
theorem dX1_init_90 : decode cX1_init 90 = .ok (.aload_n 0, 1) := by decide +kernel
theorem dX1_init_91 : decode cX1_init 91 = .ok (.invokevirtual 44, 3) := by decide +kernel
theorem dX1_init_94 : decode cX1_init 94 = .ok (.return_, 1) := by decide +kernel
set_option maxRecDepth 20000 in
theorem ggX1_define_X4_bit : GoodIn wsX1_define wsX4_bit := goodIn_r _ [9] (by decide +kernel) (by decide +kernel)
set_option maxRecDepth 20000 in
theorem gX1_define_X4_bit_n36 : GoodIn wsX1_define (wsX4_bit) := ggX1_define_X4_bit
set_option maxRecDepth 20000 in
theorem ggX1_define_X1_settle : GoodIn wsX1_define wsX1_settle := goodIn_r _ [14, 15, 16, 17, 18, 19, 13, 20, 21, 22, 23, 24, 1, 25, 8, 26, 7, 9, 27, 28, 29, 30, 31, 32, 33, 34, 35, 36, 37, 38, 4, 2, 5, 39, 40, 41, 42, 43, 44, 45, 46, 47, 48, 49, 50, 51, 52, 53, 54, 55, 56, 57, 58, 59] (by decide +kernel) (by decide +kernel)
set_option maxRecDepth 20000 in
theorem gX1_define_X1_settle : GoodIn wsX1_define (wsV RX1 44 RX1 yX1_settle wsX1_settle) := goodIn_app (goodIn_of _ (by decide +kernel)) ggX1_define_X1_settle
theorem dX1_define_0 : decode cX1_define 0 = .ok (.aload_n 0, 1) := by decide +kernel
theorem dX1_define_1 : decode cX1_define 1 = .ok (.dup, 1) := by decide +kernel
theorem dX1_define_2 : decode cX1_define 2 = .ok (.getfield 40, 3) := by decide +kernel
theorem dX1_define_5 : decode cX1_define 5 = .ok (.iload_n 1, 1) := by decide +kernel
theorem dX1_define_6 : decode cX1_define 6 = .ok (.invokestatic 36, 3) := by decide +kernel
theorem dX1_define_9 : decode cX1_define 9 = .ok (.ior, 1) := by decide +kernel
theorem dX1_define_10 : decode cX1_define 10 = .ok (.putfield 40, 3) := by decide +kernel
theorem dX1_define_13 : decode cX1_define 13 = .ok (.aload_n 0, 1) := by decide +kernel
theorem dX1_define_14 : decode cX1_define 14 = .ok (.getfield 9, 3) := by decide +kernel
theorem dX1_define_17 : decode cX1_define 17 = .ok (.iload_n 1, 1) := by decide +kernel
theorem dX1_define_18 : decode cX1_define 18 = .ok (.iload_n 2, 1) := by decide +kernel
theorem dX1_define_19 : decode cX1_define 19 = .ok (.iastore, 1) := by decide +kernel
theorem dX1_define_20 : decode cX1_define 20 = .ok (.aload_n 0, 1) := by decide +kernel
theorem dX1_define_21 : decode cX1_define 21 = .ok (.getfield 15, 3) := by decide +kernel
theorem dX1_define_24 : decode cX1_define 24 = .ok (.iload_n 1, 1) := by decide +kernel
theorem dX1_define_25 : decode cX1_define 25 = .ok (.iload_n 3, 1) := by decide +kernel
theorem dX1_define_26 : decode cX1_define 26 = .ok (.iastore, 1) := by decide +kernel
theorem dX1_define_27 : decode cX1_define 27 = .ok (.aload_n 0, 1) := by decide +kernel
theorem dX1_define_28 : decode cX1_define 28 = .ok (.getfield 18, 3) := by decide +kernel
theorem dX1_define_31 : decode cX1_define 31 = .ok (.iload_n 1, 1) := by decide +kernel
theorem dX1_define_32 : decode cX1_define 32 = .ok (.iload 4, 2) := by decide +kernel
theorem dX1_define_34 : decode cX1_define 34 = .ok (.iastore, 1) := by decide +kernel
theorem dX1_define_35 : decode cX1_define 35 = .ok (.aload_n 0, 1) := by decide +kernel
theorem dX1_define_36 : decode cX1_define 36 = .ok (.getfield 21, 3) := by decide +kernel
theorem dX1_define_39 : decode cX1_define 39 = .ok (.iload_n 1, 1) := by decide +kernel
theorem dX1_define_40 : decode cX1_define 40 = .ok (.iload 5, 2) := by decide +kernel
theorem dX1_define_42 : decode cX1_define 42 = .ok (.iastore, 1) := by decide +kernel
theorem dX1_define_43 : decode cX1_define 43 = .ok (.aload_n 0, 1) := by decide +kernel
theorem dX1_define_44 : decode cX1_define 44 = .ok (.getfield 24, 3) := by decide +kernel
theorem dX1_define_47 : decode cX1_define 47 = .ok (.iload_n 1, 1) := by decide +kernel
theorem dX1_define_48 : decode cX1_define 48 = .ok (.iload_n 1, 1) := by decide +kernel
theorem dX1_define_49 : decode cX1_define 49 = .ok (.iastore, 1) := by decide +kernel
theorem dX1_define_50 : decode cX1_define 50 = .ok (.aload_n 0, 1) := by decide +kernel
theorem dX1_define_51 : decode cX1_define 51 = .ok (.invokevirtual 44, 3) := by decide +kernel
theorem dX1_define_54 : decode cX1_define 54 = .ok (.return_, 1) := by decide +kernel
set_option maxRecDepth 20000 in
theorem ggX1_putHost_X1_isThere : GoodIn wsX1_putHost wsX1_isThere := goodIn_r _ [6, 7, 8, 9, 10, 11, 12, 13, 14, 15, 16, 17, 18, 19, 20] (by decide +kernel) (by decide +kernel)
set_option maxRecDepth 20000 in
theorem gX1_putHost_X1_isThere : GoodIn wsX1_putHost (wsV RX1 47 RX1 yX1_isThere wsX1_isThere) := goodIn_app (goodIn_of _ (by decide +kernel)) ggX1_putHost_X1_isThere
theorem dX1_putHost_0 : decode cX1_putHost 0 = .ok (.aload_n 0, 1) := by decide +kernel
theorem dX1_putHost_1 : decode cX1_putHost 1 = .ok (.iload_n 1, 1) := by decide +kernel
theorem dX1_putHost_2 : decode cX1_putHost 2 = .ok (.invokevirtual 47, 3) := by decide +kernel
theorem dX1_putHost_5 : decode cX1_putHost 5 = .ok (.ifCond .ne 5, 3) := by decide +kernel
theorem dX1_putHost_8 : decode cX1_putHost 8 = .ok (.iconst 0, 1) := by decide +kernel
theorem dX1_putHost_9 : decode cX1_putHost 9 = .ok (.ireturn, 1) := by decide +kernel
theorem dX1_putHost_10 : decode cX1_putHost 10 = .ok (.aload_n 0, 1) := by decide +kernel
theorem dX1_putHost_11 : decode cX1_putHost 11 = .ok (.getfield 24, 3) := by decide +kernel
theorem dX1_putHost_14 : decode cX1_putHost 14 = .ok (.iload_n 1, 1) := by decide +kernel
theorem dX1_putHost_15 : decode cX1_putHost 15 = .ok (.iload_n 2, 1) := by decide +kernel
theorem dX1_putHost_16 : decode cX1_putHost 16 = .ok (.iastore, 1) := by decide +kernel
theorem dX1_putHost_17 : decode cX1_putHost 17 = .ok (.iconst 1, 1) := by decide +kernel
theorem dX1_putHost_18 : decode cX1_putHost 18 = .ok (.ireturn, 1) := by decide +kernel
set_option maxRecDepth 20000 in
theorem ggX1_takeAway_X1_isThere : GoodIn wsX1_takeAway wsX1_isThere := goodIn_r _ [6, 1, 7, 8, 9, 48, 49, 50, 51, 52, 53, 54, 55, 56, 57] (by decide +kernel) (by decide +kernel)
set_option maxRecDepth 20000 in
theorem gX1_takeAway_X1_isThere : GoodIn wsX1_takeAway (wsV RX1 47 RX1 yX1_isThere wsX1_isThere) := goodIn_app (goodIn_of _ (by decide +kernel)) ggX1_takeAway_X1_isThere
set_option maxRecDepth 20000 in
theorem ggX1_takeAway_X4_bit : GoodIn wsX1_takeAway wsX4_bit := goodIn_r _ [11] (by decide +kernel) (by decide +kernel)
set_option maxRecDepth 20000 in
theorem gX1_takeAway_X4_bit_n36 : GoodIn wsX1_takeAway (wsX4_bit) := ggX1_takeAway_X4_bit
set_option maxRecDepth 20000 in
theorem ggX1_takeAway_X1_settle : GoodIn wsX1_takeAway wsX1_settle := goodIn_r _ [15, 16, 17, 18, 19, 20, 5, 21, 2, 3, 4, 6, 1, 7, 8, 9, 10, 11, 22, 23, 24, 25, 26, 27, 28, 29, 30, 31, 32, 33, 34, 35, 36, 37, 38, 39, 40, 41, 42, 43, 44, 45, 46, 47, 48, 49, 50, 51, 52, 53, 54, 55, 56, 57] (by decide +kernel) (by decide +kernel)
set_option maxRecDepth 20000 in
theorem gX1_takeAway_X1_settle : GoodIn wsX1_takeAway (wsV RX1 44 RX1 yX1_settle wsX1_settle) := goodIn_app (goodIn_of _ (by decide +kernel)) ggX1_takeAway_X1_settle
theorem dX1_takeAway_0 : decode cX1_takeAway 0 = .ok (.aload_n 0, 1) := by decide +kernel
theorem dX1_takeAway_1 : decode cX1_takeAway 1 = .ok (.iload_n 1, 1) := by decide +kernel
theorem dX1_takeAway_2 : decode cX1_takeAway 2 = .ok (.invokevirtual 47, 3) := by decide +kernel
theorem dX1_takeAway_5 : decode cX1_takeAway 5 = .ok (.ifCond .ne 5, 3) := by decide +kernel
theorem dX1_takeAway_8 : decode cX1_takeAway 8 = .ok (.iconst 0, 1) := by decide +kernel
theorem dX1_takeAway_9 : decode cX1_takeAway 9 = .ok (.ireturn, 1) := by decide +kernel
theorem dX1_takeAway_10 : decode cX1_takeAway 10 = .ok (.aload_n 0, 1) := by decide +kernel
theorem dX1_takeAway_11 : decode cX1_takeAway 11 = .ok (.dup, 1) := by decide +kernel
theorem dX1_takeAway_12 : decode cX1_takeAway 12 = .ok (.getfield 40, 3) := by decide +kernel
theorem dX1_takeAway_15 : decode cX1_takeAway 15 = .ok (.iload_n 1, 1) := by decide +kernel
theorem dX1_takeAway_16 : decode cX1_takeAway 16 = .ok (.invokestatic 36, 3) := by decide +kernel
theorem dX1_takeAway_19 : decode cX1_takeAway 19 = .ok (.iconst (-1), 1) := by decide +kernel
theorem dX1_takeAway_20 : decode cX1_takeAway 20 = .ok (.ixor, 1) := by decide +kernel
theorem dX1_takeAway_21 : decode cX1_takeAway 21 = .ok (.iand, 1) := by decide +kernel
theorem dX1_takeAway_22 : decode cX1_takeAway 22 = .ok (.putfield 40, 3) := by decide +kernel
theorem dX1_takeAway_25 : decode cX1_takeAway 25 = .ok (.aload_n 0, 1) := by decide +kernel
theorem dX1_takeAway_26 : decode cX1_takeAway 26 = .ok (.invokevirtual 44, 3) := by decide +kernel
theorem dX1_takeAway_29 : decode cX1_takeAway 29 = .ok (.iconst 1, 1) := by decide +kernel
theorem dX1_takeAway_30 : decode cX1_takeAway 30 = .ok (.ireturn, 1) := by decide +kernel
set_option maxRecDepth 20000 in
theorem ggX1_becomeAs_X1_settle : GoodIn wsX1_becomeAs wsX1_settle := goodIn_r _ [15, 16, 17, 18, 19, 20, 14, 21, 22, 23, 24, 25, 1, 26, 27, 28, 29, 30, 31, 32, 33, 34, 35, 36, 37, 38, 39, 40, 41, 42, 8, 2, 9, 43, 44, 45, 46, 47, 48, 49, 50, 51, 52, 53, 54, 55, 56, 57, 58, 59, 60, 61, 62, 63] (by decide +kernel) (by decide +kernel)
set_option maxRecDepth 20000 in
theorem gX1_becomeAs_X1_settle : GoodIn wsX1_becomeAs (wsV RX1 44 RX1 yX1_settle wsX1_settle) := goodIn_app (goodIn_of _ (by decide +kernel)) ggX1_becomeAs_X1_settle
theorem dX1_becomeAs_0 : decode cX1_becomeAs 0 = .ok (.aload_n 0, 1) := by decide +kernel
theorem dX1_becomeAs_1 : decode cX1_becomeAs 1 = .ok (.aload_n 1, 1) := by decide +kernel
theorem dX1_becomeAs_2 : decode cX1_becomeAs 2 = .ok (.getfield 40, 3) := by decide +kernel
theorem dX1_becomeAs_5 : decode cX1_becomeAs 5 = .ok (.putfield 40, 3) := by decide +kernel
theorem dX1_becomeAs_8 : decode cX1_becomeAs 8 = .ok (.aload_n 1, 1) := by decide +kernel
theorem dX1_becomeAs_9 : decode cX1_becomeAs 9 = .ok (.getfield 9, 3) := by decide +kernel
theorem dX1_becomeAs_12 : decode cX1_becomeAs 12 = .ok (.iconst 0, 1) := by decide +kernel
theorem dX1_becomeAs_13 : decode cX1_becomeAs 13 = .ok (.aload_n 0, 1) := by decide +kernel
theorem dX1_becomeAs_14 : decode cX1_becomeAs 14 = .ok (.getfield 9, 3) := by decide +kernel
theorem dX1_becomeAs_17 : decode cX1_becomeAs 17 = .ok (.iconst 0, 1) := by decide +kernel
theorem dX1_becomeAs_18 : decode cX1_becomeAs 18 = .ok (.bipush 12, 2) := by decide +kernel
theorem dX1_becomeAs_20 : decode cX1_becomeAs 20 = .ok (.invokestatic 51, 3) := by decide +kernel
theorem dX1_becomeAs_23 : decode cX1_becomeAs 23 = .ok (.aload_n 1, 1) := by decide +kernel
theorem dX1_becomeAs_24 : decode cX1_becomeAs 24 = .ok (.getfield 15, 3) := by decide +kernel
theorem dX1_becomeAs_27 : decode cX1_becomeAs 27 = .ok (.iconst 0, 1) := by decide +kernel
theorem dX1_becomeAs_28 : decode cX1_becomeAs 28 = .ok (.aload_n 0, 1) := by decide +kernel
theorem dX1_becomeAs_29 : decode cX1_becomeAs 29 = .ok (.getfield 15, 3) := by decide +kernel
theorem dX1_becomeAs_32 : decode cX1_becomeAs 32 = .ok (.iconst 0, 1) := by decide +kernel
theorem dX1_becomeAs_33 : decode cX1_becomeAs 33 = .ok (.bipush 12, 2) := by decide +kernel
theorem dX1_becomeAs_35 : decode cX1_becomeAs 35 = .ok (.invokestatic 51, 3) := by decide +kernel
theorem dX1_becomeAs_38 : decode cX1_becomeAs 38 = .ok (.aload_n 1, 1) := by decide +kernel
theorem dX1_becomeAs_39 : decode cX1_becomeAs 39 = .ok (.getfield 18, 3) := by decide +kernel
theorem dX1_becomeAs_42 : decode cX1_becomeAs 42 = .ok (.iconst 0, 1) := by decide +kernel
theorem dX1_becomeAs_43 : decode cX1_becomeAs 43 = .ok (.aload_n 0, 1) := by decide +kernel
theorem dX1_becomeAs_44 : decode cX1_becomeAs 44 = .ok (.getfield 18, 3) := by decide +kernel
theorem dX1_becomeAs_47 : decode cX1_becomeAs 47 = .ok (.iconst 0, 1) := by decide +kernel
theorem dX1_becomeAs_48 : decode cX1_becomeAs 48 = .ok (.bipush 12, 2) := by decide +kernel
theorem dX1_becomeAs_50 : decode cX1_becomeAs 50 = .ok (.invokestatic 51, 3) := by decide +kernel
theorem dX1_becomeAs_53 : decode cX1_becomeAs 53 = .ok (.aload_n 1, 1) := by decide +kernel
theorem dX1_becomeAs_54 : decode cX1_becomeAs 54 = .ok (.getfield 21, 3) := by decide +kernel
theorem dX1_becomeAs_57 : decode cX1_becomeAs 57 = .ok (.iconst 0, 1) := by decide +kernel
theorem dX1_becomeAs_58 : decode cX1_becomeAs 58 = .ok (.aload_n 0, 1) := by decide +kernel
theorem dX1_becomeAs_59 : decode cX1_becomeAs 59 = .ok (.getfield 21, 3) := by decide +kernel
theorem dX1_becomeAs_62 : decode cX1_becomeAs 62 = .ok (.iconst 0, 1) := by decide +kernel
theorem dX1_becomeAs_63 : decode cX1_becomeAs 63 = .ok (.bipush 12, 2) := by decide +kernel
theorem dX1_becomeAs_65 : decode cX1_becomeAs 65 = .ok (.invokestatic 51, 3) := by decide +kernel
theorem dX1_becomeAs_68 : decode cX1_becomeAs 68 = .ok (.aload_n 1, 1) := by decide +kernel
theorem dX1_becomeAs_69 : decode cX1_becomeAs 69 = .ok (.getfield 24, 3) := by decide +kernel
theorem dX1_becomeAs_72 : decode cX1_becomeAs 72 = .ok (.iconst 0, 1) := by decide +kernel
theorem dX1_becomeAs_73 : decode cX1_becomeAs 73 = .ok (.aload_n 0, 1) := by decide +kernel
theorem dX1_becomeAs_74 : decode cX1_becomeAs 74 = .ok (.getfield 24, 3) := by decide +kernel
theorem dX1_becomeAs_77 : decode cX1_becomeAs 77 = .ok (.iconst 0, 1) := by decide +kernel
theorem dX1_becomeAs_78 : decode cX1_becomeAs 78 = .ok (.bipush 12, 2) := by decide +kernel
theorem dX1_becomeAs_80 : decode cX1_becomeAs 80 = .ok (.invokestatic 51, 3) := by decide +kernel
theorem dX1_becomeAs_83 : decode cX1_becomeAs 83 = .ok (.aload_n 0, 1) := by decide +kernel
theorem dX1_becomeAs_84 : decode cX1_becomeAs 84 = .ok (.invokevirtual 44, 3) := by decide +kernel
theorem dX1_becomeAs_87 : decode cX1_becomeAs 87 = .ok (.return_, 1) := by decide +kernel
set_option maxRecDepth 20000 in
theorem ggX1_isThere_X4_contains : GoodIn wsX1_isThere wsX4_contains := goodIn_r _ [4] (by decide +kernel) (by decide +kernel)
set_option maxRecDepth 20000 in
theorem gX1_isThere_X4_contains_n57 : GoodIn wsX1_isThere (wsX4_contains) := ggX1_isThere_X4_contains
theorem dX1_isThere_0 : decode cX1_isThere 0 = .ok (.aload_n 0, 1) := by decide +kernel
theorem dX1_isThere_1 : decode cX1_isThere 1 = .ok (.getfield 40, 3) := by decide +kernel
theorem dX1_isThere_4 : decode cX1_isThere 4 = .ok (.iload_n 1, 1) := by decide +kernel
theorem dX1_isThere_5 : decode cX1_isThere 5 = .ok (.invokestatic 57, 3) := by decide +kernel
theorem dX1_isThere_8 : decode cX1_isThere 8 = .ok (.ireturn, 1) := by decide +kernel
theorem dX1_isInterface_0 : decode cX1_isInterface 0 = .ok (.aload_n 0, 1) := by decide +kernel
theorem dX1_isInterface_1 : decode cX1_isInterface 1 = .ok (.getfield 9, 3) := by decide +kernel
theorem dX1_isInterface_4 : decode cX1_isInterface 4 = .ok (.iload_n 1, 1) := by decide +kernel
theorem dX1_isInterface_5 : decode cX1_isInterface 5 = .ok (.iaload, 1) := by decide +kernel
theorem dX1_isInterface_6 : decode cX1_isInterface 6 = .ok (.iconst 2, 1) := by decide +kernel
theorem dX1_isInterface_7 : decode cX1_isInterface 7 = .ok (.iand, 1) := by decide +kernel
theorem dX1_isInterface_8 : decode cX1_isInterface 8 = .ok (.ifCond .eq 7, 3) := by decide +kernel
theorem dX1_isInterface_11 : decode cX1_isInterface 11 = .ok (.iconst 1, 1) := by decide +kernel
theorem dX1_isInterface_12 : decode cX1_isInterface 12 = .ok (.goto 4, 3) := by decide +kernel
theorem dX1_isInterface_15 : decode cX1_isInterface 15 = .ok (.iconst 0, 1) := by decide +kernel
theorem dX1_isInterface_16 : decode cX1_isInterface 16 = .ok (.ireturn, 1) := by decide +kernel
theorem dX1_canBeMade_0 : decode cX1_canBeMade 0 = .ok (.aload_n 0, 1) := by decide +kernel
theorem dX1_canBeMade_1 : decode cX1_canBeMade 1 = .ok (.getfield 9, 3) := by decide +kernel
theorem dX1_canBeMade_4 : decode cX1_canBeMade 4 = .ok (.iload_n 1, 1) := by decide +kernel
theorem dX1_canBeMade_5 : decode cX1_canBeMade 5 = .ok (.iaload, 1) := by decide +kernel
theorem dX1_canBeMade_6 : decode cX1_canBeMade 6 = .ok (.bipush 6, 2) := by decide +kernel
theorem dX1_canBeMade_8 : decode cX1_canBeMade 8 = .ok (.iand, 1) := by decide +kernel
theorem dX1_canBeMade_9 : decode cX1_canBeMade 9 = .ok (.ifCond .ne 7, 3) := by decide +kernel
theorem dX1_canBeMade_12 : decode cX1_canBeMade 12 = .ok (.iconst 1, 1) := by decide +kernel
theorem dX1_canBeMade_13 : decode cX1_canBeMade 13 = .ok (.goto 4, 3) := by decide +kernel
theorem dX1_canBeMade_16 : decode cX1_canBeMade 16 = .ok (.iconst 0, 1) := by decide +kernel
theorem dX1_canBeMade_17 : decode cX1_canBeMade 17 = .ok (.ireturn, 1) := by decide +kernel
theorem dX1_superOf_0 : decode cX1_superOf 0 = .ok (.aload_n 0, 1) := by decide +kernel
theorem dX1_superOf_1 : decode cX1_superOf 1 = .ok (.getfield 18, 3) := by decide +kernel
theorem dX1_superOf_4 : decode cX1_superOf 4 = .ok (.iload_n 1, 1) := by decide +kernel
theorem dX1_superOf_5 : decode cX1_superOf 5 = .ok (.iaload, 1) := by decide +kernel
theorem dX1_superOf_6 : decode cX1_superOf 6 = .ok (.ireturn, 1) := by decide +kernel
theorem dX1_directFacesOf_0 : decode cX1_directFacesOf 0 = .ok (.aload_n 0, 1) := by decide +kernel
theorem dX1_directFacesOf_1 : decode cX1_directFacesOf 1 = .ok (.getfield 21, 3) := by decide +kernel
theorem dX1_directFacesOf_4 : decode cX1_directFacesOf 4 = .ok (.iload_n 1, 1) := by decide +kernel
theorem dX1_directFacesOf_5 : decode cX1_directFacesOf 5 = .ok (.iaload, 1) := by decide +kernel
theorem dX1_directFacesOf_6 : decode cX1_directFacesOf 6 = .ok (.ireturn, 1) := by decide +kernel
theorem dX1_facesOf_0 : decode cX1_facesOf 0 = .ok (.aload_n 0, 1) := by decide +kernel
theorem dX1_facesOf_1 : decode cX1_facesOf 1 = .ok (.getfield 33, 3) := by decide +kernel
theorem dX1_facesOf_4 : decode cX1_facesOf 4 = .ok (.iload_n 1, 1) := by decide +kernel
theorem dX1_facesOf_5 : decode cX1_facesOf 5 = .ok (.iaload, 1) := by decide +kernel
theorem dX1_facesOf_6 : decode cX1_facesOf 6 = .ok (.ireturn, 1) := by decide +kernel
theorem dX1_loading_0 : decode cX1_loading 0 = .ok (.aload_n 0, 1) := by decide +kernel
theorem dX1_loading_1 : decode cX1_loading 1 = .ok (.getfield 27, 3) := by decide +kernel
theorem dX1_loading_4 : decode cX1_loading 4 = .ok (.iload_n 1, 1) := by decide +kernel
theorem dX1_loading_5 : decode cX1_loading 5 = .ok (.iaload, 1) := by decide +kernel
theorem dX1_loading_6 : decode cX1_loading 6 = .ok (.ireturn, 1) := by decide +kernel
set_option maxRecDepth 20000 in
theorem ggX1_reaching_X4_isGood : GoodIn wsX1_reaching wsX4_isGood := goodIn_r _ [5, 6, 7, 4, 8] (by decide +kernel) (by decide +kernel)
set_option maxRecDepth 20000 in
theorem gX1_reaching_X4_isGood_n61 : GoodIn wsX1_reaching (wsX4_isGood) := ggX1_reaching_X4_isGood
set_option maxRecDepth 20000 in
theorem ggX1_reaching_X1_isSamePackage : GoodIn wsX1_reaching wsX1_isSamePackage := goodIn_r _ [13, 14, 15, 16, 17, 18, 19, 20, 21, 22, 23, 24] (by decide +kernel) (by decide +kernel)
set_option maxRecDepth 20000 in
theorem gX1_reaching_X1_isSamePackage : GoodIn wsX1_reaching (wsV RX1 64 RX1 yX1_isSamePackage wsX1_isSamePackage) := goodIn_app (goodIn_of _ (by decide +kernel)) ggX1_reaching_X1_isSamePackage
theorem dX1_reaching_0 : decode cX1_reaching 0 = .ok (.aload_n 0, 1) := by decide +kernel
theorem dX1_reaching_1 : decode cX1_reaching 1 = .ok (.getfield 27, 3) := by decide +kernel
theorem dX1_reaching_4 : decode cX1_reaching 4 = .ok (.iload_n 1, 1) := by decide +kernel
theorem dX1_reaching_5 : decode cX1_reaching 5 = .ok (.iaload, 1) := by decide +kernel
theorem dX1_reaching_6 : decode cX1_reaching 6 = .ok (.invokestatic 61, 3) := by decide +kernel
theorem dX1_reaching_9 : decode cX1_reaching 9 = .ok (.ifCond .ne 10, 3) := by decide +kernel
theorem dX1_reaching_12 : decode cX1_reaching 12 = .ok (.aload_n 0, 1) := by decide +kernel
theorem dX1_reaching_13 : decode cX1_reaching 13 = .ok (.getfield 27, 3) := by decide +kernel
theorem dX1_reaching_16 : decode cX1_reaching 16 = .ok (.iload_n 1, 1) := by decide +kernel
theorem dX1_reaching_17 : decode cX1_reaching 17 = .ok (.iaload, 1) := by decide +kernel
theorem dX1_reaching_18 : decode cX1_reaching 18 = .ok (.ireturn, 1) := by decide +kernel
theorem dX1_reaching_19 : decode cX1_reaching 19 = .ok (.aload_n 0, 1) := by decide +kernel
theorem dX1_reaching_20 : decode cX1_reaching 20 = .ok (.getfield 9, 3) := by decide +kernel
theorem dX1_reaching_23 : decode cX1_reaching 23 = .ok (.iload_n 1, 1) := by decide +kernel
theorem dX1_reaching_24 : decode cX1_reaching 24 = .ok (.iaload, 1) := by decide +kernel
theorem dX1_reaching_25 : decode cX1_reaching 25 = .ok (.iconst 1, 1) := by decide +kernel
theorem dX1_reaching_26 : decode cX1_reaching 26 = .ok (.iand, 1) := by decide +kernel
theorem dX1_reaching_27 : decode cX1_reaching 27 = .ok (.ifCond .ne 12, 3) := by decide +kernel
theorem dX1_reaching_30 : decode cX1_reaching 30 = .ok (.aload_n 0, 1) := by decide +kernel
theorem dX1_reaching_31 : decode cX1_reaching 31 = .ok (.iload_n 1, 1) := by decide +kernel
theorem dX1_reaching_32 : decode cX1_reaching 32 = .ok (.iload_n 2, 1) := by decide +kernel
theorem dX1_reaching_33 : decode cX1_reaching 33 = .ok (.invokevirtual 64, 3) := by decide +kernel
theorem dX1_reaching_36 : decode cX1_reaching 36 = .ok (.ifCond .eq 7, 3) := by decide +kernel
theorem dX1_reaching_39 : decode cX1_reaching 39 = .ok (.iconst 1, 1) := by decide +kernel
theorem dX1_reaching_40 : decode cX1_reaching 40 = .ok (.goto 4, 3) := by decide +kernel
theorem dX1_reaching_43 : decode cX1_reaching 43 = .ok (.iconst 0, 1) := by decide +kernel
theorem dX1_reaching_44 : decode cX1_reaching 44 = .ok (.istore_n 3, 1) := by decide +kernel
theorem dX1_reaching_45 : decode cX1_reaching 45 = .ok (.iload_n 3, 1) := by decide +kernel
theorem dX1_reaching_46 : decode cX1_reaching 46 = .ok (.ifCond .eq 7, 3) := by decide +kernel
theorem dX1_reaching_49 : decode cX1_reaching 49 = .ok (.iload_n 1, 1) := by decide +kernel
theorem dX1_reaching_50 : decode cX1_reaching 50 = .ok (.goto 8, 3) := by decide +kernel
theorem dX1_reaching_53 : decode cX1_reaching 53 = .ok (.sipush 256, 3) := by decide +kernel
theorem dX1_reaching_56 : decode cX1_reaching 56 = .ok (.iload_n 1, 1) := by decide +kernel
theorem dX1_reaching_57 : decode cX1_reaching 57 = .ok (.iadd, 1) := by decide +kernel
theorem dX1_reaching_58 : decode cX1_reaching 58 = .ok (.ireturn, 1) := by decide +kernel
theorem dX1_isSamePackage_0 : decode cX1_isSamePackage 0 = .ok (.aload_n 0, 1) := by decide +kernel
theorem dX1_isSamePackage_1 : decode cX1_isSamePackage 1 = .ok (.getfield 15, 3) := by decide +kernel
theorem dX1_isSamePackage_4 : decode cX1_isSamePackage 4 = .ok (.iload_n 1, 1) := by decide +kernel
theorem dX1_isSamePackage_5 : decode cX1_isSamePackage 5 = .ok (.iaload, 1) := by decide +kernel
theorem dX1_isSamePackage_6 : decode cX1_isSamePackage 6 = .ok (.aload_n 0, 1) := by decide +kernel
theorem dX1_isSamePackage_7 : decode cX1_isSamePackage 7 = .ok (.getfield 15, 3) := by decide +kernel
theorem dX1_isSamePackage_10 : decode cX1_isSamePackage 10 = .ok (.iload_n 2, 1) := by decide +kernel
theorem dX1_isSamePackage_11 : decode cX1_isSamePackage 11 = .ok (.iaload, 1) := by decide +kernel
theorem dX1_isSamePackage_12 : decode cX1_isSamePackage 12 = .ok (.if_icmp .ne 7, 3) := by decide +kernel
theorem dX1_isSamePackage_15 : decode cX1_isSamePackage 15 = .ok (.iconst 1, 1) := by decide +kernel
theorem dX1_isSamePackage_16 : decode cX1_isSamePackage 16 = .ok (.goto 4, 3) := by decide +kernel
theorem dX1_isSamePackage_19 : decode cX1_isSamePackage 19 = .ok (.iconst 0, 1) := by decide +kernel
theorem dX1_isSamePackage_20 : decode cX1_isSamePackage 20 = .ok (.ireturn, 1) := by decide +kernel
set_option maxRecDepth 20000 in
theorem ggX1_hasAbove_X4_contains : GoodIn wsX1_hasAbove wsX4_contains := goodIn_r _ [4] (by decide +kernel) (by decide +kernel)
set_option maxRecDepth 20000 in
theorem gX1_hasAbove_X4_contains_n57 : GoodIn wsX1_hasAbove (wsX4_contains) := ggX1_hasAbove_X4_contains
theorem dX1_hasAbove_0 : decode cX1_hasAbove 0 = .ok (.aload_n 0, 1) := by decide +kernel
theorem dX1_hasAbove_1 : decode cX1_hasAbove 1 = .ok (.getfield 30, 3) := by decide +kernel
theorem dX1_hasAbove_4 : decode cX1_hasAbove 4 = .ok (.iload_n 1, 1) := by decide +kernel
theorem dX1_hasAbove_5 : decode cX1_hasAbove 5 = .ok (.iaload, 1) := by decide +kernel
theorem dX1_hasAbove_6 : decode cX1_hasAbove 6 = .ok (.iload_n 2, 1) := by decide +kernel
theorem dX1_hasAbove_7 : decode cX1_hasAbove 7 = .ok (.invokestatic 57, 3) := by decide +kernel
theorem dX1_hasAbove_10 : decode cX1_hasAbove 10 = .ok (.ireturn, 1) := by decide +kernel
set_option maxRecDepth 20000 in
theorem ggX1_liesUnder_X4_contains : GoodIn wsX1_liesUnder wsX4_contains := goodIn_r _ [5] (by decide +kernel) (by decide +kernel)
set_option maxRecDepth 20000 in
theorem gX1_liesUnder_X4_contains_n57 : GoodIn wsX1_liesUnder (wsX4_contains) := ggX1_liesUnder_X4_contains
theorem dX1_liesUnder_0 : decode cX1_liesUnder 0 = .ok (.aload_n 0, 1) := by decide +kernel
theorem dX1_liesUnder_1 : decode cX1_liesUnder 1 = .ok (.getfield 30, 3) := by decide +kernel
theorem dX1_liesUnder_4 : decode cX1_liesUnder 4 = .ok (.iload_n 1, 1) := by decide +kernel
theorem dX1_liesUnder_5 : decode cX1_liesUnder 5 = .ok (.iaload, 1) := by decide +kernel
theorem dX1_liesUnder_6 : decode cX1_liesUnder 6 = .ok (.aload_n 0, 1) := by decide +kernel
theorem dX1_liesUnder_7 : decode cX1_liesUnder 7 = .ok (.getfield 33, 3) := by decide +kernel
theorem dX1_liesUnder_10 : decode cX1_liesUnder 10 = .ok (.iload_n 1, 1) := by decide +kernel
theorem dX1_liesUnder_11 : decode cX1_liesUnder 11 = .ok (.iaload, 1) := by decide +kernel
theorem dX1_liesUnder_12 : decode cX1_liesUnder 12 = .ok (.ior, 1) := by decide +kernel
theorem dX1_liesUnder_13 : decode cX1_liesUnder 13 = .ok (.iload_n 2, 1) := by decide +kernel
theorem dX1_liesUnder_14 : decode cX1_liesUnder 14 = .ok (.invokestatic 57, 3) := by decide +kernel
theorem dX1_liesUnder_17 : decode cX1_liesUnder 17 = .ok (.ireturn, 1) := by decide +kernel
set_option maxRecDepth 20000 in
theorem ggX1_mostSpecificOf_X4_contains : GoodIn wsX1_mostSpecificOf wsX4_contains := goodIn_r _ [4] (by decide +kernel) (by decide +kernel)
set_option maxRecDepth 20000 in
theorem gX1_mostSpecificOf_X4_contains_n57 : GoodIn wsX1_mostSpecificOf (wsX4_contains) := ggX1_mostSpecificOf_X4_contains
theorem dX1_mostSpecificOf_0 : decode cX1_mostSpecificOf 0 = .ok (.iconst 0, 1) := by decide +kernel
theorem dX1_mostSpecificOf_1 : decode cX1_mostSpecificOf 1 = .ok (.istore_n 2, 1) := by decide +kernel
theorem dX1_mostSpecificOf_2 : decode cX1_mostSpecificOf 2 = .ok (.iconst 0, 1) := by decide +kernel
theorem dX1_mostSpecificOf_3 : decode cX1_mostSpecificOf 3 = .ok (.istore_n 3, 1) := by decide +kernel
theorem dX1_mostSpecificOf_4 : decode cX1_mostSpecificOf 4 = .ok (.iload_n 3, 1) := by decide +kernel
theorem dX1_mostSpecificOf_5 : decode cX1_mostSpecificOf 5 = .ok (.bipush 12, 2) := by decide +kernel
theorem dX1_mostSpecificOf_7 : decode cX1_mostSpecificOf 7 = .ok (.if_icmp .ge 30, 3) := by decide +kernel
theorem dX1_mostSpecificOf_10 : decode cX1_mostSpecificOf 10 = .ok (.iload_n 2, 1) := by decide +kernel
theorem dX1_mostSpecificOf_11 : decode cX1_mostSpecificOf 11 = .ok (.iload_n 1, 1) := by decide +kernel
theorem dX1_mostSpecificOf_12 : decode cX1_mostSpecificOf 12 = .ok (.iload_n 3, 1) := by decide +kernel
theorem dX1_mostSpecificOf_13 : decode cX1_mostSpecificOf 13 = .ok (.invokestatic 57, 3) := by decide +kernel
theorem dX1_mostSpecificOf_16 : decode cX1_mostSpecificOf 16 = .ok (.ifCond .eq 12, 3) := by decide +kernel
theorem dX1_mostSpecificOf_19 : decode cX1_mostSpecificOf 19 = .ok (.aload_n 0, 1) := by decide +kernel
theorem dX1_mostSpecificOf_20 : decode cX1_mostSpecificOf 20 = .ok (.getfield 33, 3) := by decide +kernel
theorem dX1_mostSpecificOf_23 : decode cX1_mostSpecificOf 23 = .ok (.iload_n 3, 1) := by decide +kernel
theorem dX1_mostSpecificOf_24 : decode cX1_mostSpecificOf 24 = .ok (.iaload, 1) := by decide +kernel
theorem dX1_mostSpecificOf_25 : decode cX1_mostSpecificOf 25 = .ok (.goto 4, 3) := by decide +kernel
theorem dX1_mostSpecificOf_28 : decode cX1_mostSpecificOf 28 = .ok (.iconst 0, 1) := by decide +kernel
theorem dX1_mostSpecificOf_29 : decode cX1_mostSpecificOf 29 = .ok (.ior, 1) := by decide +kernel
theorem dX1_mostSpecificOf_30 : decode cX1_mostSpecificOf 30 = .ok (.istore_n 2, 1) := by decide +kernel
theorem dX1_mostSpecificOf_31 : decode cX1_mostSpecificOf 31 = .ok (.iinc 3 1, 3) := by decide +kernel
theorem dX1_mostSpecificOf_34 : decode cX1_mostSpecificOf 34 = .ok (.goto (-30), 3) := by decide +kernel
theorem dX1_mostSpecificOf_37 : decode cX1_mostSpecificOf 37 = .ok (.iload_n 1, 1) := by decide +kernel
theorem dX1_mostSpecificOf_38 : decode cX1_mostSpecificOf 38 = .ok (.iload_n 2, 1) := by decide +kernel
theorem dX1_mostSpecificOf_39 : decode cX1_mostSpecificOf 39 = .ok (.iconst (-1), 1) := by decide +kernel
theorem dX1_mostSpecificOf_40 : decode cX1_mostSpecificOf 40 = .ok (.ixor, 1) := by decide +kernel
theorem dX1_mostSpecificOf_41 : decode cX1_mostSpecificOf 41 = .ok (.iand, 1) := by decide +kernel
theorem dX1_mostSpecificOf_42 : decode cX1_mostSpecificOf 42 = .ok (.ireturn, 1) := by decide +kernel
set_option maxRecDepth 20000 in
theorem ggX1_nestOf_X1_isThere : GoodIn wsX1_nestOf wsX1_isThere := goodIn_r _ [6, 7, 8, 9, 10, 16, 17, 18, 19, 20, 21, 22, 23, 24, 25] (by decide +kernel) (by decide +kernel)
set_option maxRecDepth 20000 in
theorem gX1_nestOf_X1_isThere : GoodIn wsX1_nestOf (wsV RX1 47 RX1 yX1_isThere wsX1_isThere) := goodIn_app (goodIn_of _ (by decide +kernel)) ggX1_nestOf_X1_isThere
set_option maxRecDepth 20000 in
theorem ggX1_nestOf_X1_isSamePackage : GoodIn wsX1_nestOf wsX1_isSamePackage := goodIn_r _ [14, 15, 16, 17, 18, 19, 20, 21, 22, 23, 24, 25] (by decide +kernel) (by decide +kernel)
set_option maxRecDepth 20000 in
theorem gX1_nestOf_X1_isSamePackage : GoodIn wsX1_nestOf (wsV RX1 64 RX1 yX1_isSamePackage wsX1_isSamePackage) := goodIn_app (goodIn_of _ (by decide +kernel)) ggX1_nestOf_X1_isSamePackage
theorem dX1_nestOf_0 : decode cX1_nestOf 0 = .ok (.aload_n 0, 1) := by decide +kernel
theorem dX1_nestOf_1 : decode cX1_nestOf 1 = .ok (.getfield 24, 3) := by decide +kernel
theorem dX1_nestOf_4 : decode cX1_nestOf 4 = .ok (.iload_n 1, 1) := by decide +kernel
theorem dX1_nestOf_5 : decode cX1_nestOf 5 = .ok (.iaload, 1) := by decide +kernel
theorem dX1_nestOf_6 : decode cX1_nestOf 6 = .ok (.istore_n 2, 1) := by decide +kernel
theorem dX1_nestOf_7 : decode cX1_nestOf 7 = .ok (.aload_n 0, 1) := by decide +kernel
theorem dX1_nestOf_8 : decode cX1_nestOf 8 = .ok (.iload_n 2, 1) := by decide +kernel
theorem dX1_nestOf_9 : decode cX1_nestOf 9 = .ok (.invokevirtual 47, 3) := by decide +kernel
theorem dX1_nestOf_12 : decode cX1_nestOf 12 = .ok (.ifCond .eq 26, 3) := by decide +kernel
theorem dX1_nestOf_15 : decode cX1_nestOf 15 = .ok (.aload_n 0, 1) := by decide +kernel
theorem dX1_nestOf_16 : decode cX1_nestOf 16 = .ok (.iload_n 2, 1) := by decide +kernel
theorem dX1_nestOf_17 : decode cX1_nestOf 17 = .ok (.iload_n 1, 1) := by decide +kernel
theorem dX1_nestOf_18 : decode cX1_nestOf 18 = .ok (.invokevirtual 64, 3) := by decide +kernel
theorem dX1_nestOf_21 : decode cX1_nestOf 21 = .ok (.ifCond .eq 17, 3) := by decide +kernel
theorem dX1_nestOf_24 : decode cX1_nestOf 24 = .ok (.aload_n 0, 1) := by decide +kernel
theorem dX1_nestOf_25 : decode cX1_nestOf 25 = .ok (.getfield 24, 3) := by decide +kernel
theorem dX1_nestOf_28 : decode cX1_nestOf 28 = .ok (.iload_n 2, 1) := by decide +kernel
theorem dX1_nestOf_29 : decode cX1_nestOf 29 = .ok (.iaload, 1) := by decide +kernel
theorem dX1_nestOf_30 : decode cX1_nestOf 30 = .ok (.iload_n 2, 1) := by decide +kernel
theorem dX1_nestOf_31 : decode cX1_nestOf 31 = .ok (.if_icmp .ne 7, 3) := by decide +kernel
theorem dX1_nestOf_34 : decode cX1_nestOf 34 = .ok (.iload_n 2, 1) := by decide +kernel
theorem dX1_nestOf_35 : decode cX1_nestOf 35 = .ok (.goto 4, 3) := by decide +kernel
theorem dX1_nestOf_38 : decode cX1_nestOf 38 = .ok (.iload_n 1, 1) := by decide +kernel
theorem dX1_nestOf_39 : decode cX1_nestOf 39 = .ok (.ireturn, 1) := by decide +kernel
set_option maxRecDepth 20000 in
theorem ggX1_countThere_J6_bitCount_0f7a4 : GoodIn wsX1_countThere wsJ6_bitCount_0f7a4 := goodIn_r _ [5, 6, 7, 8] (by decide +kernel) (by decide +kernel)
set_option maxRecDepth 20000 in
theorem gX1_countThere_J6_bitCount_0f7a4 : GoodIn wsX1_countThere (va_wsS RX1 67 yJ6_bitCount_0f7a4 wsJ6_bitCount_0f7a4) := goodIn_app (goodIn_of _ (by decide +kernel)) ggX1_countThere_J6_bitCount_0f7a4
theorem dX1_countThere_0 : decode cX1_countThere 0 = .ok (.aload_n 0, 1) := by decide +kernel
theorem dX1_countThere_1 : decode cX1_countThere 1 = .ok (.getfield 40, 3) := by decide +kernel
theorem dX1_countThere_4 : decode cX1_countThere 4 = .ok (.invokestatic 67, 3) := by decide +kernel
theorem dX1_countThere_7 : decode cX1_countThere 7 = .ok (.ireturn, 1) := by decide +kernel
set_option maxRecDepth 20000 in
theorem ggX1_countLoaded_J6_bitCount_0f7a4 : GoodIn wsX1_countLoaded wsJ6_bitCount_0f7a4 := goodIn_r _ [5, 6, 7, 8] (by decide +kernel) (by decide +kernel)
set_option maxRecDepth 20000 in
theorem gX1_countLoaded_J6_bitCount_0f7a4 : GoodIn wsX1_countLoaded (va_wsS RX1 67 yJ6_bitCount_0f7a4 wsJ6_bitCount_0f7a4) := goodIn_app (goodIn_of _ (by decide +kernel)) ggX1_countLoaded_J6_bitCount_0f7a4
theorem dX1_countLoaded_0 : decode cX1_countLoaded 0 = .ok (.aload_n 0, 1) := by decide +kernel
theorem dX1_countLoaded_1 : decode cX1_countLoaded 1 = .ok (.getfield 72, 3) := by decide +kernel
theorem dX1_countLoaded_4 : decode cX1_countLoaded 4 = .ok (.invokestatic 67, 3) := by decide +kernel
theorem dX1_countLoaded_7 : decode cX1_countLoaded 7 = .ok (.ireturn, 1) := by decide +kernel
set_option maxRecDepth 20000 in
theorem ggX1_nestSharers_X1_isThere : GoodIn wsX1_nestSharers wsX1_isThere := goodIn_r _ [5, 6, 7, 8, 9, 22, 23, 24, 25, 26, 27, 28, 29, 30, 31] (by decide +kernel) (by decide +kernel)
set_option maxRecDepth 20000 in
theorem gX1_nestSharers_X1_isThere : GoodIn wsX1_nestSharers (wsV RX1 47 RX1 yX1_isThere wsX1_isThere) := goodIn_app (goodIn_of _ (by decide +kernel)) ggX1_nestSharers_X1_isThere
set_option maxRecDepth 20000 in
theorem ggX1_nestSharers_X1_nestOf : GoodIn wsX1_nestSharers wsX1_nestOf := goodIn_r _ [13, 14, 1, 2, 3, 4, 5, 6, 7, 8, 9, 15, 16, 17, 18, 19, 22, 23, 24, 25, 26, 27, 28, 29, 30, 31] (by decide +kernel) (by decide +kernel)
set_option maxRecDepth 20000 in
theorem gX1_nestSharers_X1_nestOf : GoodIn wsX1_nestSharers (wsV RX1 75 RX1 yX1_nestOf wsX1_nestOf) := goodIn_app (goodIn_of _ (by decide +kernel)) ggX1_nestSharers_X1_nestOf
set_option maxRecDepth 20000 in
theorem ggX1_nestSharers_X4_bit : GoodIn wsX1_nestSharers wsX4_bit := goodIn_r _ [21] (by decide +kernel) (by decide +kernel)
set_option maxRecDepth 20000 in
theorem gX1_nestSharers_X4_bit_n36 : GoodIn wsX1_nestSharers (wsX4_bit) := ggX1_nestSharers_X4_bit
theorem dX1_nestSharers_0 : decode cX1_nestSharers 0 = .ok (.iconst 0, 1) := by decide +kernel
theorem dX1_nestSharers_1 : decode cX1_nestSharers 1 = .ok (.istore_n 1, 1) := by decide +kernel
theorem dX1_nestSharers_2 : decode cX1_nestSharers 2 = .ok (.iconst 0, 1) := by decide +kernel
theorem dX1_nestSharers_3 : decode cX1_nestSharers 3 = .ok (.istore_n 2, 1) := by decide +kernel
theorem dX1_nestSharers_4 : decode cX1_nestSharers 4 = .ok (.iload_n 2, 1) := by decide +kernel
theorem dX1_nestSharers_5 : decode cX1_nestSharers 5 = .ok (.bipush 12, 2) := by decide +kernel
theorem dX1_nestSharers_7 : decode cX1_nestSharers 7 = .ok (.if_icmp .ge 63, 3) := by decide +kernel
theorem dX1_nestSharers_10 : decode cX1_nestSharers 10 = .ok (.iconst 0, 1) := by decide +kernel
theorem dX1_nestSharers_11 : decode cX1_nestSharers 11 = .ok (.istore_n 3, 1) := by decide +kernel
theorem dX1_nestSharers_12 : decode cX1_nestSharers 12 = .ok (.iload_n 3, 1) := by decide +kernel
theorem dX1_nestSharers_13 : decode cX1_nestSharers 13 = .ok (.iload_n 2, 1) := by decide +kernel
theorem dX1_nestSharers_14 : decode cX1_nestSharers 14 = .ok (.if_icmp .ge 50, 3) := by decide +kernel
theorem dX1_nestSharers_17 : decode cX1_nestSharers 17 = .ok (.aload_n 0, 1) := by decide +kernel
theorem dX1_nestSharers_18 : decode cX1_nestSharers 18 = .ok (.iload_n 2, 1) := by decide +kernel
theorem dX1_nestSharers_19 : decode cX1_nestSharers 19 = .ok (.invokevirtual 47, 3) := by decide +kernel
theorem dX1_nestSharers_22 : decode cX1_nestSharers 22 = .ok (.ifCond .eq 36, 3) := by decide +kernel
theorem dX1_nestSharers_25 : decode cX1_nestSharers 25 = .ok (.aload_n 0, 1) := by decide +kernel
theorem dX1_nestSharers_26 : decode cX1_nestSharers 26 = .ok (.iload_n 3, 1) := by decide +kernel
theorem dX1_nestSharers_27 : decode cX1_nestSharers 27 = .ok (.invokevirtual 47, 3) := by decide +kernel
theorem dX1_nestSharers_30 : decode cX1_nestSharers 30 = .ok (.ifCond .eq 28, 3) := by decide +kernel
theorem dX1_nestSharers_33 : decode cX1_nestSharers 33 = .ok (.aload_n 0, 1) := by decide +kernel
theorem dX1_nestSharers_34 : decode cX1_nestSharers 34 = .ok (.iload_n 2, 1) := by decide +kernel
theorem dX1_nestSharers_35 : decode cX1_nestSharers 35 = .ok (.invokevirtual 75, 3) := by decide +kernel
theorem dX1_nestSharers_38 : decode cX1_nestSharers 38 = .ok (.aload_n 0, 1) := by decide +kernel
theorem dX1_nestSharers_39 : decode cX1_nestSharers 39 = .ok (.iload_n 3, 1) := by decide +kernel
theorem dX1_nestSharers_40 : decode cX1_nestSharers 40 = .ok (.invokevirtual 75, 3) := by decide +kernel
theorem dX1_nestSharers_43 : decode cX1_nestSharers 43 = .ok (.if_icmp .ne 15, 3) := by decide +kernel
theorem dX1_nestSharers_46 : decode cX1_nestSharers 46 = .ok (.iload_n 1, 1) := by decide +kernel
theorem dX1_nestSharers_47 : decode cX1_nestSharers 47 = .ok (.iload_n 2, 1) := by decide +kernel
theorem dX1_nestSharers_48 : decode cX1_nestSharers 48 = .ok (.invokestatic 36, 3) := by decide +kernel
theorem dX1_nestSharers_51 : decode cX1_nestSharers 51 = .ok (.iload_n 3, 1) := by decide +kernel
theorem dX1_nestSharers_52 : decode cX1_nestSharers 52 = .ok (.invokestatic 36, 3) := by decide +kernel
theorem dX1_nestSharers_55 : decode cX1_nestSharers 55 = .ok (.ior, 1) := by decide +kernel
theorem dX1_nestSharers_56 : decode cX1_nestSharers 56 = .ok (.ior, 1) := by decide +kernel
theorem dX1_nestSharers_57 : decode cX1_nestSharers 57 = .ok (.istore_n 1, 1) := by decide +kernel
theorem dX1_nestSharers_58 : decode cX1_nestSharers 58 = .ok (.iinc 3 1, 3) := by decide +kernel
theorem dX1_nestSharers_61 : decode cX1_nestSharers 61 = .ok (.goto (-49), 3) := by decide +kernel
theorem dX1_nestSharers_64 : decode cX1_nestSharers 64 = .ok (.iinc 2 1, 3) := by decide +kernel
theorem dX1_nestSharers_67 : decode cX1_nestSharers 67 = .ok (.goto (-63), 3) := by decide +kernel
theorem dX1_nestSharers_70 : decode cX1_nestSharers 70 = .ok (.iload_n 1, 1) := by decide +kernel
theorem dX1_nestSharers_71 : decode cX1_nestSharers 71 = .ok (.ireturn, 1) := by decide +kernel
set_option maxRecDepth 20000 in
theorem ggX1_settle_X1_loadInside : GoodIn wsX1_settle wsX1_loadInside := goodIn_r _ [7, 1, 8, 9, 10, 6, 11, 12, 13, 14, 15, 16, 17, 18, 19, 20, 21, 22, 23, 24, 25, 26, 27, 28, 29, 30, 31, 32, 33, 34, 35, 36, 37, 38, 39, 40, 41, 42, 43, 3, 4, 5, 44, 45, 46, 47, 48, 49, 50, 51, 52, 53] (by decide +kernel) (by decide +kernel)
set_option maxRecDepth 20000 in
theorem gX1_settle_X1_loadInside : GoodIn wsX1_settle (wsV RX1 78 RX1 yX1_loadInside wsX1_loadInside) := goodIn_app (goodIn_of _ (by decide +kernel)) ggX1_settle_X1_loadInside
theorem dX1_settle_0 : decode cX1_settle 0 = .ok (.aload_n 0, 1) := by decide +kernel
theorem dX1_settle_1 : decode cX1_settle 1 = .ok (.iconst 0, 1) := by decide +kernel
theorem dX1_settle_2 : decode cX1_settle 2 = .ok (.putfield 72, 3) := by decide +kernel
theorem dX1_settle_5 : decode cX1_settle 5 = .ok (.iconst 0, 1) := by decide +kernel
theorem dX1_settle_6 : decode cX1_settle 6 = .ok (.istore_n 1, 1) := by decide +kernel
theorem dX1_settle_7 : decode cX1_settle 7 = .ok (.iload_n 1, 1) := by decide +kernel
theorem dX1_settle_8 : decode cX1_settle 8 = .ok (.bipush 12, 2) := by decide +kernel
theorem dX1_settle_10 : decode cX1_settle 10 = .ok (.if_icmp .ge 21, 3) := by decide +kernel
theorem dX1_settle_13 : decode cX1_settle 13 = .ok (.aload_n 0, 1) := by decide +kernel
theorem dX1_settle_14 : decode cX1_settle 14 = .ok (.getfield 27, 3) := by decide +kernel
theorem dX1_settle_17 : decode cX1_settle 17 = .ok (.iload_n 1, 1) := by decide +kernel
theorem dX1_settle_18 : decode cX1_settle 18 = .ok (.aload_n 0, 1) := by decide +kernel
theorem dX1_settle_19 : decode cX1_settle 19 = .ok (.iload_n 1, 1) := by decide +kernel
theorem dX1_settle_20 : decode cX1_settle 20 = .ok (.iconst 0, 1) := by decide +kernel
theorem dX1_settle_21 : decode cX1_settle 21 = .ok (.invokevirtual 78, 3) := by decide +kernel
theorem dX1_settle_24 : decode cX1_settle 24 = .ok (.iastore, 1) := by decide +kernel
theorem dX1_settle_25 : decode cX1_settle 25 = .ok (.iinc 1 1, 3) := by decide +kernel
theorem dX1_settle_28 : decode cX1_settle 28 = .ok (.goto (-21), 3) := by decide +kernel
theorem dX1_settle_31 : decode cX1_settle 31 = .ok (.return_, 1) := by decide +kernel
set_option maxRecDepth 20000 in
theorem ggX1_loadInside_X1_isThere : GoodIn wsX1_loadInside wsX1_isThere := goodIn_r _ [6, 7, 8, 9, 10, 42, 43, 44, 45, 46, 47, 48, 49, 50, 51] (by decide +kernel) (by decide +kernel)
set_option maxRecDepth 20000 in
theorem gX1_loadInside_X1_isThere : GoodIn wsX1_loadInside (wsV RX1 47 RX1 yX1_isThere wsX1_isThere) := goodIn_app (goodIn_of _ (by decide +kernel)) ggX1_loadInside_X1_isThere
set_option maxRecDepth 20000 in
theorem ggX1_loadInside_X4_contains : GoodIn wsX1_loadInside wsX4_contains := goodIn_r _ [10] (by decide +kernel) (by decide +kernel)
set_option maxRecDepth 20000 in
theorem gX1_loadInside_X4_contains_n57 : GoodIn wsX1_loadInside (wsX4_contains) := ggX1_loadInside_X4_contains
set_option maxRecDepth 20000 in
theorem ggX1_loadInside_X4_bit : GoodIn wsX1_loadInside wsX4_bit := goodIn_r _ [12] (by decide +kernel) (by decide +kernel)
set_option maxRecDepth 20000 in
theorem gX1_loadInside_X4_bit_n36 : GoodIn wsX1_loadInside (wsX4_bit) := ggX1_loadInside_X4_bit
set_option maxRecDepth 20000 in
theorem ggX1_loadInside_X1_loadParents : GoodIn wsX1_loadInside wsX1_loadParents := goodIn_r _ [38, 25, 27, 39, 40, 41, 5, 16, 9, 17, 18, 19, 20, 8, 10, 0, 1, 2, 3, 4, 6, 7, 11, 12, 13, 14, 15, 21, 22, 23, 24, 26, 28, 29, 30, 31, 32, 33, 34, 35, 36, 37, 42, 43, 44, 45, 46, 47, 48, 49, 50, 51] (by decide +kernel) (by decide +kernel)
set_option maxRecDepth 20000 in
theorem gX1_loadInside_X1_loadParents : GoodIn wsX1_loadInside (wsV RX1 82 RX1 yX1_loadParents wsX1_loadParents) := goodIn_app (goodIn_of _ (by decide +kernel)) ggX1_loadInside_X1_loadParents
set_option maxRecDepth 20000 in
theorem ggX1_loadInside_X4_isGood : GoodIn wsX1_loadInside wsX4_isGood := goodIn_r _ [17, 18, 19, 9, 20] (by decide +kernel) (by decide +kernel)
set_option maxRecDepth 20000 in
theorem gX1_loadInside_X4_isGood_n61 : GoodIn wsX1_loadInside (wsX4_isGood) := ggX1_loadInside_X4_isGood
set_option maxRecDepth 20000 in
theorem ggX1_loadInside_X1_hasWrongParents : GoodIn wsX1_loadInside wsX1_hasWrongParents := goodIn_r _ [24, 25, 26, 27, 28, 29, 30, 5, 31, 8, 9, 10, 42, 43, 44, 45, 46, 47, 48, 49, 50, 51] (by decide +kernel) (by decide +kernel)
set_option maxRecDepth 20000 in
theorem gX1_loadInside_X1_hasWrongParents : GoodIn wsX1_loadInside (wsV RX1 85 RX1 yX1_hasWrongParents wsX1_hasWrongParents) := goodIn_app (goodIn_of _ (by decide +kernel)) ggX1_loadInside_X1_hasWrongParents
set_option maxRecDepth 20000 in
theorem ggX1_loadInside_X1_gatherSets : GoodIn wsX1_loadInside wsX1_gatherSets := goodIn_r _ [35, 25, 36, 27, 37, 11, 9, 12, 8, 10, 42, 43, 44, 45, 46, 47, 48, 49, 50, 51] (by decide +kernel) (by decide +kernel)
set_option maxRecDepth 20000 in
theorem gX1_loadInside_X1_gatherSets : GoodIn wsX1_loadInside (wsV RX1 88 RX1 yX1_gatherSets wsX1_gatherSets) := goodIn_app (goodIn_of _ (by decide +kernel)) ggX1_loadInside_X1_gatherSets
theorem dX1_loadInside_0 : decode cX1_loadInside 0 = .ok (.aload_n 0, 1) := by decide +kernel
theorem dX1_loadInside_1 : decode cX1_loadInside 1 = .ok (.iload_n 1, 1) := by decide +kernel
theorem dX1_loadInside_2 : decode cX1_loadInside 2 = .ok (.invokevirtual 47, 3) := by decide +kernel
theorem dX1_loadInside_5 : decode cX1_loadInside 5 = .ok (.ifCond .ne 8, 3) := by decide +kernel
theorem dX1_loadInside_8 : decode cX1_loadInside 8 = .ok (.bipush 64, 2) := by decide +kernel
theorem dX1_loadInside_10 : decode cX1_loadInside 10 = .ok (.iload_n 1, 1) := by decide +kernel
theorem dX1_loadInside_11 : decode cX1_loadInside 11 = .ok (.iadd, 1) := by decide +kernel
theorem dX1_loadInside_12 : decode cX1_loadInside 12 = .ok (.ireturn, 1) := by decide +kernel
theorem dX1_loadInside_13 : decode cX1_loadInside 13 = .ok (.iload_n 2, 1) := by decide +kernel
theorem dX1_loadInside_14 : decode cX1_loadInside 14 = .ok (.iload_n 1, 1) := by decide +kernel
theorem dX1_loadInside_15 : decode cX1_loadInside 15 = .ok (.invokestatic 57, 3) := by decide +kernel
theorem dX1_loadInside_18 : decode cX1_loadInside 18 = .ok (.ifCond .eq 9, 3) := by decide +kernel
theorem dX1_loadInside_21 : decode cX1_loadInside 21 = .ok (.sipush 128, 3) := by decide +kernel
theorem dX1_loadInside_24 : decode cX1_loadInside 24 = .ok (.iload_n 1, 1) := by decide +kernel
theorem dX1_loadInside_25 : decode cX1_loadInside 25 = .ok (.iadd, 1) := by decide +kernel
theorem dX1_loadInside_26 : decode cX1_loadInside 26 = .ok (.ireturn, 1) := by decide +kernel
theorem dX1_loadInside_27 : decode cX1_loadInside 27 = .ok (.aload_n 0, 1) := by decide +kernel
theorem dX1_loadInside_28 : decode cX1_loadInside 28 = .ok (.getfield 72, 3) := by decide +kernel
theorem dX1_loadInside_31 : decode cX1_loadInside 31 = .ok (.iload_n 1, 1) := by decide +kernel
theorem dX1_loadInside_32 : decode cX1_loadInside 32 = .ok (.invokestatic 57, 3) := by decide +kernel
theorem dX1_loadInside_35 : decode cX1_loadInside 35 = .ok (.ifCond .eq 5, 3) := by decide +kernel
theorem dX1_loadInside_38 : decode cX1_loadInside 38 = .ok (.iload_n 1, 1) := by decide +kernel
theorem dX1_loadInside_39 : decode cX1_loadInside 39 = .ok (.ireturn, 1) := by decide +kernel
theorem dX1_loadInside_40 : decode cX1_loadInside 40 = .ok (.aload_n 0, 1) := by decide +kernel
theorem dX1_loadInside_41 : decode cX1_loadInside 41 = .ok (.iload_n 1, 1) := by decide +kernel
theorem dX1_loadInside_42 : decode cX1_loadInside 42 = .ok (.iload_n 2, 1) := by decide +kernel
theorem dX1_loadInside_43 : decode cX1_loadInside 43 = .ok (.iload_n 1, 1) := by decide +kernel
theorem dX1_loadInside_44 : decode cX1_loadInside 44 = .ok (.invokestatic 36, 3) := by decide +kernel
theorem dX1_loadInside_47 : decode cX1_loadInside 47 = .ok (.ior, 1) := by decide +kernel
theorem dX1_loadInside_48 : decode cX1_loadInside 48 = .ok (.invokevirtual 82, 3) := by decide +kernel
theorem dX1_loadInside_51 : decode cX1_loadInside 51 = .ok (.istore_n 3, 1) := by decide +kernel
theorem dX1_loadInside_52 : decode cX1_loadInside 52 = .ok (.iload_n 3, 1) := by decide +kernel
theorem dX1_loadInside_53 : decode cX1_loadInside 53 = .ok (.invokestatic 61, 3) := by decide +kernel
theorem dX1_loadInside_56 : decode cX1_loadInside 56 = .ok (.ifCond .ne 5, 3) := by decide +kernel
theorem dX1_loadInside_59 : decode cX1_loadInside 59 = .ok (.iload_n 3, 1) := by decide +kernel
theorem dX1_loadInside_60 : decode cX1_loadInside 60 = .ok (.ireturn, 1) := by decide +kernel
theorem dX1_loadInside_61 : decode cX1_loadInside 61 = .ok (.aload_n 0, 1) := by decide +kernel
theorem dX1_loadInside_62 : decode cX1_loadInside 62 = .ok (.iload_n 1, 1) := by decide +kernel
theorem dX1_loadInside_63 : decode cX1_loadInside 63 = .ok (.invokevirtual 85, 3) := by decide +kernel
theorem dX1_loadInside_66 : decode cX1_loadInside 66 = .ok (.ifCond .eq 9, 3) := by decide +kernel
theorem dX1_loadInside_69 : decode cX1_loadInside 69 = .ok (.sipush 192, 3) := by decide +kernel
theorem dX1_loadInside_72 : decode cX1_loadInside 72 = .ok (.iload_n 1, 1) := by decide +kernel
theorem dX1_loadInside_73 : decode cX1_loadInside 73 = .ok (.iadd, 1) := by decide +kernel
theorem dX1_loadInside_74 : decode cX1_loadInside 74 = .ok (.ireturn, 1) := by decide +kernel
theorem dX1_loadInside_75 : decode cX1_loadInside 75 = .ok (.aload_n 0, 1) := by decide +kernel
theorem dX1_loadInside_76 : decode cX1_loadInside 76 = .ok (.iload_n 1, 1) := by decide +kernel
theorem dX1_loadInside_77 : decode cX1_loadInside 77 = .ok (.invokevirtual 88, 3) := by decide +kernel
theorem dX1_loadInside_80 : decode cX1_loadInside 80 = .ok (.aload_n 0, 1) := by decide +kernel
theorem dX1_loadInside_81 : decode cX1_loadInside 81 = .ok (.dup, 1) := by decide +kernel
theorem dX1_loadInside_82 : decode cX1_loadInside 82 = .ok (.getfield 72, 3) := by decide +kernel
theorem dX1_loadInside_85 : decode cX1_loadInside 85 = .ok (.iload_n 1, 1) := by decide +kernel
theorem dX1_loadInside_86 : decode cX1_loadInside 86 = .ok (.invokestatic 36, 3) := by decide +kernel
theorem dX1_loadInside_89 : decode cX1_loadInside 89 = .ok (.ior, 1) := by decide +kernel
theorem dX1_loadInside_90 : decode cX1_loadInside 90 = .ok (.putfield 72, 3) := by decide +kernel
theorem dX1_loadInside_93 : decode cX1_loadInside 93 = .ok (.iload_n 1, 1) := by decide +kernel
theorem dX1_loadInside_94 : decode cX1_loadInside 94 = .ok (.ireturn, 1) := by decide +kernel
set_option maxRecDepth 20000 in
theorem ggX1_loadParents_X1_loadInside : GoodIn wsX1_loadParents wsX1_loadInside := goodIn_r _ [15, 16, 17, 18, 19, 6, 20, 21, 13, 8, 14, 22, 23, 24, 25, 26, 7, 9, 10, 11, 12, 27, 28, 29, 30, 1, 31, 2, 32, 33, 34, 35, 36, 37, 38, 39, 40, 41, 0, 3, 4, 5, 42, 43, 44, 45, 46, 47, 48, 49, 50, 51] (by decide +kernel) (by decide +kernel)
set_option maxRecDepth 20000 in
theorem gX1_loadParents_X1_loadInside : GoodIn wsX1_loadParents (wsV RX1 78 RX1 yX1_loadInside wsX1_loadInside) := goodIn_app (goodIn_of _ (by decide +kernel)) ggX1_loadParents_X1_loadInside
set_option maxRecDepth 20000 in
theorem ggX1_loadParents_X4_isGood : GoodIn wsX1_loadParents wsX4_isGood := goodIn_r _ [9, 10, 11, 8, 12] (by decide +kernel) (by decide +kernel)
set_option maxRecDepth 20000 in
theorem gX1_loadParents_X4_isGood_n61 : GoodIn wsX1_loadParents (wsX4_isGood) := ggX1_loadParents_X4_isGood
set_option maxRecDepth 20000 in
theorem ggX1_loadParents_X4_contains : GoodIn wsX1_loadParents wsX4_contains := goodIn_r _ [14] (by decide +kernel) (by decide +kernel)
set_option maxRecDepth 20000 in
theorem gX1_loadParents_X4_contains_n57 : GoodIn wsX1_loadParents (wsX4_contains) := ggX1_loadParents_X4_contains
theorem dX1_loadParents_0 : decode cX1_loadParents 0 = .ok (.aload_n 0, 1) := by decide +kernel
theorem dX1_loadParents_1 : decode cX1_loadParents 1 = .ok (.getfield 18, 3) := by decide +kernel
theorem dX1_loadParents_4 : decode cX1_loadParents 4 = .ok (.iload_n 1, 1) := by decide +kernel
theorem dX1_loadParents_5 : decode cX1_loadParents 5 = .ok (.iaload, 1) := by decide +kernel
theorem dX1_loadParents_6 : decode cX1_loadParents 6 = .ok (.iconst (-1), 1) := by decide +kernel
theorem dX1_loadParents_7 : decode cX1_loadParents 7 = .ok (.if_icmp .eq 24, 3) := by decide +kernel
theorem dX1_loadParents_10 : decode cX1_loadParents 10 = .ok (.aload_n 0, 1) := by decide +kernel
theorem dX1_loadParents_11 : decode cX1_loadParents 11 = .ok (.aload_n 0, 1) := by decide +kernel
theorem dX1_loadParents_12 : decode cX1_loadParents 12 = .ok (.getfield 18, 3) := by decide +kernel
theorem dX1_loadParents_15 : decode cX1_loadParents 15 = .ok (.iload_n 1, 1) := by decide +kernel
theorem dX1_loadParents_16 : decode cX1_loadParents 16 = .ok (.iaload, 1) := by decide +kernel
theorem dX1_loadParents_17 : decode cX1_loadParents 17 = .ok (.iload_n 2, 1) := by decide +kernel
theorem dX1_loadParents_18 : decode cX1_loadParents 18 = .ok (.invokevirtual 78, 3) := by decide +kernel
theorem dX1_loadParents_21 : decode cX1_loadParents 21 = .ok (.istore_n 3, 1) := by decide +kernel
theorem dX1_loadParents_22 : decode cX1_loadParents 22 = .ok (.iload_n 3, 1) := by decide +kernel
theorem dX1_loadParents_23 : decode cX1_loadParents 23 = .ok (.invokestatic 61, 3) := by decide +kernel
theorem dX1_loadParents_26 : decode cX1_loadParents 26 = .ok (.ifCond .ne 5, 3) := by decide +kernel
theorem dX1_loadParents_29 : decode cX1_loadParents 29 = .ok (.iload_n 3, 1) := by decide +kernel
theorem dX1_loadParents_30 : decode cX1_loadParents 30 = .ok (.ireturn, 1) := by decide +kernel
theorem dX1_loadParents_31 : decode cX1_loadParents 31 = .ok (.iconst 0, 1) := by decide +kernel
theorem dX1_loadParents_32 : decode cX1_loadParents 32 = .ok (.istore_n 3, 1) := by decide +kernel
theorem dX1_loadParents_33 : decode cX1_loadParents 33 = .ok (.iload_n 3, 1) := by decide +kernel
theorem dX1_loadParents_34 : decode cX1_loadParents 34 = .ok (.bipush 12, 2) := by decide +kernel
theorem dX1_loadParents_36 : decode cX1_loadParents 36 = .ok (.if_icmp .ge 41, 3) := by decide +kernel
theorem dX1_loadParents_39 : decode cX1_loadParents 39 = .ok (.aload_n 0, 1) := by decide +kernel
theorem dX1_loadParents_40 : decode cX1_loadParents 40 = .ok (.getfield 21, 3) := by decide +kernel
theorem dX1_loadParents_43 : decode cX1_loadParents 43 = .ok (.iload_n 1, 1) := by decide +kernel
theorem dX1_loadParents_44 : decode cX1_loadParents 44 = .ok (.iaload, 1) := by decide +kernel
theorem dX1_loadParents_45 : decode cX1_loadParents 45 = .ok (.iload_n 3, 1) := by decide +kernel
theorem dX1_loadParents_46 : decode cX1_loadParents 46 = .ok (.invokestatic 57, 3) := by decide +kernel
theorem dX1_loadParents_49 : decode cX1_loadParents 49 = .ok (.ifCond .eq 22, 3) := by decide +kernel
theorem dX1_loadParents_52 : decode cX1_loadParents 52 = .ok (.aload_n 0, 1) := by decide +kernel
theorem dX1_loadParents_53 : decode cX1_loadParents 53 = .ok (.iload_n 3, 1) := by decide +kernel
theorem dX1_loadParents_54 : decode cX1_loadParents 54 = .ok (.iload_n 2, 1) := by decide +kernel
theorem dX1_loadParents_55 : decode cX1_loadParents 55 = .ok (.invokevirtual 78, 3) := by decide +kernel
theorem dX1_loadParents_58 : decode cX1_loadParents 58 = .ok (.istore 4, 2) := by decide +kernel
theorem dX1_loadParents_60 : decode cX1_loadParents 60 = .ok (.iload 4, 2) := by decide +kernel
theorem dX1_loadParents_62 : decode cX1_loadParents 62 = .ok (.invokestatic 61, 3) := by decide +kernel
theorem dX1_loadParents_65 : decode cX1_loadParents 65 = .ok (.ifCond .ne 6, 3) := by decide +kernel
theorem dX1_loadParents_68 : decode cX1_loadParents 68 = .ok (.iload 4, 2) := by decide +kernel
theorem dX1_loadParents_70 : decode cX1_loadParents 70 = .ok (.ireturn, 1) := by decide +kernel
theorem dX1_loadParents_71 : decode cX1_loadParents 71 = .ok (.iinc 3 1, 3) := by decide +kernel
theorem dX1_loadParents_74 : decode cX1_loadParents 74 = .ok (.goto (-41), 3) := by decide +kernel
theorem dX1_loadParents_77 : decode cX1_loadParents 77 = .ok (.iload_n 1, 1) := by decide +kernel
theorem dX1_loadParents_78 : decode cX1_loadParents 78 = .ok (.ireturn, 1) := by decide +kernel
set_option maxRecDepth 20000 in
theorem ggX1_hasWrongParents_X1_isInterface : GoodIn wsX1_hasWrongParents wsX1_isInterface := goodIn_r _ [8, 2, 12, 13, 14, 15, 16, 17, 18, 19, 20, 21] (by decide +kernel) (by decide +kernel)
set_option maxRecDepth 20000 in
theorem gX1_hasWrongParents_X1_isInterface : GoodIn wsX1_hasWrongParents (wsV RX1 92 RX1 yX1_isInterface wsX1_isInterface) := goodIn_app (goodIn_of _ (by decide +kernel)) ggX1_hasWrongParents_X1_isInterface
set_option maxRecDepth 20000 in
theorem ggX1_hasWrongParents_X4_contains : GoodIn wsX1_hasWrongParents wsX4_contains := goodIn_r _ [11] (by decide +kernel) (by decide +kernel)
set_option maxRecDepth 20000 in
theorem gX1_hasWrongParents_X4_contains_n57 : GoodIn wsX1_hasWrongParents (wsX4_contains) := ggX1_hasWrongParents_X4_contains
theorem dX1_hasWrongParents_0 : decode cX1_hasWrongParents 0 = .ok (.aload_n 0, 1) := by decide +kernel
theorem dX1_hasWrongParents_1 : decode cX1_hasWrongParents 1 = .ok (.getfield 18, 3) := by decide +kernel
theorem dX1_hasWrongParents_4 : decode cX1_hasWrongParents 4 = .ok (.iload_n 1, 1) := by decide +kernel
theorem dX1_hasWrongParents_5 : decode cX1_hasWrongParents 5 = .ok (.iaload, 1) := by decide +kernel
theorem dX1_hasWrongParents_6 : decode cX1_hasWrongParents 6 = .ok (.istore_n 2, 1) := by decide +kernel
theorem dX1_hasWrongParents_7 : decode cX1_hasWrongParents 7 = .ok (.iload_n 2, 1) := by decide +kernel
theorem dX1_hasWrongParents_8 : decode cX1_hasWrongParents 8 = .ok (.iconst (-1), 1) := by decide +kernel
theorem dX1_hasWrongParents_9 : decode cX1_hasWrongParents 9 = .ok (.if_icmp .eq 17, 3) := by decide +kernel
theorem dX1_hasWrongParents_12 : decode cX1_hasWrongParents 12 = .ok (.aload_n 0, 1) := by decide +kernel
theorem dX1_hasWrongParents_13 : decode cX1_hasWrongParents 13 = .ok (.getfield 9, 3) := by decide +kernel
theorem dX1_hasWrongParents_16 : decode cX1_hasWrongParents 16 = .ok (.iload_n 2, 1) := by decide +kernel
theorem dX1_hasWrongParents_17 : decode cX1_hasWrongParents 17 = .ok (.iaload, 1) := by decide +kernel
theorem dX1_hasWrongParents_18 : decode cX1_hasWrongParents 18 = .ok (.bipush 10, 2) := by decide +kernel
theorem dX1_hasWrongParents_20 : decode cX1_hasWrongParents 20 = .ok (.iand, 1) := by decide +kernel
theorem dX1_hasWrongParents_21 : decode cX1_hasWrongParents 21 = .ok (.ifCond .eq 5, 3) := by decide +kernel
theorem dX1_hasWrongParents_24 : decode cX1_hasWrongParents 24 = .ok (.iconst 1, 1) := by decide +kernel
theorem dX1_hasWrongParents_25 : decode cX1_hasWrongParents 25 = .ok (.ireturn, 1) := by decide +kernel
theorem dX1_hasWrongParents_26 : decode cX1_hasWrongParents 26 = .ok (.aload_n 0, 1) := by decide +kernel
theorem dX1_hasWrongParents_27 : decode cX1_hasWrongParents 27 = .ok (.iload_n 1, 1) := by decide +kernel
theorem dX1_hasWrongParents_28 : decode cX1_hasWrongParents 28 = .ok (.invokevirtual 92, 3) := by decide +kernel
theorem dX1_hasWrongParents_31 : decode cX1_hasWrongParents 31 = .ok (.ifCond .eq 9, 3) := by decide +kernel
theorem dX1_hasWrongParents_34 : decode cX1_hasWrongParents 34 = .ok (.iload_n 2, 1) := by decide +kernel
theorem dX1_hasWrongParents_35 : decode cX1_hasWrongParents 35 = .ok (.ifCond .eq 5, 3) := by decide +kernel
theorem dX1_hasWrongParents_38 : decode cX1_hasWrongParents 38 = .ok (.iconst 1, 1) := by decide +kernel
theorem dX1_hasWrongParents_39 : decode cX1_hasWrongParents 39 = .ok (.ireturn, 1) := by decide +kernel
theorem dX1_hasWrongParents_40 : decode cX1_hasWrongParents 40 = .ok (.iconst 0, 1) := by decide +kernel
theorem dX1_hasWrongParents_41 : decode cX1_hasWrongParents 41 = .ok (.istore_n 3, 1) := by decide +kernel
theorem dX1_hasWrongParents_42 : decode cX1_hasWrongParents 42 = .ok (.iload_n 3, 1) := by decide +kernel
theorem dX1_hasWrongParents_43 : decode cX1_hasWrongParents 43 = .ok (.bipush 12, 2) := by decide +kernel
theorem dX1_hasWrongParents_45 : decode cX1_hasWrongParents 45 = .ok (.if_icmp .ge 32, 3) := by decide +kernel
theorem dX1_hasWrongParents_48 : decode cX1_hasWrongParents 48 = .ok (.aload_n 0, 1) := by decide +kernel
theorem dX1_hasWrongParents_49 : decode cX1_hasWrongParents 49 = .ok (.getfield 21, 3) := by decide +kernel
theorem dX1_hasWrongParents_52 : decode cX1_hasWrongParents 52 = .ok (.iload_n 1, 1) := by decide +kernel
theorem dX1_hasWrongParents_53 : decode cX1_hasWrongParents 53 = .ok (.iaload, 1) := by decide +kernel
theorem dX1_hasWrongParents_54 : decode cX1_hasWrongParents 54 = .ok (.iload_n 3, 1) := by decide +kernel
theorem dX1_hasWrongParents_55 : decode cX1_hasWrongParents 55 = .ok (.invokestatic 57, 3) := by decide +kernel
theorem dX1_hasWrongParents_58 : decode cX1_hasWrongParents 58 = .ok (.ifCond .eq 13, 3) := by decide +kernel
theorem dX1_hasWrongParents_61 : decode cX1_hasWrongParents 61 = .ok (.aload_n 0, 1) := by decide +kernel
theorem dX1_hasWrongParents_62 : decode cX1_hasWrongParents 62 = .ok (.iload_n 3, 1) := by decide +kernel
theorem dX1_hasWrongParents_63 : decode cX1_hasWrongParents 63 = .ok (.invokevirtual 92, 3) := by decide +kernel
theorem dX1_hasWrongParents_66 : decode cX1_hasWrongParents 66 = .ok (.ifCond .ne 5, 3) := by decide +kernel
theorem dX1_hasWrongParents_69 : decode cX1_hasWrongParents 69 = .ok (.iconst 1, 1) := by decide +kernel
theorem dX1_hasWrongParents_70 : decode cX1_hasWrongParents 70 = .ok (.ireturn, 1) := by decide +kernel
theorem dX1_hasWrongParents_71 : decode cX1_hasWrongParents 71 = .ok (.iinc 3 1, 3) := by decide +kernel
theorem dX1_hasWrongParents_74 : decode cX1_hasWrongParents 74 = .ok (.goto (-32), 3) := by decide +kernel
theorem dX1_hasWrongParents_77 : decode cX1_hasWrongParents 77 = .ok (.iconst 0, 1) := by decide +kernel
theorem dX1_hasWrongParents_78 : decode cX1_hasWrongParents 78 = .ok (.ireturn, 1) := by decide +kernel
set_option maxRecDepth 20000 in
theorem ggX1_gatherSets_X4_bit : GoodIn wsX1_gatherSets wsX4_bit := goodIn_r _ [7] (by decide +kernel) (by decide +kernel)
set_option maxRecDepth 20000 in
theorem gX1_gatherSets_X4_bit_n36 : GoodIn wsX1_gatherSets (wsX4_bit) := ggX1_gatherSets_X4_bit
set_option maxRecDepth 20000 in
theorem ggX1_gatherSets_X4_contains : GoodIn wsX1_gatherSets wsX4_contains := goodIn_r _ [9] (by decide +kernel) (by decide +kernel)
set_option maxRecDepth 20000 in
theorem gX1_gatherSets_X4_contains_n57 : GoodIn wsX1_gatherSets (wsX4_contains) := ggX1_gatherSets_X4_contains
theorem dX1_gatherSets_0 : decode cX1_gatherSets 0 = .ok (.aload_n 0, 1) := by decide +kernel
theorem dX1_gatherSets_1 : decode cX1_gatherSets 1 = .ok (.getfield 18, 3) := by decide +kernel
theorem dX1_gatherSets_4 : decode cX1_gatherSets 4 = .ok (.iload_n 1, 1) := by decide +kernel
theorem dX1_gatherSets_5 : decode cX1_gatherSets 5 = .ok (.iaload, 1) := by decide +kernel
theorem dX1_gatherSets_6 : decode cX1_gatherSets 6 = .ok (.istore_n 2, 1) := by decide +kernel
theorem dX1_gatherSets_7 : decode cX1_gatherSets 7 = .ok (.aload_n 0, 1) := by decide +kernel
theorem dX1_gatherSets_8 : decode cX1_gatherSets 8 = .ok (.getfield 30, 3) := by decide +kernel
theorem dX1_gatherSets_11 : decode cX1_gatherSets 11 = .ok (.iload_n 1, 1) := by decide +kernel
theorem dX1_gatherSets_12 : decode cX1_gatherSets 12 = .ok (.iload_n 2, 1) := by decide +kernel
theorem dX1_gatherSets_13 : decode cX1_gatherSets 13 = .ok (.iconst (-1), 1) := by decide +kernel
theorem dX1_gatherSets_14 : decode cX1_gatherSets 14 = .ok (.if_icmp .ne 10, 3) := by decide +kernel
theorem dX1_gatherSets_17 : decode cX1_gatherSets 17 = .ok (.iload_n 1, 1) := by decide +kernel
theorem dX1_gatherSets_18 : decode cX1_gatherSets 18 = .ok (.invokestatic 36, 3) := by decide +kernel
theorem dX1_gatherSets_21 : decode cX1_gatherSets 21 = .ok (.goto 14, 3) := by decide +kernel
theorem dX1_gatherSets_24 : decode cX1_gatherSets 24 = .ok (.iload_n 1, 1) := by decide +kernel
theorem dX1_gatherSets_25 : decode cX1_gatherSets 25 = .ok (.invokestatic 36, 3) := by decide +kernel
theorem dX1_gatherSets_28 : decode cX1_gatherSets 28 = .ok (.aload_n 0, 1) := by decide +kernel
theorem dX1_gatherSets_29 : decode cX1_gatherSets 29 = .ok (.getfield 30, 3) := by decide +kernel
theorem dX1_gatherSets_32 : decode cX1_gatherSets 32 = .ok (.iload_n 2, 1) := by decide +kernel
theorem dX1_gatherSets_33 : decode cX1_gatherSets 33 = .ok (.iaload, 1) := by decide +kernel
theorem dX1_gatherSets_34 : decode cX1_gatherSets 34 = .ok (.ior, 1) := by decide +kernel
theorem dX1_gatherSets_35 : decode cX1_gatherSets 35 = .ok (.iastore, 1) := by decide +kernel
theorem dX1_gatherSets_36 : decode cX1_gatherSets 36 = .ok (.iload_n 2, 1) := by decide +kernel
theorem dX1_gatherSets_37 : decode cX1_gatherSets 37 = .ok (.iconst (-1), 1) := by decide +kernel
theorem dX1_gatherSets_38 : decode cX1_gatherSets 38 = .ok (.if_icmp .ne 12, 3) := by decide +kernel
theorem dX1_gatherSets_41 : decode cX1_gatherSets 41 = .ok (.aload_n 0, 1) := by decide +kernel
theorem dX1_gatherSets_42 : decode cX1_gatherSets 42 = .ok (.getfield 21, 3) := by decide +kernel
theorem dX1_gatherSets_45 : decode cX1_gatherSets 45 = .ok (.iload_n 1, 1) := by decide +kernel
theorem dX1_gatherSets_46 : decode cX1_gatherSets 46 = .ok (.iaload, 1) := by decide +kernel
theorem dX1_gatherSets_47 : decode cX1_gatherSets 47 = .ok (.goto 16, 3) := by decide +kernel
theorem dX1_gatherSets_50 : decode cX1_gatherSets 50 = .ok (.aload_n 0, 1) := by decide +kernel
theorem dX1_gatherSets_51 : decode cX1_gatherSets 51 = .ok (.getfield 21, 3) := by decide +kernel
theorem dX1_gatherSets_54 : decode cX1_gatherSets 54 = .ok (.iload_n 1, 1) := by decide +kernel
theorem dX1_gatherSets_55 : decode cX1_gatherSets 55 = .ok (.iaload, 1) := by decide +kernel
theorem dX1_gatherSets_56 : decode cX1_gatherSets 56 = .ok (.aload_n 0, 1) := by decide +kernel
theorem dX1_gatherSets_57 : decode cX1_gatherSets 57 = .ok (.getfield 33, 3) := by decide +kernel
theorem dX1_gatherSets_60 : decode cX1_gatherSets 60 = .ok (.iload_n 2, 1) := by decide +kernel
theorem dX1_gatherSets_61 : decode cX1_gatherSets 61 = .ok (.iaload, 1) := by decide +kernel
theorem dX1_gatherSets_62 : decode cX1_gatherSets 62 = .ok (.ior, 1) := by decide +kernel
theorem dX1_gatherSets_63 : decode cX1_gatherSets 63 = .ok (.istore_n 3, 1) := by decide +kernel
theorem dX1_gatherSets_64 : decode cX1_gatherSets 64 = .ok (.iconst 0, 1) := by decide +kernel
theorem dX1_gatherSets_65 : decode cX1_gatherSets 65 = .ok (.istore 4, 2) := by decide +kernel
theorem dX1_gatherSets_67 : decode cX1_gatherSets 67 = .ok (.iload 4, 2) := by decide +kernel
theorem dX1_gatherSets_69 : decode cX1_gatherSets 69 = .ok (.bipush 12, 2) := by decide +kernel
theorem dX1_gatherSets_71 : decode cX1_gatherSets 71 = .ok (.if_icmp .ge 33, 3) := by decide +kernel
theorem dX1_gatherSets_74 : decode cX1_gatherSets 74 = .ok (.aload_n 0, 1) := by decide +kernel
theorem dX1_gatherSets_75 : decode cX1_gatherSets 75 = .ok (.getfield 21, 3) := by decide +kernel
theorem dX1_gatherSets_78 : decode cX1_gatherSets 78 = .ok (.iload_n 1, 1) := by decide +kernel
theorem dX1_gatherSets_79 : decode cX1_gatherSets 79 = .ok (.iaload, 1) := by decide +kernel
theorem dX1_gatherSets_80 : decode cX1_gatherSets 80 = .ok (.iload 4, 2) := by decide +kernel
theorem dX1_gatherSets_82 : decode cX1_gatherSets 82 = .ok (.invokestatic 57, 3) := by decide +kernel
theorem dX1_gatherSets_85 : decode cX1_gatherSets 85 = .ok (.ifCond .eq 13, 3) := by decide +kernel
theorem dX1_gatherSets_88 : decode cX1_gatherSets 88 = .ok (.iload_n 3, 1) := by decide +kernel
theorem dX1_gatherSets_89 : decode cX1_gatherSets 89 = .ok (.aload_n 0, 1) := by decide +kernel
theorem dX1_gatherSets_90 : decode cX1_gatherSets 90 = .ok (.getfield 33, 3) := by decide +kernel
theorem dX1_gatherSets_93 : decode cX1_gatherSets 93 = .ok (.iload 4, 2) := by decide +kernel
theorem dX1_gatherSets_95 : decode cX1_gatherSets 95 = .ok (.iaload, 1) := by decide +kernel
theorem dX1_gatherSets_96 : decode cX1_gatherSets 96 = .ok (.ior, 1) := by decide +kernel
theorem dX1_gatherSets_97 : decode cX1_gatherSets 97 = .ok (.istore_n 3, 1) := by decide +kernel
theorem dX1_gatherSets_98 : decode cX1_gatherSets 98 = .ok (.iinc 4 1, 3) := by decide +kernel
theorem dX1_gatherSets_101 : decode cX1_gatherSets 101 = .ok (.goto (-34), 3) := by decide +kernel
theorem dX1_gatherSets_104 : decode cX1_gatherSets 104 = .ok (.aload_n 0, 1) := by decide +kernel
theorem dX1_gatherSets_105 : decode cX1_gatherSets 105 = .ok (.getfield 33, 3) := by decide +kernel
theorem dX1_gatherSets_108 : decode cX1_gatherSets 108 = .ok (.iload_n 1, 1) := by decide +kernel
theorem dX1_gatherSets_109 : decode cX1_gatherSets 109 = .ok (.iload_n 3, 1) := by decide +kernel
theorem dX1_gatherSets_110 : decode cX1_gatherSets 110 = .ok (.iastore, 1) := by decide +kernel
theorem dX1_gatherSets_111 : decode cX1_gatherSets 111 = .ok (.return_, 1) := by decide +kernel
theorem dX2_init_0 : decode cX2_init 0 = .ok (.aload_n 0, 1) := by decide +kernel
theorem dX2_init_1 : decode cX2_init 1 = .ok (.invokespecial 3, 3) := by decide +kernel
theorem dX2_init_4 : decode cX2_init 4 = .ok (.aload_n 0, 1) := by decide +kernel
theorem dX2_init_5 : decode cX2_init 5 = .ok (.bipush 30, 2) := by decide +kernel
theorem dX2_init_7 : decode cX2_init 7 = .ok (.newarray .int, 2) := by decide +kernel
theorem dX2_init_9 : decode cX2_init 9 = .ok (.putfield 9, 3) := by decide +kernel
theorem dX2_init_12 : decode cX2_init 12 = .ok (.aload_n 0, 1) := by decide +kernel
theorem dX2_init_13 : decode cX2_init 13 = .ok (.bipush 30, 2) := by decide +kernel
theorem dX2_init_15 : decode cX2_init 15 = .ok (.newarray .int, 2) := by decide +kernel
theorem dX2_init_17 : decode cX2_init 17 = .ok (.putfield 15, 3) := by decide +kernel
theorem dX2_init_20 : decode cX2_init 20 = .ok (.aload_n 0, 1) := by decide +kernel
theorem dX2_init_21 : decode cX2_init 21 = .ok (.bipush 30, 2) := by decide +kernel
theorem dX2_init_23 : decode cX2_init 23 = .ok (.newarray .int, 2) := by decide +kernel
theorem dX2_init_25 : decode cX2_init 25 = .ok (.putfield 18, 3) := by decide +kernel
theorem dX2_init_28 : decode cX2_init 28 = .ok (.aload_n 0, 1) := by decide +kernel
theorem dX2_init_29 : decode cX2_init 29 = .ok (.bipush 30, 2) := by decide +kernel
theorem dX2_init_31 : decode cX2_init 31 = .ok (.newarray .int, 2) := by decide +kernel
theorem dX2_init_33 : decode cX2_init 33 = .ok (.putfield 21, 3) := by decide +kernel
theorem dX2_init_36 : decode cX2_init 36 = .ok (.return_, 1) := by decide +kernel
set_option maxRecDepth 20000 in
theorem ggX2_append_X2_keyOf : GoodIn wsX2_append wsX2_keyOf := goodIn_r _ [9] (by decide +kernel) (by decide +kernel)
set_option maxRecDepth 20000 in
theorem gX2_append_X2_keyOf : GoodIn wsX2_append (va_wsS RX2 28 yX2_keyOf wsX2_keyOf) := goodIn_app (goodIn_of _ (by decide +kernel)) ggX2_append_X2_keyOf
theorem dX2_append_0 : decode cX2_append 0 = .ok (.aload_n 0, 1) := by decide +kernel
theorem dX2_append_1 : decode cX2_append 1 = .ok (.getfield 24, 3) := by decide +kernel
theorem dX2_append_4 : decode cX2_append 4 = .ok (.bipush 30, 2) := by decide +kernel
theorem dX2_append_6 : decode cX2_append 6 = .ok (.if_icmp .lt 6, 3) := by decide +kernel
theorem dX2_append_9 : decode cX2_append 9 = .ok (.bipush (-3), 2) := by decide +kernel
theorem dX2_append_11 : decode cX2_append 11 = .ok (.ireturn, 1) := by decide +kernel
theorem dX2_append_12 : decode cX2_append 12 = .ok (.aload_n 0, 1) := by decide +kernel
theorem dX2_append_13 : decode cX2_append 13 = .ok (.getfield 24, 3) := by decide +kernel
theorem dX2_append_16 : decode cX2_append 16 = .ok (.istore 6, 2) := by decide +kernel
theorem dX2_append_18 : decode cX2_append 18 = .ok (.aload_n 0, 1) := by decide +kernel
theorem dX2_append_19 : decode cX2_append 19 = .ok (.dup, 1) := by decide +kernel
theorem dX2_append_20 : decode cX2_append 20 = .ok (.getfield 24, 3) := by decide +kernel
theorem dX2_append_23 : decode cX2_append 23 = .ok (.iconst 1, 1) := by decide +kernel
theorem dX2_append_24 : decode cX2_append 24 = .ok (.iadd, 1) := by decide +kernel
theorem dX2_append_25 : decode cX2_append 25 = .ok (.putfield 24, 3) := by decide +kernel
theorem dX2_append_28 : decode cX2_append 28 = .ok (.aload_n 0, 1) := by decide +kernel
theorem dX2_append_29 : decode cX2_append 29 = .ok (.getfield 9, 3) := by decide +kernel
theorem dX2_append_32 : decode cX2_append 32 = .ok (.iload 6, 2) := by decide +kernel
theorem dX2_append_34 : decode cX2_append 34 = .ok (.iload_n 1, 1) := by decide +kernel
theorem dX2_append_35 : decode cX2_append 35 = .ok (.iastore, 1) := by decide +kernel
theorem dX2_append_36 : decode cX2_append 36 = .ok (.aload_n 0, 1) := by decide +kernel
theorem dX2_append_37 : decode cX2_append 37 = .ok (.getfield 15, 3) := by decide +kernel
theorem dX2_append_40 : decode cX2_append 40 = .ok (.iload 6, 2) := by decide +kernel
theorem dX2_append_42 : decode cX2_append 42 = .ok (.iload_n 2, 1) := by decide +kernel
theorem dX2_append_43 : decode cX2_append 43 = .ok (.iload_n 3, 1) := by decide +kernel
theorem dX2_append_44 : decode cX2_append 44 = .ok (.invokestatic 28, 3) := by decide +kernel
theorem dX2_append_47 : decode cX2_append 47 = .ok (.iastore, 1) := by decide +kernel
theorem dX2_append_48 : decode cX2_append 48 = .ok (.aload_n 0, 1) := by decide +kernel
theorem dX2_append_49 : decode cX2_append 49 = .ok (.getfield 18, 3) := by decide +kernel
theorem dX2_append_52 : decode cX2_append 52 = .ok (.iload 6, 2) := by decide +kernel
theorem dX2_append_54 : decode cX2_append 54 = .ok (.iload 4, 2) := by decide +kernel
theorem dX2_append_56 : decode cX2_append 56 = .ok (.iastore, 1) := by decide +kernel
theorem dX2_append_57 : decode cX2_append 57 = .ok (.aload_n 0, 1) := by decide +kernel
theorem dX2_append_58 : decode cX2_append 58 = .ok (.getfield 21, 3) := by decide +kernel
theorem dX2_append_61 : decode cX2_append 61 = .ok (.iload 6, 2) := by decide +kernel
theorem dX2_append_63 : decode cX2_append 63 = .ok (.iload 5, 2) := by decide +kernel
theorem dX2_append_65 : decode cX2_append 65 = .ok (.iastore, 1) := by decide +kernel
theorem dX2_append_66 : decode cX2_append 66 = .ok (.iload 6, 2) := by decide +kernel
theorem dX2_append_68 : decode cX2_append 68 = .ok (.ireturn, 1) := by decide +kernel
set_option maxRecDepth 20000 in
theorem ggX2_change_X2_isPresent : GoodIn wsX2_change wsX2_isPresent := goodIn_r _ [7, 8, 9, 10, 11, 12, 13, 14, 15, 16, 17, 18, 19, 20] (by decide +kernel) (by decide +kernel)
set_option maxRecDepth 20000 in
theorem gX2_change_X2_isPresent : GoodIn wsX2_change (wsV RX2 32 RX2 yX2_isPresent wsX2_isPresent) := goodIn_app (goodIn_of _ (by decide +kernel)) ggX2_change_X2_isPresent
theorem dX2_change_0 : decode cX2_change 0 = .ok (.aload_n 0, 1) := by decide +kernel
theorem dX2_change_1 : decode cX2_change 1 = .ok (.iload_n 1, 1) := by decide +kernel
theorem dX2_change_2 : decode cX2_change 2 = .ok (.invokevirtual 32, 3) := by decide +kernel
theorem dX2_change_5 : decode cX2_change 5 = .ok (.ifCond .ne 5, 3) := by decide +kernel
theorem dX2_change_8 : decode cX2_change 8 = .ok (.iconst 0, 1) := by decide +kernel
theorem dX2_change_9 : decode cX2_change 9 = .ok (.ireturn, 1) := by decide +kernel
theorem dX2_change_10 : decode cX2_change 10 = .ok (.aload_n 0, 1) := by decide +kernel
theorem dX2_change_11 : decode cX2_change 11 = .ok (.getfield 18, 3) := by decide +kernel
theorem dX2_change_14 : decode cX2_change 14 = .ok (.iload_n 1, 1) := by decide +kernel
theorem dX2_change_15 : decode cX2_change 15 = .ok (.iload_n 2, 1) := by decide +kernel
theorem dX2_change_16 : decode cX2_change 16 = .ok (.iastore, 1) := by decide +kernel
theorem dX2_change_17 : decode cX2_change 17 = .ok (.aload_n 0, 1) := by decide +kernel
theorem dX2_change_18 : decode cX2_change 18 = .ok (.getfield 21, 3) := by decide +kernel
theorem dX2_change_21 : decode cX2_change 21 = .ok (.iload_n 1, 1) := by decide +kernel
theorem dX2_change_22 : decode cX2_change 22 = .ok (.iload_n 3, 1) := by decide +kernel
theorem dX2_change_23 : decode cX2_change 23 = .ok (.iastore, 1) := by decide +kernel
theorem dX2_change_24 : decode cX2_change 24 = .ok (.iconst 1, 1) := by decide +kernel
theorem dX2_change_25 : decode cX2_change 25 = .ok (.ireturn, 1) := by decide +kernel
set_option maxRecDepth 20000 in
theorem ggX2_discard_X2_isPresent : GoodIn wsX2_discard wsX2_isPresent := goodIn_r _ [6, 7, 1, 8, 9, 10, 11, 12, 15, 16, 17, 18, 19, 20] (by decide +kernel) (by decide +kernel)
set_option maxRecDepth 20000 in
theorem gX2_discard_X2_isPresent : GoodIn wsX2_discard (wsV RX2 32 RX2 yX2_isPresent wsX2_isPresent) := goodIn_app (goodIn_of _ (by decide +kernel)) ggX2_discard_X2_isPresent
set_option maxRecDepth 20000 in
theorem ggX2_discard_X4_bit : GoodIn wsX2_discard wsX4_bit := goodIn_r _ [14] (by decide +kernel) (by decide +kernel)
set_option maxRecDepth 20000 in
theorem gX2_discard_X4_bit_n39 : GoodIn wsX2_discard (wsX4_bit) := ggX2_discard_X4_bit
theorem dX2_discard_0 : decode cX2_discard 0 = .ok (.aload_n 0, 1) := by decide +kernel
theorem dX2_discard_1 : decode cX2_discard 1 = .ok (.iload_n 1, 1) := by decide +kernel
theorem dX2_discard_2 : decode cX2_discard 2 = .ok (.invokevirtual 32, 3) := by decide +kernel
theorem dX2_discard_5 : decode cX2_discard 5 = .ok (.ifCond .ne 5, 3) := by decide +kernel
theorem dX2_discard_8 : decode cX2_discard 8 = .ok (.iconst 0, 1) := by decide +kernel
theorem dX2_discard_9 : decode cX2_discard 9 = .ok (.ireturn, 1) := by decide +kernel
theorem dX2_discard_10 : decode cX2_discard 10 = .ok (.aload_n 0, 1) := by decide +kernel
theorem dX2_discard_11 : decode cX2_discard 11 = .ok (.dup, 1) := by decide +kernel
theorem dX2_discard_12 : decode cX2_discard 12 = .ok (.getfield 36, 3) := by decide +kernel
theorem dX2_discard_15 : decode cX2_discard 15 = .ok (.iload_n 1, 1) := by decide +kernel
theorem dX2_discard_16 : decode cX2_discard 16 = .ok (.invokestatic 39, 3) := by decide +kernel
theorem dX2_discard_19 : decode cX2_discard 19 = .ok (.ior, 1) := by decide +kernel
theorem dX2_discard_20 : decode cX2_discard 20 = .ok (.putfield 36, 3) := by decide +kernel
theorem dX2_discard_23 : decode cX2_discard 23 = .ok (.iconst 1, 1) := by decide +kernel
theorem dX2_discard_24 : decode cX2_discard 24 = .ok (.ireturn, 1) := by decide +kernel
set_option maxRecDepth 20000 in
theorem ggX2_discardAllOf_X4_bit : GoodIn wsX2_discardAllOf wsX4_bit := goodIn_r _ [6] (by decide +kernel) (by decide +kernel)
set_option maxRecDepth 20000 in
theorem gX2_discardAllOf_X4_bit_n39 : GoodIn wsX2_discardAllOf (wsX4_bit) := ggX2_discardAllOf_X4_bit
theorem dX2_discardAllOf_0 : decode cX2_discardAllOf 0 = .ok (.iconst 0, 1) := by decide +kernel
theorem dX2_discardAllOf_1 : decode cX2_discardAllOf 1 = .ok (.istore_n 2, 1) := by decide +kernel
theorem dX2_discardAllOf_2 : decode cX2_discardAllOf 2 = .ok (.iload_n 2, 1) := by decide +kernel
theorem dX2_discardAllOf_3 : decode cX2_discardAllOf 3 = .ok (.aload_n 0, 1) := by decide +kernel
theorem dX2_discardAllOf_4 : decode cX2_discardAllOf 4 = .ok (.getfield 24, 3) := by decide +kernel
theorem dX2_discardAllOf_7 : decode cX2_discardAllOf 7 = .ok (.if_icmp .ge 32, 3) := by decide +kernel
theorem dX2_discardAllOf_10 : decode cX2_discardAllOf 10 = .ok (.aload_n 0, 1) := by decide +kernel
theorem dX2_discardAllOf_11 : decode cX2_discardAllOf 11 = .ok (.getfield 9, 3) := by decide +kernel
theorem dX2_discardAllOf_14 : decode cX2_discardAllOf 14 = .ok (.iload_n 2, 1) := by decide +kernel
theorem dX2_discardAllOf_15 : decode cX2_discardAllOf 15 = .ok (.iaload, 1) := by decide +kernel
theorem dX2_discardAllOf_16 : decode cX2_discardAllOf 16 = .ok (.iload_n 1, 1) := by decide +kernel
theorem dX2_discardAllOf_17 : decode cX2_discardAllOf 17 = .ok (.if_icmp .ne 16, 3) := by decide +kernel
theorem dX2_discardAllOf_20 : decode cX2_discardAllOf 20 = .ok (.aload_n 0, 1) := by decide +kernel
theorem dX2_discardAllOf_21 : decode cX2_discardAllOf 21 = .ok (.dup, 1) := by decide +kernel
theorem dX2_discardAllOf_22 : decode cX2_discardAllOf 22 = .ok (.getfield 36, 3) := by decide +kernel
theorem dX2_discardAllOf_25 : decode cX2_discardAllOf 25 = .ok (.iload_n 2, 1) := by decide +kernel
theorem dX2_discardAllOf_26 : decode cX2_discardAllOf 26 = .ok (.invokestatic 39, 3) := by decide +kernel
theorem dX2_discardAllOf_29 : decode cX2_discardAllOf 29 = .ok (.ior, 1) := by decide +kernel
theorem dX2_discardAllOf_30 : decode cX2_discardAllOf 30 = .ok (.putfield 36, 3) := by decide +kernel
theorem dX2_discardAllOf_33 : decode cX2_discardAllOf 33 = .ok (.iinc 2 1, 3) := by decide +kernel
theorem dX2_discardAllOf_36 : decode cX2_discardAllOf 36 = .ok (.goto (-34), 3) := by decide +kernel
theorem dX2_discardAllOf_39 : decode cX2_discardAllOf 39 = .ok (.return_, 1) := by decide +kernel
theorem dX2_becomeAs_0 : decode cX2_becomeAs 0 = .ok (.aload_n 0, 1) := by decide +kernel
theorem dX2_becomeAs_1 : decode cX2_becomeAs 1 = .ok (.aload_n 1, 1) := by decide +kernel
theorem dX2_becomeAs_2 : decode cX2_becomeAs 2 = .ok (.getfield 24, 3) := by decide +kernel
theorem dX2_becomeAs_5 : decode cX2_becomeAs 5 = .ok (.putfield 24, 3) := by decide +kernel
theorem dX2_becomeAs_8 : decode cX2_becomeAs 8 = .ok (.aload_n 0, 1) := by decide +kernel
theorem dX2_becomeAs_9 : decode cX2_becomeAs 9 = .ok (.aload_n 1, 1) := by decide +kernel
theorem dX2_becomeAs_10 : decode cX2_becomeAs 10 = .ok (.getfield 36, 3) := by decide +kernel
theorem dX2_becomeAs_13 : decode cX2_becomeAs 13 = .ok (.putfield 36, 3) := by decide +kernel
theorem dX2_becomeAs_16 : decode cX2_becomeAs 16 = .ok (.aload_n 1, 1) := by decide +kernel
theorem dX2_becomeAs_17 : decode cX2_becomeAs 17 = .ok (.getfield 9, 3) := by decide +kernel
theorem dX2_becomeAs_20 : decode cX2_becomeAs 20 = .ok (.iconst 0, 1) := by decide +kernel
theorem dX2_becomeAs_21 : decode cX2_becomeAs 21 = .ok (.aload_n 0, 1) := by decide +kernel
theorem dX2_becomeAs_22 : decode cX2_becomeAs 22 = .ok (.getfield 9, 3) := by decide +kernel
theorem dX2_becomeAs_25 : decode cX2_becomeAs 25 = .ok (.iconst 0, 1) := by decide +kernel
theorem dX2_becomeAs_26 : decode cX2_becomeAs 26 = .ok (.bipush 30, 2) := by decide +kernel
theorem dX2_becomeAs_28 : decode cX2_becomeAs 28 = .ok (.invokestatic 43, 3) := by decide +kernel
theorem dX2_becomeAs_31 : decode cX2_becomeAs 31 = .ok (.aload_n 1, 1) := by decide +kernel
theorem dX2_becomeAs_32 : decode cX2_becomeAs 32 = .ok (.getfield 15, 3) := by decide +kernel
theorem dX2_becomeAs_35 : decode cX2_becomeAs 35 = .ok (.iconst 0, 1) := by decide +kernel
theorem dX2_becomeAs_36 : decode cX2_becomeAs 36 = .ok (.aload_n 0, 1) := by decide +kernel
theorem dX2_becomeAs_37 : decode cX2_becomeAs 37 = .ok (.getfield 15, 3) := by decide +kernel
theorem dX2_becomeAs_40 : decode cX2_becomeAs 40 = .ok (.iconst 0, 1) := by decide +kernel
theorem dX2_becomeAs_41 : decode cX2_becomeAs 41 = .ok (.bipush 30, 2) := by decide +kernel
theorem dX2_becomeAs_43 : decode cX2_becomeAs 43 = .ok (.invokestatic 43, 3) := by decide +kernel
theorem dX2_becomeAs_46 : decode cX2_becomeAs 46 = .ok (.aload_n 1, 1) := by decide +kernel
theorem dX2_becomeAs_47 : decode cX2_becomeAs 47 = .ok (.getfield 18, 3) := by decide +kernel
theorem dX2_becomeAs_50 : decode cX2_becomeAs 50 = .ok (.iconst 0, 1) := by decide +kernel
theorem dX2_becomeAs_51 : decode cX2_becomeAs 51 = .ok (.aload_n 0, 1) := by decide +kernel
theorem dX2_becomeAs_52 : decode cX2_becomeAs 52 = .ok (.getfield 18, 3) := by decide +kernel
theorem dX2_becomeAs_55 : decode cX2_becomeAs 55 = .ok (.iconst 0, 1) := by decide +kernel
theorem dX2_becomeAs_56 : decode cX2_becomeAs 56 = .ok (.bipush 30, 2) := by decide +kernel
theorem dX2_becomeAs_58 : decode cX2_becomeAs 58 = .ok (.invokestatic 43, 3) := by decide +kernel
theorem dX2_becomeAs_61 : decode cX2_becomeAs 61 = .ok (.aload_n 1, 1) := by decide +kernel
theorem dX2_becomeAs_62 : decode cX2_becomeAs 62 = .ok (.getfield 21, 3) := by decide +kernel
theorem dX2_becomeAs_65 : decode cX2_becomeAs 65 = .ok (.iconst 0, 1) := by decide +kernel
theorem dX2_becomeAs_66 : decode cX2_becomeAs 66 = .ok (.aload_n 0, 1) := by decide +kernel
theorem dX2_becomeAs_67 : decode cX2_becomeAs 67 = .ok (.getfield 21, 3) := by decide +kernel
theorem dX2_becomeAs_70 : decode cX2_becomeAs 70 = .ok (.iconst 0, 1) := by decide +kernel
theorem dX2_becomeAs_71 : decode cX2_becomeAs 71 = .ok (.bipush 30, 2) := by decide +kernel
theorem dX2_becomeAs_73 : decode cX2_becomeAs 73 = .ok (.invokestatic 43, 3) := by decide +kernel
theorem dX2_becomeAs_76 : decode cX2_becomeAs 76 = .ok (.return_, 1) := by decide +kernel
set_option maxRecDepth 20000 in
theorem ggX2_find_X2_keyOf : GoodIn wsX2_find wsX2_keyOf := goodIn_r _ [8] (by decide +kernel) (by decide +kernel)
set_option maxRecDepth 20000 in
theorem gX2_find_X2_keyOf : GoodIn wsX2_find (va_wsS RX2 28 yX2_keyOf wsX2_keyOf) := goodIn_app (goodIn_of _ (by decide +kernel)) ggX2_find_X2_keyOf
set_option maxRecDepth 20000 in
theorem ggX2_find_X4_contains : GoodIn wsX2_find wsX4_contains := goodIn_r _ [11] (by decide +kernel) (by decide +kernel)
set_option maxRecDepth 20000 in
theorem gX2_find_X4_contains_n49 : GoodIn wsX2_find (wsX4_contains) := ggX2_find_X4_contains
theorem dX2_find_0 : decode cX2_find 0 = .ok (.iload_n 2, 1) := by decide +kernel
theorem dX2_find_1 : decode cX2_find 1 = .ok (.iload_n 3, 1) := by decide +kernel
theorem dX2_find_2 : decode cX2_find 2 = .ok (.invokestatic 28, 3) := by decide +kernel
theorem dX2_find_5 : decode cX2_find 5 = .ok (.istore 4, 2) := by decide +kernel
theorem dX2_find_7 : decode cX2_find 7 = .ok (.iconst 0, 1) := by decide +kernel
theorem dX2_find_8 : decode cX2_find 8 = .ok (.istore 5, 2) := by decide +kernel
theorem dX2_find_10 : decode cX2_find 10 = .ok (.iload 5, 2) := by decide +kernel
theorem dX2_find_12 : decode cX2_find 12 = .ok (.aload_n 0, 1) := by decide +kernel
theorem dX2_find_13 : decode cX2_find 13 = .ok (.getfield 24, 3) := by decide +kernel
theorem dX2_find_16 : decode cX2_find 16 = .ok (.if_icmp .ge 47, 3) := by decide +kernel
theorem dX2_find_19 : decode cX2_find 19 = .ok (.aload_n 0, 1) := by decide +kernel
theorem dX2_find_20 : decode cX2_find 20 = .ok (.getfield 15, 3) := by decide +kernel
theorem dX2_find_23 : decode cX2_find 23 = .ok (.iload 5, 2) := by decide +kernel
theorem dX2_find_25 : decode cX2_find 25 = .ok (.iaload, 1) := by decide +kernel
theorem dX2_find_26 : decode cX2_find 26 = .ok (.iload 4, 2) := by decide +kernel
theorem dX2_find_28 : decode cX2_find 28 = .ok (.if_icmp .ne 29, 3) := by decide +kernel
theorem dX2_find_31 : decode cX2_find 31 = .ok (.aload_n 0, 1) := by decide +kernel
theorem dX2_find_32 : decode cX2_find 32 = .ok (.getfield 9, 3) := by decide +kernel
theorem dX2_find_35 : decode cX2_find 35 = .ok (.iload 5, 2) := by decide +kernel
theorem dX2_find_37 : decode cX2_find 37 = .ok (.iaload, 1) := by decide +kernel
theorem dX2_find_38 : decode cX2_find 38 = .ok (.iload_n 1, 1) := by decide +kernel
theorem dX2_find_39 : decode cX2_find 39 = .ok (.if_icmp .ne 18, 3) := by decide +kernel
theorem dX2_find_42 : decode cX2_find 42 = .ok (.aload_n 0, 1) := by decide +kernel
theorem dX2_find_43 : decode cX2_find 43 = .ok (.getfield 36, 3) := by decide +kernel
theorem dX2_find_46 : decode cX2_find 46 = .ok (.iload 5, 2) := by decide +kernel
theorem dX2_find_48 : decode cX2_find 48 = .ok (.invokestatic 49, 3) := by decide +kernel
theorem dX2_find_51 : decode cX2_find 51 = .ok (.ifCond .ne 6, 3) := by decide +kernel
theorem dX2_find_54 : decode cX2_find 54 = .ok (.iload 5, 2) := by decide +kernel
theorem dX2_find_56 : decode cX2_find 56 = .ok (.ireturn, 1) := by decide +kernel
theorem dX2_find_57 : decode cX2_find 57 = .ok (.iinc 5 1, 3) := by decide +kernel
theorem dX2_find_60 : decode cX2_find 60 = .ok (.goto (-50), 3) := by decide +kernel
theorem dX2_find_63 : decode cX2_find 63 = .ok (.bipush (-2), 2) := by decide +kernel
theorem dX2_find_65 : decode cX2_find 65 = .ok (.ireturn, 1) := by decide +kernel
set_option maxRecDepth 20000 in
theorem ggX2_ownersOfInheritable_X2_keyOf : GoodIn wsX2_ownersOfInheritable wsX2_keyOf := goodIn_r _ [8] (by decide +kernel) (by decide +kernel)
set_option maxRecDepth 20000 in
theorem gX2_ownersOfInheritable_X2_keyOf : GoodIn wsX2_ownersOfInheritable (va_wsS RX2 28 yX2_keyOf wsX2_keyOf) := goodIn_app (goodIn_of _ (by decide +kernel)) ggX2_ownersOfInheritable_X2_keyOf
set_option maxRecDepth 20000 in
theorem ggX2_ownersOfInheritable_X4_contains : GoodIn wsX2_ownersOfInheritable wsX4_contains := goodIn_r _ [11] (by decide +kernel) (by decide +kernel)
set_option maxRecDepth 20000 in
theorem gX2_ownersOfInheritable_X4_contains_n49 : GoodIn wsX2_ownersOfInheritable (wsX4_contains) := ggX2_ownersOfInheritable_X4_contains
set_option maxRecDepth 20000 in
theorem ggX2_ownersOfInheritable_X2_isInheritable : GoodIn wsX2_ownersOfInheritable wsX2_isInheritable := goodIn_r _ [15, 16, 17, 20, 21, 22, 23, 24, 25] (by decide +kernel) (by decide +kernel)
set_option maxRecDepth 20000 in
theorem gX2_ownersOfInheritable_X2_isInheritable : GoodIn wsX2_ownersOfInheritable (wsV RX2 53 RX2 yX2_isInheritable wsX2_isInheritable) := goodIn_app (goodIn_of _ (by decide +kernel)) ggX2_ownersOfInheritable_X2_isInheritable
set_option maxRecDepth 20000 in
theorem ggX2_ownersOfInheritable_X4_bit : GoodIn wsX2_ownersOfInheritable wsX4_bit := goodIn_r _ [19] (by decide +kernel) (by decide +kernel)
set_option maxRecDepth 20000 in
theorem gX2_ownersOfInheritable_X4_bit_n39 : GoodIn wsX2_ownersOfInheritable (wsX4_bit) := ggX2_ownersOfInheritable_X4_bit
theorem dX2_ownersOfInheritable_0 : decode cX2_ownersOfInheritable 0 = .ok (.iconst 1, 1) := by decide +kernel
theorem dX2_ownersOfInheritable_1 : decode cX2_ownersOfInheritable 1 = .ok (.iload_n 1, 1) := by decide +kernel
theorem dX2_ownersOfInheritable_2 : decode cX2_ownersOfInheritable 2 = .ok (.invokestatic 28, 3) := by decide +kernel
theorem dX2_ownersOfInheritable_5 : decode cX2_ownersOfInheritable 5 = .ok (.istore_n 2, 1) := by decide +kernel
theorem dX2_ownersOfInheritable_6 : decode cX2_ownersOfInheritable 6 = .ok (.iconst 0, 1) := by decide +kernel
theorem dX2_ownersOfInheritable_7 : decode cX2_ownersOfInheritable 7 = .ok (.istore_n 3, 1) := by decide +kernel
theorem dX2_ownersOfInheritable_8 : decode cX2_ownersOfInheritable 8 = .ok (.iconst 0, 1) := by decide +kernel
theorem dX2_ownersOfInheritable_9 : decode cX2_ownersOfInheritable 9 = .ok (.istore 4, 2) := by decide +kernel
theorem dX2_ownersOfInheritable_11 : decode cX2_ownersOfInheritable 11 = .ok (.iload 4, 2) := by decide +kernel
theorem dX2_ownersOfInheritable_13 : decode cX2_ownersOfInheritable 13 = .ok (.aload_n 0, 1) := by decide +kernel
theorem dX2_ownersOfInheritable_14 : decode cX2_ownersOfInheritable 14 = .ok (.getfield 24, 3) := by decide +kernel
theorem dX2_ownersOfInheritable_17 : decode cX2_ownersOfInheritable 17 = .ok (.if_icmp .ge 54, 3) := by decide +kernel
theorem dX2_ownersOfInheritable_20 : decode cX2_ownersOfInheritable 20 = .ok (.aload_n 0, 1) := by decide +kernel
theorem dX2_ownersOfInheritable_21 : decode cX2_ownersOfInheritable 21 = .ok (.getfield 15, 3) := by decide +kernel
theorem dX2_ownersOfInheritable_24 : decode cX2_ownersOfInheritable 24 = .ok (.iload 4, 2) := by decide +kernel
theorem dX2_ownersOfInheritable_26 : decode cX2_ownersOfInheritable 26 = .ok (.iaload, 1) := by decide +kernel
theorem dX2_ownersOfInheritable_27 : decode cX2_ownersOfInheritable 27 = .ok (.iload_n 2, 1) := by decide +kernel
theorem dX2_ownersOfInheritable_28 : decode cX2_ownersOfInheritable 28 = .ok (.if_icmp .ne 37, 3) := by decide +kernel
theorem dX2_ownersOfInheritable_31 : decode cX2_ownersOfInheritable 31 = .ok (.aload_n 0, 1) := by decide +kernel
theorem dX2_ownersOfInheritable_32 : decode cX2_ownersOfInheritable 32 = .ok (.getfield 36, 3) := by decide +kernel
theorem dX2_ownersOfInheritable_35 : decode cX2_ownersOfInheritable 35 = .ok (.iload 4, 2) := by decide +kernel
theorem dX2_ownersOfInheritable_37 : decode cX2_ownersOfInheritable 37 = .ok (.invokestatic 49, 3) := by decide +kernel
theorem dX2_ownersOfInheritable_40 : decode cX2_ownersOfInheritable 40 = .ok (.ifCond .ne 25, 3) := by decide +kernel
theorem dX2_ownersOfInheritable_43 : decode cX2_ownersOfInheritable 43 = .ok (.aload_n 0, 1) := by decide +kernel
theorem dX2_ownersOfInheritable_44 : decode cX2_ownersOfInheritable 44 = .ok (.iload 4, 2) := by decide +kernel
theorem dX2_ownersOfInheritable_46 : decode cX2_ownersOfInheritable 46 = .ok (.invokevirtual 53, 3) := by decide +kernel
theorem dX2_ownersOfInheritable_49 : decode cX2_ownersOfInheritable 49 = .ok (.ifCond .eq 16, 3) := by decide +kernel
theorem dX2_ownersOfInheritable_52 : decode cX2_ownersOfInheritable 52 = .ok (.iload_n 3, 1) := by decide +kernel
theorem dX2_ownersOfInheritable_53 : decode cX2_ownersOfInheritable 53 = .ok (.aload_n 0, 1) := by decide +kernel
theorem dX2_ownersOfInheritable_54 : decode cX2_ownersOfInheritable 54 = .ok (.getfield 9, 3) := by decide +kernel
theorem dX2_ownersOfInheritable_57 : decode cX2_ownersOfInheritable 57 = .ok (.iload 4, 2) := by decide +kernel
theorem dX2_ownersOfInheritable_59 : decode cX2_ownersOfInheritable 59 = .ok (.iaload, 1) := by decide +kernel
theorem dX2_ownersOfInheritable_60 : decode cX2_ownersOfInheritable 60 = .ok (.invokestatic 39, 3) := by decide +kernel
theorem dX2_ownersOfInheritable_63 : decode cX2_ownersOfInheritable 63 = .ok (.ior, 1) := by decide +kernel
theorem dX2_ownersOfInheritable_64 : decode cX2_ownersOfInheritable 64 = .ok (.istore_n 3, 1) := by decide +kernel
theorem dX2_ownersOfInheritable_65 : decode cX2_ownersOfInheritable 65 = .ok (.iinc 4 1, 3) := by decide +kernel
theorem dX2_ownersOfInheritable_68 : decode cX2_ownersOfInheritable 68 = .ok (.goto (-57), 3) := by decide +kernel
theorem dX2_ownersOfInheritable_71 : decode cX2_ownersOfInheritable 71 = .ok (.iload_n 3, 1) := by decide +kernel
theorem dX2_ownersOfInheritable_72 : decode cX2_ownersOfInheritable 72 = .ok (.ireturn, 1) := by decide +kernel
theorem dX2_isInheritable_0 : decode cX2_isInheritable 0 = .ok (.aload_n 0, 1) := by decide +kernel
theorem dX2_isInheritable_1 : decode cX2_isInheritable 1 = .ok (.getfield 18, 3) := by decide +kernel
theorem dX2_isInheritable_4 : decode cX2_isInheritable 4 = .ok (.iload_n 1, 1) := by decide +kernel
theorem dX2_isInheritable_5 : decode cX2_isInheritable 5 = .ok (.iaload, 1) := by decide +kernel
theorem dX2_isInheritable_6 : decode cX2_isInheritable 6 = .ok (.ifCond .eq 18, 3) := by decide +kernel
theorem dX2_isInheritable_9 : decode cX2_isInheritable 9 = .ok (.aload_n 0, 1) := by decide +kernel
theorem dX2_isInheritable_10 : decode cX2_isInheritable 10 = .ok (.getfield 21, 3) := by decide +kernel
theorem dX2_isInheritable_13 : decode cX2_isInheritable 13 = .ok (.iload_n 1, 1) := by decide +kernel
theorem dX2_isInheritable_14 : decode cX2_isInheritable 14 = .ok (.iaload, 1) := by decide +kernel
theorem dX2_isInheritable_15 : decode cX2_isInheritable 15 = .ok (.iconst 1, 1) := by decide +kernel
theorem dX2_isInheritable_16 : decode cX2_isInheritable 16 = .ok (.iand, 1) := by decide +kernel
theorem dX2_isInheritable_17 : decode cX2_isInheritable 17 = .ok (.ifCond .ne 7, 3) := by decide +kernel
theorem dX2_isInheritable_20 : decode cX2_isInheritable 20 = .ok (.iconst 1, 1) := by decide +kernel
theorem dX2_isInheritable_21 : decode cX2_isInheritable 21 = .ok (.goto 4, 3) := by decide +kernel
theorem dX2_isInheritable_24 : decode cX2_isInheritable 24 = .ok (.iconst 0, 1) := by decide +kernel
theorem dX2_isInheritable_25 : decode cX2_isInheritable 25 = .ok (.ireturn, 1) := by decide +kernel
theorem dX2_isSameThing_0 : decode cX2_isSameThing 0 = .ok (.aload_n 0, 1) := by decide +kernel
theorem dX2_isSameThing_1 : decode cX2_isSameThing 1 = .ok (.getfield 9, 3) := by decide +kernel
theorem dX2_isSameThing_4 : decode cX2_isSameThing 4 = .ok (.iload_n 1, 1) := by decide +kernel
theorem dX2_isSameThing_5 : decode cX2_isSameThing 5 = .ok (.iaload, 1) := by decide +kernel
theorem dX2_isSameThing_6 : decode cX2_isSameThing 6 = .ok (.aload_n 2, 1) := by decide +kernel
theorem dX2_isSameThing_7 : decode cX2_isSameThing 7 = .ok (.getfield 9, 3) := by decide +kernel
theorem dX2_isSameThing_10 : decode cX2_isSameThing 10 = .ok (.iload_n 3, 1) := by decide +kernel
theorem dX2_isSameThing_11 : decode cX2_isSameThing 11 = .ok (.iaload, 1) := by decide +kernel
theorem dX2_isSameThing_12 : decode cX2_isSameThing 12 = .ok (.if_icmp .ne 22, 3) := by decide +kernel
theorem dX2_isSameThing_15 : decode cX2_isSameThing 15 = .ok (.aload_n 0, 1) := by decide +kernel
theorem dX2_isSameThing_16 : decode cX2_isSameThing 16 = .ok (.getfield 15, 3) := by decide +kernel
theorem dX2_isSameThing_19 : decode cX2_isSameThing 19 = .ok (.iload_n 1, 1) := by decide +kernel
theorem dX2_isSameThing_20 : decode cX2_isSameThing 20 = .ok (.iaload, 1) := by decide +kernel
theorem dX2_isSameThing_21 : decode cX2_isSameThing 21 = .ok (.aload_n 2, 1) := by decide +kernel
theorem dX2_isSameThing_22 : decode cX2_isSameThing 22 = .ok (.getfield 15, 3) := by decide +kernel
theorem dX2_isSameThing_25 : decode cX2_isSameThing 25 = .ok (.iload_n 3, 1) := by decide +kernel
theorem dX2_isSameThing_26 : decode cX2_isSameThing 26 = .ok (.iaload, 1) := by decide +kernel
theorem dX2_isSameThing_27 : decode cX2_isSameThing 27 = .ok (.if_icmp .ne 7, 3) := by decide +kernel
theorem dX2_isSameThing_30 : decode cX2_isSameThing 30 = .ok (.iconst 1, 1) := by decide +kernel
theorem dX2_isSameThing_31 : decode cX2_isSameThing 31 = .ok (.goto 4, 3) := by decide +kernel
theorem dX2_isSameThing_34 : decode cX2_isSameThing 34 = .ok (.iconst 0, 1) := by decide +kernel
theorem dX2_isSameThing_35 : decode cX2_isSameThing 35 = .ok (.ireturn, 1) := by decide +kernel
theorem dX2_isStatic_0 : decode cX2_isStatic 0 = .ok (.aload_n 0, 1) := by decide +kernel
theorem dX2_isStatic_1 : decode cX2_isStatic 1 = .ok (.getfield 21, 3) := by decide +kernel
theorem dX2_isStatic_4 : decode cX2_isStatic 4 = .ok (.iload_n 1, 1) := by decide +kernel
theorem dX2_isStatic_5 : decode cX2_isStatic 5 = .ok (.iaload, 1) := by decide +kernel
theorem dX2_isStatic_6 : decode cX2_isStatic 6 = .ok (.iconst 1, 1) := by decide +kernel
theorem dX2_isStatic_7 : decode cX2_isStatic 7 = .ok (.iand, 1) := by decide +kernel
theorem dX2_isStatic_8 : decode cX2_isStatic 8 = .ok (.ifCond .eq 7, 3) := by decide +kernel
theorem dX2_isStatic_11 : decode cX2_isStatic 11 = .ok (.iconst 1, 1) := by decide +kernel
theorem dX2_isStatic_12 : decode cX2_isStatic 12 = .ok (.goto 4, 3) := by decide +kernel
theorem dX2_isStatic_15 : decode cX2_isStatic 15 = .ok (.iconst 0, 1) := by decide +kernel
theorem dX2_isStatic_16 : decode cX2_isStatic 16 = .ok (.ireturn, 1) := by decide +kernel
theorem dX2_isAbstract_0 : decode cX2_isAbstract 0 = .ok (.aload_n 0, 1) := by decide +kernel
theorem dX2_isAbstract_1 : decode cX2_isAbstract 1 = .ok (.getfield 21, 3) := by decide +kernel
theorem dX2_isAbstract_4 : decode cX2_isAbstract 4 = .ok (.iload_n 1, 1) := by decide +kernel
theorem dX2_isAbstract_5 : decode cX2_isAbstract 5 = .ok (.iaload, 1) := by decide +kernel
theorem dX2_isAbstract_6 : decode cX2_isAbstract 6 = .ok (.iconst 2, 1) := by decide +kernel
theorem dX2_isAbstract_7 : decode cX2_isAbstract 7 = .ok (.iand, 1) := by decide +kernel
theorem dX2_isAbstract_8 : decode cX2_isAbstract 8 = .ok (.ifCond .eq 7, 3) := by decide +kernel
theorem dX2_isAbstract_11 : decode cX2_isAbstract 11 = .ok (.iconst 1, 1) := by decide +kernel
theorem dX2_isAbstract_12 : decode cX2_isAbstract 12 = .ok (.goto 4, 3) := by decide +kernel
theorem dX2_isAbstract_15 : decode cX2_isAbstract 15 = .ok (.iconst 0, 1) := by decide +kernel
theorem dX2_isAbstract_16 : decode cX2_isAbstract 16 = .ok (.ireturn, 1) := by decide +kernel
theorem dX2_isFinal_0 : decode cX2_isFinal 0 = .ok (.aload_n 0, 1) := by decide +kernel
theorem dX2_isFinal_1 : decode cX2_isFinal 1 = .ok (.getfield 21, 3) := by decide +kernel
theorem dX2_isFinal_4 : decode cX2_isFinal 4 = .ok (.iload_n 1, 1) := by decide +kernel
theorem dX2_isFinal_5 : decode cX2_isFinal 5 = .ok (.iaload, 1) := by decide +kernel
theorem dX2_isFinal_6 : decode cX2_isFinal 6 = .ok (.iconst 4, 1) := by decide +kernel
theorem dX2_isFinal_7 : decode cX2_isFinal 7 = .ok (.iand, 1) := by decide +kernel
theorem dX2_isFinal_8 : decode cX2_isFinal 8 = .ok (.ifCond .eq 7, 3) := by decide +kernel
theorem dX2_isFinal_11 : decode cX2_isFinal 11 = .ok (.iconst 1, 1) := by decide +kernel
theorem dX2_isFinal_12 : decode cX2_isFinal 12 = .ok (.goto 4, 3) := by decide +kernel
theorem dX2_isFinal_15 : decode cX2_isFinal 15 = .ok (.iconst 0, 1) := by decide +kernel
theorem dX2_isFinal_16 : decode cX2_isFinal 16 = .ok (.ireturn, 1) := by decide +kernel
theorem dX2_ownerOf_0 : decode cX2_ownerOf 0 = .ok (.aload_n 0, 1) := by decide +kernel
theorem dX2_ownerOf_1 : decode cX2_ownerOf 1 = .ok (.getfield 9, 3) := by decide +kernel
theorem dX2_ownerOf_4 : decode cX2_ownerOf 4 = .ok (.iload_n 1, 1) := by decide +kernel
theorem dX2_ownerOf_5 : decode cX2_ownerOf 5 = .ok (.iaload, 1) := by decide +kernel
theorem dX2_ownerOf_6 : decode cX2_ownerOf 6 = .ok (.ireturn, 1) := by decide +kernel
theorem dX2_accessOf_0 : decode cX2_accessOf 0 = .ok (.aload_n 0, 1) := by decide +kernel
theorem dX2_accessOf_1 : decode cX2_accessOf 1 = .ok (.getfield 18, 3) := by decide +kernel
theorem dX2_accessOf_4 : decode cX2_accessOf 4 = .ok (.iload_n 1, 1) := by decide +kernel
theorem dX2_accessOf_5 : decode cX2_accessOf 5 = .ok (.iaload, 1) := by decide +kernel
theorem dX2_accessOf_6 : decode cX2_accessOf 6 = .ok (.ireturn, 1) := by decide +kernel
theorem dX2_countAll_0 : decode cX2_countAll 0 = .ok (.aload_n 0, 1) := by decide +kernel
theorem dX2_countAll_1 : decode cX2_countAll 1 = .ok (.getfield 24, 3) := by decide +kernel
theorem dX2_countAll_4 : decode cX2_countAll 4 = .ok (.ireturn, 1) := by decide +kernel
set_option maxRecDepth 20000 in
theorem ggX2_countPresent_J6_bitCount_0f7a4 : GoodIn wsX2_countPresent wsJ6_bitCount_0f7a4 := goodIn_r _ [6, 7, 8, 9] (by decide +kernel) (by decide +kernel)
set_option maxRecDepth 20000 in
theorem gX2_countPresent_J6_bitCount_0f7a4 : GoodIn wsX2_countPresent (va_wsS RX2 56 yJ6_bitCount_0f7a4 wsJ6_bitCount_0f7a4) := goodIn_app (goodIn_of _ (by decide +kernel)) ggX2_countPresent_J6_bitCount_0f7a4
theorem dX2_countPresent_0 : decode cX2_countPresent 0 = .ok (.aload_n 0, 1) := by decide +kernel
theorem dX2_countPresent_1 : decode cX2_countPresent 1 = .ok (.getfield 24, 3) := by decide +kernel
theorem dX2_countPresent_4 : decode cX2_countPresent 4 = .ok (.aload_n 0, 1) := by decide +kernel
theorem dX2_countPresent_5 : decode cX2_countPresent 5 = .ok (.getfield 36, 3) := by decide +kernel
theorem dX2_countPresent_8 : decode cX2_countPresent 8 = .ok (.invokestatic 56, 3) := by decide +kernel
theorem dX2_countPresent_11 : decode cX2_countPresent 11 = .ok (.isub, 1) := by decide +kernel
theorem dX2_countPresent_12 : decode cX2_countPresent 12 = .ok (.ireturn, 1) := by decide +kernel
set_option maxRecDepth 20000 in
theorem ggX2_countAbstractMethods_X2_isAbstract : GoodIn wsX2_countAbstractMethods wsX2_isAbstract := goodIn_r _ [8, 9, 13, 14, 15, 16, 17, 18] (by decide +kernel) (by decide +kernel)
set_option maxRecDepth 20000 in
theorem gX2_countAbstractMethods_X2_isAbstract : GoodIn wsX2_countAbstractMethods (wsV RX2 61 RX2 yX2_isAbstract wsX2_isAbstract) := goodIn_app (goodIn_of _ (by decide +kernel)) ggX2_countAbstractMethods_X2_isAbstract
set_option maxRecDepth 20000 in
theorem ggX2_countAbstractMethods_X4_contains : GoodIn wsX2_countAbstractMethods wsX4_contains := goodIn_r _ [12] (by decide +kernel) (by decide +kernel)
set_option maxRecDepth 20000 in
theorem gX2_countAbstractMethods_X4_contains_n49 : GoodIn wsX2_countAbstractMethods (wsX4_contains) := ggX2_countAbstractMethods_X4_contains
theorem dX2_countAbstractMethods_0 : decode cX2_countAbstractMethods 0 = .ok (.iconst 0, 1) := by decide +kernel
theorem dX2_countAbstractMethods_1 : decode cX2_countAbstractMethods 1 = .ok (.istore_n 1, 1) := by decide +kernel
theorem dX2_countAbstractMethods_2 : decode cX2_countAbstractMethods 2 = .ok (.iconst 0, 1) := by decide +kernel
theorem dX2_countAbstractMethods_3 : decode cX2_countAbstractMethods 3 = .ok (.istore_n 2, 1) := by decide +kernel
theorem dX2_countAbstractMethods_4 : decode cX2_countAbstractMethods 4 = .ok (.iload_n 2, 1) := by decide +kernel
theorem dX2_countAbstractMethods_5 : decode cX2_countAbstractMethods 5 = .ok (.aload_n 0, 1) := by decide +kernel
theorem dX2_countAbstractMethods_6 : decode cX2_countAbstractMethods 6 = .ok (.getfield 24, 3) := by decide +kernel
theorem dX2_countAbstractMethods_9 : decode cX2_countAbstractMethods 9 = .ok (.if_icmp .ge 47, 3) := by decide +kernel
theorem dX2_countAbstractMethods_12 : decode cX2_countAbstractMethods 12 = .ok (.iload_n 1, 1) := by decide +kernel
theorem dX2_countAbstractMethods_13 : decode cX2_countAbstractMethods 13 = .ok (.aload_n 0, 1) := by decide +kernel
theorem dX2_countAbstractMethods_14 : decode cX2_countAbstractMethods 14 = .ok (.getfield 15, 3) := by decide +kernel
theorem dX2_countAbstractMethods_17 : decode cX2_countAbstractMethods 17 = .ok (.iload_n 2, 1) := by decide +kernel
theorem dX2_countAbstractMethods_18 : decode cX2_countAbstractMethods 18 = .ok (.iaload, 1) := by decide +kernel
theorem dX2_countAbstractMethods_19 : decode cX2_countAbstractMethods 19 = .ok (.bipush 15, 2) := by decide +kernel
theorem dX2_countAbstractMethods_21 : decode cX2_countAbstractMethods 21 = .ok (.if_icmp .lt 26, 3) := by decide +kernel
theorem dX2_countAbstractMethods_24 : decode cX2_countAbstractMethods 24 = .ok (.aload_n 0, 1) := by decide +kernel
theorem dX2_countAbstractMethods_25 : decode cX2_countAbstractMethods 25 = .ok (.iload_n 2, 1) := by decide +kernel
theorem dX2_countAbstractMethods_26 : decode cX2_countAbstractMethods 26 = .ok (.invokevirtual 61, 3) := by decide +kernel
theorem dX2_countAbstractMethods_29 : decode cX2_countAbstractMethods 29 = .ok (.ifCond .eq 18, 3) := by decide +kernel
theorem dX2_countAbstractMethods_32 : decode cX2_countAbstractMethods 32 = .ok (.aload_n 0, 1) := by decide +kernel
theorem dX2_countAbstractMethods_33 : decode cX2_countAbstractMethods 33 = .ok (.getfield 36, 3) := by decide +kernel
theorem dX2_countAbstractMethods_36 : decode cX2_countAbstractMethods 36 = .ok (.iload_n 2, 1) := by decide +kernel
theorem dX2_countAbstractMethods_37 : decode cX2_countAbstractMethods 37 = .ok (.invokestatic 49, 3) := by decide +kernel
theorem dX2_countAbstractMethods_40 : decode cX2_countAbstractMethods 40 = .ok (.ifCond .ne 7, 3) := by decide +kernel
theorem dX2_countAbstractMethods_43 : decode cX2_countAbstractMethods 43 = .ok (.iconst 1, 1) := by decide +kernel
theorem dX2_countAbstractMethods_44 : decode cX2_countAbstractMethods 44 = .ok (.goto 4, 3) := by decide +kernel
theorem dX2_countAbstractMethods_47 : decode cX2_countAbstractMethods 47 = .ok (.iconst 0, 1) := by decide +kernel
theorem dX2_countAbstractMethods_48 : decode cX2_countAbstractMethods 48 = .ok (.iadd, 1) := by decide +kernel
theorem dX2_countAbstractMethods_49 : decode cX2_countAbstractMethods 49 = .ok (.istore_n 1, 1) := by decide +kernel
theorem dX2_countAbstractMethods_50 : decode cX2_countAbstractMethods 50 = .ok (.iinc 2 1, 3) := by decide +kernel
theorem dX2_countAbstractMethods_53 : decode cX2_countAbstractMethods 53 = .ok (.goto (-49), 3) := by decide +kernel
theorem dX2_countAbstractMethods_56 : decode cX2_countAbstractMethods 56 = .ok (.iload_n 1, 1) := by decide +kernel
theorem dX2_countAbstractMethods_57 : decode cX2_countAbstractMethods 57 = .ok (.ireturn, 1) := by decide +kernel
set_option maxRecDepth 20000 in
theorem ggX2_isPresent_X4_isWithin : GoodIn wsX2_isPresent wsX4_isWithin := goodIn_r _ [5] (by decide +kernel) (by decide +kernel)
set_option maxRecDepth 20000 in
theorem gX2_isPresent_X4_isWithin_n64 : GoodIn wsX2_isPresent (wsX4_isWithin) := ggX2_isPresent_X4_isWithin
set_option maxRecDepth 20000 in
theorem ggX2_isPresent_X4_contains : GoodIn wsX2_isPresent wsX4_contains := goodIn_r _ [7] (by decide +kernel) (by decide +kernel)
set_option maxRecDepth 20000 in
theorem gX2_isPresent_X4_contains_n49 : GoodIn wsX2_isPresent (wsX4_contains) := ggX2_isPresent_X4_contains
theorem dX2_isPresent_0 : decode cX2_isPresent 0 = .ok (.iload_n 1, 1) := by decide +kernel
theorem dX2_isPresent_1 : decode cX2_isPresent 1 = .ok (.aload_n 0, 1) := by decide +kernel
theorem dX2_isPresent_2 : decode cX2_isPresent 2 = .ok (.getfield 24, 3) := by decide +kernel
theorem dX2_isPresent_5 : decode cX2_isPresent 5 = .ok (.invokestatic 64, 3) := by decide +kernel
theorem dX2_isPresent_8 : decode cX2_isPresent 8 = .ok (.ifCond .eq 18, 3) := by decide +kernel
theorem dX2_isPresent_11 : decode cX2_isPresent 11 = .ok (.aload_n 0, 1) := by decide +kernel
theorem dX2_isPresent_12 : decode cX2_isPresent 12 = .ok (.getfield 36, 3) := by decide +kernel
theorem dX2_isPresent_15 : decode cX2_isPresent 15 = .ok (.iload_n 1, 1) := by decide +kernel
theorem dX2_isPresent_16 : decode cX2_isPresent 16 = .ok (.invokestatic 49, 3) := by decide +kernel
theorem dX2_isPresent_19 : decode cX2_isPresent 19 = .ok (.ifCond .ne 7, 3) := by decide +kernel
theorem dX2_isPresent_22 : decode cX2_isPresent 22 = .ok (.iconst 1, 1) := by decide +kernel
theorem dX2_isPresent_23 : decode cX2_isPresent 23 = .ok (.goto 4, 3) := by decide +kernel
theorem dX2_isPresent_26 : decode cX2_isPresent 26 = .ok (.iconst 0, 1) := by decide +kernel
theorem dX2_isPresent_27 : decode cX2_isPresent 27 = .ok (.ireturn, 1) := by decide +kernel
theorem dX2_keyOf_0 : decode cX2_keyOf 0 = .ok (.iload_n 0, 1) := by decide +kernel
theorem dX2_keyOf_1 : decode cX2_keyOf 1 = .ok (.ifCond .eq 10, 3) := by decide +kernel
theorem dX2_keyOf_4 : decode cX2_keyOf 4 = .ok (.bipush 15, 2) := by decide +kernel
theorem dX2_keyOf_6 : decode cX2_keyOf 6 = .ok (.iload_n 1, 1) := by decide +kernel
theorem dX2_keyOf_7 : decode cX2_keyOf 7 = .ok (.iadd, 1) := by decide +kernel
theorem dX2_keyOf_8 : decode cX2_keyOf 8 = .ok (.goto 4, 3) := by decide +kernel
theorem dX2_keyOf_11 : decode cX2_keyOf 11 = .ok (.iload_n 1, 1) := by decide +kernel
theorem dX2_keyOf_12 : decode cX2_keyOf 12 = .ok (.ireturn, 1) := by decide +kernel
theorem dX3_init_0 : decode cX3_init 0 = .ok (.aload_n 0, 1) := by decide +kernel
theorem dX3_init_1 : decode cX3_init 1 = .ok (.invokespecial 3, 3) := by decide +kernel
theorem dX3_init_4 : decode cX3_init 4 = .ok (.return_, 1) := by decide +kernel
theorem dX3_put_0 : decode cX3_put 0 = .ok (.aload_n 0, 1) := by decide +kernel
theorem dX3_put_1 : decode cX3_put 1 = .ok (.iload_n 1, 1) := by decide +kernel
theorem dX3_put_2 : decode cX3_put 2 = .ok (.putfield 9, 3) := by decide +kernel
theorem dX3_put_5 : decode cX3_put 5 = .ok (.aload_n 0, 1) := by decide +kernel
theorem dX3_put_6 : decode cX3_put 6 = .ok (.iload_n 2, 1) := by decide +kernel
theorem dX3_put_7 : decode cX3_put 7 = .ok (.putfield 15, 3) := by decide +kernel
theorem dX3_put_10 : decode cX3_put 10 = .ok (.aload_n 0, 1) := by decide +kernel
theorem dX3_put_11 : decode cX3_put 11 = .ok (.iload_n 3, 1) := by decide +kernel
theorem dX3_put_12 : decode cX3_put 12 = .ok (.putfield 18, 3) := by decide +kernel
theorem dX3_put_15 : decode cX3_put 15 = .ok (.aload_n 0, 1) := by decide +kernel
theorem dX3_put_16 : decode cX3_put 16 = .ok (.iload 4, 2) := by decide +kernel
theorem dX3_put_18 : decode cX3_put 18 = .ok (.putfield 21, 3) := by decide +kernel
theorem dX3_put_21 : decode cX3_put 21 = .ok (.return_, 1) := by decide +kernel
theorem dX3_isOfField_0 : decode cX3_isOfField 0 = .ok (.aload_n 0, 1) := by decide +kernel
theorem dX3_isOfField_1 : decode cX3_isOfField 1 = .ok (.getfield 9, 3) := by decide +kernel
theorem dX3_isOfField_4 : decode cX3_isOfField 4 = .ok (.iconst 3, 1) := by decide +kernel
theorem dX3_isOfField_5 : decode cX3_isOfField 5 = .ok (.if_icmp .gt 7, 3) := by decide +kernel
theorem dX3_isOfField_8 : decode cX3_isOfField 8 = .ok (.iconst 1, 1) := by decide +kernel
theorem dX3_isOfField_9 : decode cX3_isOfField 9 = .ok (.goto 4, 3) := by decide +kernel
theorem dX3_isOfField_12 : decode cX3_isOfField 12 = .ok (.iconst 0, 1) := by decide +kernel
theorem dX3_isOfField_13 : decode cX3_isOfField 13 = .ok (.ireturn, 1) := by decide +kernel
theorem dX3_isPut_0 : decode cX3_isPut 0 = .ok (.aload_n 0, 1) := by decide +kernel
theorem dX3_isPut_1 : decode cX3_isPut 1 = .ok (.getfield 9, 3) := by decide +kernel
theorem dX3_isPut_4 : decode cX3_isPut 4 = .ok (.iconst 1, 1) := by decide +kernel
theorem dX3_isPut_5 : decode cX3_isPut 5 = .ok (.if_icmp .eq 11, 3) := by decide +kernel
theorem dX3_isPut_8 : decode cX3_isPut 8 = .ok (.aload_n 0, 1) := by decide +kernel
theorem dX3_isPut_9 : decode cX3_isPut 9 = .ok (.getfield 9, 3) := by decide +kernel
theorem dX3_isPut_12 : decode cX3_isPut 12 = .ok (.iconst 3, 1) := by decide +kernel
theorem dX3_isPut_13 : decode cX3_isPut 13 = .ok (.if_icmp .ne 7, 3) := by decide +kernel
theorem dX3_isPut_16 : decode cX3_isPut 16 = .ok (.iconst 1, 1) := by decide +kernel
theorem dX3_isPut_17 : decode cX3_isPut 17 = .ok (.goto 4, 3) := by decide +kernel
theorem dX3_isPut_20 : decode cX3_isPut 20 = .ok (.iconst 0, 1) := by decide +kernel
theorem dX3_isPut_21 : decode cX3_isPut 21 = .ok (.ireturn, 1) := by decide +kernel
theorem dX3_needsStatic_0 : decode cX3_needsStatic 0 = .ok (.aload_n 0, 1) := by decide +kernel
theorem dX3_needsStatic_1 : decode cX3_needsStatic 1 = .ok (.getfield 9, 3) := by decide +kernel
theorem dX3_needsStatic_4 : decode cX3_needsStatic 4 = .ok (.iconst 2, 1) := by decide +kernel
theorem dX3_needsStatic_5 : decode cX3_needsStatic 5 = .ok (.if_icmp .eq 20, 3) := by decide +kernel
theorem dX3_needsStatic_8 : decode cX3_needsStatic 8 = .ok (.aload_n 0, 1) := by decide +kernel
theorem dX3_needsStatic_9 : decode cX3_needsStatic 9 = .ok (.getfield 9, 3) := by decide +kernel
theorem dX3_needsStatic_12 : decode cX3_needsStatic 12 = .ok (.iconst 3, 1) := by decide +kernel
theorem dX3_needsStatic_13 : decode cX3_needsStatic 13 = .ok (.if_icmp .eq 12, 3) := by decide +kernel
theorem dX3_needsStatic_16 : decode cX3_needsStatic 16 = .ok (.aload_n 0, 1) := by decide +kernel
theorem dX3_needsStatic_17 : decode cX3_needsStatic 17 = .ok (.getfield 9, 3) := by decide +kernel
theorem dX3_needsStatic_20 : decode cX3_needsStatic 20 = .ok (.bipush 6, 2) := by decide +kernel
theorem dX3_needsStatic_22 : decode cX3_needsStatic 22 = .ok (.if_icmp .ne 7, 3) := by decide +kernel
theorem dX3_needsStatic_25 : decode cX3_needsStatic 25 = .ok (.iconst 1, 1) := by decide +kernel
theorem dX3_needsStatic_26 : decode cX3_needsStatic 26 = .ok (.goto 4, 3) := by decide +kernel
theorem dX3_needsStatic_29 : decode cX3_needsStatic 29 = .ok (.iconst 0, 1) := by decide +kernel
theorem dX3_needsStatic_30 : decode cX3_needsStatic 30 = .ok (.ireturn, 1) := by decide +kernel
theorem dX3_hasReceiver_0 : decode cX3_hasReceiver 0 = .ok (.aload_n 0, 1) := by decide +kernel
theorem dX3_hasReceiver_1 : decode cX3_hasReceiver 1 = .ok (.getfield 9, 3) := by decide +kernel
theorem dX3_hasReceiver_4 : decode cX3_hasReceiver 4 = .ok (.iconst 4, 1) := by decide +kernel
theorem dX3_hasReceiver_5 : decode cX3_hasReceiver 5 = .ok (.if_icmp .eq 12, 3) := by decide +kernel
theorem dX3_hasReceiver_8 : decode cX3_hasReceiver 8 = .ok (.aload_n 0, 1) := by decide +kernel
theorem dX3_hasReceiver_9 : decode cX3_hasReceiver 9 = .ok (.getfield 9, 3) := by decide +kernel
theorem dX3_hasReceiver_12 : decode cX3_hasReceiver 12 = .ok (.bipush 7, 2) := by decide +kernel
theorem dX3_hasReceiver_14 : decode cX3_hasReceiver 14 = .ok (.if_icmp .ne 7, 3) := by decide +kernel
theorem dX3_hasReceiver_17 : decode cX3_hasReceiver 17 = .ok (.iconst 1, 1) := by decide +kernel
theorem dX3_hasReceiver_18 : decode cX3_hasReceiver 18 = .ok (.goto 4, 3) := by decide +kernel
theorem dX3_hasReceiver_21 : decode cX3_hasReceiver 21 = .ok (.iconst 0, 1) := by decide +kernel
theorem dX3_hasReceiver_22 : decode cX3_hasReceiver 22 = .ok (.ireturn, 1) := by decide +kernel
set_option maxRecDepth 20000 in
theorem ggX4_init_X0_init : GoodIn wsX4_init wsX0_init := goodIn_r _ [15, 16, 2, 3, 17, 18, 19, 20, 21, 22, 23, 24, 25, 26, 27, 28, 29, 30, 31, 32, 33, 34, 35, 36, 37, 38, 39, 40, 41, 42, 43, 44, 45, 46, 47, 48, 49, 50, 51, 52, 53, 54, 55, 56, 57, 58, 59, 60, 61, 62, 63, 64, 65, 66, 67, 68, 69, 70, 71, 72, 73, 74, 75, 76, 77, 78, 79, 80, 81, 82, 83, 84, 99, 100, 101, 102, 103, 104, 105, 106, 107, 108, 88, 89, 90, 109, 110, 111, 112, 113, 114] (by decide +kernel) (by decide +kernel)
set_option maxRecDepth 20000 in
theorem gX4_init_X0_init_n11 : GoodIn wsX4_init (wsX0_init) := ggX4_init_X0_init
set_option maxRecDepth 20000 in
theorem ggX4_init_X3_init : GoodIn wsX4_init wsX3_init := goodIn_r _ [86, 87, 2, 3] (by decide +kernel) (by decide +kernel)
set_option maxRecDepth 20000 in
theorem gX4_init_X3_init_n22 : GoodIn wsX4_init (wsX3_init) := ggX4_init_X3_init
theorem dX4_init_0 : decode cX4_init 0 = .ok (.aload_n 0, 1) := by decide +kernel
theorem dX4_init_1 : decode cX4_init 1 = .ok (.invokespecial 3, 3) := by decide +kernel
theorem dX4_init_4 : decode cX4_init 4 = .ok (.aload_n 0, 1) := by decide +kernel
theorem dX4_init_5 : decode cX4_init 5 = .ok (.iconst 2, 1) := by decide +kernel
theorem dX4_init_6 : decode cX4_init 6 = .ok (.anewarray 9, 3) := by decide +kernel
theorem dX4_init_9 : decode cX4_init 9 = .ok (.dup, 1) := by decide +kernel
theorem dX4_init_10 : decode cX4_init 10 = .ok (.iconst 0, 1) := by decide +kernel
theorem dX4_init_11 : decode cX4_init 11 = .ok (.new 9, 3) := by decide +kernel
theorem dX4_init_14 : decode cX4_init 14 = .ok (.dup, 1) := by decide +kernel
theorem dX4_init_15 : decode cX4_init 15 = .ok (.invokespecial 11, 3) := by decide +kernel
theorem dX4_init_18 : decode cX4_init 18 = .ok (.aastore, 1) := by decide +kernel
theorem dX4_init_19 : decode cX4_init 19 = .ok (.dup, 1) := by decide +kernel
theorem dX4_init_20 : decode cX4_init 20 = .ok (.iconst 1, 1) := by decide +kernel
theorem dX4_init_21 : decode cX4_init 21 = .ok (.new 9, 3) := by decide +kernel
theorem dX4_init_24 : decode cX4_init 24 = .ok (.dup, 1) := by decide +kernel
theorem dX4_init_25 : decode cX4_init 25 = .ok (.invokespecial 11, 3) := by decide +kernel
theorem dX4_init_28 : decode cX4_init 28 = .ok (.aastore, 1) := by decide +kernel
theorem dX4_init_29 : decode cX4_init 29 = .ok (.putfield 12, 3) := by decide +kernel
theorem dX4_init_32 : decode cX4_init 32 = .ok (.aload_n 0, 1) := by decide +kernel
theorem dX4_init_33 : decode cX4_init 33 = .ok (.bipush 16, 2) := by decide +kernel
theorem dX4_init_35 : decode cX4_init 35 = .ok (.anewarray 16, 3) := by decide +kernel
theorem dX4_init_38 : decode cX4_init 38 = .ok (.putfield 18, 3) := by decide +kernel
theorem dX4_init_41 : decode cX4_init 41 = .ok (.iconst 0, 1) := by decide +kernel
theorem dX4_init_42 : decode cX4_init 42 = .ok (.istore_n 1, 1) := by decide +kernel
theorem dX4_init_43 : decode cX4_init 43 = .ok (.iload_n 1, 1) := by decide +kernel
theorem dX4_init_44 : decode cX4_init 44 = .ok (.bipush 16, 2) := by decide +kernel
theorem dX4_init_46 : decode cX4_init 46 = .ok (.if_icmp .ge 22, 3) := by decide +kernel
theorem dX4_init_49 : decode cX4_init 49 = .ok (.aload_n 0, 1) := by decide +kernel
theorem dX4_init_50 : decode cX4_init 50 = .ok (.getfield 18, 3) := by decide +kernel
theorem dX4_init_53 : decode cX4_init 53 = .ok (.iload_n 1, 1) := by decide +kernel
theorem dX4_init_54 : decode cX4_init 54 = .ok (.new 16, 3) := by decide +kernel
theorem dX4_init_57 : decode cX4_init 57 = .ok (.dup, 1) := by decide +kernel
theorem dX4_init_58 : decode cX4_init 58 = .ok (.invokespecial 22, 3) := by decide +kernel
theorem dX4_init_61 : decode cX4_init 61 = .ok (.aastore, 1) := by decide +kernel
theorem dX4_init_62 : decode cX4_init 62 = .ok (.iinc 1 1, 3) := by decide +kernel
theorem dX4_init_65 : decode cX4_init 65 = .ok (.goto (-22), 3) := by decide +kernel
theorem dX4_init_68 : decode cX4_init 68 = .ok (.aload_n 0, 1) := by decide +kernel
theorem dX4_init_69 : decode cX4_init 69 = .ok (.iconst 0, 1) := by decide +kernel
theorem dX4_init_70 : decode cX4_init 70 = .ok (.putfield 23, 3) := by decide +kernel
theorem dX4_init_73 : decode cX4_init 73 = .ok (.aload_n 0, 1) := by decide +kernel
theorem dX4_init_74 : decode cX4_init 74 = .ok (.iconst 0, 1) := by decide +kernel
theorem dX4_init_75 : decode cX4_init 75 = .ok (.putfield 27, 3) := by decide +kernel
theorem dX4_init_78 : decode cX4_init 78 = .ok (.return_, 1) := by decide +kernel
set_option maxRecDepth 20000 in
theorem ggX4_type_X4_isOrdinaryType : GoodIn wsX4_type wsX4_isOrdinaryType := goodIn_r _ [6, 7, 8, 5, 9] (by decide +kernel) (by decide +kernel)
set_option maxRecDepth 20000 in
theorem gX4_type_X4_isOrdinaryType : GoodIn wsX4_type (va_wsS RX4 30 yX4_isOrdinaryType wsX4_isOrdinaryType) := goodIn_app (goodIn_of _ (by decide +kernel)) ggX4_type_X4_isOrdinaryType
set_option maxRecDepth 20000 in
theorem ggX4_type_X4_isWithin : GoodIn wsX4_type wsX4_isWithin := goodIn_r _ [9] (by decide +kernel) (by decide +kernel)
set_option maxRecDepth 20000 in
theorem gX4_type_X4_isWithin : GoodIn wsX4_type (va_wsS RX4 34 yX4_isWithin wsX4_isWithin) := goodIn_app (goodIn_of _ (by decide +kernel)) ggX4_type_X4_isWithin
set_option maxRecDepth 20000 in
theorem ggX4_type_X1_define : GoodIn wsX4_type wsX1_define := goodIn_r _ [14, 15, 16, 17, 18, 19, 20, 21, 5, 22, 23, 24, 25, 13, 26, 27, 28, 29, 30, 31, 32, 33, 34, 35, 36, 37, 38, 39, 40, 41, 42, 43, 7, 8, 9, 44, 45, 46, 47, 48, 49, 50, 51, 52, 53, 54, 55, 56, 57, 58, 66, 67, 68, 69, 70, 71, 72, 73, 74, 75] (by decide +kernel) (by decide +kernel)
