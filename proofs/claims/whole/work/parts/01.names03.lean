set_option maxRecDepth 20000 in
theorem gX4_type_X1_define : GoodIn wsX4_type (wsV RX4 42 RX1 yX1_define wsX1_define) := goodIn_app (goodIn_of _ (by decide +kernel)) ggX4_type_X1_define
theorem dX4_type_0 : decode cX4_type 0 = .ok (.iload_n 1, 1) := by decide +kernel
theorem dX4_type_1 : decode cX4_type 1 = .ok (.invokestatic 30, 3) := by decide +kernel
theorem dX4_type_4 : decode cX4_type 4 = .ok (.ifCond .eq 41, 3) := by decide +kernel
theorem dX4_type_7 : decode cX4_type 7 = .ok (.iload_n 2, 1) := by decide +kernel
theorem dX4_type_8 : decode cX4_type 8 = .ok (.bipush 16, 2) := by decide +kernel
theorem dX4_type_10 : decode cX4_type 10 = .ok (.invokestatic 34, 3) := by decide +kernel
theorem dX4_type_13 : decode cX4_type 13 = .ok (.ifCond .eq 32, 3) := by decide +kernel
theorem dX4_type_16 : decode cX4_type 16 = .ok (.iload_n 3, 1) := by decide +kernel
theorem dX4_type_17 : decode cX4_type 17 = .ok (.iconst 4, 1) := by decide +kernel
theorem dX4_type_18 : decode cX4_type 18 = .ok (.invokestatic 34, 3) := by decide +kernel
theorem dX4_type_21 : decode cX4_type 21 = .ok (.ifCond .eq 24, 3) := by decide +kernel
theorem dX4_type_24 : decode cX4_type 24 = .ok (.iload 4, 2) := by decide +kernel
theorem dX4_type_26 : decode cX4_type 26 = .ok (.bipush 12, 2) := by decide +kernel
theorem dX4_type_28 : decode cX4_type 28 = .ok (.invokestatic 34, 3) := by decide +kernel
theorem dX4_type_31 : decode cX4_type 31 = .ok (.ifCond .eq 14, 3) := by decide +kernel
theorem dX4_type_34 : decode cX4_type 34 = .ok (.iload 5, 2) := by decide +kernel
theorem dX4_type_36 : decode cX4_type 36 = .ok (.sipush 4096, 3) := by decide +kernel
theorem dX4_type_39 : decode cX4_type 39 = .ok (.invokestatic 34, 3) := by decide +kernel
theorem dX4_type_42 : decode cX4_type 42 = .ok (.ifCond .ne 5, 3) := by decide +kernel
theorem dX4_type_45 : decode cX4_type 45 = .ok (.iconst 0, 1) := by decide +kernel
theorem dX4_type_46 : decode cX4_type 46 = .ok (.ireturn, 1) := by decide +kernel
theorem dX4_type_47 : decode cX4_type 47 = .ok (.aload_n 0, 1) := by decide +kernel
theorem dX4_type_48 : decode cX4_type 48 = .ok (.getfield 12, 3) := by decide +kernel
theorem dX4_type_51 : decode cX4_type 51 = .ok (.aload_n 0, 1) := by decide +kernel
theorem dX4_type_52 : decode cX4_type 52 = .ok (.getfield 27, 3) := by decide +kernel
theorem dX4_type_55 : decode cX4_type 55 = .ok (.aaload, 1) := by decide +kernel
theorem dX4_type_56 : decode cX4_type 56 = .ok (.getfield 38, 3) := by decide +kernel
theorem dX4_type_59 : decode cX4_type 59 = .ok (.iload_n 1, 1) := by decide +kernel
theorem dX4_type_60 : decode cX4_type 60 = .ok (.iload_n 2, 1) := by decide +kernel
theorem dX4_type_61 : decode cX4_type 61 = .ok (.iload_n 3, 1) := by decide +kernel
theorem dX4_type_62 : decode cX4_type 62 = .ok (.iload 4, 2) := by decide +kernel
theorem dX4_type_64 : decode cX4_type 64 = .ok (.iload 5, 2) := by decide +kernel
theorem dX4_type_66 : decode cX4_type 66 = .ok (.invokevirtual 42, 3) := by decide +kernel
theorem dX4_type_69 : decode cX4_type 69 = .ok (.iconst 1, 1) := by decide +kernel
theorem dX4_type_70 : decode cX4_type 70 = .ok (.ireturn, 1) := by decide +kernel
set_option maxRecDepth 20000 in
theorem ggX4_nest_X4_isOrdinaryType : GoodIn wsX4_nest wsX4_isOrdinaryType := goodIn_r _ [6, 7, 8, 5, 9] (by decide +kernel) (by decide +kernel)
set_option maxRecDepth 20000 in
theorem gX4_nest_X4_isOrdinaryType : GoodIn wsX4_nest (va_wsS RX4 30 yX4_isOrdinaryType wsX4_isOrdinaryType) := goodIn_app (goodIn_of _ (by decide +kernel)) ggX4_nest_X4_isOrdinaryType
set_option maxRecDepth 20000 in
theorem ggX4_nest_X4_isWithin : GoodIn wsX4_nest wsX4_isWithin := goodIn_r _ [9] (by decide +kernel) (by decide +kernel)
set_option maxRecDepth 20000 in
theorem gX4_nest_X4_isWithin : GoodIn wsX4_nest (va_wsS RX4 34 yX4_isWithin wsX4_isWithin) := goodIn_app (goodIn_of _ (by decide +kernel)) ggX4_nest_X4_isWithin
set_option maxRecDepth 20000 in
theorem ggX4_nest_X1_putHost : GoodIn wsX4_nest wsX1_putHost := goodIn_r _ [14, 15, 16, 17, 18, 13, 19, 20, 21, 5, 22, 30, 31, 32, 33, 34, 35, 36, 37, 38, 39] (by decide +kernel) (by decide +kernel)
set_option maxRecDepth 20000 in
theorem gX4_nest_X1_putHost : GoodIn wsX4_nest (wsV RX4 48 RX1 yX1_putHost wsX1_putHost) := goodIn_app (goodIn_of _ (by decide +kernel)) ggX4_nest_X1_putHost
theorem dX4_nest_0 : decode cX4_nest 0 = .ok (.iload_n 1, 1) := by decide +kernel
theorem dX4_nest_1 : decode cX4_nest 1 = .ok (.invokestatic 30, 3) := by decide +kernel
theorem dX4_nest_4 : decode cX4_nest 4 = .ok (.ifCond .eq 12, 3) := by decide +kernel
theorem dX4_nest_7 : decode cX4_nest 7 = .ok (.iload_n 2, 1) := by decide +kernel
theorem dX4_nest_8 : decode cX4_nest 8 = .ok (.bipush 12, 2) := by decide +kernel
theorem dX4_nest_10 : decode cX4_nest 10 = .ok (.invokestatic 34, 3) := by decide +kernel
theorem dX4_nest_13 : decode cX4_nest 13 = .ok (.ifCond .ne 5, 3) := by decide +kernel
theorem dX4_nest_16 : decode cX4_nest 16 = .ok (.iconst 0, 1) := by decide +kernel
theorem dX4_nest_17 : decode cX4_nest 17 = .ok (.ireturn, 1) := by decide +kernel
theorem dX4_nest_18 : decode cX4_nest 18 = .ok (.aload_n 0, 1) := by decide +kernel
theorem dX4_nest_19 : decode cX4_nest 19 = .ok (.getfield 12, 3) := by decide +kernel
theorem dX4_nest_22 : decode cX4_nest 22 = .ok (.aload_n 0, 1) := by decide +kernel
theorem dX4_nest_23 : decode cX4_nest 23 = .ok (.getfield 27, 3) := by decide +kernel
theorem dX4_nest_26 : decode cX4_nest 26 = .ok (.aaload, 1) := by decide +kernel
theorem dX4_nest_27 : decode cX4_nest 27 = .ok (.getfield 38, 3) := by decide +kernel
theorem dX4_nest_30 : decode cX4_nest 30 = .ok (.iload_n 1, 1) := by decide +kernel
theorem dX4_nest_31 : decode cX4_nest 31 = .ok (.iload_n 2, 1) := by decide +kernel
theorem dX4_nest_32 : decode cX4_nest 32 = .ok (.invokevirtual 48, 3) := by decide +kernel
theorem dX4_nest_35 : decode cX4_nest 35 = .ok (.ireturn, 1) := by decide +kernel
set_option maxRecDepth 20000 in
theorem ggX4_drop_X4_isOrdinaryType : GoodIn wsX4_drop wsX4_isOrdinaryType := goodIn_r _ [6, 7, 8, 5, 9] (by decide +kernel) (by decide +kernel)
set_option maxRecDepth 20000 in
theorem gX4_drop_X4_isOrdinaryType : GoodIn wsX4_drop (va_wsS RX4 30 yX4_isOrdinaryType wsX4_isOrdinaryType) := goodIn_app (goodIn_of _ (by decide +kernel)) ggX4_drop_X4_isOrdinaryType
set_option maxRecDepth 20000 in
theorem ggX4_drop_X0_discardType : GoodIn wsX4_drop wsX0_discardType := goodIn_r _ [14, 15, 16, 17, 18, 19, 20, 21, 22, 23, 24, 25, 26, 27, 5, 28, 29, 30, 31, 32, 33, 34, 35, 36, 37, 38, 39, 40, 41, 42, 43, 44, 45, 7, 8, 9, 46, 47, 48, 49, 50, 51, 52, 53, 54, 55, 56, 57, 58, 59, 60, 61, 62, 63, 64, 65, 66, 67, 68, 69, 70, 71, 76, 77, 78, 79, 80, 81, 82, 83, 84, 85, 86, 87, 88, 89, 90, 91, 92, 93, 94] (by decide +kernel) (by decide +kernel)
set_option maxRecDepth 20000 in
theorem gX4_drop_X0_discardType : GoodIn wsX4_drop (wsV RX4 51 RX0 yX0_discardType wsX0_discardType) := goodIn_app (goodIn_of _ (by decide +kernel)) ggX4_drop_X0_discardType
theorem dX4_drop_0 : decode cX4_drop 0 = .ok (.iload_n 1, 1) := by decide +kernel
theorem dX4_drop_1 : decode cX4_drop 1 = .ok (.invokestatic 30, 3) := by decide +kernel
theorem dX4_drop_4 : decode cX4_drop 4 = .ok (.ifCond .ne 5, 3) := by decide +kernel
theorem dX4_drop_7 : decode cX4_drop 7 = .ok (.iconst 0, 1) := by decide +kernel
theorem dX4_drop_8 : decode cX4_drop 8 = .ok (.ireturn, 1) := by decide +kernel
theorem dX4_drop_9 : decode cX4_drop 9 = .ok (.aload_n 0, 1) := by decide +kernel
theorem dX4_drop_10 : decode cX4_drop 10 = .ok (.getfield 12, 3) := by decide +kernel
theorem dX4_drop_13 : decode cX4_drop 13 = .ok (.aload_n 0, 1) := by decide +kernel
theorem dX4_drop_14 : decode cX4_drop 14 = .ok (.getfield 27, 3) := by decide +kernel
theorem dX4_drop_17 : decode cX4_drop 17 = .ok (.aaload, 1) := by decide +kernel
theorem dX4_drop_18 : decode cX4_drop 18 = .ok (.iload_n 1, 1) := by decide +kernel
theorem dX4_drop_19 : decode cX4_drop 19 = .ok (.invokevirtual 51, 3) := by decide +kernel
theorem dX4_drop_22 : decode cX4_drop 22 = .ok (.ireturn, 1) := by decide +kernel
set_option maxRecDepth 20000 in
theorem ggX4_member_X4_isWithin : GoodIn wsX4_member wsX4_isWithin := goodIn_r _ [6] (by decide +kernel) (by decide +kernel)
set_option maxRecDepth 20000 in
theorem gX4_member_X4_isWithin : GoodIn wsX4_member (va_wsS RX4 34 yX4_isWithin wsX4_isWithin) := goodIn_app (goodIn_of _ (by decide +kernel)) ggX4_member_X4_isWithin
set_option maxRecDepth 20000 in
theorem ggX4_member_X0_addMember : GoodIn wsX4_member wsX0_addMember := goodIn_r _ [11, 12, 13, 14, 15, 16, 17, 18, 19, 20, 5, 21, 22, 23, 24, 25, 26, 27, 28, 29, 30, 31, 32, 33, 34, 35, 36, 37, 38, 39, 44, 45, 46, 47, 48, 49, 50, 51, 52, 53, 54, 55, 56, 57, 58, 59, 60, 61, 62] (by decide +kernel) (by decide +kernel)
set_option maxRecDepth 20000 in
theorem gX4_member_X0_addMember : GoodIn wsX4_member (wsV RX4 54 RX0 yX0_addMember wsX0_addMember) := goodIn_app (goodIn_of _ (by decide +kernel)) ggX4_member_X0_addMember
theorem dX4_member_0 : decode cX4_member 0 = .ok (.iload_n 1, 1) := by decide +kernel
theorem dX4_member_1 : decode cX4_member 1 = .ok (.bipush 12, 2) := by decide +kernel
theorem dX4_member_3 : decode cX4_member 3 = .ok (.invokestatic 34, 3) := by decide +kernel
theorem dX4_member_6 : decode cX4_member 6 = .ok (.ifCond .eq 31, 3) := by decide +kernel
theorem dX4_member_9 : decode cX4_member 9 = .ok (.iload_n 3, 1) := by decide +kernel
theorem dX4_member_10 : decode cX4_member 10 = .ok (.bipush 15, 2) := by decide +kernel
theorem dX4_member_12 : decode cX4_member 12 = .ok (.invokestatic 34, 3) := by decide +kernel
theorem dX4_member_15 : decode cX4_member 15 = .ok (.ifCond .eq 22, 3) := by decide +kernel
theorem dX4_member_18 : decode cX4_member 18 = .ok (.iload 4, 2) := by decide +kernel
theorem dX4_member_20 : decode cX4_member 20 = .ok (.iconst 4, 1) := by decide +kernel
theorem dX4_member_21 : decode cX4_member 21 = .ok (.invokestatic 34, 3) := by decide +kernel
theorem dX4_member_24 : decode cX4_member 24 = .ok (.ifCond .eq 13, 3) := by decide +kernel
theorem dX4_member_27 : decode cX4_member 27 = .ok (.iload 5, 2) := by decide +kernel
theorem dX4_member_29 : decode cX4_member 29 = .ok (.bipush 8, 2) := by decide +kernel
theorem dX4_member_31 : decode cX4_member 31 = .ok (.invokestatic 34, 3) := by decide +kernel
theorem dX4_member_34 : decode cX4_member 34 = .ok (.ifCond .ne 5, 3) := by decide +kernel
theorem dX4_member_37 : decode cX4_member 37 = .ok (.iconst (-1), 1) := by decide +kernel
theorem dX4_member_38 : decode cX4_member 38 = .ok (.ireturn, 1) := by decide +kernel
theorem dX4_member_39 : decode cX4_member 39 = .ok (.aload_n 0, 1) := by decide +kernel
theorem dX4_member_40 : decode cX4_member 40 = .ok (.getfield 12, 3) := by decide +kernel
theorem dX4_member_43 : decode cX4_member 43 = .ok (.aload_n 0, 1) := by decide +kernel
theorem dX4_member_44 : decode cX4_member 44 = .ok (.getfield 27, 3) := by decide +kernel
theorem dX4_member_47 : decode cX4_member 47 = .ok (.aaload, 1) := by decide +kernel
theorem dX4_member_48 : decode cX4_member 48 = .ok (.iload_n 1, 1) := by decide +kernel
theorem dX4_member_49 : decode cX4_member 49 = .ok (.iload_n 2, 1) := by decide +kernel
theorem dX4_member_50 : decode cX4_member 50 = .ok (.iload_n 3, 1) := by decide +kernel
theorem dX4_member_51 : decode cX4_member 51 = .ok (.iload 4, 2) := by decide +kernel
theorem dX4_member_53 : decode cX4_member 53 = .ok (.iload 5, 2) := by decide +kernel
theorem dX4_member_55 : decode cX4_member 55 = .ok (.invokevirtual 54, 3) := by decide +kernel
theorem dX4_member_58 : decode cX4_member 58 = .ok (.ireturn, 1) := by decide +kernel
set_option maxRecDepth 20000 in
theorem ggX4_remake_X4_isWithin : GoodIn wsX4_remake wsX4_isWithin := goodIn_r _ [6] (by decide +kernel) (by decide +kernel)
set_option maxRecDepth 20000 in
theorem gX4_remake_X4_isWithin : GoodIn wsX4_remake (va_wsS RX4 34 yX4_isWithin wsX4_isWithin) := goodIn_app (goodIn_of _ (by decide +kernel)) ggX4_remake_X4_isWithin
set_option maxRecDepth 20000 in
theorem ggX4_remake_X2_change : GoodIn wsX4_remake wsX2_change := goodIn_r _ [11, 12, 13, 14, 15, 16, 10, 17, 18, 19, 4, 5, 6, 20, 21, 29, 30, 31, 32, 33, 34] (by decide +kernel) (by decide +kernel)
set_option maxRecDepth 20000 in
theorem gX4_remake_X2_change : GoodIn wsX4_remake (wsV RX4 62 RX2 yX2_change wsX2_change) := goodIn_app (goodIn_of _ (by decide +kernel)) ggX4_remake_X2_change
theorem dX4_remake_0 : decode cX4_remake 0 = .ok (.iload_n 2, 1) := by decide +kernel
theorem dX4_remake_1 : decode cX4_remake 1 = .ok (.iconst 4, 1) := by decide +kernel
theorem dX4_remake_2 : decode cX4_remake 2 = .ok (.invokestatic 34, 3) := by decide +kernel
theorem dX4_remake_5 : decode cX4_remake 5 = .ok (.ifCond .eq 12, 3) := by decide +kernel
theorem dX4_remake_8 : decode cX4_remake 8 = .ok (.iload_n 3, 1) := by decide +kernel
theorem dX4_remake_9 : decode cX4_remake 9 = .ok (.bipush 8, 2) := by decide +kernel
theorem dX4_remake_11 : decode cX4_remake 11 = .ok (.invokestatic 34, 3) := by decide +kernel
theorem dX4_remake_14 : decode cX4_remake 14 = .ok (.ifCond .ne 5, 3) := by decide +kernel
theorem dX4_remake_17 : decode cX4_remake 17 = .ok (.iconst 0, 1) := by decide +kernel
theorem dX4_remake_18 : decode cX4_remake 18 = .ok (.ireturn, 1) := by decide +kernel
theorem dX4_remake_19 : decode cX4_remake 19 = .ok (.aload_n 0, 1) := by decide +kernel
theorem dX4_remake_20 : decode cX4_remake 20 = .ok (.getfield 12, 3) := by decide +kernel
theorem dX4_remake_23 : decode cX4_remake 23 = .ok (.aload_n 0, 1) := by decide +kernel
theorem dX4_remake_24 : decode cX4_remake 24 = .ok (.getfield 27, 3) := by decide +kernel
theorem dX4_remake_27 : decode cX4_remake 27 = .ok (.aaload, 1) := by decide +kernel
theorem dX4_remake_28 : decode cX4_remake 28 = .ok (.getfield 58, 3) := by decide +kernel
theorem dX4_remake_31 : decode cX4_remake 31 = .ok (.iload_n 1, 1) := by decide +kernel
theorem dX4_remake_32 : decode cX4_remake 32 = .ok (.iload_n 2, 1) := by decide +kernel
theorem dX4_remake_33 : decode cX4_remake 33 = .ok (.iload_n 3, 1) := by decide +kernel
theorem dX4_remake_34 : decode cX4_remake 34 = .ok (.invokevirtual 62, 3) := by decide +kernel
theorem dX4_remake_37 : decode cX4_remake 37 = .ok (.ireturn, 1) := by decide +kernel
set_option maxRecDepth 20000 in
theorem ggX4_remove_X2_discard : GoodIn wsX4_remove wsX2_discard := goodIn_r _ [7, 8, 9, 10, 11, 6, 12, 13, 14, 15, 16, 17, 18, 19, 20, 28, 29, 30, 31, 32, 33] (by decide +kernel) (by decide +kernel)
set_option maxRecDepth 20000 in
theorem gX4_remove_X2_discard : GoodIn wsX4_remove (wsV RX4 68 RX2 yX2_discard wsX2_discard) := goodIn_app (goodIn_of _ (by decide +kernel)) ggX4_remove_X2_discard
theorem dX4_remove_0 : decode cX4_remove 0 = .ok (.aload_n 0, 1) := by decide +kernel
theorem dX4_remove_1 : decode cX4_remove 1 = .ok (.getfield 12, 3) := by decide +kernel
theorem dX4_remove_4 : decode cX4_remove 4 = .ok (.aload_n 0, 1) := by decide +kernel
theorem dX4_remove_5 : decode cX4_remove 5 = .ok (.getfield 27, 3) := by decide +kernel
theorem dX4_remove_8 : decode cX4_remove 8 = .ok (.aaload, 1) := by decide +kernel
theorem dX4_remove_9 : decode cX4_remove 9 = .ok (.getfield 58, 3) := by decide +kernel
theorem dX4_remove_12 : decode cX4_remove 12 = .ok (.iload_n 1, 1) := by decide +kernel
theorem dX4_remove_13 : decode cX4_remove 13 = .ok (.invokevirtual 68, 3) := by decide +kernel
theorem dX4_remove_16 : decode cX4_remove 16 = .ok (.ireturn, 1) := by decide +kernel
set_option maxRecDepth 20000 in
theorem ggX4_branch_X0_becomeAs : GoodIn wsX4_branch wsX0_becomeAs := goodIn_r _ [7, 8, 9, 10, 11, 12, 13, 14, 15, 16, 17, 18, 19, 20, 21, 22, 23, 24, 25, 26, 27, 28, 29, 30, 31, 32, 33, 34, 35, 36, 37, 38, 39, 40, 41, 42, 43, 44, 45, 46, 47, 48, 49, 50, 51, 52, 53, 54, 55, 56, 57, 58, 59, 60, 61, 62, 63, 64, 65, 66, 67, 68, 69, 70, 71, 72, 73, 74, 75, 76, 77, 78, 94, 95, 96, 97, 98, 99, 100, 101, 102, 103, 104, 105, 106, 107, 108, 109, 110, 111, 112] (by decide +kernel) (by decide +kernel)
set_option maxRecDepth 20000 in
theorem gX4_branch_X0_becomeAs : GoodIn wsX4_branch (wsV RX4 71 RX0 yX0_becomeAs wsX0_becomeAs) := goodIn_app (goodIn_of _ (by decide +kernel)) ggX4_branch_X0_becomeAs
set_option maxRecDepth 20000 in
theorem ggX4_branch_X1_countThere : GoodIn wsX4_branch wsX1_countThere := goodIn_r _ [82, 15, 83, 84, 85, 86, 87, 88, 89, 97, 98, 99, 100, 101, 102, 103, 104, 105, 106] (by decide +kernel) (by decide +kernel)
set_option maxRecDepth 20000 in
theorem gX4_branch_X1_countThere : GoodIn wsX4_branch (wsV RX4 75 RX1 yX1_countThere wsX1_countThere) := goodIn_app (goodIn_of _ (by decide +kernel)) ggX4_branch_X1_countThere
theorem dX4_branch_0 : decode cX4_branch 0 = .ok (.aload_n 0, 1) := by decide +kernel
theorem dX4_branch_1 : decode cX4_branch 1 = .ok (.getfield 12, 3) := by decide +kernel
theorem dX4_branch_4 : decode cX4_branch 4 = .ok (.iconst 1, 1) := by decide +kernel
theorem dX4_branch_5 : decode cX4_branch 5 = .ok (.aaload, 1) := by decide +kernel
theorem dX4_branch_6 : decode cX4_branch 6 = .ok (.aload_n 0, 1) := by decide +kernel
theorem dX4_branch_7 : decode cX4_branch 7 = .ok (.getfield 12, 3) := by decide +kernel
theorem dX4_branch_10 : decode cX4_branch 10 = .ok (.iconst 0, 1) := by decide +kernel
theorem dX4_branch_11 : decode cX4_branch 11 = .ok (.aaload, 1) := by decide +kernel
theorem dX4_branch_12 : decode cX4_branch 12 = .ok (.invokevirtual 71, 3) := by decide +kernel
theorem dX4_branch_15 : decode cX4_branch 15 = .ok (.aload_n 0, 1) := by decide +kernel
theorem dX4_branch_16 : decode cX4_branch 16 = .ok (.iconst 1, 1) := by decide +kernel
theorem dX4_branch_17 : decode cX4_branch 17 = .ok (.putfield 27, 3) := by decide +kernel
theorem dX4_branch_20 : decode cX4_branch 20 = .ok (.aload_n 0, 1) := by decide +kernel
theorem dX4_branch_21 : decode cX4_branch 21 = .ok (.getfield 12, 3) := by decide +kernel
theorem dX4_branch_24 : decode cX4_branch 24 = .ok (.iconst 1, 1) := by decide +kernel
theorem dX4_branch_25 : decode cX4_branch 25 = .ok (.aaload, 1) := by decide +kernel
theorem dX4_branch_26 : decode cX4_branch 26 = .ok (.getfield 38, 3) := by decide +kernel
theorem dX4_branch_29 : decode cX4_branch 29 = .ok (.invokevirtual 75, 3) := by decide +kernel
theorem dX4_branch_32 : decode cX4_branch 32 = .ok (.ireturn, 1) := by decide +kernel
set_option maxRecDepth 20000 in
theorem ggX4_write_X4_isWithin : GoodIn wsX4_write wsX4_isWithin := goodIn_r _ [5] (by decide +kernel) (by decide +kernel)
set_option maxRecDepth 20000 in
theorem gX4_write_X4_isWithin : GoodIn wsX4_write (va_wsS RX4 34 yX4_isWithin wsX4_isWithin) := goodIn_app (goodIn_of _ (by decide +kernel)) ggX4_write_X4_isWithin
theorem dX4_write_0 : decode cX4_write 0 = .ok (.iload_n 1, 1) := by decide +kernel
theorem dX4_write_1 : decode cX4_write 1 = .ok (.iconst 2, 1) := by decide +kernel
theorem dX4_write_2 : decode cX4_write 2 = .ok (.invokestatic 34, 3) := by decide +kernel
theorem dX4_write_5 : decode cX4_write 5 = .ok (.ifCond .ne 5, 3) := by decide +kernel
theorem dX4_write_8 : decode cX4_write 8 = .ok (.iconst 0, 1) := by decide +kernel
theorem dX4_write_9 : decode cX4_write 9 = .ok (.ireturn, 1) := by decide +kernel
theorem dX4_write_10 : decode cX4_write 10 = .ok (.aload_n 0, 1) := by decide +kernel
theorem dX4_write_11 : decode cX4_write 11 = .ok (.iload_n 1, 1) := by decide +kernel
theorem dX4_write_12 : decode cX4_write 12 = .ok (.putfield 27, 3) := by decide +kernel
theorem dX4_write_15 : decode cX4_write 15 = .ok (.iconst 1, 1) := by decide +kernel
theorem dX4_write_16 : decode cX4_write 16 = .ok (.ireturn, 1) := by decide +kernel
set_option maxRecDepth 20000 in
theorem ggX4_refer_X4_isWithin : GoodIn wsX4_refer wsX4_isWithin := goodIn_r _ [6] (by decide +kernel) (by decide +kernel)
set_option maxRecDepth 20000 in
theorem gX4_refer_X4_isWithin : GoodIn wsX4_refer (va_wsS RX4 34 yX4_isWithin wsX4_isWithin) := goodIn_app (goodIn_of _ (by decide +kernel)) ggX4_refer_X4_isWithin
set_option maxRecDepth 20000 in
theorem ggX4_refer_X3_put : GoodIn wsX4_refer wsX3_put := goodIn_r _ [11, 12, 13, 14, 15, 20, 21, 22, 23] (by decide +kernel) (by decide +kernel)
set_option maxRecDepth 20000 in
theorem gX4_refer_X3_put : GoodIn wsX4_refer (wsV RX4 79 RX3 yX3_put wsX3_put) := goodIn_app (goodIn_of _ (by decide +kernel)) ggX4_refer_X3_put
theorem dX4_refer_0 : decode cX4_refer 0 = .ok (.iload_n 1, 1) := by decide +kernel
theorem dX4_refer_1 : decode cX4_refer 1 = .ok (.bipush 9, 2) := by decide +kernel
theorem dX4_refer_3 : decode cX4_refer 3 = .ok (.invokestatic 34, 3) := by decide +kernel
theorem dX4_refer_6 : decode cX4_refer 6 = .ok (.ifCond .eq 31, 3) := by decide +kernel
theorem dX4_refer_9 : decode cX4_refer 9 = .ok (.iload_n 2, 1) := by decide +kernel
theorem dX4_refer_10 : decode cX4_refer 10 = .ok (.bipush 12, 2) := by decide +kernel
theorem dX4_refer_12 : decode cX4_refer 12 = .ok (.invokestatic 34, 3) := by decide +kernel
theorem dX4_refer_15 : decode cX4_refer 15 = .ok (.ifCond .eq 22, 3) := by decide +kernel
theorem dX4_refer_18 : decode cX4_refer 18 = .ok (.iload_n 3, 1) := by decide +kernel
theorem dX4_refer_19 : decode cX4_refer 19 = .ok (.bipush 12, 2) := by decide +kernel
theorem dX4_refer_21 : decode cX4_refer 21 = .ok (.invokestatic 34, 3) := by decide +kernel
theorem dX4_refer_24 : decode cX4_refer 24 = .ok (.ifCond .eq 13, 3) := by decide +kernel
theorem dX4_refer_27 : decode cX4_refer 27 = .ok (.iload 4, 2) := by decide +kernel
theorem dX4_refer_29 : decode cX4_refer 29 = .ok (.bipush 15, 2) := by decide +kernel
theorem dX4_refer_31 : decode cX4_refer 31 = .ok (.invokestatic 34, 3) := by decide +kernel
theorem dX4_refer_34 : decode cX4_refer 34 = .ok (.ifCond .ne 5, 3) := by decide +kernel
theorem dX4_refer_37 : decode cX4_refer 37 = .ok (.iconst (-1), 1) := by decide +kernel
theorem dX4_refer_38 : decode cX4_refer 38 = .ok (.ireturn, 1) := by decide +kernel
theorem dX4_refer_39 : decode cX4_refer 39 = .ok (.aload_n 0, 1) := by decide +kernel
theorem dX4_refer_40 : decode cX4_refer 40 = .ok (.getfield 23, 3) := by decide +kernel
theorem dX4_refer_43 : decode cX4_refer 43 = .ok (.bipush 16, 2) := by decide +kernel
theorem dX4_refer_45 : decode cX4_refer 45 = .ok (.if_icmp .lt 6, 3) := by decide +kernel
theorem dX4_refer_48 : decode cX4_refer 48 = .ok (.bipush (-3), 2) := by decide +kernel
theorem dX4_refer_50 : decode cX4_refer 50 = .ok (.ireturn, 1) := by decide +kernel
theorem dX4_refer_51 : decode cX4_refer 51 = .ok (.aload_n 0, 1) := by decide +kernel
theorem dX4_refer_52 : decode cX4_refer 52 = .ok (.getfield 18, 3) := by decide +kernel
theorem dX4_refer_55 : decode cX4_refer 55 = .ok (.aload_n 0, 1) := by decide +kernel
theorem dX4_refer_56 : decode cX4_refer 56 = .ok (.getfield 23, 3) := by decide +kernel
theorem dX4_refer_59 : decode cX4_refer 59 = .ok (.aaload, 1) := by decide +kernel
theorem dX4_refer_60 : decode cX4_refer 60 = .ok (.iload_n 1, 1) := by decide +kernel
theorem dX4_refer_61 : decode cX4_refer 61 = .ok (.iload_n 2, 1) := by decide +kernel
theorem dX4_refer_62 : decode cX4_refer 62 = .ok (.iload_n 3, 1) := by decide +kernel
theorem dX4_refer_63 : decode cX4_refer 63 = .ok (.iload 4, 2) := by decide +kernel
theorem dX4_refer_65 : decode cX4_refer 65 = .ok (.invokevirtual 79, 3) := by decide +kernel
theorem dX4_refer_68 : decode cX4_refer 68 = .ok (.aload_n 0, 1) := by decide +kernel
theorem dX4_refer_69 : decode cX4_refer 69 = .ok (.dup, 1) := by decide +kernel
theorem dX4_refer_70 : decode cX4_refer 70 = .ok (.getfield 23, 3) := by decide +kernel
theorem dX4_refer_73 : decode cX4_refer 73 = .ok (.iconst 1, 1) := by decide +kernel
theorem dX4_refer_74 : decode cX4_refer 74 = .ok (.iadd, 1) := by decide +kernel
theorem dX4_refer_75 : decode cX4_refer 75 = .ok (.putfield 23, 3) := by decide +kernel
theorem dX4_refer_78 : decode cX4_refer 78 = .ok (.aload_n 0, 1) := by decide +kernel
theorem dX4_refer_79 : decode cX4_refer 79 = .ok (.getfield 23, 3) := by decide +kernel
theorem dX4_refer_82 : decode cX4_refer 82 = .ok (.iconst 1, 1) := by decide +kernel
theorem dX4_refer_83 : decode cX4_refer 83 = .ok (.isub, 1) := by decide +kernel
theorem dX4_refer_84 : decode cX4_refer 84 = .ok (.ireturn, 1) := by decide +kernel
theorem dX4_forget_0 : decode cX4_forget 0 = .ok (.aload_n 0, 1) := by decide +kernel
theorem dX4_forget_1 : decode cX4_forget 1 = .ok (.getfield 23, 3) := by decide +kernel
theorem dX4_forget_4 : decode cX4_forget 4 = .ok (.istore_n 1, 1) := by decide +kernel
theorem dX4_forget_5 : decode cX4_forget 5 = .ok (.aload_n 0, 1) := by decide +kernel
theorem dX4_forget_6 : decode cX4_forget 6 = .ok (.iconst 0, 1) := by decide +kernel
theorem dX4_forget_7 : decode cX4_forget 7 = .ok (.putfield 23, 3) := by decide +kernel
theorem dX4_forget_10 : decode cX4_forget 10 = .ok (.iload_n 1, 1) := by decide +kernel
theorem dX4_forget_11 : decode cX4_forget 11 = .ok (.ireturn, 1) := by decide +kernel
set_option maxRecDepth 20000 in
theorem ggX4_load_X4_isWithin : GoodIn wsX4_load wsX4_isWithin := goodIn_r _ [5] (by decide +kernel) (by decide +kernel)
set_option maxRecDepth 20000 in
theorem gX4_load_X4_isWithin : GoodIn wsX4_load (va_wsS RX4 34 yX4_isWithin wsX4_isWithin) := goodIn_app (goodIn_of _ (by decide +kernel)) ggX4_load_X4_isWithin
set_option maxRecDepth 20000 in
theorem ggX4_load_X1_loading : GoodIn wsX4_load wsX1_loading := goodIn_r _ [10, 11, 19, 20, 21, 22, 23, 24, 25, 26, 27, 28] (by decide +kernel) (by decide +kernel)
set_option maxRecDepth 20000 in
theorem gX4_load_X1_loading : GoodIn wsX4_load (wsV RX4 83 RX1 yX1_loading wsX1_loading) := goodIn_app (goodIn_of _ (by decide +kernel)) ggX4_load_X1_loading
theorem dX4_load_0 : decode cX4_load 0 = .ok (.iload_n 1, 1) := by decide +kernel
theorem dX4_load_1 : decode cX4_load 1 = .ok (.iconst 2, 1) := by decide +kernel
theorem dX4_load_2 : decode cX4_load 2 = .ok (.invokestatic 34, 3) := by decide +kernel
theorem dX4_load_5 : decode cX4_load 5 = .ok (.ifCond .eq 12, 3) := by decide +kernel
theorem dX4_load_8 : decode cX4_load 8 = .ok (.iload_n 2, 1) := by decide +kernel
theorem dX4_load_9 : decode cX4_load 9 = .ok (.bipush 12, 2) := by decide +kernel
theorem dX4_load_11 : decode cX4_load 11 = .ok (.invokestatic 34, 3) := by decide +kernel
theorem dX4_load_14 : decode cX4_load 14 = .ok (.ifCond .ne 5, 3) := by decide +kernel
theorem dX4_load_17 : decode cX4_load 17 = .ok (.iconst (-1), 1) := by decide +kernel
theorem dX4_load_18 : decode cX4_load 18 = .ok (.ireturn, 1) := by decide +kernel
theorem dX4_load_19 : decode cX4_load 19 = .ok (.aload_n 0, 1) := by decide +kernel
theorem dX4_load_20 : decode cX4_load 20 = .ok (.getfield 12, 3) := by decide +kernel
theorem dX4_load_23 : decode cX4_load 23 = .ok (.iload_n 1, 1) := by decide +kernel
theorem dX4_load_24 : decode cX4_load 24 = .ok (.aaload, 1) := by decide +kernel
theorem dX4_load_25 : decode cX4_load 25 = .ok (.getfield 38, 3) := by decide +kernel
theorem dX4_load_28 : decode cX4_load 28 = .ok (.iload_n 2, 1) := by decide +kernel
theorem dX4_load_29 : decode cX4_load 29 = .ok (.invokevirtual 83, 3) := by decide +kernel
theorem dX4_load_32 : decode cX4_load 32 = .ok (.ireturn, 1) := by decide +kernel
set_option maxRecDepth 20000 in
theorem ggX4_resolve_X4_isWithin : GoodIn wsX4_resolve wsX4_isWithin := goodIn_r _ [7] (by decide +kernel) (by decide +kernel)
set_option maxRecDepth 20000 in
theorem gX4_resolve_X4_isWithin : GoodIn wsX4_resolve (va_wsS RX4 34 yX4_isWithin wsX4_isWithin) := goodIn_app (goodIn_of _ (by decide +kernel)) ggX4_resolve_X4_isWithin
set_option maxRecDepth 20000 in
theorem ggX4_resolve_X0_resolution : GoodIn wsX4_resolve wsX0_resolution := goodIn_r _ [12, 13, 14, 15, 16, 17, 18, 19, 20, 6, 21, 4, 5, 7, 22, 23, 24, 25, 26, 27, 28, 29, 30, 31, 32, 33, 34, 35, 36, 37, 38, 39, 40, 11, 41, 42, 43, 44, 45, 46, 47, 48, 49, 50, 51, 52, 53, 54, 55, 56, 57, 58, 59, 60, 61, 62, 63, 64, 65, 66, 67, 68, 69, 70, 71, 72, 73, 74, 75, 76, 77, 78, 79, 80, 81, 82, 83, 84, 85, 86, 87, 88, 89, 90, 91, 92, 93, 94, 95, 96, 97, 98, 99, 100, 101, 102, 103, 104, 105, 106, 107, 108, 109, 110, 111, 112, 113, 114, 115, 116, 117, 118, 119, 120, 121, 122, 123, 124, 125, 126, 127, 128, 129, 130, 131, 132, 133, 134, 135, 136, 137, 138, 139, 140, 141, 142, 143, 144, 145, 146, 147, 148, 149, 150, 151, 152, 153, 154, 155, 156, 157, 158, 159, 160, 161, 162, 163, 164, 165, 166, 167, 168, 169, 170, 171, 172, 173, 174, 175, 176, 177, 178, 179, 180, 181, 182, 183, 184, 189, 190, 191, 192, 193, 194, 195, 196, 197, 198, 199, 200, 201, 202, 203, 204, 205, 206, 207, 208, 209, 210, 211] (by decide +kernel) (by decide +kernel)
set_option maxRecDepth 20000 in
theorem gX4_resolve_X0_resolution : GoodIn wsX4_resolve (wsV RX4 87 RX0 yX0_resolution wsX0_resolution) := goodIn_app (goodIn_of _ (by decide +kernel)) ggX4_resolve_X0_resolution
theorem dX4_resolve_0 : decode cX4_resolve 0 = .ok (.iload_n 1, 1) := by decide +kernel
theorem dX4_resolve_1 : decode cX4_resolve 1 = .ok (.iconst 2, 1) := by decide +kernel
theorem dX4_resolve_2 : decode cX4_resolve 2 = .ok (.invokestatic 34, 3) := by decide +kernel
theorem dX4_resolve_5 : decode cX4_resolve 5 = .ok (.ifCond .eq 14, 3) := by decide +kernel
theorem dX4_resolve_8 : decode cX4_resolve 8 = .ok (.iload_n 2, 1) := by decide +kernel
theorem dX4_resolve_9 : decode cX4_resolve 9 = .ok (.aload_n 0, 1) := by decide +kernel
theorem dX4_resolve_10 : decode cX4_resolve 10 = .ok (.getfield 23, 3) := by decide +kernel
theorem dX4_resolve_13 : decode cX4_resolve 13 = .ok (.invokestatic 34, 3) := by decide +kernel
theorem dX4_resolve_16 : decode cX4_resolve 16 = .ok (.ifCond .ne 5, 3) := by decide +kernel
theorem dX4_resolve_19 : decode cX4_resolve 19 = .ok (.iconst (-1), 1) := by decide +kernel
theorem dX4_resolve_20 : decode cX4_resolve 20 = .ok (.ireturn, 1) := by decide +kernel
theorem dX4_resolve_21 : decode cX4_resolve 21 = .ok (.aload_n 0, 1) := by decide +kernel
theorem dX4_resolve_22 : decode cX4_resolve 22 = .ok (.getfield 12, 3) := by decide +kernel
theorem dX4_resolve_25 : decode cX4_resolve 25 = .ok (.iload_n 1, 1) := by decide +kernel
theorem dX4_resolve_26 : decode cX4_resolve 26 = .ok (.aaload, 1) := by decide +kernel
theorem dX4_resolve_27 : decode cX4_resolve 27 = .ok (.aload_n 0, 1) := by decide +kernel
theorem dX4_resolve_28 : decode cX4_resolve 28 = .ok (.getfield 18, 3) := by decide +kernel
theorem dX4_resolve_31 : decode cX4_resolve 31 = .ok (.iload_n 2, 1) := by decide +kernel
theorem dX4_resolve_32 : decode cX4_resolve 32 = .ok (.aaload, 1) := by decide +kernel
theorem dX4_resolve_33 : decode cX4_resolve 33 = .ok (.invokevirtual 87, 3) := by decide +kernel
theorem dX4_resolve_36 : decode cX4_resolve 36 = .ok (.ireturn, 1) := by decide +kernel
set_option maxRecDepth 20000 in
theorem ggX4_select_X4_isWithin : GoodIn wsX4_select wsX4_isWithin := goodIn_r _ [7] (by decide +kernel) (by decide +kernel)
set_option maxRecDepth 20000 in
theorem gX4_select_X4_isWithin : GoodIn wsX4_select (va_wsS RX4 34 yX4_isWithin wsX4_isWithin) := goodIn_app (goodIn_of _ (by decide +kernel)) ggX4_select_X4_isWithin
set_option maxRecDepth 20000 in
theorem ggX4_select_X0_resolution : GoodIn wsX4_select wsX0_resolution := goodIn_r _ [12, 13, 14, 15, 16, 17, 18, 19, 20, 6, 21, 4, 5, 7, 22, 23, 24, 25, 26, 27, 28, 29, 30, 31, 32, 33, 34, 35, 36, 37, 38, 39, 40, 11, 41, 42, 43, 44, 45, 46, 47, 48, 49, 50, 51, 52, 53, 54, 55, 56, 57, 58, 59, 60, 61, 62, 63, 64, 65, 66, 67, 68, 69, 70, 71, 72, 73, 74, 75, 76, 77, 78, 79, 80, 81, 82, 83, 84, 85, 86, 87, 88, 89, 90, 91, 92, 93, 94, 95, 96, 97, 98, 99, 100, 101, 102, 103, 104, 105, 106, 107, 108, 109, 110, 111, 112, 113, 114, 115, 116, 117, 118, 119, 120, 121, 122, 123, 124, 125, 126, 127, 128, 129, 130, 131, 132, 133, 134, 135, 136, 137, 138, 139, 140, 141, 142, 143, 144, 145, 146, 147, 148, 149, 150, 151, 152, 153, 154, 155, 156, 157, 158, 159, 160, 161, 162, 163, 164, 165, 166, 167, 168, 169, 170, 171, 172, 173, 174, 175, 176, 177, 178, 179, 180, 181, 182, 183, 184, 222, 223, 224, 225, 226, 227, 228, 229, 230, 231, 232, 233, 234, 235, 236, 237, 238, 239, 240, 241, 242, 243, 244] (by decide +kernel) (by decide +kernel)
set_option maxRecDepth 20000 in
theorem gX4_select_X0_resolution : GoodIn wsX4_select (wsV RX4 87 RX0 yX0_resolution wsX0_resolution) := goodIn_app (goodIn_of _ (by decide +kernel)) ggX4_select_X0_resolution
set_option maxRecDepth 20000 in
theorem ggX4_select_X0_selection : GoodIn wsX4_select wsX0_selection := goodIn_r _ [188, 47, 189, 190, 191, 35, 192, 37, 20, 6, 21, 4, 5, 7, 193, 194, 195, 11, 196, 13, 14, 15, 16, 17, 18, 19, 197, 198, 199, 200, 26, 159, 160, 161, 162, 158, 108, 48, 49, 86, 87, 88, 55, 89, 90, 201, 202, 203, 204, 52, 53, 54, 56, 57, 58, 59, 60, 61, 62, 63, 205, 206, 207, 208, 209, 114, 115, 116, 95, 145, 146, 147, 148, 149, 28, 29, 30, 31, 69, 70, 71, 72, 73, 210, 211, 212, 213, 104, 105, 106, 107, 109, 110, 111, 112, 113, 50, 51, 117, 118, 119, 120, 121, 122, 123, 124, 125, 126, 127, 128, 214, 215, 216, 217, 225, 226, 227, 228, 222, 223, 224, 229, 230, 231, 232, 233, 234, 235, 236, 237, 238, 239, 240, 241, 242, 243, 244] (by decide +kernel) (by decide +kernel)
set_option maxRecDepth 20000 in
theorem gX4_select_X0_selection : GoodIn wsX4_select (wsV RX4 91 RX0 yX0_selection wsX0_selection) := goodIn_app (goodIn_of _ (by decide +kernel)) ggX4_select_X0_selection
theorem dX4_select_0 : decode cX4_select 0 = .ok (.iload_n 1, 1) := by decide +kernel
theorem dX4_select_1 : decode cX4_select 1 = .ok (.iconst 2, 1) := by decide +kernel
theorem dX4_select_2 : decode cX4_select 2 = .ok (.invokestatic 34, 3) := by decide +kernel
theorem dX4_select_5 : decode cX4_select 5 = .ok (.ifCond .eq 23, 3) := by decide +kernel
theorem dX4_select_8 : decode cX4_select 8 = .ok (.iload_n 2, 1) := by decide +kernel
theorem dX4_select_9 : decode cX4_select 9 = .ok (.aload_n 0, 1) := by decide +kernel
theorem dX4_select_10 : decode cX4_select 10 = .ok (.getfield 23, 3) := by decide +kernel
theorem dX4_select_13 : decode cX4_select 13 = .ok (.invokestatic 34, 3) := by decide +kernel
theorem dX4_select_16 : decode cX4_select 16 = .ok (.ifCond .eq 12, 3) := by decide +kernel
theorem dX4_select_19 : decode cX4_select 19 = .ok (.iload_n 3, 1) := by decide +kernel
theorem dX4_select_20 : decode cX4_select 20 = .ok (.bipush 12, 2) := by decide +kernel
theorem dX4_select_22 : decode cX4_select 22 = .ok (.invokestatic 34, 3) := by decide +kernel
theorem dX4_select_25 : decode cX4_select 25 = .ok (.ifCond .ne 5, 3) := by decide +kernel
theorem dX4_select_28 : decode cX4_select 28 = .ok (.iconst (-1), 1) := by decide +kernel
theorem dX4_select_29 : decode cX4_select 29 = .ok (.ireturn, 1) := by decide +kernel
theorem dX4_select_30 : decode cX4_select 30 = .ok (.aload_n 0, 1) := by decide +kernel
theorem dX4_select_31 : decode cX4_select 31 = .ok (.getfield 18, 3) := by decide +kernel
theorem dX4_select_34 : decode cX4_select 34 = .ok (.iload_n 2, 1) := by decide +kernel
theorem dX4_select_35 : decode cX4_select 35 = .ok (.aaload, 1) := by decide +kernel
theorem dX4_select_36 : decode cX4_select 36 = .ok (.astore 4, 2) := by decide +kernel
theorem dX4_select_38 : decode cX4_select 38 = .ok (.aload_n 0, 1) := by decide +kernel
theorem dX4_select_39 : decode cX4_select 39 = .ok (.getfield 12, 3) := by decide +kernel
theorem dX4_select_42 : decode cX4_select 42 = .ok (.iload_n 1, 1) := by decide +kernel
theorem dX4_select_43 : decode cX4_select 43 = .ok (.aaload, 1) := by decide +kernel
theorem dX4_select_44 : decode cX4_select 44 = .ok (.aload 4, 2) := by decide +kernel
theorem dX4_select_46 : decode cX4_select 46 = .ok (.aload_n 0, 1) := by decide +kernel
theorem dX4_select_47 : decode cX4_select 47 = .ok (.getfield 12, 3) := by decide +kernel
theorem dX4_select_50 : decode cX4_select 50 = .ok (.iload_n 1, 1) := by decide +kernel
theorem dX4_select_51 : decode cX4_select 51 = .ok (.aaload, 1) := by decide +kernel
theorem dX4_select_52 : decode cX4_select 52 = .ok (.aload 4, 2) := by decide +kernel
theorem dX4_select_54 : decode cX4_select 54 = .ok (.invokevirtual 87, 3) := by decide +kernel
theorem dX4_select_57 : decode cX4_select 57 = .ok (.iload_n 3, 1) := by decide +kernel
theorem dX4_select_58 : decode cX4_select 58 = .ok (.invokevirtual 91, 3) := by decide +kernel
theorem dX4_select_61 : decode cX4_select 61 = .ok (.ireturn, 1) := by decide +kernel
set_option maxRecDepth 20000 in
theorem ggX4_compare_X4_isWithin : GoodIn wsX4_compare wsX4_isWithin := goodIn_r _ [7] (by decide +kernel) (by decide +kernel)
set_option maxRecDepth 20000 in
theorem gX4_compare_X4_isWithin : GoodIn wsX4_compare (va_wsS RX4 34 yX4_isWithin wsX4_isWithin) := goodIn_app (goodIn_of _ (by decide +kernel)) ggX4_compare_X4_isWithin
set_option maxRecDepth 20000 in
theorem ggX4_compare_X0_resolution : GoodIn wsX4_compare wsX0_resolution := goodIn_r _ [12, 13, 14, 15, 16, 17, 18, 19, 20, 6, 21, 4, 5, 7, 22, 23, 24, 25, 26, 27, 28, 29, 30, 31, 32, 33, 34, 35, 36, 37, 38, 39, 40, 11, 41, 42, 43, 44, 45, 46, 47, 48, 49, 50, 51, 52, 53, 54, 55, 56, 57, 58, 59, 60, 61, 62, 63, 64, 65, 66, 67, 68, 69, 70, 71, 72, 73, 74, 75, 76, 77, 78, 79, 80, 81, 82, 83, 84, 85, 86, 87, 88, 89, 90, 91, 92, 93, 94, 95, 96, 97, 98, 99, 100, 101, 102, 103, 104, 105, 106, 107, 108, 109, 110, 111, 112, 113, 114, 115, 116, 117, 118, 119, 120, 121, 122, 123, 124, 125, 126, 127, 128, 129, 130, 131, 132, 133, 134, 135, 136, 137, 138, 139, 140, 141, 142, 143, 144, 145, 146, 147, 148, 149, 150, 151, 152, 153, 154, 155, 156, 157, 158, 159, 160, 161, 162, 163, 164, 165, 166, 167, 168, 169, 170, 171, 172, 173, 174, 175, 176, 177, 178, 179, 180, 181, 182, 183, 184, 198, 199, 200, 201, 202, 203, 204, 205, 206, 207, 208, 209, 210, 211, 212, 213, 214, 215, 216, 217, 218, 219, 220] (by decide +kernel) (by decide +kernel)
set_option maxRecDepth 20000 in
theorem gX4_compare_X0_resolution : GoodIn wsX4_compare (wsV RX4 87 RX0 yX0_resolution wsX0_resolution) := goodIn_app (goodIn_of _ (by decide +kernel)) ggX4_compare_X0_resolution
set_option maxRecDepth 20000 in
theorem ggX4_compare_X4_areAlike : GoodIn wsX4_compare wsX4_areAlike := goodIn_r _ [188, 2, 189, 190, 191, 55, 192, 59, 58, 194, 195, 196, 197, 198, 199, 200, 215, 216, 217, 218, 219, 220] (by decide +kernel) (by decide +kernel)
set_option maxRecDepth 20000 in
theorem gX4_compare_X4_areAlike : GoodIn wsX4_compare (wsV RX4 95 RX4 yX4_areAlike wsX4_areAlike) := goodIn_app (goodIn_of _ (by decide +kernel)) ggX4_compare_X4_areAlike
set_option maxRecDepth 20000 in
theorem ggX4_compare_X4_isGood : GoodIn wsX4_compare wsX4_isGood := goodIn_r _ [21, 4, 5, 6, 7] (by decide +kernel) (by decide +kernel)
set_option maxRecDepth 20000 in
theorem gX4_compare_X4_isGood : GoodIn wsX4_compare (va_wsS RX4 98 yX4_isGood wsX4_isGood) := goodIn_app (goodIn_of _ (by decide +kernel)) ggX4_compare_X4_isGood
theorem dX4_compare_0 : decode cX4_compare 0 = .ok (.iload_n 1, 1) := by decide +kernel
theorem dX4_compare_1 : decode cX4_compare 1 = .ok (.aload_n 0, 1) := by decide +kernel
theorem dX4_compare_2 : decode cX4_compare 2 = .ok (.getfield 23, 3) := by decide +kernel
theorem dX4_compare_5 : decode cX4_compare 5 = .ok (.invokestatic 34, 3) := by decide +kernel
theorem dX4_compare_8 : decode cX4_compare 8 = .ok (.ifCond .ne 5, 3) := by decide +kernel
theorem dX4_compare_11 : decode cX4_compare 11 = .ok (.iconst (-1), 1) := by decide +kernel
theorem dX4_compare_12 : decode cX4_compare 12 = .ok (.ireturn, 1) := by decide +kernel
theorem dX4_compare_13 : decode cX4_compare 13 = .ok (.aload_n 0, 1) := by decide +kernel
theorem dX4_compare_14 : decode cX4_compare 14 = .ok (.getfield 12, 3) := by decide +kernel
theorem dX4_compare_17 : decode cX4_compare 17 = .ok (.iconst 0, 1) := by decide +kernel
theorem dX4_compare_18 : decode cX4_compare 18 = .ok (.aaload, 1) := by decide +kernel
theorem dX4_compare_19 : decode cX4_compare 19 = .ok (.aload_n 0, 1) := by decide +kernel
theorem dX4_compare_20 : decode cX4_compare 20 = .ok (.getfield 18, 3) := by decide +kernel
theorem dX4_compare_23 : decode cX4_compare 23 = .ok (.iload_n 1, 1) := by decide +kernel
theorem dX4_compare_24 : decode cX4_compare 24 = .ok (.aaload, 1) := by decide +kernel
theorem dX4_compare_25 : decode cX4_compare 25 = .ok (.invokevirtual 87, 3) := by decide +kernel
theorem dX4_compare_28 : decode cX4_compare 28 = .ok (.istore_n 2, 1) := by decide +kernel
theorem dX4_compare_29 : decode cX4_compare 29 = .ok (.aload_n 0, 1) := by decide +kernel
theorem dX4_compare_30 : decode cX4_compare 30 = .ok (.getfield 12, 3) := by decide +kernel
theorem dX4_compare_33 : decode cX4_compare 33 = .ok (.iconst 1, 1) := by decide +kernel
theorem dX4_compare_34 : decode cX4_compare 34 = .ok (.aaload, 1) := by decide +kernel
theorem dX4_compare_35 : decode cX4_compare 35 = .ok (.aload_n 0, 1) := by decide +kernel
theorem dX4_compare_36 : decode cX4_compare 36 = .ok (.getfield 18, 3) := by decide +kernel
theorem dX4_compare_39 : decode cX4_compare 39 = .ok (.iload_n 1, 1) := by decide +kernel
theorem dX4_compare_40 : decode cX4_compare 40 = .ok (.aaload, 1) := by decide +kernel
theorem dX4_compare_41 : decode cX4_compare 41 = .ok (.invokevirtual 87, 3) := by decide +kernel
theorem dX4_compare_44 : decode cX4_compare 44 = .ok (.istore_n 3, 1) := by decide +kernel
theorem dX4_compare_45 : decode cX4_compare 45 = .ok (.aload_n 0, 1) := by decide +kernel
theorem dX4_compare_46 : decode cX4_compare 46 = .ok (.iload_n 2, 1) := by decide +kernel
theorem dX4_compare_47 : decode cX4_compare 47 = .ok (.iload_n 3, 1) := by decide +kernel
theorem dX4_compare_48 : decode cX4_compare 48 = .ok (.invokevirtual 95, 3) := by decide +kernel
theorem dX4_compare_51 : decode cX4_compare 51 = .ok (.ifCond .eq 5, 3) := by decide +kernel
theorem dX4_compare_54 : decode cX4_compare 54 = .ok (.iconst 0, 1) := by decide +kernel
theorem dX4_compare_55 : decode cX4_compare 55 = .ok (.ireturn, 1) := by decide +kernel
theorem dX4_compare_56 : decode cX4_compare 56 = .ok (.iload_n 2, 1) := by decide +kernel
theorem dX4_compare_57 : decode cX4_compare 57 = .ok (.invokestatic 98, 3) := by decide +kernel
theorem dX4_compare_60 : decode cX4_compare 60 = .ok (.ifCond .eq 16, 3) := by decide +kernel
theorem dX4_compare_63 : decode cX4_compare 63 = .ok (.iload_n 3, 1) := by decide +kernel
theorem dX4_compare_64 : decode cX4_compare 64 = .ok (.invokestatic 98, 3) := by decide +kernel
theorem dX4_compare_67 : decode cX4_compare 67 = .ok (.ifCond .eq 7, 3) := by decide +kernel
theorem dX4_compare_70 : decode cX4_compare 70 = .ok (.iconst 3, 1) := by decide +kernel
theorem dX4_compare_71 : decode cX4_compare 71 = .ok (.goto 4, 3) := by decide +kernel
theorem dX4_compare_74 : decode cX4_compare 74 = .ok (.iconst 1, 1) := by decide +kernel
theorem dX4_compare_75 : decode cX4_compare 75 = .ok (.ireturn, 1) := by decide +kernel
theorem dX4_compare_76 : decode cX4_compare 76 = .ok (.iload_n 3, 1) := by decide +kernel
theorem dX4_compare_77 : decode cX4_compare 77 = .ok (.invokestatic 98, 3) := by decide +kernel
theorem dX4_compare_80 : decode cX4_compare 80 = .ok (.ifCond .eq 7, 3) := by decide +kernel
theorem dX4_compare_83 : decode cX4_compare 83 = .ok (.iconst 2, 1) := by decide +kernel
theorem dX4_compare_84 : decode cX4_compare 84 = .ok (.goto 4, 3) := by decide +kernel
theorem dX4_compare_87 : decode cX4_compare 87 = .ok (.iconst 4, 1) := by decide +kernel
theorem dX4_compare_88 : decode cX4_compare 88 = .ok (.ireturn, 1) := by decide +kernel
set_option maxRecDepth 20000 in
theorem ggX4_receivers_X4_isWithin : GoodIn wsX4_receivers wsX4_isWithin := goodIn_r _ [7] (by decide +kernel) (by decide +kernel)
set_option maxRecDepth 20000 in
theorem gX4_receivers_X4_isWithin : GoodIn wsX4_receivers (va_wsS RX4 34 yX4_isWithin wsX4_isWithin) := goodIn_app (goodIn_of _ (by decide +kernel)) ggX4_receivers_X4_isWithin
set_option maxRecDepth 20000 in
theorem ggX4_receivers_X0_resolution : GoodIn wsX4_receivers wsX0_resolution := goodIn_r _ [12, 13, 14, 15, 16, 17, 18, 19, 20, 6, 21, 4, 5, 7, 22, 23, 24, 25, 26, 27, 28, 29, 30, 31, 32, 33, 34, 35, 36, 37, 38, 39, 40, 11, 41, 42, 43, 44, 45, 46, 47, 48, 49, 50, 51, 52, 53, 54, 55, 56, 57, 58, 59, 60, 61, 62, 63, 64, 65, 66, 67, 68, 69, 70, 71, 72, 73, 74, 75, 76, 77, 78, 79, 80, 81, 82, 83, 84, 85, 86, 87, 88, 89, 90, 91, 92, 93, 94, 95, 96, 97, 98, 99, 100, 101, 102, 103, 104, 105, 106, 107, 108, 109, 110, 111, 112, 113, 114, 115, 116, 117, 118, 119, 120, 121, 122, 123, 124, 125, 126, 127, 128, 129, 130, 131, 132, 133, 134, 135, 136, 137, 138, 139, 140, 141, 142, 143, 144, 145, 146, 147, 148, 149, 150, 151, 152, 153, 154, 155, 156, 157, 158, 159, 160, 161, 162, 163, 164, 165, 166, 167, 168, 169, 170, 171, 172, 173, 174, 175, 176, 177, 178, 179, 180, 181, 182, 183, 184, 235, 236, 237, 238, 239, 240, 241, 242, 243, 244, 245, 246, 247, 248, 249, 250, 251, 252, 253, 254, 255, 256, 257] (by decide +kernel) (by decide +kernel)
set_option maxRecDepth 20000 in
theorem gX4_receivers_X0_resolution : GoodIn wsX4_receivers (wsV RX4 87 RX0 yX0_resolution wsX0_resolution) := goodIn_app (goodIn_of _ (by decide +kernel)) ggX4_receivers_X0_resolution
set_option maxRecDepth 20000 in
theorem ggX4_receivers_X0_selection : GoodIn wsX4_receivers wsX0_selection := goodIn_r _ [188, 47, 189, 190, 191, 35, 192, 37, 20, 6, 21, 4, 5, 7, 193, 194, 195, 11, 196, 13, 14, 15, 16, 17, 18, 19, 197, 198, 199, 200, 26, 159, 160, 161, 162, 158, 108, 48, 49, 86, 87, 88, 55, 89, 90, 201, 202, 203, 204, 52, 53, 54, 56, 57, 58, 59, 60, 61, 62, 63, 205, 206, 207, 208, 209, 114, 115, 116, 95, 145, 146, 147, 148, 149, 28, 29, 30, 31, 69, 70, 71, 72, 73, 210, 211, 212, 213, 104, 105, 106, 107, 109, 110, 111, 112, 113, 50, 51, 117, 118, 119, 120, 121, 122, 123, 124, 125, 126, 127, 128, 214, 215, 216, 217, 238, 239, 240, 241, 235, 236, 237, 242, 243, 244, 245, 246, 247, 248, 249, 250, 251, 252, 253, 254, 255, 256, 257] (by decide +kernel) (by decide +kernel)
set_option maxRecDepth 20000 in
theorem gX4_receivers_X0_selection : GoodIn wsX4_receivers (wsV RX4 91 RX0 yX0_selection wsX0_selection) := goodIn_app (goodIn_of _ (by decide +kernel)) ggX4_receivers_X0_selection
set_option maxRecDepth 20000 in
theorem ggX4_receivers_X4_isSuchReceiver : GoodIn wsX4_receivers wsX4_isSuchReceiver := goodIn_r _ [221, 222, 20, 6, 21, 4, 5, 7, 223, 224, 225, 226, 3, 227, 228, 229, 55, 230, 59, 58, 231, 232, 233, 234, 235, 236, 237, 252, 253, 254, 255, 256, 257] (by decide +kernel) (by decide +kernel)
set_option maxRecDepth 20000 in
theorem gX4_receivers_X4_isSuchReceiver : GoodIn wsX4_receivers (wsV RX4 101 RX4 yX4_isSuchReceiver wsX4_isSuchReceiver) := goodIn_app (goodIn_of _ (by decide +kernel)) ggX4_receivers_X4_isSuchReceiver
theorem dX4_receivers_0 : decode cX4_receivers 0 = .ok (.iload_n 1, 1) := by decide +kernel
theorem dX4_receivers_1 : decode cX4_receivers 1 = .ok (.aload_n 0, 1) := by decide +kernel
theorem dX4_receivers_2 : decode cX4_receivers 2 = .ok (.getfield 23, 3) := by decide +kernel
theorem dX4_receivers_5 : decode cX4_receivers 5 = .ok (.invokestatic 34, 3) := by decide +kernel
theorem dX4_receivers_8 : decode cX4_receivers 8 = .ok (.ifCond .eq 11, 3) := by decide +kernel
theorem dX4_receivers_11 : decode cX4_receivers 11 = .ok (.iload_n 2, 1) := by decide +kernel
theorem dX4_receivers_12 : decode cX4_receivers 12 = .ok (.iconst 4, 1) := by decide +kernel
theorem dX4_receivers_13 : decode cX4_receivers 13 = .ok (.invokestatic 34, 3) := by decide +kernel
theorem dX4_receivers_16 : decode cX4_receivers 16 = .ok (.ifCond .ne 5, 3) := by decide +kernel
theorem dX4_receivers_19 : decode cX4_receivers 19 = .ok (.iconst (-1), 1) := by decide +kernel
theorem dX4_receivers_20 : decode cX4_receivers 20 = .ok (.ireturn, 1) := by decide +kernel
theorem dX4_receivers_21 : decode cX4_receivers 21 = .ok (.aload_n 0, 1) := by decide +kernel
theorem dX4_receivers_22 : decode cX4_receivers 22 = .ok (.getfield 18, 3) := by decide +kernel
theorem dX4_receivers_25 : decode cX4_receivers 25 = .ok (.iload_n 1, 1) := by decide +kernel
theorem dX4_receivers_26 : decode cX4_receivers 26 = .ok (.aaload, 1) := by decide +kernel
theorem dX4_receivers_27 : decode cX4_receivers 27 = .ok (.astore_n 3, 1) := by decide +kernel
theorem dX4_receivers_28 : decode cX4_receivers 28 = .ok (.aload_n 0, 1) := by decide +kernel
theorem dX4_receivers_29 : decode cX4_receivers 29 = .ok (.getfield 12, 3) := by decide +kernel
theorem dX4_receivers_32 : decode cX4_receivers 32 = .ok (.iconst 0, 1) := by decide +kernel
theorem dX4_receivers_33 : decode cX4_receivers 33 = .ok (.aaload, 1) := by decide +kernel
theorem dX4_receivers_34 : decode cX4_receivers 34 = .ok (.aload_n 3, 1) := by decide +kernel
theorem dX4_receivers_35 : decode cX4_receivers 35 = .ok (.invokevirtual 87, 3) := by decide +kernel
theorem dX4_receivers_38 : decode cX4_receivers 38 = .ok (.istore 4, 2) := by decide +kernel
theorem dX4_receivers_40 : decode cX4_receivers 40 = .ok (.aload_n 0, 1) := by decide +kernel
theorem dX4_receivers_41 : decode cX4_receivers 41 = .ok (.getfield 12, 3) := by decide +kernel
theorem dX4_receivers_44 : decode cX4_receivers 44 = .ok (.iconst 1, 1) := by decide +kernel
theorem dX4_receivers_45 : decode cX4_receivers 45 = .ok (.aaload, 1) := by decide +kernel
theorem dX4_receivers_46 : decode cX4_receivers 46 = .ok (.aload_n 3, 1) := by decide +kernel
theorem dX4_receivers_47 : decode cX4_receivers 47 = .ok (.invokevirtual 87, 3) := by decide +kernel
theorem dX4_receivers_50 : decode cX4_receivers 50 = .ok (.istore 5, 2) := by decide +kernel
theorem dX4_receivers_52 : decode cX4_receivers 52 = .ok (.iconst 0, 1) := by decide +kernel
theorem dX4_receivers_53 : decode cX4_receivers 53 = .ok (.istore 6, 2) := by decide +kernel
theorem dX4_receivers_55 : decode cX4_receivers 55 = .ok (.iconst 0, 1) := by decide +kernel
theorem dX4_receivers_56 : decode cX4_receivers 56 = .ok (.istore 7, 2) := by decide +kernel
theorem dX4_receivers_58 : decode cX4_receivers 58 = .ok (.iload 7, 2) := by decide +kernel
theorem dX4_receivers_60 : decode cX4_receivers 60 = .ok (.bipush 12, 2) := by decide +kernel
theorem dX4_receivers_62 : decode cX4_receivers 62 = .ok (.if_icmp .ge 63, 3) := by decide +kernel
theorem dX4_receivers_65 : decode cX4_receivers 65 = .ok (.aload_n 0, 1) := by decide +kernel
theorem dX4_receivers_66 : decode cX4_receivers 66 = .ok (.getfield 12, 3) := by decide +kernel
theorem dX4_receivers_69 : decode cX4_receivers 69 = .ok (.iconst 0, 1) := by decide +kernel
theorem dX4_receivers_70 : decode cX4_receivers 70 = .ok (.aaload, 1) := by decide +kernel
theorem dX4_receivers_71 : decode cX4_receivers 71 = .ok (.aload_n 3, 1) := by decide +kernel
theorem dX4_receivers_72 : decode cX4_receivers 72 = .ok (.iload 4, 2) := by decide +kernel
theorem dX4_receivers_74 : decode cX4_receivers 74 = .ok (.iload 7, 2) := by decide +kernel
theorem dX4_receivers_76 : decode cX4_receivers 76 = .ok (.invokevirtual 91, 3) := by decide +kernel
theorem dX4_receivers_79 : decode cX4_receivers 79 = .ok (.istore 8, 2) := by decide +kernel
theorem dX4_receivers_81 : decode cX4_receivers 81 = .ok (.aload_n 0, 1) := by decide +kernel
theorem dX4_receivers_82 : decode cX4_receivers 82 = .ok (.getfield 12, 3) := by decide +kernel
theorem dX4_receivers_85 : decode cX4_receivers 85 = .ok (.iconst 1, 1) := by decide +kernel
theorem dX4_receivers_86 : decode cX4_receivers 86 = .ok (.aaload, 1) := by decide +kernel
theorem dX4_receivers_87 : decode cX4_receivers 87 = .ok (.aload_n 3, 1) := by decide +kernel
theorem dX4_receivers_88 : decode cX4_receivers 88 = .ok (.iload 5, 2) := by decide +kernel
theorem dX4_receivers_90 : decode cX4_receivers 90 = .ok (.iload 7, 2) := by decide +kernel
theorem dX4_receivers_92 : decode cX4_receivers 92 = .ok (.invokevirtual 91, 3) := by decide +kernel
theorem dX4_receivers_95 : decode cX4_receivers 95 = .ok (.istore 9, 2) := by decide +kernel
theorem dX4_receivers_97 : decode cX4_receivers 97 = .ok (.iload 6, 2) := by decide +kernel
theorem dX4_receivers_99 : decode cX4_receivers 99 = .ok (.aload_n 0, 1) := by decide +kernel
theorem dX4_receivers_100 : decode cX4_receivers 100 = .ok (.iload_n 2, 1) := by decide +kernel
theorem dX4_receivers_101 : decode cX4_receivers 101 = .ok (.iload 8, 2) := by decide +kernel
theorem dX4_receivers_103 : decode cX4_receivers 103 = .ok (.iload 9, 2) := by decide +kernel
theorem dX4_receivers_105 : decode cX4_receivers 105 = .ok (.invokevirtual 101, 3) := by decide +kernel
theorem dX4_receivers_108 : decode cX4_receivers 108 = .ok (.ifCond .eq 7, 3) := by decide +kernel
theorem dX4_receivers_111 : decode cX4_receivers 111 = .ok (.iconst 1, 1) := by decide +kernel
theorem dX4_receivers_112 : decode cX4_receivers 112 = .ok (.goto 4, 3) := by decide +kernel
theorem dX4_receivers_115 : decode cX4_receivers 115 = .ok (.iconst 0, 1) := by decide +kernel
theorem dX4_receivers_116 : decode cX4_receivers 116 = .ok (.iadd, 1) := by decide +kernel
theorem dX4_receivers_117 : decode cX4_receivers 117 = .ok (.istore 6, 2) := by decide +kernel
theorem dX4_receivers_119 : decode cX4_receivers 119 = .ok (.iinc 7 1, 3) := by decide +kernel
theorem dX4_receivers_122 : decode cX4_receivers 122 = .ok (.goto (-64), 3) := by decide +kernel
theorem dX4_receivers_125 : decode cX4_receivers 125 = .ok (.iload 6, 2) := by decide +kernel
theorem dX4_receivers_127 : decode cX4_receivers 127 = .ok (.ireturn, 1) := by decide +kernel
set_option maxRecDepth 20000 in
theorem ggX4_isUnder_X4_isWithin : GoodIn wsX4_isUnder wsX4_isWithin := goodIn_r _ [5] (by decide +kernel) (by decide +kernel)
set_option maxRecDepth 20000 in
theorem gX4_isUnder_X4_isWithin : GoodIn wsX4_isUnder (va_wsS RX4 34 yX4_isWithin wsX4_isWithin) := goodIn_app (goodIn_of _ (by decide +kernel)) ggX4_isUnder_X4_isWithin
set_option maxRecDepth 20000 in
theorem ggX4_isUnder_X1_loading : GoodIn wsX4_isUnder wsX1_loading := goodIn_r _ [10, 11, 30, 31, 32, 33, 34, 35, 36, 37, 38, 39] (by decide +kernel) (by decide +kernel)
set_option maxRecDepth 20000 in
theorem gX4_isUnder_X1_loading : GoodIn wsX4_isUnder (wsV RX4 83 RX1 yX1_loading wsX1_loading) := goodIn_app (goodIn_of _ (by decide +kernel)) ggX4_isUnder_X1_loading
set_option maxRecDepth 20000 in
theorem ggX4_isUnder_X4_isGood : GoodIn wsX4_isUnder wsX4_isGood := goodIn_r _ [14, 2, 3, 4, 5] (by decide +kernel) (by decide +kernel)
set_option maxRecDepth 20000 in
theorem gX4_isUnder_X4_isGood : GoodIn wsX4_isUnder (va_wsS RX4 98 yX4_isGood wsX4_isGood) := goodIn_app (goodIn_of _ (by decide +kernel)) ggX4_isUnder_X4_isGood
set_option maxRecDepth 20000 in
theorem ggX4_isUnder_X1_liesUnder : GoodIn wsX4_isUnder wsX1_liesUnder := goodIn_r _ [18, 19, 20, 21, 4, 22, 30, 31, 32, 33, 34, 35, 36, 37, 38, 39] (by decide +kernel) (by decide +kernel)
set_option maxRecDepth 20000 in
theorem gX4_isUnder_X1_liesUnder : GoodIn wsX4_isUnder (wsV RX4 104 RX1 yX1_liesUnder wsX1_liesUnder) := goodIn_app (goodIn_of _ (by decide +kernel)) ggX4_isUnder_X1_liesUnder
theorem dX4_isUnder_0 : decode cX4_isUnder 0 = .ok (.iload_n 1, 1) := by decide +kernel
theorem dX4_isUnder_1 : decode cX4_isUnder 1 = .ok (.iconst 2, 1) := by decide +kernel
theorem dX4_isUnder_2 : decode cX4_isUnder 2 = .ok (.invokestatic 34, 3) := by decide +kernel
theorem dX4_isUnder_5 : decode cX4_isUnder 5 = .ok (.ifCond .eq 21, 3) := by decide +kernel
theorem dX4_isUnder_8 : decode cX4_isUnder 8 = .ok (.iload_n 2, 1) := by decide +kernel
theorem dX4_isUnder_9 : decode cX4_isUnder 9 = .ok (.bipush 12, 2) := by decide +kernel
theorem dX4_isUnder_11 : decode cX4_isUnder 11 = .ok (.invokestatic 34, 3) := by decide +kernel
theorem dX4_isUnder_14 : decode cX4_isUnder 14 = .ok (.ifCond .eq 12, 3) := by decide +kernel
theorem dX4_isUnder_17 : decode cX4_isUnder 17 = .ok (.iload_n 3, 1) := by decide +kernel
theorem dX4_isUnder_18 : decode cX4_isUnder 18 = .ok (.bipush 12, 2) := by decide +kernel
theorem dX4_isUnder_20 : decode cX4_isUnder 20 = .ok (.invokestatic 34, 3) := by decide +kernel
theorem dX4_isUnder_23 : decode cX4_isUnder 23 = .ok (.ifCond .ne 5, 3) := by decide +kernel
theorem dX4_isUnder_26 : decode cX4_isUnder 26 = .ok (.iconst 0, 1) := by decide +kernel
theorem dX4_isUnder_27 : decode cX4_isUnder 27 = .ok (.ireturn, 1) := by decide +kernel
theorem dX4_isUnder_28 : decode cX4_isUnder 28 = .ok (.aload_n 0, 1) := by decide +kernel
theorem dX4_isUnder_29 : decode cX4_isUnder 29 = .ok (.getfield 12, 3) := by decide +kernel
theorem dX4_isUnder_32 : decode cX4_isUnder 32 = .ok (.iload_n 1, 1) := by decide +kernel
theorem dX4_isUnder_33 : decode cX4_isUnder 33 = .ok (.aaload, 1) := by decide +kernel
theorem dX4_isUnder_34 : decode cX4_isUnder 34 = .ok (.getfield 38, 3) := by decide +kernel
theorem dX4_isUnder_37 : decode cX4_isUnder 37 = .ok (.astore 4, 2) := by decide +kernel
theorem dX4_isUnder_39 : decode cX4_isUnder 39 = .ok (.aload 4, 2) := by decide +kernel
theorem dX4_isUnder_41 : decode cX4_isUnder 41 = .ok (.iload_n 2, 1) := by decide +kernel
theorem dX4_isUnder_42 : decode cX4_isUnder 42 = .ok (.invokevirtual 83, 3) := by decide +kernel
theorem dX4_isUnder_45 : decode cX4_isUnder 45 = .ok (.invokestatic 98, 3) := by decide +kernel
theorem dX4_isUnder_48 : decode cX4_isUnder 48 = .ok (.ifCond .eq 29, 3) := by decide +kernel
theorem dX4_isUnder_51 : decode cX4_isUnder 51 = .ok (.aload 4, 2) := by decide +kernel
theorem dX4_isUnder_53 : decode cX4_isUnder 53 = .ok (.iload_n 3, 1) := by decide +kernel
theorem dX4_isUnder_54 : decode cX4_isUnder 54 = .ok (.invokevirtual 83, 3) := by decide +kernel
theorem dX4_isUnder_57 : decode cX4_isUnder 57 = .ok (.invokestatic 98, 3) := by decide +kernel
theorem dX4_isUnder_60 : decode cX4_isUnder 60 = .ok (.ifCond .eq 17, 3) := by decide +kernel
theorem dX4_isUnder_63 : decode cX4_isUnder 63 = .ok (.aload 4, 2) := by decide +kernel
theorem dX4_isUnder_65 : decode cX4_isUnder 65 = .ok (.iload_n 2, 1) := by decide +kernel
theorem dX4_isUnder_66 : decode cX4_isUnder 66 = .ok (.iload_n 3, 1) := by decide +kernel
theorem dX4_isUnder_67 : decode cX4_isUnder 67 = .ok (.invokevirtual 104, 3) := by decide +kernel
theorem dX4_isUnder_70 : decode cX4_isUnder 70 = .ok (.ifCond .eq 7, 3) := by decide +kernel
theorem dX4_isUnder_73 : decode cX4_isUnder 73 = .ok (.iconst 1, 1) := by decide +kernel
theorem dX4_isUnder_74 : decode cX4_isUnder 74 = .ok (.goto 4, 3) := by decide +kernel
theorem dX4_isUnder_77 : decode cX4_isUnder 77 = .ok (.iconst 0, 1) := by decide +kernel
theorem dX4_isUnder_78 : decode cX4_isUnder 78 = .ok (.ireturn, 1) := by decide +kernel
set_option maxRecDepth 20000 in
theorem ggX4_count_X4_isWithin : GoodIn wsX4_count wsX4_isWithin := goodIn_r _ [5] (by decide +kernel) (by decide +kernel)
set_option maxRecDepth 20000 in
theorem gX4_count_X4_isWithin : GoodIn wsX4_count (va_wsS RX4 34 yX4_isWithin wsX4_isWithin) := goodIn_app (goodIn_of _ (by decide +kernel)) ggX4_count_X4_isWithin
set_option maxRecDepth 20000 in
theorem ggX4_count_X1_countThere : GoodIn wsX4_count wsX1_countThere := goodIn_r _ [10, 11, 12, 13, 14, 15, 16, 17, 18, 232, 233, 234, 235, 236, 237, 238, 239, 240, 241] (by decide +kernel) (by decide +kernel)
set_option maxRecDepth 20000 in
theorem gX4_count_X1_countThere : GoodIn wsX4_count (wsV RX4 75 RX1 yX1_countThere wsX1_countThere) := goodIn_app (goodIn_of _ (by decide +kernel)) ggX4_count_X1_countThere
set_option maxRecDepth 20000 in
theorem ggX4_count_X2_countPresent : GoodIn wsX4_count wsX2_countPresent := goodIn_r _ [23, 24, 25, 26, 13, 14, 15, 16, 17, 18, 242, 243, 244, 245, 246, 247] (by decide +kernel) (by decide +kernel)
set_option maxRecDepth 20000 in
theorem gX4_count_X2_countPresent : GoodIn wsX4_count (wsV RX4 107 RX2 yX2_countPresent wsX2_countPresent) := goodIn_app (goodIn_of _ (by decide +kernel)) ggX4_count_X2_countPresent
set_option maxRecDepth 20000 in
theorem ggX4_count_X2_countAll : GoodIn wsX4_count wsX2_countAll := goodIn_r _ [30, 24, 242, 243, 244, 245, 246, 247] (by decide +kernel) (by decide +kernel)
set_option maxRecDepth 20000 in
theorem gX4_count_X2_countAll : GoodIn wsX4_count (wsV RX4 110 RX2 yX2_countAll wsX2_countAll) := goodIn_app (goodIn_of _ (by decide +kernel)) ggX4_count_X2_countAll
set_option maxRecDepth 20000 in
theorem ggX4_count_X4_countGoodReferences : GoodIn wsX4_count wsX4_countGoodReferences := goodIn_r _ [34, 35, 36, 37, 38, 39, 40, 41, 42, 43, 44, 45, 9, 46, 47, 48, 4, 49, 2, 3, 5, 50, 51, 52, 53, 54, 55, 56, 57, 58, 59, 60, 61, 62, 63, 64, 65, 66, 67, 68, 69, 70, 71, 72, 73, 74, 75, 76, 77, 78, 79, 80, 81, 82, 22, 83, 24, 84, 85, 25, 86, 87, 88, 89, 90, 91, 92, 93, 94, 95, 96, 97, 98, 99, 100, 101, 102, 103, 104, 105, 106, 107, 108, 109, 110, 111, 112, 113, 114, 115, 116, 117, 118, 119, 120, 121, 122, 123, 124, 125, 126, 127, 128, 129, 130, 131, 132, 133, 134, 135, 136, 137, 138, 139, 140, 141, 142, 143, 144, 145, 146, 147, 148, 149, 150, 151, 152, 153, 154, 155, 156, 157, 158, 159, 160, 161, 162, 163, 164, 165, 166, 167, 168, 169, 170, 171, 172, 173, 174, 175, 176, 177, 178, 179, 180, 181, 182, 183, 184, 185, 186, 187, 188, 189, 190, 191, 192, 193, 194, 195, 196, 11, 197, 198, 199, 200, 201, 202, 203, 204, 205, 206, 207, 208, 209, 225, 226, 227, 228, 229, 230, 231, 248, 249, 250, 251, 232, 233, 234, 235, 236, 237, 238, 239, 240, 241, 242, 243, 244, 245, 246, 247] (by decide +kernel) (by decide +kernel)
set_option maxRecDepth 20000 in
theorem gX4_count_X4_countGoodReferences : GoodIn wsX4_count (wsV RX4 113 RX4 yX4_countGoodReferences wsX4_countGoodReferences) := goodIn_app (goodIn_of _ (by decide +kernel)) ggX4_count_X4_countGoodReferences
set_option maxRecDepth 20000 in
theorem ggX4_count_X1_countLoaded : GoodIn wsX4_count wsX1_countLoaded := goodIn_r _ [213, 214, 12, 13, 14, 15, 16, 17, 18, 232, 233, 234, 235, 236, 237, 238, 239, 240, 241] (by decide +kernel) (by decide +kernel)
set_option maxRecDepth 20000 in
theorem gX4_count_X1_countLoaded : GoodIn wsX4_count (wsV RX4 117 RX1 yX1_countLoaded wsX1_countLoaded) := goodIn_app (goodIn_of _ (by decide +kernel)) ggX4_count_X1_countLoaded
set_option maxRecDepth 20000 in
theorem ggX4_count_X2_countAbstractMethods : GoodIn wsX4_count wsX2_countAbstractMethods := goodIn_r _ [218, 24, 84, 25, 219, 151, 152, 22, 153, 120, 76, 4, 77, 242, 243, 244, 245, 246, 247] (by decide +kernel) (by decide +kernel)
set_option maxRecDepth 20000 in
theorem gX4_count_X2_countAbstractMethods : GoodIn wsX4_count (wsV RX4 120 RX2 yX2_countAbstractMethods wsX2_countAbstractMethods) := goodIn_app (goodIn_of _ (by decide +kernel)) ggX4_count_X2_countAbstractMethods
set_option maxRecDepth 20000 in
theorem ggX4_count_X1_nestSharers : GoodIn wsX4_count wsX1_nestSharers := goodIn_r _ [223, 193, 194, 195, 9, 196, 11, 76, 4, 77, 224, 189, 190, 191, 192, 55, 56, 57, 58, 59, 78, 79, 232, 233, 234, 235, 236, 237, 238, 239, 240, 241] (by decide +kernel) (by decide +kernel)
set_option maxRecDepth 20000 in
theorem gX4_count_X1_nestSharers : GoodIn wsX4_count (wsV RX4 123 RX1 yX1_nestSharers wsX1_nestSharers) := goodIn_app (goodIn_of _ (by decide +kernel)) ggX4_count_X1_nestSharers
theorem dX4_count_0 : decode cX4_count 0 = .ok (.iload_n 1, 1) := by decide +kernel
theorem dX4_count_1 : decode cX4_count 1 = .ok (.iconst 2, 1) := by decide +kernel
theorem dX4_count_2 : decode cX4_count 2 = .ok (.invokestatic 34, 3) := by decide +kernel
theorem dX4_count_5 : decode cX4_count 5 = .ok (.ifCond .ne 5, 3) := by decide +kernel
theorem dX4_count_8 : decode cX4_count 8 = .ok (.iconst (-1), 1) := by decide +kernel
theorem dX4_count_9 : decode cX4_count 9 = .ok (.ireturn, 1) := by decide +kernel
theorem dX4_count_10 : decode cX4_count 10 = .ok (.aload_n 0, 1) := by decide +kernel
theorem dX4_count_11 : decode cX4_count 11 = .ok (.getfield 12, 3) := by decide +kernel
theorem dX4_count_14 : decode cX4_count 14 = .ok (.iload_n 1, 1) := by decide +kernel
theorem dX4_count_15 : decode cX4_count 15 = .ok (.aaload, 1) := by decide +kernel
theorem dX4_count_16 : decode cX4_count 16 = .ok (.astore_n 3, 1) := by decide +kernel
theorem dX4_count_17 : decode cX4_count 17 = .ok (.iload_n 2, 1) := by decide +kernel
theorem dX4_count_18 : decode cX4_count 18 = .ok (.tableswitch 96 0 6 #[42, 50, 58, 66, 72, 80, 88], 42) := by decide +kernel
theorem dX4_count_60 : decode cX4_count 60 = .ok (.aload_n 3, 1) := by decide +kernel
theorem dX4_count_61 : decode cX4_count 61 = .ok (.getfield 38, 3) := by decide +kernel
theorem dX4_count_64 : decode cX4_count 64 = .ok (.invokevirtual 75, 3) := by decide +kernel
theorem dX4_count_67 : decode cX4_count 67 = .ok (.ireturn, 1) := by decide +kernel
theorem dX4_count_68 : decode cX4_count 68 = .ok (.aload_n 3, 1) := by decide +kernel
theorem dX4_count_69 : decode cX4_count 69 = .ok (.getfield 58, 3) := by decide +kernel
theorem dX4_count_72 : decode cX4_count 72 = .ok (.invokevirtual 107, 3) := by decide +kernel
theorem dX4_count_75 : decode cX4_count 75 = .ok (.ireturn, 1) := by decide +kernel
theorem dX4_count_76 : decode cX4_count 76 = .ok (.aload_n 3, 1) := by decide +kernel
theorem dX4_count_77 : decode cX4_count 77 = .ok (.getfield 58, 3) := by decide +kernel
theorem dX4_count_80 : decode cX4_count 80 = .ok (.invokevirtual 110, 3) := by decide +kernel
theorem dX4_count_83 : decode cX4_count 83 = .ok (.ireturn, 1) := by decide +kernel
theorem dX4_count_84 : decode cX4_count 84 = .ok (.aload_n 0, 1) := by decide +kernel
theorem dX4_count_85 : decode cX4_count 85 = .ok (.aload_n 3, 1) := by decide +kernel
theorem dX4_count_86 : decode cX4_count 86 = .ok (.invokevirtual 113, 3) := by decide +kernel
theorem dX4_count_89 : decode cX4_count 89 = .ok (.ireturn, 1) := by decide +kernel
theorem dX4_count_90 : decode cX4_count 90 = .ok (.aload_n 3, 1) := by decide +kernel
theorem dX4_count_91 : decode cX4_count 91 = .ok (.getfield 38, 3) := by decide +kernel
theorem dX4_count_94 : decode cX4_count 94 = .ok (.invokevirtual 117, 3) := by decide +kernel
theorem dX4_count_97 : decode cX4_count 97 = .ok (.ireturn, 1) := by decide +kernel
theorem dX4_count_98 : decode cX4_count 98 = .ok (.aload_n 3, 1) := by decide +kernel
theorem dX4_count_99 : decode cX4_count 99 = .ok (.getfield 58, 3) := by decide +kernel
theorem dX4_count_102 : decode cX4_count 102 = .ok (.invokevirtual 120, 3) := by decide +kernel
theorem dX4_count_105 : decode cX4_count 105 = .ok (.ireturn, 1) := by decide +kernel
theorem dX4_count_106 : decode cX4_count 106 = .ok (.aload_n 3, 1) := by decide +kernel
theorem dX4_count_107 : decode cX4_count 107 = .ok (.getfield 38, 3) := by decide +kernel
theorem dX4_count_110 : decode cX4_count 110 = .ok (.invokevirtual 123, 3) := by decide +kernel
theorem dX4_count_113 : decode cX4_count 113 = .ok (.ireturn, 1) := by decide +kernel
theorem dX4_count_114 : decode cX4_count 114 = .ok (.iconst (-1), 1) := by decide +kernel
theorem dX4_count_115 : decode cX4_count 115 = .ok (.ireturn, 1) := by decide +kernel
set_option maxRecDepth 20000 in
theorem ggX4_countGoodReferences_X0_resolution : GoodIn wsX4_countGoodReferences wsX0_resolution := goodIn_r _ [7, 8, 9, 10, 11, 12, 13, 14, 15, 16, 17, 18, 19, 20, 21, 22, 23, 24, 25, 26, 27, 28, 29, 30, 31, 32, 33, 34, 35, 36, 37, 38, 39, 6, 40, 41, 42, 43, 44, 45, 46, 47, 48, 49, 50, 51, 52, 53, 54, 55, 56, 57, 58, 59, 60, 61, 62, 63, 64, 65, 66, 67, 68, 69, 70, 71, 72, 73, 74, 75, 76, 77, 78, 79, 80, 81, 82, 83, 84, 85, 86, 87, 88, 89, 90, 91, 92, 93, 94, 95, 96, 97, 98, 99, 100, 101, 102, 103, 104, 105, 106, 107, 108, 109, 110, 111, 112, 113, 114, 115, 116, 117, 118, 119, 120, 121, 122, 123, 124, 125, 126, 127, 128, 129, 130, 131, 132, 133, 134, 135, 136, 137, 138, 139, 140, 141, 142, 143, 144, 145, 146, 147, 148, 149, 150, 151, 152, 153, 154, 155, 156, 157, 158, 159, 160, 161, 162, 163, 164, 165, 166, 167, 168, 169, 170, 171, 172, 173, 174, 175, 176, 177, 178, 179, 180, 181, 182, 183, 189, 190, 191, 192, 193, 194, 195, 196, 197, 198, 199, 200, 201, 202, 203, 204, 205, 206, 207, 208, 209, 210, 211] (by decide +kernel) (by decide +kernel)
set_option maxRecDepth 20000 in
theorem gX4_countGoodReferences_X0_resolution : GoodIn wsX4_countGoodReferences (wsV RX4 87 RX0 yX0_resolution wsX0_resolution) := goodIn_app (goodIn_of _ (by decide +kernel)) ggX4_countGoodReferences_X0_resolution
set_option maxRecDepth 20000 in
theorem ggX4_countGoodReferences_X4_isGood : GoodIn wsX4_countGoodReferences wsX4_isGood := goodIn_r _ [17, 18, 19, 16, 20] (by decide +kernel) (by decide +kernel)
set_option maxRecDepth 20000 in
theorem gX4_countGoodReferences_X4_isGood : GoodIn wsX4_countGoodReferences (va_wsS RX4 98 yX4_isGood wsX4_isGood) := goodIn_app (goodIn_of _ (by decide +kernel)) ggX4_countGoodReferences_X4_isGood
theorem dX4_countGoodReferences_0 : decode cX4_countGoodReferences 0 = .ok (.iconst 0, 1) := by decide +kernel
theorem dX4_countGoodReferences_1 : decode cX4_countGoodReferences 1 = .ok (.istore_n 2, 1) := by decide +kernel
theorem dX4_countGoodReferences_2 : decode cX4_countGoodReferences 2 = .ok (.iconst 0, 1) := by decide +kernel
theorem dX4_countGoodReferences_3 : decode cX4_countGoodReferences 3 = .ok (.istore_n 3, 1) := by decide +kernel
theorem dX4_countGoodReferences_4 : decode cX4_countGoodReferences 4 = .ok (.iload_n 3, 1) := by decide +kernel
theorem dX4_countGoodReferences_5 : decode cX4_countGoodReferences 5 = .ok (.aload_n 0, 1) := by decide +kernel
theorem dX4_countGoodReferences_6 : decode cX4_countGoodReferences 6 = .ok (.getfield 23, 3) := by decide +kernel
theorem dX4_countGoodReferences_9 : decode cX4_countGoodReferences 9 = .ok (.if_icmp .ge 33, 3) := by decide +kernel
theorem dX4_countGoodReferences_12 : decode cX4_countGoodReferences 12 = .ok (.iload_n 2, 1) := by decide +kernel
theorem dX4_countGoodReferences_13 : decode cX4_countGoodReferences 13 = .ok (.aload_n 1, 1) := by decide +kernel
theorem dX4_countGoodReferences_14 : decode cX4_countGoodReferences 14 = .ok (.aload_n 0, 1) := by decide +kernel
theorem dX4_countGoodReferences_15 : decode cX4_countGoodReferences 15 = .ok (.getfield 18, 3) := by decide +kernel
theorem dX4_countGoodReferences_18 : decode cX4_countGoodReferences 18 = .ok (.iload_n 3, 1) := by decide +kernel
theorem dX4_countGoodReferences_19 : decode cX4_countGoodReferences 19 = .ok (.aaload, 1) := by decide +kernel
theorem dX4_countGoodReferences_20 : decode cX4_countGoodReferences 20 = .ok (.invokevirtual 87, 3) := by decide +kernel
theorem dX4_countGoodReferences_23 : decode cX4_countGoodReferences 23 = .ok (.invokestatic 98, 3) := by decide +kernel
theorem dX4_countGoodReferences_26 : decode cX4_countGoodReferences 26 = .ok (.ifCond .eq 7, 3) := by decide +kernel
theorem dX4_countGoodReferences_29 : decode cX4_countGoodReferences 29 = .ok (.iconst 1, 1) := by decide +kernel
theorem dX4_countGoodReferences_30 : decode cX4_countGoodReferences 30 = .ok (.goto 4, 3) := by decide +kernel
theorem dX4_countGoodReferences_33 : decode cX4_countGoodReferences 33 = .ok (.iconst 0, 1) := by decide +kernel
theorem dX4_countGoodReferences_34 : decode cX4_countGoodReferences 34 = .ok (.iadd, 1) := by decide +kernel
theorem dX4_countGoodReferences_35 : decode cX4_countGoodReferences 35 = .ok (.istore_n 2, 1) := by decide +kernel
theorem dX4_countGoodReferences_36 : decode cX4_countGoodReferences 36 = .ok (.iinc 3 1, 3) := by decide +kernel
theorem dX4_countGoodReferences_39 : decode cX4_countGoodReferences 39 = .ok (.goto (-35), 3) := by decide +kernel
theorem dX4_countGoodReferences_42 : decode cX4_countGoodReferences 42 = .ok (.iload_n 2, 1) := by decide +kernel
theorem dX4_countGoodReferences_43 : decode cX4_countGoodReferences 43 = .ok (.ireturn, 1) := by decide +kernel
set_option maxRecDepth 20000 in
theorem ggX4_isSuchReceiver_X4_isGood : GoodIn wsX4_isSuchReceiver wsX4_isGood := goodIn_r _ [4, 5, 6, 3, 7] (by decide +kernel) (by decide +kernel)
set_option maxRecDepth 20000 in
theorem gX4_isSuchReceiver_X4_isGood : GoodIn wsX4_isSuchReceiver (va_wsS RX4 98 yX4_isGood wsX4_isGood) := goodIn_app (goodIn_of _ (by decide +kernel)) ggX4_isSuchReceiver_X4_isGood
set_option maxRecDepth 20000 in
theorem ggX4_isSuchReceiver_X4_areAlike : GoodIn wsX4_isSuchReceiver wsX4_areAlike := goodIn_r _ [11, 12, 13, 14, 15, 16, 17, 18, 19, 20, 21, 22, 23, 24, 25, 26, 27, 28, 29, 30, 31, 32] (by decide +kernel) (by decide +kernel)
set_option maxRecDepth 20000 in
theorem gX4_isSuchReceiver_X4_areAlike : GoodIn wsX4_isSuchReceiver (wsV RX4 95 RX4 yX4_areAlike wsX4_areAlike) := goodIn_app (goodIn_of _ (by decide +kernel)) ggX4_isSuchReceiver_X4_areAlike
theorem dX4_isSuchReceiver_0 : decode cX4_isSuchReceiver 0 = .ok (.iload_n 1, 1) := by decide +kernel
theorem dX4_isSuchReceiver_1 : decode cX4_isSuchReceiver 1 = .ok (.tableswitch 57 0 2 #[27, 32, 37], 27) := by decide +kernel
theorem dX4_isSuchReceiver_28 : decode cX4_isSuchReceiver 28 = .ok (.iload_n 2, 1) := by decide +kernel
theorem dX4_isSuchReceiver_29 : decode cX4_isSuchReceiver 29 = .ok (.invokestatic 98, 3) := by decide +kernel
theorem dX4_isSuchReceiver_32 : decode cX4_isSuchReceiver 32 = .ok (.ireturn, 1) := by decide +kernel
theorem dX4_isSuchReceiver_33 : decode cX4_isSuchReceiver 33 = .ok (.iload_n 3, 1) := by decide +kernel
theorem dX4_isSuchReceiver_34 : decode cX4_isSuchReceiver 34 = .ok (.invokestatic 98, 3) := by decide +kernel
theorem dX4_isSuchReceiver_37 : decode cX4_isSuchReceiver 37 = .ok (.ireturn, 1) := by decide +kernel
theorem dX4_isSuchReceiver_38 : decode cX4_isSuchReceiver 38 = .ok (.iload_n 2, 1) := by decide +kernel
theorem dX4_isSuchReceiver_39 : decode cX4_isSuchReceiver 39 = .ok (.invokestatic 98, 3) := by decide +kernel
theorem dX4_isSuchReceiver_42 : decode cX4_isSuchReceiver 42 = .ok (.ifCond .eq 14, 3) := by decide +kernel
theorem dX4_isSuchReceiver_45 : decode cX4_isSuchReceiver 45 = .ok (.iload_n 3, 1) := by decide +kernel
theorem dX4_isSuchReceiver_46 : decode cX4_isSuchReceiver 46 = .ok (.invokestatic 98, 3) := by decide +kernel
theorem dX4_isSuchReceiver_49 : decode cX4_isSuchReceiver 49 = .ok (.ifCond .ne 7, 3) := by decide +kernel
theorem dX4_isSuchReceiver_52 : decode cX4_isSuchReceiver 52 = .ok (.iconst 1, 1) := by decide +kernel
theorem dX4_isSuchReceiver_53 : decode cX4_isSuchReceiver 53 = .ok (.goto 4, 3) := by decide +kernel
theorem dX4_isSuchReceiver_56 : decode cX4_isSuchReceiver 56 = .ok (.iconst 0, 1) := by decide +kernel
theorem dX4_isSuchReceiver_57 : decode cX4_isSuchReceiver 57 = .ok (.ireturn, 1) := by decide +kernel
theorem dX4_isSuchReceiver_58 : decode cX4_isSuchReceiver 58 = .ok (.iload_n 2, 1) := by decide +kernel
theorem dX4_isSuchReceiver_59 : decode cX4_isSuchReceiver 59 = .ok (.invokestatic 98, 3) := by decide +kernel
theorem dX4_isSuchReceiver_62 : decode cX4_isSuchReceiver 62 = .ok (.ifCond .eq 23, 3) := by decide +kernel
theorem dX4_isSuchReceiver_65 : decode cX4_isSuchReceiver 65 = .ok (.iload_n 3, 1) := by decide +kernel
theorem dX4_isSuchReceiver_66 : decode cX4_isSuchReceiver 66 = .ok (.invokestatic 98, 3) := by decide +kernel
theorem dX4_isSuchReceiver_69 : decode cX4_isSuchReceiver 69 = .ok (.ifCond .eq 16, 3) := by decide +kernel
theorem dX4_isSuchReceiver_72 : decode cX4_isSuchReceiver 72 = .ok (.aload_n 0, 1) := by decide +kernel
theorem dX4_isSuchReceiver_73 : decode cX4_isSuchReceiver 73 = .ok (.iload_n 2, 1) := by decide +kernel
theorem dX4_isSuchReceiver_74 : decode cX4_isSuchReceiver 74 = .ok (.iload_n 3, 1) := by decide +kernel
theorem dX4_isSuchReceiver_75 : decode cX4_isSuchReceiver 75 = .ok (.invokevirtual 95, 3) := by decide +kernel
theorem dX4_isSuchReceiver_78 : decode cX4_isSuchReceiver 78 = .ok (.ifCond .ne 7, 3) := by decide +kernel
theorem dX4_isSuchReceiver_81 : decode cX4_isSuchReceiver 81 = .ok (.iconst 1, 1) := by decide +kernel
theorem dX4_isSuchReceiver_82 : decode cX4_isSuchReceiver 82 = .ok (.goto 4, 3) := by decide +kernel
theorem dX4_isSuchReceiver_85 : decode cX4_isSuchReceiver 85 = .ok (.iconst 0, 1) := by decide +kernel
theorem dX4_isSuchReceiver_86 : decode cX4_isSuchReceiver 86 = .ok (.ireturn, 1) := by decide +kernel
set_option maxRecDepth 20000 in
theorem ggX4_areAlike_X2_isSameThing : GoodIn wsX4_areAlike wsX2_isSameThing := goodIn_r _ [6, 7, 8, 16, 17, 18, 19, 20, 21] (by decide +kernel) (by decide +kernel)
set_option maxRecDepth 20000 in
theorem gX4_areAlike_X2_isSameThing : GoodIn wsX4_areAlike (wsV RX4 126 RX2 yX2_isSameThing wsX2_isSameThing) := goodIn_app (goodIn_of _ (by decide +kernel)) ggX4_areAlike_X2_isSameThing
theorem dX4_areAlike_0 : decode cX4_areAlike 0 = .ok (.iload_n 1, 1) := by decide +kernel
theorem dX4_areAlike_1 : decode cX4_areAlike 1 = .ok (.bipush 64, 2) := by decide +kernel
theorem dX4_areAlike_3 : decode cX4_areAlike 3 = .ok (.idiv, 1) := by decide +kernel
theorem dX4_areAlike_4 : decode cX4_areAlike 4 = .ok (.iload_n 2, 1) := by decide +kernel
theorem dX4_areAlike_5 : decode cX4_areAlike 5 = .ok (.bipush 64, 2) := by decide +kernel
theorem dX4_areAlike_7 : decode cX4_areAlike 7 = .ok (.idiv, 1) := by decide +kernel
theorem dX4_areAlike_8 : decode cX4_areAlike 8 = .ok (.if_icmp .eq 5, 3) := by decide +kernel
theorem dX4_areAlike_11 : decode cX4_areAlike 11 = .ok (.iconst 0, 1) := by decide +kernel
theorem dX4_areAlike_12 : decode cX4_areAlike 12 = .ok (.ireturn, 1) := by decide +kernel
theorem dX4_areAlike_13 : decode cX4_areAlike 13 = .ok (.iload_n 1, 1) := by decide +kernel
theorem dX4_areAlike_14 : decode cX4_areAlike 14 = .ok (.bipush 64, 2) := by decide +kernel
theorem dX4_areAlike_16 : decode cX4_areAlike 16 = .ok (.irem, 1) := by decide +kernel
theorem dX4_areAlike_17 : decode cX4_areAlike 17 = .ok (.istore_n 3, 1) := by decide +kernel
theorem dX4_areAlike_18 : decode cX4_areAlike 18 = .ok (.iload_n 2, 1) := by decide +kernel
theorem dX4_areAlike_19 : decode cX4_areAlike 19 = .ok (.bipush 64, 2) := by decide +kernel
theorem dX4_areAlike_21 : decode cX4_areAlike 21 = .ok (.irem, 1) := by decide +kernel
theorem dX4_areAlike_22 : decode cX4_areAlike 22 = .ok (.istore 4, 2) := by decide +kernel
theorem dX4_areAlike_24 : decode cX4_areAlike 24 = .ok (.iload_n 3, 1) := by decide +kernel
theorem dX4_areAlike_25 : decode cX4_areAlike 25 = .ok (.bipush 16, 2) := by decide +kernel
theorem dX4_areAlike_27 : decode cX4_areAlike 27 = .ok (.if_icmp .lt 10, 3) := by decide +kernel
theorem dX4_areAlike_30 : decode cX4_areAlike 30 = .ok (.iload 4, 2) := by decide +kernel
theorem dX4_areAlike_32 : decode cX4_areAlike 32 = .ok (.bipush 16, 2) := by decide +kernel
theorem dX4_areAlike_34 : decode cX4_areAlike 34 = .ok (.if_icmp .ge 15, 3) := by decide +kernel
theorem dX4_areAlike_37 : decode cX4_areAlike 37 = .ok (.iload_n 3, 1) := by decide +kernel
theorem dX4_areAlike_38 : decode cX4_areAlike 38 = .ok (.iload 4, 2) := by decide +kernel
theorem dX4_areAlike_40 : decode cX4_areAlike 40 = .ok (.if_icmp .ne 7, 3) := by decide +kernel
theorem dX4_areAlike_43 : decode cX4_areAlike 43 = .ok (.iconst 1, 1) := by decide +kernel
theorem dX4_areAlike_44 : decode cX4_areAlike 44 = .ok (.goto 4, 3) := by decide +kernel
theorem dX4_areAlike_47 : decode cX4_areAlike 47 = .ok (.iconst 0, 1) := by decide +kernel
theorem dX4_areAlike_48 : decode cX4_areAlike 48 = .ok (.ireturn, 1) := by decide +kernel
theorem dX4_areAlike_49 : decode cX4_areAlike 49 = .ok (.aload_n 0, 1) := by decide +kernel
theorem dX4_areAlike_50 : decode cX4_areAlike 50 = .ok (.getfield 12, 3) := by decide +kernel
theorem dX4_areAlike_53 : decode cX4_areAlike 53 = .ok (.iconst 0, 1) := by decide +kernel
theorem dX4_areAlike_54 : decode cX4_areAlike 54 = .ok (.aaload, 1) := by decide +kernel
theorem dX4_areAlike_55 : decode cX4_areAlike 55 = .ok (.getfield 58, 3) := by decide +kernel
theorem dX4_areAlike_58 : decode cX4_areAlike 58 = .ok (.iload_n 3, 1) := by decide +kernel
theorem dX4_areAlike_59 : decode cX4_areAlike 59 = .ok (.bipush 16, 2) := by decide +kernel
theorem dX4_areAlike_61 : decode cX4_areAlike 61 = .ok (.isub, 1) := by decide +kernel
theorem dX4_areAlike_62 : decode cX4_areAlike 62 = .ok (.aload_n 0, 1) := by decide +kernel
theorem dX4_areAlike_63 : decode cX4_areAlike 63 = .ok (.getfield 12, 3) := by decide +kernel
theorem dX4_areAlike_66 : decode cX4_areAlike 66 = .ok (.iconst 1, 1) := by decide +kernel
theorem dX4_areAlike_67 : decode cX4_areAlike 67 = .ok (.aaload, 1) := by decide +kernel
theorem dX4_areAlike_68 : decode cX4_areAlike 68 = .ok (.getfield 58, 3) := by decide +kernel
theorem dX4_areAlike_71 : decode cX4_areAlike 71 = .ok (.iload 4, 2) := by decide +kernel
theorem dX4_areAlike_73 : decode cX4_areAlike 73 = .ok (.bipush 16, 2) := by decide +kernel
theorem dX4_areAlike_75 : decode cX4_areAlike 75 = .ok (.isub, 1) := by decide +kernel
theorem dX4_areAlike_76 : decode cX4_areAlike 76 = .ok (.invokevirtual 126, 3) := by decide +kernel
theorem dX4_areAlike_79 : decode cX4_areAlike 79 = .ok (.ireturn, 1) := by decide +kernel
theorem dX4_isWithin_0 : decode cX4_isWithin 0 = .ok (.iload_n 0, 1) := by decide +kernel
theorem dX4_isWithin_1 : decode cX4_isWithin 1 = .ok (.ifCond .lt 12, 3) := by decide +kernel
theorem dX4_isWithin_4 : decode cX4_isWithin 4 = .ok (.iload_n 0, 1) := by decide +kernel
theorem dX4_isWithin_5 : decode cX4_isWithin 5 = .ok (.iload_n 1, 1) := by decide +kernel
theorem dX4_isWithin_6 : decode cX4_isWithin 6 = .ok (.if_icmp .ge 7, 3) := by decide +kernel
theorem dX4_isWithin_9 : decode cX4_isWithin 9 = .ok (.iconst 1, 1) := by decide +kernel
theorem dX4_isWithin_10 : decode cX4_isWithin 10 = .ok (.goto 4, 3) := by decide +kernel
theorem dX4_isWithin_13 : decode cX4_isWithin 13 = .ok (.iconst 0, 1) := by decide +kernel
theorem dX4_isWithin_14 : decode cX4_isWithin 14 = .ok (.ireturn, 1) := by decide +kernel
set_option maxRecDepth 20000 in
theorem ggX4_isOrdinaryType_X4_isWithin : GoodIn wsX4_isOrdinaryType wsX4_isWithin := goodIn_r _ [4] (by decide +kernel) (by decide +kernel)
set_option maxRecDepth 20000 in
theorem gX4_isOrdinaryType_X4_isWithin : GoodIn wsX4_isOrdinaryType (va_wsS RX4 34 yX4_isWithin wsX4_isWithin) := goodIn_app (goodIn_of _ (by decide +kernel)) ggX4_isOrdinaryType_X4_isWithin
theorem dX4_isOrdinaryType_0 : decode cX4_isOrdinaryType 0 = .ok (.iload_n 0, 1) := by decide +kernel
theorem dX4_isOrdinaryType_1 : decode cX4_isOrdinaryType 1 = .ok (.ifCond .eq 16, 3) := by decide +kernel
theorem dX4_isOrdinaryType_4 : decode cX4_isOrdinaryType 4 = .ok (.iload_n 0, 1) := by decide +kernel
theorem dX4_isOrdinaryType_5 : decode cX4_isOrdinaryType 5 = .ok (.bipush 12, 2) := by decide +kernel
theorem dX4_isOrdinaryType_7 : decode cX4_isOrdinaryType 7 = .ok (.invokestatic 34, 3) := by decide +kernel
theorem dX4_isOrdinaryType_10 : decode cX4_isOrdinaryType 10 = .ok (.ifCond .eq 7, 3) := by decide +kernel
theorem dX4_isOrdinaryType_13 : decode cX4_isOrdinaryType 13 = .ok (.iconst 1, 1) := by decide +kernel
theorem dX4_isOrdinaryType_14 : decode cX4_isOrdinaryType 14 = .ok (.goto 4, 3) := by decide +kernel
theorem dX4_isOrdinaryType_17 : decode cX4_isOrdinaryType 17 = .ok (.iconst 0, 1) := by decide +kernel
theorem dX4_isOrdinaryType_18 : decode cX4_isOrdinaryType 18 = .ok (.ireturn, 1) := by decide +kernel
set_option maxRecDepth 20000 in
theorem ggX4_isGood_X4_isWithin : GoodIn wsX4_isGood wsX4_isWithin := goodIn_r _ [4] (by decide +kernel) (by decide +kernel)
set_option maxRecDepth 20000 in
theorem gX4_isGood_X4_isWithin : GoodIn wsX4_isGood (va_wsS RX4 34 yX4_isWithin wsX4_isWithin) := goodIn_app (goodIn_of _ (by decide +kernel)) ggX4_isGood_X4_isWithin
theorem dX4_isGood_0 : decode cX4_isGood 0 = .ok (.iload_n 0, 1) := by decide +kernel
theorem dX4_isGood_1 : decode cX4_isGood 1 = .ok (.bipush 64, 2) := by decide +kernel
theorem dX4_isGood_3 : decode cX4_isGood 3 = .ok (.invokestatic 34, 3) := by decide +kernel
theorem dX4_isGood_6 : decode cX4_isGood 6 = .ok (.ireturn, 1) := by decide +kernel
theorem dX4_bit_0 : decode cX4_bit 0 = .ok (.iconst 1, 1) := by decide +kernel
theorem dX4_bit_1 : decode cX4_bit 1 = .ok (.iload_n 0, 1) := by decide +kernel
theorem dX4_bit_2 : decode cX4_bit 2 = .ok (.ishl, 1) := by decide +kernel
theorem dX4_bit_3 : decode cX4_bit 3 = .ok (.ireturn, 1) := by decide +kernel
theorem dX4_contains_0 : decode cX4_contains 0 = .ok (.iload_n 0, 1) := by decide +kernel
theorem dX4_contains_1 : decode cX4_contains 1 = .ok (.iconst 1, 1) := by decide +kernel
theorem dX4_contains_2 : decode cX4_contains 2 = .ok (.iload_n 1, 1) := by decide +kernel
theorem dX4_contains_3 : decode cX4_contains 3 = .ok (.ishl, 1) := by decide +kernel
theorem dX4_contains_4 : decode cX4_contains 4 = .ok (.iand, 1) := by decide +kernel
theorem dX4_contains_5 : decode cX4_contains 5 = .ok (.ifCond .eq 7, 3) := by decide +kernel
theorem dX4_contains_8 : decode cX4_contains 8 = .ok (.iconst 1, 1) := by decide +kernel
theorem dX4_contains_9 : decode cX4_contains 9 = .ok (.goto 4, 3) := by decide +kernel
theorem dX4_contains_12 : decode cX4_contains 12 = .ok (.iconst 0, 1) := by decide +kernel
theorem dX4_contains_13 : decode cX4_contains 13 = .ok (.ireturn, 1) := by decide +kernel
theorem dX5_init_0 : decode cX5_init 0 = .ok (.aload_n 0, 1) := by decide +kernel
theorem dX5_init_1 : decode cX5_init 1 = .ok (.invokespecial 1, 3) := by decide +kernel
theorem dX5_init_4 : decode cX5_init 4 = .ok (.aload_n 0, 1) := by decide +kernel
theorem dX5_init_5 : decode cX5_init 5 = .ok (.bipush 24, 2) := by decide +kernel
theorem dX5_init_7 : decode cX5_init 7 = .ok (.newarray .boolean, 2) := by decide +kernel
theorem dX5_init_9 : decode cX5_init 9 = .ok (.putfield 7, 3) := by decide +kernel
theorem dX5_init_12 : decode cX5_init 12 = .ok (.aload_n 0, 1) := by decide +kernel
theorem dX5_init_13 : decode cX5_init 13 = .ok (.bipush 24, 2) := by decide +kernel
theorem dX5_init_15 : decode cX5_init 15 = .ok (.newarray .int, 2) := by decide +kernel
theorem dX5_init_17 : decode cX5_init 17 = .ok (.putfield 13, 3) := by decide +kernel
theorem dX5_init_20 : decode cX5_init 20 = .ok (.aload_n 0, 1) := by decide +kernel
theorem dX5_init_21 : decode cX5_init 21 = .ok (.bipush 24, 2) := by decide +kernel
theorem dX5_init_23 : decode cX5_init 23 = .ok (.newarray .int, 2) := by decide +kernel
theorem dX5_init_25 : decode cX5_init 25 = .ok (.putfield 17, 3) := by decide +kernel
theorem dX5_init_28 : decode cX5_init 28 = .ok (.aload_n 0, 1) := by decide +kernel
theorem dX5_init_29 : decode cX5_init 29 = .ok (.bipush 24, 2) := by decide +kernel
theorem dX5_init_31 : decode cX5_init 31 = .ok (.newarray .int, 2) := by decide +kernel
theorem dX5_init_33 : decode cX5_init 33 = .ok (.putfield 20, 3) := by decide +kernel
theorem dX5_init_36 : decode cX5_init 36 = .ok (.aload_n 0, 1) := by decide +kernel
theorem dX5_init_37 : decode cX5_init 37 = .ok (.bipush 24, 2) := by decide +kernel
theorem dX5_init_39 : decode cX5_init 39 = .ok (.newarray .int, 2) := by decide +kernel
theorem dX5_init_41 : decode cX5_init 41 = .ok (.putfield 23, 3) := by decide +kernel
theorem dX5_init_44 : decode cX5_init 44 = .ok (.aload_n 0, 1) := by decide +kernel
theorem dX5_init_45 : decode cX5_init 45 = .ok (.bipush 24, 2) := by decide +kernel
theorem dX5_init_47 : decode cX5_init 47 = .ok (.newarray .int, 2) := by decide +kernel
theorem dX5_init_49 : decode cX5_init 49 = .ok (.putfield 26, 3) := by decide +kernel
theorem dX5_init_52 : decode cX5_init 52 = .ok (.aload_n 0, 1) := by decide +kernel
theorem dX5_init_53 : decode cX5_init 53 = .ok (.bipush 60, 2) := by decide +kernel
theorem dX5_init_55 : decode cX5_init 55 = .ok (.newarray .boolean, 2) := by decide +kernel
theorem dX5_init_57 : decode cX5_init 57 = .ok (.putfield 29, 3) := by decide +kernel
theorem dX5_init_60 : decode cX5_init 60 = .ok (.aload_n 0, 1) := by decide +kernel
theorem dX5_init_61 : decode cX5_init 61 = .ok (.bipush 60, 2) := by decide +kernel
theorem dX5_init_63 : decode cX5_init 63 = .ok (.newarray .boolean, 2) := by decide +kernel
theorem dX5_init_65 : decode cX5_init 65 = .ok (.putfield 32, 3) := by decide +kernel
theorem dX5_init_68 : decode cX5_init 68 = .ok (.aload_n 0, 1) := by decide +kernel
theorem dX5_init_69 : decode cX5_init 69 = .ok (.iconst 2, 1) := by decide +kernel
theorem dX5_init_70 : decode cX5_init 70 = .ok (.newarray .int, 2) := by decide +kernel
theorem dX5_init_72 : decode cX5_init 72 = .ok (.putfield 35, 3) := by decide +kernel
theorem dX5_init_75 : decode cX5_init 75 = .ok (.aload_n 0, 1) := by decide +kernel
theorem dX5_init_76 : decode cX5_init 76 = .ok (.bipush 60, 2) := by decide +kernel
theorem dX5_init_78 : decode cX5_init 78 = .ok (.newarray .int, 2) := by decide +kernel
theorem dX5_init_80 : decode cX5_init 80 = .ok (.putfield 38, 3) := by decide +kernel
theorem dX5_init_83 : decode cX5_init 83 = .ok (.aload_n 0, 1) := by decide +kernel
theorem dX5_init_84 : decode cX5_init 84 = .ok (.bipush 60, 2) := by decide +kernel
theorem dX5_init_86 : decode cX5_init 86 = .ok (.newarray .int, 2) := by decide +kernel
theorem dX5_init_88 : decode cX5_init 88 = .ok (.putfield 41, 3) := by decide +kernel
theorem dX5_init_91 : decode cX5_init 91 = .ok (.aload_n 0, 1) := by decide +kernel
theorem dX5_init_92 : decode cX5_init 92 = .ok (.bipush 60, 2) := by decide +kernel
theorem dX5_init_94 : decode cX5_init 94 = .ok (.newarray .int, 2) := by decide +kernel
theorem dX5_init_96 : decode cX5_init 96 = .ok (.putfield 44, 3) := by decide +kernel
theorem dX5_init_99 : decode cX5_init 99 = .ok (.aload_n 0, 1) := by decide +kernel
theorem dX5_init_100 : decode cX5_init 100 = .ok (.bipush 60, 2) := by decide +kernel
theorem dX5_init_102 : decode cX5_init 102 = .ok (.newarray .int, 2) := by decide +kernel
theorem dX5_init_104 : decode cX5_init 104 = .ok (.putfield 47, 3) := by decide +kernel
theorem dX5_init_107 : decode cX5_init 107 = .ok (.aload_n 0, 1) := by decide +kernel
theorem dX5_init_108 : decode cX5_init 108 = .ok (.bipush 16, 2) := by decide +kernel
theorem dX5_init_110 : decode cX5_init 110 = .ok (.newarray .int, 2) := by decide +kernel
theorem dX5_init_112 : decode cX5_init 112 = .ok (.putfield 50, 3) := by decide +kernel
theorem dX5_init_115 : decode cX5_init 115 = .ok (.aload_n 0, 1) := by decide +kernel
theorem dX5_init_116 : decode cX5_init 116 = .ok (.bipush 16, 2) := by decide +kernel
theorem dX5_init_118 : decode cX5_init 118 = .ok (.newarray .int, 2) := by decide +kernel
theorem dX5_init_120 : decode cX5_init 120 = .ok (.putfield 53, 3) := by decide +kernel
theorem dX5_init_123 : decode cX5_init 123 = .ok (.aload_n 0, 1) := by decide +kernel
theorem dX5_init_124 : decode cX5_init 124 = .ok (.bipush 16, 2) := by decide +kernel
theorem dX5_init_126 : decode cX5_init 126 = .ok (.newarray .int, 2) := by decide +kernel
theorem dX5_init_128 : decode cX5_init 128 = .ok (.putfield 56, 3) := by decide +kernel
theorem dX5_init_131 : decode cX5_init 131 = .ok (.aload_n 0, 1) := by decide +kernel
theorem dX5_init_132 : decode cX5_init 132 = .ok (.bipush 16, 2) := by decide +kernel
theorem dX5_init_134 : decode cX5_init 134 = .ok (.newarray .int, 2) := by decide +kernel
theorem dX5_init_136 : decode cX5_init 136 = .ok (.putfield 59, 3) := by decide +kernel
theorem dX5_init_139 : decode cX5_init 139 = .ok (.aload_n 0, 1) := by decide +kernel
theorem dX5_init_140 : decode cX5_init 140 = .ok (.bipush 40, 2) := by decide +kernel
theorem dX5_init_142 : decode cX5_init 142 = .ok (.newarray .int, 2) := by decide +kernel
theorem dX5_init_144 : decode cX5_init 144 = .ok (.putfield 62, 3) := by decide +kernel
theorem dX5_init_147 : decode cX5_init 147 = .ok (.aload_n 0, 1) := by decide +kernel
theorem dX5_init_148 : decode cX5_init 148 = .ok (.bipush 14, 2) := by decide +kernel
theorem dX5_init_150 : decode cX5_init 150 = .ok (.newarray .int, 2) := by decide +kernel
theorem dX5_init_152 : decode cX5_init 152 = .ok (.putfield 65, 3) := by decide +kernel
theorem dX5_init_155 : decode cX5_init 155 = .ok (.iconst 0, 1) := by decide +kernel
theorem dX5_init_156 : decode cX5_init 156 = .ok (.istore_n 1, 1) := by decide +kernel
theorem dX5_init_157 : decode cX5_init 157 = .ok (.iload_n 1, 1) := by decide +kernel
theorem dX5_init_158 : decode cX5_init 158 = .ok (.iconst 2, 1) := by decide +kernel
theorem dX5_init_159 : decode cX5_init 159 = .ok (.if_icmp .ge 65, 3) := by decide +kernel
theorem dX5_init_162 : decode cX5_init 162 = .ok (.iconst 0, 1) := by decide +kernel
theorem dX5_init_163 : decode cX5_init 163 = .ok (.istore_n 2, 1) := by decide +kernel
theorem dX5_init_164 : decode cX5_init 164 = .ok (.iload_n 2, 1) := by decide +kernel
theorem dX5_init_165 : decode cX5_init 165 = .ok (.bipush 12, 2) := by decide +kernel
theorem dX5_init_167 : decode cX5_init 167 = .ok (.if_icmp .ge 21, 3) := by decide +kernel
theorem dX5_init_170 : decode cX5_init 170 = .ok (.aload_n 0, 1) := by decide +kernel
theorem dX5_init_171 : decode cX5_init 171 = .ok (.getfield 26, 3) := by decide +kernel
theorem dX5_init_174 : decode cX5_init 174 = .ok (.bipush 12, 2) := by decide +kernel
theorem dX5_init_176 : decode cX5_init 176 = .ok (.iload_n 1, 1) := by decide +kernel
theorem dX5_init_177 : decode cX5_init 177 = .ok (.imul, 1) := by decide +kernel
theorem dX5_init_178 : decode cX5_init 178 = .ok (.iload_n 2, 1) := by decide +kernel
theorem dX5_init_179 : decode cX5_init 179 = .ok (.iadd, 1) := by decide +kernel
theorem dX5_init_180 : decode cX5_init 180 = .ok (.iload_n 2, 1) := by decide +kernel
theorem dX5_init_181 : decode cX5_init 181 = .ok (.iastore, 1) := by decide +kernel
theorem dX5_init_182 : decode cX5_init 182 = .ok (.iinc 2 1, 3) := by decide +kernel
theorem dX5_init_185 : decode cX5_init 185 = .ok (.goto (-21), 3) := by decide +kernel
theorem dX5_init_188 : decode cX5_init 188 = .ok (.aload_n 0, 1) := by decide +kernel
theorem dX5_init_189 : decode cX5_init 189 = .ok (.getfield 7, 3) := by decide +kernel
theorem dX5_init_192 : decode cX5_init 192 = .ok (.bipush 12, 2) := by decide +kernel
theorem dX5_init_194 : decode cX5_init 194 = .ok (.iload_n 1, 1) := by decide +kernel
theorem dX5_init_195 : decode cX5_init 195 = .ok (.imul, 1) := by decide +kernel
theorem dX5_init_196 : decode cX5_init 196 = .ok (.iconst 1, 1) := by decide +kernel
theorem dX5_init_197 : decode cX5_init 197 = .ok (.bastore, 1) := by decide +kernel
theorem dX5_init_198 : decode cX5_init 198 = .ok (.aload_n 0, 1) := by decide +kernel
theorem dX5_init_199 : decode cX5_init 199 = .ok (.getfield 13, 3) := by decide +kernel
theorem dX5_init_202 : decode cX5_init 202 = .ok (.bipush 12, 2) := by decide +kernel
theorem dX5_init_204 : decode cX5_init 204 = .ok (.iload_n 1, 1) := by decide +kernel
theorem dX5_init_205 : decode cX5_init 205 = .ok (.imul, 1) := by decide +kernel
theorem dX5_init_206 : decode cX5_init 206 = .ok (.iconst 1, 1) := by decide +kernel
theorem dX5_init_207 : decode cX5_init 207 = .ok (.iastore, 1) := by decide +kernel
theorem dX5_init_208 : decode cX5_init 208 = .ok (.aload_n 0, 1) := by decide +kernel
theorem dX5_init_209 : decode cX5_init 209 = .ok (.getfield 20, 3) := by decide +kernel
theorem dX5_init_212 : decode cX5_init 212 = .ok (.bipush 12, 2) := by decide +kernel
theorem dX5_init_214 : decode cX5_init 214 = .ok (.iload_n 1, 1) := by decide +kernel
theorem dX5_init_215 : decode cX5_init 215 = .ok (.imul, 1) := by decide +kernel
theorem dX5_init_216 : decode cX5_init 216 = .ok (.iconst (-1), 1) := by decide +kernel
theorem dX5_init_217 : decode cX5_init 217 = .ok (.iastore, 1) := by decide +kernel
theorem dX5_init_218 : decode cX5_init 218 = .ok (.iinc 1 1, 3) := by decide +kernel
theorem dX5_init_221 : decode cX5_init 221 = .ok (.goto (-64), 3) := by decide +kernel
theorem dX5_init_224 : decode cX5_init 224 = .ok (.return_, 1) := by decide +kernel
theorem dX5_in_0 : decode cX5_in 0 = .ok (.iload_n 0, 1) := by decide +kernel
theorem dX5_in_1 : decode cX5_in 1 = .ok (.ifCond .lt 12, 3) := by decide +kernel
