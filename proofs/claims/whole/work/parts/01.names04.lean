theorem dX5_in_4 : decode cX5_in 4 = .ok (.iload_n 0, 1) := by decide +kernel
theorem dX5_in_5 : decode cX5_in 5 = .ok (.iload_n 1, 1) := by decide +kernel
theorem dX5_in_6 : decode cX5_in 6 = .ok (.if_icmp .ge 7, 3) := by decide +kernel
theorem dX5_in_9 : decode cX5_in 9 = .ok (.iconst 1, 1) := by decide +kernel
theorem dX5_in_10 : decode cX5_in 10 = .ok (.goto 4, 3) := by decide +kernel
theorem dX5_in_13 : decode cX5_in 13 = .ok (.iconst 0, 1) := by decide +kernel
theorem dX5_in_14 : decode cX5_in 14 = .ok (.ireturn, 1) := by decide +kernel
theorem dX5_has_0 : decode cX5_has 0 = .ok (.iload_n 0, 1) := by decide +kernel
theorem dX5_has_1 : decode cX5_has 1 = .ok (.iload_n 1, 1) := by decide +kernel
theorem dX5_has_2 : decode cX5_has 2 = .ok (.ishr, 1) := by decide +kernel
theorem dX5_has_3 : decode cX5_has 3 = .ok (.iconst 1, 1) := by decide +kernel
theorem dX5_has_4 : decode cX5_has 4 = .ok (.iand, 1) := by decide +kernel
theorem dX5_has_5 : decode cX5_has 5 = .ok (.iconst 1, 1) := by decide +kernel
theorem dX5_has_6 : decode cX5_has 6 = .ok (.if_icmp .ne 7, 3) := by decide +kernel
theorem dX5_has_9 : decode cX5_has 9 = .ok (.iconst 1, 1) := by decide +kernel
theorem dX5_has_10 : decode cX5_has 10 = .ok (.goto 4, 3) := by decide +kernel
theorem dX5_has_13 : decode cX5_has 13 = .ok (.iconst 0, 1) := by decide +kernel
theorem dX5_has_14 : decode cX5_has 14 = .ok (.ireturn, 1) := by decide +kernel
theorem dX5_at_0 : decode cX5_at 0 = .ok (.bipush 12, 2) := by decide +kernel
theorem dX5_at_2 : decode cX5_at 2 = .ok (.aload_n 0, 1) := by decide +kernel
theorem dX5_at_3 : decode cX5_at 3 = .ok (.getfield 68, 3) := by decide +kernel
theorem dX5_at_6 : decode cX5_at 6 = .ok (.imul, 1) := by decide +kernel
theorem dX5_at_7 : decode cX5_at 7 = .ok (.iload_n 1, 1) := by decide +kernel
theorem dX5_at_8 : decode cX5_at 8 = .ok (.iadd, 1) := by decide +kernel
theorem dX5_at_9 : decode cX5_at 9 = .ok (.ireturn, 1) := by decide +kernel
set_option maxRecDepth 20000 in
theorem ggX5_isThere_X5_in : GoodIn wsX5_isThere wsX5_in := goodIn_r _ [5] (by decide +kernel) (by decide +kernel)
set_option maxRecDepth 20000 in
theorem gX5_isThere_X5_in : GoodIn wsX5_isThere (va_wsS RX5 72 yX5_in wsX5_in) := goodIn_app (goodIn_of _ (by decide +kernel)) ggX5_isThere_X5_in
set_option maxRecDepth 20000 in
theorem ggX5_isThere_X5_at : GoodIn wsX5_isThere wsX5_at := goodIn_r _ [9, 10, 11, 12, 13, 14, 15, 16, 17, 18, 19, 20, 21, 22, 23, 24, 25, 26, 27, 28, 29, 30, 31] (by decide +kernel) (by decide +kernel)
set_option maxRecDepth 20000 in
theorem gX5_isThere_X5_at : GoodIn wsX5_isThere (wsV RX5 76 RX5 yX5_at wsX5_at) := goodIn_app (goodIn_of _ (by decide +kernel)) ggX5_isThere_X5_at
theorem dX5_isThere_0 : decode cX5_isThere 0 = .ok (.iload_n 1, 1) := by decide +kernel
theorem dX5_isThere_1 : decode cX5_isThere 1 = .ok (.bipush 12, 2) := by decide +kernel
theorem dX5_isThere_3 : decode cX5_isThere 3 = .ok (.invokestatic 72, 3) := by decide +kernel
theorem dX5_isThere_6 : decode cX5_isThere 6 = .ok (.ifCond .eq 20, 3) := by decide +kernel
theorem dX5_isThere_9 : decode cX5_isThere 9 = .ok (.aload_n 0, 1) := by decide +kernel
theorem dX5_isThere_10 : decode cX5_isThere 10 = .ok (.getfield 7, 3) := by decide +kernel
theorem dX5_isThere_13 : decode cX5_isThere 13 = .ok (.aload_n 0, 1) := by decide +kernel
theorem dX5_isThere_14 : decode cX5_isThere 14 = .ok (.iload_n 1, 1) := by decide +kernel
theorem dX5_isThere_15 : decode cX5_isThere 15 = .ok (.invokevirtual 76, 3) := by decide +kernel
theorem dX5_isThere_18 : decode cX5_isThere 18 = .ok (.baload, 1) := by decide +kernel
theorem dX5_isThere_19 : decode cX5_isThere 19 = .ok (.ifCond .eq 7, 3) := by decide +kernel
theorem dX5_isThere_22 : decode cX5_isThere 22 = .ok (.iconst 1, 1) := by decide +kernel
theorem dX5_isThere_23 : decode cX5_isThere 23 = .ok (.goto 4, 3) := by decide +kernel
theorem dX5_isThere_26 : decode cX5_isThere 26 = .ok (.iconst 0, 1) := by decide +kernel
theorem dX5_isThere_27 : decode cX5_isThere 27 = .ok (.ireturn, 1) := by decide +kernel
set_option maxRecDepth 20000 in
theorem ggX5_type_X5_in : GoodIn wsX5_type wsX5_in := goodIn_r _ [10] (by decide +kernel) (by decide +kernel)
set_option maxRecDepth 20000 in
theorem gX5_type_X5_in : GoodIn wsX5_type (va_wsS RX5 72 yX5_in wsX5_in) := goodIn_app (goodIn_of _ (by decide +kernel)) ggX5_type_X5_in
set_option maxRecDepth 20000 in
theorem ggX5_type_X5_at : GoodIn wsX5_type wsX5_at := goodIn_r _ [14, 15, 16, 17, 18, 19, 20, 21, 22, 23, 24, 25, 26, 27, 28, 29, 30, 31, 32, 33, 34, 35, 36] (by decide +kernel) (by decide +kernel)
set_option maxRecDepth 20000 in
theorem gX5_type_X5_at : GoodIn wsX5_type (wsV RX5 76 RX5 yX5_at wsX5_at) := goodIn_app (goodIn_of _ (by decide +kernel)) ggX5_type_X5_at
theorem dX5_type_0 : decode cX5_type 0 = .ok (.iload_n 1, 1) := by decide +kernel
theorem dX5_type_1 : decode cX5_type 1 = .ok (.ifCond .eq 50, 3) := by decide +kernel
theorem dX5_type_4 : decode cX5_type 4 = .ok (.iload_n 1, 1) := by decide +kernel
theorem dX5_type_5 : decode cX5_type 5 = .ok (.bipush 12, 2) := by decide +kernel
theorem dX5_type_7 : decode cX5_type 7 = .ok (.invokestatic 72, 3) := by decide +kernel
theorem dX5_type_10 : decode cX5_type 10 = .ok (.ifCond .eq 41, 3) := by decide +kernel
theorem dX5_type_13 : decode cX5_type 13 = .ok (.iload_n 2, 1) := by decide +kernel
theorem dX5_type_14 : decode cX5_type 14 = .ok (.bipush 16, 2) := by decide +kernel
theorem dX5_type_16 : decode cX5_type 16 = .ok (.invokestatic 72, 3) := by decide +kernel
theorem dX5_type_19 : decode cX5_type 19 = .ok (.ifCond .eq 32, 3) := by decide +kernel
theorem dX5_type_22 : decode cX5_type 22 = .ok (.iload_n 3, 1) := by decide +kernel
theorem dX5_type_23 : decode cX5_type 23 = .ok (.iconst 4, 1) := by decide +kernel
theorem dX5_type_24 : decode cX5_type 24 = .ok (.invokestatic 72, 3) := by decide +kernel
theorem dX5_type_27 : decode cX5_type 27 = .ok (.ifCond .eq 24, 3) := by decide +kernel
theorem dX5_type_30 : decode cX5_type 30 = .ok (.iload 4, 2) := by decide +kernel
theorem dX5_type_32 : decode cX5_type 32 = .ok (.bipush 12, 2) := by decide +kernel
theorem dX5_type_34 : decode cX5_type 34 = .ok (.invokestatic 72, 3) := by decide +kernel
theorem dX5_type_37 : decode cX5_type 37 = .ok (.ifCond .eq 14, 3) := by decide +kernel
theorem dX5_type_40 : decode cX5_type 40 = .ok (.iload 5, 2) := by decide +kernel
theorem dX5_type_42 : decode cX5_type 42 = .ok (.sipush 4096, 3) := by decide +kernel
theorem dX5_type_45 : decode cX5_type 45 = .ok (.invokestatic 72, 3) := by decide +kernel
theorem dX5_type_48 : decode cX5_type 48 = .ok (.ifCond .ne 5, 3) := by decide +kernel
theorem dX5_type_51 : decode cX5_type 51 = .ok (.iconst 0, 1) := by decide +kernel
theorem dX5_type_52 : decode cX5_type 52 = .ok (.ireturn, 1) := by decide +kernel
theorem dX5_type_53 : decode cX5_type 53 = .ok (.aload_n 0, 1) := by decide +kernel
theorem dX5_type_54 : decode cX5_type 54 = .ok (.iload_n 1, 1) := by decide +kernel
theorem dX5_type_55 : decode cX5_type 55 = .ok (.invokevirtual 76, 3) := by decide +kernel
theorem dX5_type_58 : decode cX5_type 58 = .ok (.istore 6, 2) := by decide +kernel
theorem dX5_type_60 : decode cX5_type 60 = .ok (.aload_n 0, 1) := by decide +kernel
theorem dX5_type_61 : decode cX5_type 61 = .ok (.getfield 7, 3) := by decide +kernel
theorem dX5_type_64 : decode cX5_type 64 = .ok (.iload 6, 2) := by decide +kernel
theorem dX5_type_66 : decode cX5_type 66 = .ok (.iconst 1, 1) := by decide +kernel
theorem dX5_type_67 : decode cX5_type 67 = .ok (.bastore, 1) := by decide +kernel
theorem dX5_type_68 : decode cX5_type 68 = .ok (.aload_n 0, 1) := by decide +kernel
theorem dX5_type_69 : decode cX5_type 69 = .ok (.getfield 13, 3) := by decide +kernel
theorem dX5_type_72 : decode cX5_type 72 = .ok (.iload 6, 2) := by decide +kernel
theorem dX5_type_74 : decode cX5_type 74 = .ok (.iload_n 2, 1) := by decide +kernel
theorem dX5_type_75 : decode cX5_type 75 = .ok (.iastore, 1) := by decide +kernel
theorem dX5_type_76 : decode cX5_type 76 = .ok (.aload_n 0, 1) := by decide +kernel
theorem dX5_type_77 : decode cX5_type 77 = .ok (.getfield 17, 3) := by decide +kernel
theorem dX5_type_80 : decode cX5_type 80 = .ok (.iload 6, 2) := by decide +kernel
theorem dX5_type_82 : decode cX5_type 82 = .ok (.iload_n 3, 1) := by decide +kernel
theorem dX5_type_83 : decode cX5_type 83 = .ok (.iastore, 1) := by decide +kernel
theorem dX5_type_84 : decode cX5_type 84 = .ok (.aload_n 0, 1) := by decide +kernel
theorem dX5_type_85 : decode cX5_type 85 = .ok (.getfield 20, 3) := by decide +kernel
theorem dX5_type_88 : decode cX5_type 88 = .ok (.iload 6, 2) := by decide +kernel
theorem dX5_type_90 : decode cX5_type 90 = .ok (.iload 4, 2) := by decide +kernel
theorem dX5_type_92 : decode cX5_type 92 = .ok (.iastore, 1) := by decide +kernel
theorem dX5_type_93 : decode cX5_type 93 = .ok (.aload_n 0, 1) := by decide +kernel
theorem dX5_type_94 : decode cX5_type 94 = .ok (.getfield 23, 3) := by decide +kernel
theorem dX5_type_97 : decode cX5_type 97 = .ok (.iload 6, 2) := by decide +kernel
theorem dX5_type_99 : decode cX5_type 99 = .ok (.iload 5, 2) := by decide +kernel
theorem dX5_type_101 : decode cX5_type 101 = .ok (.iastore, 1) := by decide +kernel
theorem dX5_type_102 : decode cX5_type 102 = .ok (.aload_n 0, 1) := by decide +kernel
theorem dX5_type_103 : decode cX5_type 103 = .ok (.getfield 26, 3) := by decide +kernel
theorem dX5_type_106 : decode cX5_type 106 = .ok (.iload 6, 2) := by decide +kernel
theorem dX5_type_108 : decode cX5_type 108 = .ok (.iload_n 1, 1) := by decide +kernel
theorem dX5_type_109 : decode cX5_type 109 = .ok (.iastore, 1) := by decide +kernel
theorem dX5_type_110 : decode cX5_type 110 = .ok (.iconst 1, 1) := by decide +kernel
theorem dX5_type_111 : decode cX5_type 111 = .ok (.ireturn, 1) := by decide +kernel
set_option maxRecDepth 20000 in
theorem ggX5_nest_X5_isThere : GoodIn wsX5_nest wsX5_isThere := goodIn_r _ [6, 7, 8, 9, 5, 10, 11, 12, 13, 14, 15, 16, 17, 18, 19, 20, 21, 22, 23, 24, 25, 26, 27, 28, 29, 30, 31, 32, 33, 34, 35, 36] (by decide +kernel) (by decide +kernel)
set_option maxRecDepth 20000 in
theorem gX5_nest_X5_isThere : GoodIn wsX5_nest (wsV RX5 80 RX5 yX5_isThere wsX5_isThere) := goodIn_app (goodIn_of _ (by decide +kernel)) ggX5_nest_X5_isThere
set_option maxRecDepth 20000 in
theorem ggX5_nest_X5_in : GoodIn wsX5_nest wsX5_in := goodIn_r _ [10] (by decide +kernel) (by decide +kernel)
set_option maxRecDepth 20000 in
theorem gX5_nest_X5_in : GoodIn wsX5_nest (va_wsS RX5 72 yX5_in wsX5_in) := goodIn_app (goodIn_of _ (by decide +kernel)) ggX5_nest_X5_in
set_option maxRecDepth 20000 in
theorem ggX5_nest_X5_at : GoodIn wsX5_nest wsX5_at := goodIn_r _ [14, 15, 16, 17, 18, 19, 20, 21, 22, 23, 24, 25, 26, 27, 28, 29, 30, 31, 32, 33, 34, 35, 36] (by decide +kernel) (by decide +kernel)
set_option maxRecDepth 20000 in
theorem gX5_nest_X5_at : GoodIn wsX5_nest (wsV RX5 76 RX5 yX5_at wsX5_at) := goodIn_app (goodIn_of _ (by decide +kernel)) ggX5_nest_X5_at
theorem dX5_nest_0 : decode cX5_nest 0 = .ok (.iload_n 1, 1) := by decide +kernel
theorem dX5_nest_1 : decode cX5_nest 1 = .ok (.ifCond .eq 20, 3) := by decide +kernel
theorem dX5_nest_4 : decode cX5_nest 4 = .ok (.aload_n 0, 1) := by decide +kernel
theorem dX5_nest_5 : decode cX5_nest 5 = .ok (.iload_n 1, 1) := by decide +kernel
theorem dX5_nest_6 : decode cX5_nest 6 = .ok (.invokevirtual 80, 3) := by decide +kernel
theorem dX5_nest_9 : decode cX5_nest 9 = .ok (.ifCond .eq 12, 3) := by decide +kernel
theorem dX5_nest_12 : decode cX5_nest 12 = .ok (.iload_n 2, 1) := by decide +kernel
theorem dX5_nest_13 : decode cX5_nest 13 = .ok (.bipush 12, 2) := by decide +kernel
theorem dX5_nest_15 : decode cX5_nest 15 = .ok (.invokestatic 72, 3) := by decide +kernel
theorem dX5_nest_18 : decode cX5_nest 18 = .ok (.ifCond .ne 5, 3) := by decide +kernel
theorem dX5_nest_21 : decode cX5_nest 21 = .ok (.iconst 0, 1) := by decide +kernel
theorem dX5_nest_22 : decode cX5_nest 22 = .ok (.ireturn, 1) := by decide +kernel
theorem dX5_nest_23 : decode cX5_nest 23 = .ok (.aload_n 0, 1) := by decide +kernel
theorem dX5_nest_24 : decode cX5_nest 24 = .ok (.getfield 26, 3) := by decide +kernel
theorem dX5_nest_27 : decode cX5_nest 27 = .ok (.aload_n 0, 1) := by decide +kernel
theorem dX5_nest_28 : decode cX5_nest 28 = .ok (.iload_n 1, 1) := by decide +kernel
theorem dX5_nest_29 : decode cX5_nest 29 = .ok (.invokevirtual 76, 3) := by decide +kernel
theorem dX5_nest_32 : decode cX5_nest 32 = .ok (.iload_n 2, 1) := by decide +kernel
theorem dX5_nest_33 : decode cX5_nest 33 = .ok (.iastore, 1) := by decide +kernel
theorem dX5_nest_34 : decode cX5_nest 34 = .ok (.iconst 1, 1) := by decide +kernel
theorem dX5_nest_35 : decode cX5_nest 35 = .ok (.ireturn, 1) := by decide +kernel
set_option maxRecDepth 20000 in
theorem ggX5_drop_X5_isThere : GoodIn wsX5_drop wsX5_isThere := goodIn_r _ [10, 1, 11, 12, 9, 13, 14, 15, 16, 17, 2, 18, 19, 20, 21, 22, 23, 24, 25, 26, 27, 28, 29, 30, 31, 32, 33, 34, 35, 36, 37, 38] (by decide +kernel) (by decide +kernel)
set_option maxRecDepth 20000 in
theorem gX5_drop_X5_isThere : GoodIn wsX5_drop (wsV RX5 80 RX5 yX5_isThere wsX5_isThere) := goodIn_app (goodIn_of _ (by decide +kernel)) ggX5_drop_X5_isThere
set_option maxRecDepth 20000 in
theorem ggX5_drop_X5_at : GoodIn wsX5_drop wsX5_at := goodIn_r _ [17, 2, 18, 19, 20, 21, 22, 23, 24, 25, 26, 27, 28, 29, 30, 31, 32, 33, 34, 35, 36, 37, 38] (by decide +kernel) (by decide +kernel)
set_option maxRecDepth 20000 in
theorem gX5_drop_X5_at : GoodIn wsX5_drop (wsV RX5 76 RX5 yX5_at wsX5_at) := goodIn_app (goodIn_of _ (by decide +kernel)) ggX5_drop_X5_at
theorem dX5_drop_0 : decode cX5_drop 0 = .ok (.iload_n 1, 1) := by decide +kernel
theorem dX5_drop_1 : decode cX5_drop 1 = .ok (.ifCond .eq 11, 3) := by decide +kernel
theorem dX5_drop_4 : decode cX5_drop 4 = .ok (.aload_n 0, 1) := by decide +kernel
theorem dX5_drop_5 : decode cX5_drop 5 = .ok (.iload_n 1, 1) := by decide +kernel
theorem dX5_drop_6 : decode cX5_drop 6 = .ok (.invokevirtual 80, 3) := by decide +kernel
theorem dX5_drop_9 : decode cX5_drop 9 = .ok (.ifCond .ne 5, 3) := by decide +kernel
theorem dX5_drop_12 : decode cX5_drop 12 = .ok (.iconst 0, 1) := by decide +kernel
theorem dX5_drop_13 : decode cX5_drop 13 = .ok (.ireturn, 1) := by decide +kernel
theorem dX5_drop_14 : decode cX5_drop 14 = .ok (.aload_n 0, 1) := by decide +kernel
theorem dX5_drop_15 : decode cX5_drop 15 = .ok (.getfield 7, 3) := by decide +kernel
theorem dX5_drop_18 : decode cX5_drop 18 = .ok (.aload_n 0, 1) := by decide +kernel
theorem dX5_drop_19 : decode cX5_drop 19 = .ok (.iload_n 1, 1) := by decide +kernel
theorem dX5_drop_20 : decode cX5_drop 20 = .ok (.invokevirtual 76, 3) := by decide +kernel
theorem dX5_drop_23 : decode cX5_drop 23 = .ok (.iconst 0, 1) := by decide +kernel
theorem dX5_drop_24 : decode cX5_drop 24 = .ok (.bastore, 1) := by decide +kernel
theorem dX5_drop_25 : decode cX5_drop 25 = .ok (.bipush 30, 2) := by decide +kernel
theorem dX5_drop_27 : decode cX5_drop 27 = .ok (.aload_n 0, 1) := by decide +kernel
theorem dX5_drop_28 : decode cX5_drop 28 = .ok (.getfield 68, 3) := by decide +kernel
theorem dX5_drop_31 : decode cX5_drop 31 = .ok (.imul, 1) := by decide +kernel
theorem dX5_drop_32 : decode cX5_drop 32 = .ok (.istore_n 2, 1) := by decide +kernel
theorem dX5_drop_33 : decode cX5_drop 33 = .ok (.iload_n 2, 1) := by decide +kernel
theorem dX5_drop_34 : decode cX5_drop 34 = .ok (.bipush 30, 2) := by decide +kernel
theorem dX5_drop_36 : decode cX5_drop 36 = .ok (.aload_n 0, 1) := by decide +kernel
theorem dX5_drop_37 : decode cX5_drop 37 = .ok (.getfield 68, 3) := by decide +kernel
theorem dX5_drop_40 : decode cX5_drop 40 = .ok (.imul, 1) := by decide +kernel
theorem dX5_drop_41 : decode cX5_drop 41 = .ok (.aload_n 0, 1) := by decide +kernel
theorem dX5_drop_42 : decode cX5_drop 42 = .ok (.getfield 35, 3) := by decide +kernel
theorem dX5_drop_45 : decode cX5_drop 45 = .ok (.aload_n 0, 1) := by decide +kernel
theorem dX5_drop_46 : decode cX5_drop 46 = .ok (.getfield 68, 3) := by decide +kernel
theorem dX5_drop_49 : decode cX5_drop 49 = .ok (.iaload, 1) := by decide +kernel
theorem dX5_drop_50 : decode cX5_drop 50 = .ok (.iadd, 1) := by decide +kernel
theorem dX5_drop_51 : decode cX5_drop 51 = .ok (.if_icmp .ge 26, 3) := by decide +kernel
theorem dX5_drop_54 : decode cX5_drop 54 = .ok (.aload_n 0, 1) := by decide +kernel
theorem dX5_drop_55 : decode cX5_drop 55 = .ok (.getfield 38, 3) := by decide +kernel
theorem dX5_drop_58 : decode cX5_drop 58 = .ok (.iload_n 2, 1) := by decide +kernel
theorem dX5_drop_59 : decode cX5_drop 59 = .ok (.iaload, 1) := by decide +kernel
theorem dX5_drop_60 : decode cX5_drop 60 = .ok (.iload_n 1, 1) := by decide +kernel
theorem dX5_drop_61 : decode cX5_drop 61 = .ok (.if_icmp .ne 10, 3) := by decide +kernel
theorem dX5_drop_64 : decode cX5_drop 64 = .ok (.aload_n 0, 1) := by decide +kernel
theorem dX5_drop_65 : decode cX5_drop 65 = .ok (.getfield 32, 3) := by decide +kernel
theorem dX5_drop_68 : decode cX5_drop 68 = .ok (.iload_n 2, 1) := by decide +kernel
theorem dX5_drop_69 : decode cX5_drop 69 = .ok (.iconst 1, 1) := by decide +kernel
theorem dX5_drop_70 : decode cX5_drop 70 = .ok (.bastore, 1) := by decide +kernel
theorem dX5_drop_71 : decode cX5_drop 71 = .ok (.iinc 2 1, 3) := by decide +kernel
theorem dX5_drop_74 : decode cX5_drop 74 = .ok (.goto (-41), 3) := by decide +kernel
theorem dX5_drop_77 : decode cX5_drop 77 = .ok (.iconst 1, 1) := by decide +kernel
theorem dX5_drop_78 : decode cX5_drop 78 = .ok (.ireturn, 1) := by decide +kernel
theorem dX5_own_0 : decode cX5_own 0 = .ok (.iconst 0, 1) := by decide +kernel
theorem dX5_own_1 : decode cX5_own 1 = .ok (.istore 5, 2) := by decide +kernel
theorem dX5_own_3 : decode cX5_own 3 = .ok (.iload 5, 2) := by decide +kernel
theorem dX5_own_5 : decode cX5_own 5 = .ok (.aload_n 0, 1) := by decide +kernel
theorem dX5_own_6 : decode cX5_own 6 = .ok (.getfield 35, 3) := by decide +kernel
theorem dX5_own_9 : decode cX5_own 9 = .ok (.iload_n 1, 1) := by decide +kernel
theorem dX5_own_10 : decode cX5_own 10 = .ok (.iaload, 1) := by decide +kernel
theorem dX5_own_11 : decode cX5_own 11 = .ok (.if_icmp .ge 65, 3) := by decide +kernel
theorem dX5_own_14 : decode cX5_own 14 = .ok (.bipush 30, 2) := by decide +kernel
theorem dX5_own_16 : decode cX5_own 16 = .ok (.iload_n 1, 1) := by decide +kernel
theorem dX5_own_17 : decode cX5_own 17 = .ok (.imul, 1) := by decide +kernel
theorem dX5_own_18 : decode cX5_own 18 = .ok (.iload 5, 2) := by decide +kernel
theorem dX5_own_20 : decode cX5_own 20 = .ok (.iadd, 1) := by decide +kernel
theorem dX5_own_21 : decode cX5_own 21 = .ok (.istore 6, 2) := by decide +kernel
theorem dX5_own_23 : decode cX5_own 23 = .ok (.aload_n 0, 1) := by decide +kernel
theorem dX5_own_24 : decode cX5_own 24 = .ok (.getfield 32, 3) := by decide +kernel
theorem dX5_own_27 : decode cX5_own 27 = .ok (.iload 6, 2) := by decide +kernel
theorem dX5_own_29 : decode cX5_own 29 = .ok (.baload, 1) := by decide +kernel
theorem dX5_own_30 : decode cX5_own 30 = .ok (.ifCond .ne 40, 3) := by decide +kernel
theorem dX5_own_33 : decode cX5_own 33 = .ok (.aload_n 0, 1) := by decide +kernel
theorem dX5_own_34 : decode cX5_own 34 = .ok (.getfield 38, 3) := by decide +kernel
theorem dX5_own_37 : decode cX5_own 37 = .ok (.iload 6, 2) := by decide +kernel
theorem dX5_own_39 : decode cX5_own 39 = .ok (.iaload, 1) := by decide +kernel
theorem dX5_own_40 : decode cX5_own 40 = .ok (.iload_n 2, 1) := by decide +kernel
theorem dX5_own_41 : decode cX5_own 41 = .ok (.if_icmp .ne 29, 3) := by decide +kernel
theorem dX5_own_44 : decode cX5_own 44 = .ok (.aload_n 0, 1) := by decide +kernel
theorem dX5_own_45 : decode cX5_own 45 = .ok (.getfield 29, 3) := by decide +kernel
theorem dX5_own_48 : decode cX5_own 48 = .ok (.iload 6, 2) := by decide +kernel
theorem dX5_own_50 : decode cX5_own 50 = .ok (.baload, 1) := by decide +kernel
theorem dX5_own_51 : decode cX5_own 51 = .ok (.iload_n 3, 1) := by decide +kernel
theorem dX5_own_52 : decode cX5_own 52 = .ok (.if_icmp .ne 18, 3) := by decide +kernel
theorem dX5_own_55 : decode cX5_own 55 = .ok (.aload_n 0, 1) := by decide +kernel
theorem dX5_own_56 : decode cX5_own 56 = .ok (.getfield 41, 3) := by decide +kernel
theorem dX5_own_59 : decode cX5_own 59 = .ok (.iload 6, 2) := by decide +kernel
theorem dX5_own_61 : decode cX5_own 61 = .ok (.iaload, 1) := by decide +kernel
theorem dX5_own_62 : decode cX5_own 62 = .ok (.iload 4, 2) := by decide +kernel
theorem dX5_own_64 : decode cX5_own 64 = .ok (.if_icmp .ne 6, 3) := by decide +kernel
theorem dX5_own_67 : decode cX5_own 67 = .ok (.iload 5, 2) := by decide +kernel
theorem dX5_own_69 : decode cX5_own 69 = .ok (.ireturn, 1) := by decide +kernel
theorem dX5_own_70 : decode cX5_own 70 = .ok (.iinc 5 1, 3) := by decide +kernel
theorem dX5_own_73 : decode cX5_own 73 = .ok (.goto (-70), 3) := by decide +kernel
theorem dX5_own_76 : decode cX5_own 76 = .ok (.iconst (-1), 1) := by decide +kernel
theorem dX5_own_77 : decode cX5_own 77 = .ok (.ireturn, 1) := by decide +kernel
set_option maxRecDepth 20000 in
theorem ggX5_member_X5_isThere : GoodIn wsX5_member wsX5_isThere := goodIn_r _ [13, 14, 15, 16, 12, 17, 18, 19, 20, 21, 1, 26, 27, 28, 29, 30, 31, 32, 33, 34, 35, 36, 37, 38, 39, 40, 41, 42, 43, 44, 45, 46] (by decide +kernel) (by decide +kernel)
set_option maxRecDepth 20000 in
theorem gX5_member_X5_isThere : GoodIn wsX5_member (wsV RX5 80 RX5 yX5_isThere wsX5_isThere) := goodIn_app (goodIn_of _ (by decide +kernel)) ggX5_member_X5_isThere
set_option maxRecDepth 20000 in
theorem ggX5_member_X5_in : GoodIn wsX5_member wsX5_in := goodIn_r _ [17] (by decide +kernel) (by decide +kernel)
set_option maxRecDepth 20000 in
theorem gX5_member_X5_in : GoodIn wsX5_member (va_wsS RX5 72 yX5_in wsX5_in) := goodIn_app (goodIn_of _ (by decide +kernel)) ggX5_member_X5_in
set_option maxRecDepth 20000 in
theorem ggX5_member_X5_own : GoodIn wsX5_member wsX5_own := goodIn_r _ [25, 2, 3, 4, 5, 6, 26, 27, 28, 29, 30, 31, 32, 33, 34, 35, 36, 37, 38, 39, 40, 41, 42, 43, 44, 45, 46] (by decide +kernel) (by decide +kernel)
set_option maxRecDepth 20000 in
theorem gX5_member_X5_own : GoodIn wsX5_member (wsV RX5 84 RX5 yX5_own wsX5_own) := goodIn_app (goodIn_of _ (by decide +kernel)) ggX5_member_X5_own
theorem dX5_member_0 : decode cX5_member 0 = .ok (.aload_n 0, 1) := by decide +kernel
theorem dX5_member_1 : decode cX5_member 1 = .ok (.iload_n 1, 1) := by decide +kernel
theorem dX5_member_2 : decode cX5_member 2 = .ok (.invokevirtual 80, 3) := by decide +kernel
theorem dX5_member_5 : decode cX5_member 5 = .ok (.ifCond .eq 45, 3) := by decide +kernel
theorem dX5_member_8 : decode cX5_member 8 = .ok (.iload_n 3, 1) := by decide +kernel
theorem dX5_member_9 : decode cX5_member 9 = .ok (.bipush 15, 2) := by decide +kernel
theorem dX5_member_11 : decode cX5_member 11 = .ok (.invokestatic 72, 3) := by decide +kernel
theorem dX5_member_14 : decode cX5_member 14 = .ok (.ifCond .eq 36, 3) := by decide +kernel
theorem dX5_member_17 : decode cX5_member 17 = .ok (.iload 4, 2) := by decide +kernel
theorem dX5_member_19 : decode cX5_member 19 = .ok (.iconst 4, 1) := by decide +kernel
theorem dX5_member_20 : decode cX5_member 20 = .ok (.invokestatic 72, 3) := by decide +kernel
theorem dX5_member_23 : decode cX5_member 23 = .ok (.ifCond .eq 27, 3) := by decide +kernel
theorem dX5_member_26 : decode cX5_member 26 = .ok (.iload 5, 2) := by decide +kernel
theorem dX5_member_28 : decode cX5_member 28 = .ok (.bipush 8, 2) := by decide +kernel
theorem dX5_member_30 : decode cX5_member 30 = .ok (.invokestatic 72, 3) := by decide +kernel
theorem dX5_member_33 : decode cX5_member 33 = .ok (.ifCond .eq 17, 3) := by decide +kernel
theorem dX5_member_36 : decode cX5_member 36 = .ok (.aload_n 0, 1) := by decide +kernel
theorem dX5_member_37 : decode cX5_member 37 = .ok (.aload_n 0, 1) := by decide +kernel
theorem dX5_member_38 : decode cX5_member 38 = .ok (.getfield 68, 3) := by decide +kernel
theorem dX5_member_41 : decode cX5_member 41 = .ok (.iload_n 1, 1) := by decide +kernel
theorem dX5_member_42 : decode cX5_member 42 = .ok (.iload_n 2, 1) := by decide +kernel
theorem dX5_member_43 : decode cX5_member 43 = .ok (.iload_n 3, 1) := by decide +kernel
theorem dX5_member_44 : decode cX5_member 44 = .ok (.invokevirtual 84, 3) := by decide +kernel
theorem dX5_member_47 : decode cX5_member 47 = .ok (.ifCond .lt 5, 3) := by decide +kernel
theorem dX5_member_50 : decode cX5_member 50 = .ok (.iconst (-1), 1) := by decide +kernel
theorem dX5_member_51 : decode cX5_member 51 = .ok (.ireturn, 1) := by decide +kernel
theorem dX5_member_52 : decode cX5_member 52 = .ok (.aload_n 0, 1) := by decide +kernel
theorem dX5_member_53 : decode cX5_member 53 = .ok (.getfield 35, 3) := by decide +kernel
theorem dX5_member_56 : decode cX5_member 56 = .ok (.aload_n 0, 1) := by decide +kernel
theorem dX5_member_57 : decode cX5_member 57 = .ok (.getfield 68, 3) := by decide +kernel
theorem dX5_member_60 : decode cX5_member 60 = .ok (.iaload, 1) := by decide +kernel
theorem dX5_member_61 : decode cX5_member 61 = .ok (.bipush 30, 2) := by decide +kernel
theorem dX5_member_63 : decode cX5_member 63 = .ok (.if_icmp .ne 6, 3) := by decide +kernel
theorem dX5_member_66 : decode cX5_member 66 = .ok (.bipush (-3), 2) := by decide +kernel
theorem dX5_member_68 : decode cX5_member 68 = .ok (.ireturn, 1) := by decide +kernel
theorem dX5_member_69 : decode cX5_member 69 = .ok (.bipush 30, 2) := by decide +kernel
theorem dX5_member_71 : decode cX5_member 71 = .ok (.aload_n 0, 1) := by decide +kernel
theorem dX5_member_72 : decode cX5_member 72 = .ok (.getfield 68, 3) := by decide +kernel
theorem dX5_member_75 : decode cX5_member 75 = .ok (.imul, 1) := by decide +kernel
theorem dX5_member_76 : decode cX5_member 76 = .ok (.aload_n 0, 1) := by decide +kernel
theorem dX5_member_77 : decode cX5_member 77 = .ok (.getfield 35, 3) := by decide +kernel
theorem dX5_member_80 : decode cX5_member 80 = .ok (.aload_n 0, 1) := by decide +kernel
theorem dX5_member_81 : decode cX5_member 81 = .ok (.getfield 68, 3) := by decide +kernel
theorem dX5_member_84 : decode cX5_member 84 = .ok (.iaload, 1) := by decide +kernel
theorem dX5_member_85 : decode cX5_member 85 = .ok (.iadd, 1) := by decide +kernel
theorem dX5_member_86 : decode cX5_member 86 = .ok (.istore 6, 2) := by decide +kernel
theorem dX5_member_88 : decode cX5_member 88 = .ok (.aload_n 0, 1) := by decide +kernel
theorem dX5_member_89 : decode cX5_member 89 = .ok (.getfield 32, 3) := by decide +kernel
theorem dX5_member_92 : decode cX5_member 92 = .ok (.iload 6, 2) := by decide +kernel
theorem dX5_member_94 : decode cX5_member 94 = .ok (.iconst 0, 1) := by decide +kernel
theorem dX5_member_95 : decode cX5_member 95 = .ok (.bastore, 1) := by decide +kernel
theorem dX5_member_96 : decode cX5_member 96 = .ok (.aload_n 0, 1) := by decide +kernel
theorem dX5_member_97 : decode cX5_member 97 = .ok (.getfield 38, 3) := by decide +kernel
theorem dX5_member_100 : decode cX5_member 100 = .ok (.iload 6, 2) := by decide +kernel
theorem dX5_member_102 : decode cX5_member 102 = .ok (.iload_n 1, 1) := by decide +kernel
theorem dX5_member_103 : decode cX5_member 103 = .ok (.iastore, 1) := by decide +kernel
theorem dX5_member_104 : decode cX5_member 104 = .ok (.aload_n 0, 1) := by decide +kernel
theorem dX5_member_105 : decode cX5_member 105 = .ok (.getfield 29, 3) := by decide +kernel
theorem dX5_member_108 : decode cX5_member 108 = .ok (.iload 6, 2) := by decide +kernel
theorem dX5_member_110 : decode cX5_member 110 = .ok (.iload_n 2, 1) := by decide +kernel
theorem dX5_member_111 : decode cX5_member 111 = .ok (.bastore, 1) := by decide +kernel
theorem dX5_member_112 : decode cX5_member 112 = .ok (.aload_n 0, 1) := by decide +kernel
theorem dX5_member_113 : decode cX5_member 113 = .ok (.getfield 41, 3) := by decide +kernel
theorem dX5_member_116 : decode cX5_member 116 = .ok (.iload 6, 2) := by decide +kernel
theorem dX5_member_118 : decode cX5_member 118 = .ok (.iload_n 3, 1) := by decide +kernel
theorem dX5_member_119 : decode cX5_member 119 = .ok (.iastore, 1) := by decide +kernel
theorem dX5_member_120 : decode cX5_member 120 = .ok (.aload_n 0, 1) := by decide +kernel
theorem dX5_member_121 : decode cX5_member 121 = .ok (.getfield 44, 3) := by decide +kernel
theorem dX5_member_124 : decode cX5_member 124 = .ok (.iload 6, 2) := by decide +kernel
theorem dX5_member_126 : decode cX5_member 126 = .ok (.iload 4, 2) := by decide +kernel
theorem dX5_member_128 : decode cX5_member 128 = .ok (.iastore, 1) := by decide +kernel
theorem dX5_member_129 : decode cX5_member 129 = .ok (.aload_n 0, 1) := by decide +kernel
theorem dX5_member_130 : decode cX5_member 130 = .ok (.getfield 47, 3) := by decide +kernel
theorem dX5_member_133 : decode cX5_member 133 = .ok (.iload 6, 2) := by decide +kernel
theorem dX5_member_135 : decode cX5_member 135 = .ok (.iload 5, 2) := by decide +kernel
theorem dX5_member_137 : decode cX5_member 137 = .ok (.iastore, 1) := by decide +kernel
theorem dX5_member_138 : decode cX5_member 138 = .ok (.aload_n 0, 1) := by decide +kernel
theorem dX5_member_139 : decode cX5_member 139 = .ok (.getfield 35, 3) := by decide +kernel
theorem dX5_member_142 : decode cX5_member 142 = .ok (.aload_n 0, 1) := by decide +kernel
theorem dX5_member_143 : decode cX5_member 143 = .ok (.getfield 68, 3) := by decide +kernel
theorem dX5_member_146 : decode cX5_member 146 = .ok (.dup2, 1) := by decide +kernel
theorem dX5_member_147 : decode cX5_member 147 = .ok (.iaload, 1) := by decide +kernel
theorem dX5_member_148 : decode cX5_member 148 = .ok (.iconst 1, 1) := by decide +kernel
theorem dX5_member_149 : decode cX5_member 149 = .ok (.iadd, 1) := by decide +kernel
theorem dX5_member_150 : decode cX5_member 150 = .ok (.iastore, 1) := by decide +kernel
theorem dX5_member_151 : decode cX5_member 151 = .ok (.aload_n 0, 1) := by decide +kernel
theorem dX5_member_152 : decode cX5_member 152 = .ok (.getfield 35, 3) := by decide +kernel
theorem dX5_member_155 : decode cX5_member 155 = .ok (.aload_n 0, 1) := by decide +kernel
theorem dX5_member_156 : decode cX5_member 156 = .ok (.getfield 68, 3) := by decide +kernel
theorem dX5_member_159 : decode cX5_member 159 = .ok (.iaload, 1) := by decide +kernel
theorem dX5_member_160 : decode cX5_member 160 = .ok (.iconst 1, 1) := by decide +kernel
theorem dX5_member_161 : decode cX5_member 161 = .ok (.isub, 1) := by decide +kernel
theorem dX5_member_162 : decode cX5_member 162 = .ok (.ireturn, 1) := by decide +kernel
set_option maxRecDepth 20000 in
theorem ggX5_isMember_X5_in : GoodIn wsX5_isMember wsX5_in := goodIn_r _ [7] (by decide +kernel) (by decide +kernel)
set_option maxRecDepth 20000 in
theorem gX5_isMember_X5_in : GoodIn wsX5_isMember (va_wsS RX5 72 yX5_in wsX5_in) := goodIn_app (goodIn_of _ (by decide +kernel)) ggX5_isMember_X5_in
theorem dX5_isMember_0 : decode cX5_isMember 0 = .ok (.iload_n 1, 1) := by decide +kernel
theorem dX5_isMember_1 : decode cX5_isMember 1 = .ok (.aload_n 0, 1) := by decide +kernel
theorem dX5_isMember_2 : decode cX5_isMember 2 = .ok (.getfield 35, 3) := by decide +kernel
theorem dX5_isMember_5 : decode cX5_isMember 5 = .ok (.aload_n 0, 1) := by decide +kernel
theorem dX5_isMember_6 : decode cX5_isMember 6 = .ok (.getfield 68, 3) := by decide +kernel
theorem dX5_isMember_9 : decode cX5_isMember 9 = .ok (.iaload, 1) := by decide +kernel
theorem dX5_isMember_10 : decode cX5_isMember 10 = .ok (.invokestatic 72, 3) := by decide +kernel
theorem dX5_isMember_13 : decode cX5_isMember 13 = .ok (.ifCond .eq 24, 3) := by decide +kernel
theorem dX5_isMember_16 : decode cX5_isMember 16 = .ok (.aload_n 0, 1) := by decide +kernel
theorem dX5_isMember_17 : decode cX5_isMember 17 = .ok (.getfield 32, 3) := by decide +kernel
theorem dX5_isMember_20 : decode cX5_isMember 20 = .ok (.bipush 30, 2) := by decide +kernel
theorem dX5_isMember_22 : decode cX5_isMember 22 = .ok (.aload_n 0, 1) := by decide +kernel
theorem dX5_isMember_23 : decode cX5_isMember 23 = .ok (.getfield 68, 3) := by decide +kernel
theorem dX5_isMember_26 : decode cX5_isMember 26 = .ok (.imul, 1) := by decide +kernel
theorem dX5_isMember_27 : decode cX5_isMember 27 = .ok (.iload_n 1, 1) := by decide +kernel
theorem dX5_isMember_28 : decode cX5_isMember 28 = .ok (.iadd, 1) := by decide +kernel
theorem dX5_isMember_29 : decode cX5_isMember 29 = .ok (.baload, 1) := by decide +kernel
theorem dX5_isMember_30 : decode cX5_isMember 30 = .ok (.ifCond .ne 7, 3) := by decide +kernel
theorem dX5_isMember_33 : decode cX5_isMember 33 = .ok (.iconst 1, 1) := by decide +kernel
theorem dX5_isMember_34 : decode cX5_isMember 34 = .ok (.goto 4, 3) := by decide +kernel
theorem dX5_isMember_37 : decode cX5_isMember 37 = .ok (.iconst 0, 1) := by decide +kernel
theorem dX5_isMember_38 : decode cX5_isMember 38 = .ok (.ireturn, 1) := by decide +kernel
set_option maxRecDepth 20000 in
theorem ggX5_remake_X5_isMember : GoodIn wsX5_remake wsX5_isMember := goodIn_r _ [8, 9, 2, 10, 11, 12, 7, 13, 14, 15, 16, 17, 18, 19, 20, 21, 22, 23, 24, 25, 26, 27, 28, 29, 30, 31, 32, 33, 34] (by decide +kernel) (by decide +kernel)
set_option maxRecDepth 20000 in
theorem gX5_remake_X5_isMember : GoodIn wsX5_remake (wsV RX5 88 RX5 yX5_isMember wsX5_isMember) := goodIn_app (goodIn_of _ (by decide +kernel)) ggX5_remake_X5_isMember
set_option maxRecDepth 20000 in
theorem ggX5_remake_X5_in : GoodIn wsX5_remake wsX5_in := goodIn_r _ [13] (by decide +kernel) (by decide +kernel)
set_option maxRecDepth 20000 in
theorem gX5_remake_X5_in : GoodIn wsX5_remake (va_wsS RX5 72 yX5_in wsX5_in) := goodIn_app (goodIn_of _ (by decide +kernel)) ggX5_remake_X5_in
theorem dX5_remake_0 : decode cX5_remake 0 = .ok (.aload_n 0, 1) := by decide +kernel
theorem dX5_remake_1 : decode cX5_remake 1 = .ok (.iload_n 1, 1) := by decide +kernel
theorem dX5_remake_2 : decode cX5_remake 2 = .ok (.invokevirtual 88, 3) := by decide +kernel
theorem dX5_remake_5 : decode cX5_remake 5 = .ok (.ifCond .eq 20, 3) := by decide +kernel
theorem dX5_remake_8 : decode cX5_remake 8 = .ok (.iload_n 2, 1) := by decide +kernel
theorem dX5_remake_9 : decode cX5_remake 9 = .ok (.iconst 4, 1) := by decide +kernel
theorem dX5_remake_10 : decode cX5_remake 10 = .ok (.invokestatic 72, 3) := by decide +kernel
theorem dX5_remake_13 : decode cX5_remake 13 = .ok (.ifCond .eq 12, 3) := by decide +kernel
theorem dX5_remake_16 : decode cX5_remake 16 = .ok (.iload_n 3, 1) := by decide +kernel
theorem dX5_remake_17 : decode cX5_remake 17 = .ok (.bipush 8, 2) := by decide +kernel
theorem dX5_remake_19 : decode cX5_remake 19 = .ok (.invokestatic 72, 3) := by decide +kernel
theorem dX5_remake_22 : decode cX5_remake 22 = .ok (.ifCond .ne 5, 3) := by decide +kernel
theorem dX5_remake_25 : decode cX5_remake 25 = .ok (.iconst 0, 1) := by decide +kernel
theorem dX5_remake_26 : decode cX5_remake 26 = .ok (.ireturn, 1) := by decide +kernel
theorem dX5_remake_27 : decode cX5_remake 27 = .ok (.aload_n 0, 1) := by decide +kernel
theorem dX5_remake_28 : decode cX5_remake 28 = .ok (.getfield 44, 3) := by decide +kernel
theorem dX5_remake_31 : decode cX5_remake 31 = .ok (.bipush 30, 2) := by decide +kernel
theorem dX5_remake_33 : decode cX5_remake 33 = .ok (.aload_n 0, 1) := by decide +kernel
theorem dX5_remake_34 : decode cX5_remake 34 = .ok (.getfield 68, 3) := by decide +kernel
theorem dX5_remake_37 : decode cX5_remake 37 = .ok (.imul, 1) := by decide +kernel
theorem dX5_remake_38 : decode cX5_remake 38 = .ok (.iload_n 1, 1) := by decide +kernel
theorem dX5_remake_39 : decode cX5_remake 39 = .ok (.iadd, 1) := by decide +kernel
theorem dX5_remake_40 : decode cX5_remake 40 = .ok (.iload_n 2, 1) := by decide +kernel
theorem dX5_remake_41 : decode cX5_remake 41 = .ok (.iastore, 1) := by decide +kernel
theorem dX5_remake_42 : decode cX5_remake 42 = .ok (.aload_n 0, 1) := by decide +kernel
theorem dX5_remake_43 : decode cX5_remake 43 = .ok (.getfield 47, 3) := by decide +kernel
theorem dX5_remake_46 : decode cX5_remake 46 = .ok (.bipush 30, 2) := by decide +kernel
theorem dX5_remake_48 : decode cX5_remake 48 = .ok (.aload_n 0, 1) := by decide +kernel
theorem dX5_remake_49 : decode cX5_remake 49 = .ok (.getfield 68, 3) := by decide +kernel
theorem dX5_remake_52 : decode cX5_remake 52 = .ok (.imul, 1) := by decide +kernel
theorem dX5_remake_53 : decode cX5_remake 53 = .ok (.iload_n 1, 1) := by decide +kernel
theorem dX5_remake_54 : decode cX5_remake 54 = .ok (.iadd, 1) := by decide +kernel
theorem dX5_remake_55 : decode cX5_remake 55 = .ok (.iload_n 3, 1) := by decide +kernel
theorem dX5_remake_56 : decode cX5_remake 56 = .ok (.iastore, 1) := by decide +kernel
theorem dX5_remake_57 : decode cX5_remake 57 = .ok (.iconst 1, 1) := by decide +kernel
theorem dX5_remake_58 : decode cX5_remake 58 = .ok (.ireturn, 1) := by decide +kernel
set_option maxRecDepth 20000 in
theorem ggX5_remove_X5_isMember : GoodIn wsX5_remove wsX5_isMember := goodIn_r _ [7, 8, 2, 1, 9, 10, 6, 11, 12, 13, 14, 15, 16, 17, 18, 19, 20, 21, 22, 23, 24, 25, 26, 27, 28, 29, 30, 31, 32] (by decide +kernel) (by decide +kernel)
set_option maxRecDepth 20000 in
theorem gX5_remove_X5_isMember : GoodIn wsX5_remove (wsV RX5 88 RX5 yX5_isMember wsX5_isMember) := goodIn_app (goodIn_of _ (by decide +kernel)) ggX5_remove_X5_isMember
theorem dX5_remove_0 : decode cX5_remove 0 = .ok (.aload_n 0, 1) := by decide +kernel
theorem dX5_remove_1 : decode cX5_remove 1 = .ok (.iload_n 1, 1) := by decide +kernel
theorem dX5_remove_2 : decode cX5_remove 2 = .ok (.invokevirtual 88, 3) := by decide +kernel
theorem dX5_remove_5 : decode cX5_remove 5 = .ok (.ifCond .ne 5, 3) := by decide +kernel
theorem dX5_remove_8 : decode cX5_remove 8 = .ok (.iconst 0, 1) := by decide +kernel
theorem dX5_remove_9 : decode cX5_remove 9 = .ok (.ireturn, 1) := by decide +kernel
theorem dX5_remove_10 : decode cX5_remove 10 = .ok (.aload_n 0, 1) := by decide +kernel
theorem dX5_remove_11 : decode cX5_remove 11 = .ok (.getfield 32, 3) := by decide +kernel
theorem dX5_remove_14 : decode cX5_remove 14 = .ok (.bipush 30, 2) := by decide +kernel
theorem dX5_remove_16 : decode cX5_remove 16 = .ok (.aload_n 0, 1) := by decide +kernel
theorem dX5_remove_17 : decode cX5_remove 17 = .ok (.getfield 68, 3) := by decide +kernel
theorem dX5_remove_20 : decode cX5_remove 20 = .ok (.imul, 1) := by decide +kernel
theorem dX5_remove_21 : decode cX5_remove 21 = .ok (.iload_n 1, 1) := by decide +kernel
theorem dX5_remove_22 : decode cX5_remove 22 = .ok (.iadd, 1) := by decide +kernel
theorem dX5_remove_23 : decode cX5_remove 23 = .ok (.iconst 1, 1) := by decide +kernel
theorem dX5_remove_24 : decode cX5_remove 24 = .ok (.bastore, 1) := by decide +kernel
theorem dX5_remove_25 : decode cX5_remove 25 = .ok (.iconst 1, 1) := by decide +kernel
theorem dX5_remove_26 : decode cX5_remove 26 = .ok (.ireturn, 1) := by decide +kernel
theorem dX5_branch_0 : decode cX5_branch 0 = .ok (.iconst 0, 1) := by decide +kernel
theorem dX5_branch_1 : decode cX5_branch 1 = .ok (.istore_n 1, 1) := by decide +kernel
theorem dX5_branch_2 : decode cX5_branch 2 = .ok (.iconst 0, 1) := by decide +kernel
theorem dX5_branch_3 : decode cX5_branch 3 = .ok (.istore_n 2, 1) := by decide +kernel
theorem dX5_branch_4 : decode cX5_branch 4 = .ok (.iload_n 2, 1) := by decide +kernel
theorem dX5_branch_5 : decode cX5_branch 5 = .ok (.bipush 12, 2) := by decide +kernel
theorem dX5_branch_7 : decode cX5_branch 7 = .ok (.if_icmp .ge 111, 3) := by decide +kernel
theorem dX5_branch_10 : decode cX5_branch 10 = .ok (.aload_n 0, 1) := by decide +kernel
theorem dX5_branch_11 : decode cX5_branch 11 = .ok (.getfield 7, 3) := by decide +kernel
theorem dX5_branch_14 : decode cX5_branch 14 = .ok (.bipush 12, 2) := by decide +kernel
theorem dX5_branch_16 : decode cX5_branch 16 = .ok (.iload_n 2, 1) := by decide +kernel
theorem dX5_branch_17 : decode cX5_branch 17 = .ok (.iadd, 1) := by decide +kernel
theorem dX5_branch_18 : decode cX5_branch 18 = .ok (.aload_n 0, 1) := by decide +kernel
theorem dX5_branch_19 : decode cX5_branch 19 = .ok (.getfield 7, 3) := by decide +kernel
theorem dX5_branch_22 : decode cX5_branch 22 = .ok (.iload_n 2, 1) := by decide +kernel
theorem dX5_branch_23 : decode cX5_branch 23 = .ok (.baload, 1) := by decide +kernel
theorem dX5_branch_24 : decode cX5_branch 24 = .ok (.bastore, 1) := by decide +kernel
theorem dX5_branch_25 : decode cX5_branch 25 = .ok (.aload_n 0, 1) := by decide +kernel
theorem dX5_branch_26 : decode cX5_branch 26 = .ok (.getfield 13, 3) := by decide +kernel
theorem dX5_branch_29 : decode cX5_branch 29 = .ok (.bipush 12, 2) := by decide +kernel
theorem dX5_branch_31 : decode cX5_branch 31 = .ok (.iload_n 2, 1) := by decide +kernel
theorem dX5_branch_32 : decode cX5_branch 32 = .ok (.iadd, 1) := by decide +kernel
theorem dX5_branch_33 : decode cX5_branch 33 = .ok (.aload_n 0, 1) := by decide +kernel
theorem dX5_branch_34 : decode cX5_branch 34 = .ok (.getfield 13, 3) := by decide +kernel
theorem dX5_branch_37 : decode cX5_branch 37 = .ok (.iload_n 2, 1) := by decide +kernel
theorem dX5_branch_38 : decode cX5_branch 38 = .ok (.iaload, 1) := by decide +kernel
theorem dX5_branch_39 : decode cX5_branch 39 = .ok (.iastore, 1) := by decide +kernel
theorem dX5_branch_40 : decode cX5_branch 40 = .ok (.aload_n 0, 1) := by decide +kernel
theorem dX5_branch_41 : decode cX5_branch 41 = .ok (.getfield 17, 3) := by decide +kernel
theorem dX5_branch_44 : decode cX5_branch 44 = .ok (.bipush 12, 2) := by decide +kernel
theorem dX5_branch_46 : decode cX5_branch 46 = .ok (.iload_n 2, 1) := by decide +kernel
theorem dX5_branch_47 : decode cX5_branch 47 = .ok (.iadd, 1) := by decide +kernel
theorem dX5_branch_48 : decode cX5_branch 48 = .ok (.aload_n 0, 1) := by decide +kernel
theorem dX5_branch_49 : decode cX5_branch 49 = .ok (.getfield 17, 3) := by decide +kernel
theorem dX5_branch_52 : decode cX5_branch 52 = .ok (.iload_n 2, 1) := by decide +kernel
theorem dX5_branch_53 : decode cX5_branch 53 = .ok (.iaload, 1) := by decide +kernel
theorem dX5_branch_54 : decode cX5_branch 54 = .ok (.iastore, 1) := by decide +kernel
theorem dX5_branch_55 : decode cX5_branch 55 = .ok (.aload_n 0, 1) := by decide +kernel
theorem dX5_branch_56 : decode cX5_branch 56 = .ok (.getfield 20, 3) := by decide +kernel
theorem dX5_branch_59 : decode cX5_branch 59 = .ok (.bipush 12, 2) := by decide +kernel
theorem dX5_branch_61 : decode cX5_branch 61 = .ok (.iload_n 2, 1) := by decide +kernel
theorem dX5_branch_62 : decode cX5_branch 62 = .ok (.iadd, 1) := by decide +kernel
theorem dX5_branch_63 : decode cX5_branch 63 = .ok (.aload_n 0, 1) := by decide +kernel
theorem dX5_branch_64 : decode cX5_branch 64 = .ok (.getfield 20, 3) := by decide +kernel
theorem dX5_branch_67 : decode cX5_branch 67 = .ok (.iload_n 2, 1) := by decide +kernel
theorem dX5_branch_68 : decode cX5_branch 68 = .ok (.iaload, 1) := by decide +kernel
theorem dX5_branch_69 : decode cX5_branch 69 = .ok (.iastore, 1) := by decide +kernel
theorem dX5_branch_70 : decode cX5_branch 70 = .ok (.aload_n 0, 1) := by decide +kernel
theorem dX5_branch_71 : decode cX5_branch 71 = .ok (.getfield 23, 3) := by decide +kernel
theorem dX5_branch_74 : decode cX5_branch 74 = .ok (.bipush 12, 2) := by decide +kernel
theorem dX5_branch_76 : decode cX5_branch 76 = .ok (.iload_n 2, 1) := by decide +kernel
theorem dX5_branch_77 : decode cX5_branch 77 = .ok (.iadd, 1) := by decide +kernel
theorem dX5_branch_78 : decode cX5_branch 78 = .ok (.aload_n 0, 1) := by decide +kernel
theorem dX5_branch_79 : decode cX5_branch 79 = .ok (.getfield 23, 3) := by decide +kernel
theorem dX5_branch_82 : decode cX5_branch 82 = .ok (.iload_n 2, 1) := by decide +kernel
theorem dX5_branch_83 : decode cX5_branch 83 = .ok (.iaload, 1) := by decide +kernel
theorem dX5_branch_84 : decode cX5_branch 84 = .ok (.iastore, 1) := by decide +kernel
theorem dX5_branch_85 : decode cX5_branch 85 = .ok (.aload_n 0, 1) := by decide +kernel
theorem dX5_branch_86 : decode cX5_branch 86 = .ok (.getfield 26, 3) := by decide +kernel
theorem dX5_branch_89 : decode cX5_branch 89 = .ok (.bipush 12, 2) := by decide +kernel
theorem dX5_branch_91 : decode cX5_branch 91 = .ok (.iload_n 2, 1) := by decide +kernel
theorem dX5_branch_92 : decode cX5_branch 92 = .ok (.iadd, 1) := by decide +kernel
theorem dX5_branch_93 : decode cX5_branch 93 = .ok (.aload_n 0, 1) := by decide +kernel
theorem dX5_branch_94 : decode cX5_branch 94 = .ok (.getfield 26, 3) := by decide +kernel
theorem dX5_branch_97 : decode cX5_branch 97 = .ok (.iload_n 2, 1) := by decide +kernel
theorem dX5_branch_98 : decode cX5_branch 98 = .ok (.iaload, 1) := by decide +kernel
theorem dX5_branch_99 : decode cX5_branch 99 = .ok (.iastore, 1) := by decide +kernel
theorem dX5_branch_100 : decode cX5_branch 100 = .ok (.aload_n 0, 1) := by decide +kernel
theorem dX5_branch_101 : decode cX5_branch 101 = .ok (.getfield 7, 3) := by decide +kernel
theorem dX5_branch_104 : decode cX5_branch 104 = .ok (.iload_n 2, 1) := by decide +kernel
theorem dX5_branch_105 : decode cX5_branch 105 = .ok (.baload, 1) := by decide +kernel
theorem dX5_branch_106 : decode cX5_branch 106 = .ok (.ifCond .eq 6, 3) := by decide +kernel
theorem dX5_branch_109 : decode cX5_branch 109 = .ok (.iinc 1 1, 3) := by decide +kernel
theorem dX5_branch_112 : decode cX5_branch 112 = .ok (.iinc 2 1, 3) := by decide +kernel
theorem dX5_branch_115 : decode cX5_branch 115 = .ok (.goto (-111), 3) := by decide +kernel
theorem dX5_branch_118 : decode cX5_branch 118 = .ok (.iconst 0, 1) := by decide +kernel
theorem dX5_branch_119 : decode cX5_branch 119 = .ok (.istore_n 2, 1) := by decide +kernel
theorem dX5_branch_120 : decode cX5_branch 120 = .ok (.iload_n 2, 1) := by decide +kernel
theorem dX5_branch_121 : decode cX5_branch 121 = .ok (.aload_n 0, 1) := by decide +kernel
theorem dX5_branch_122 : decode cX5_branch 122 = .ok (.getfield 35, 3) := by decide +kernel
theorem dX5_branch_125 : decode cX5_branch 125 = .ok (.iconst 0, 1) := by decide +kernel
theorem dX5_branch_126 : decode cX5_branch 126 = .ok (.iaload, 1) := by decide +kernel
theorem dX5_branch_127 : decode cX5_branch 127 = .ok (.if_icmp .ge 99, 3) := by decide +kernel
theorem dX5_branch_130 : decode cX5_branch 130 = .ok (.aload_n 0, 1) := by decide +kernel
theorem dX5_branch_131 : decode cX5_branch 131 = .ok (.getfield 32, 3) := by decide +kernel
theorem dX5_branch_134 : decode cX5_branch 134 = .ok (.bipush 30, 2) := by decide +kernel
theorem dX5_branch_136 : decode cX5_branch 136 = .ok (.iload_n 2, 1) := by decide +kernel
theorem dX5_branch_137 : decode cX5_branch 137 = .ok (.iadd, 1) := by decide +kernel
theorem dX5_branch_138 : decode cX5_branch 138 = .ok (.aload_n 0, 1) := by decide +kernel
theorem dX5_branch_139 : decode cX5_branch 139 = .ok (.getfield 32, 3) := by decide +kernel
theorem dX5_branch_142 : decode cX5_branch 142 = .ok (.iload_n 2, 1) := by decide +kernel
theorem dX5_branch_143 : decode cX5_branch 143 = .ok (.baload, 1) := by decide +kernel
theorem dX5_branch_144 : decode cX5_branch 144 = .ok (.bastore, 1) := by decide +kernel
theorem dX5_branch_145 : decode cX5_branch 145 = .ok (.aload_n 0, 1) := by decide +kernel
theorem dX5_branch_146 : decode cX5_branch 146 = .ok (.getfield 38, 3) := by decide +kernel
theorem dX5_branch_149 : decode cX5_branch 149 = .ok (.bipush 30, 2) := by decide +kernel
theorem dX5_branch_151 : decode cX5_branch 151 = .ok (.iload_n 2, 1) := by decide +kernel
theorem dX5_branch_152 : decode cX5_branch 152 = .ok (.iadd, 1) := by decide +kernel
theorem dX5_branch_153 : decode cX5_branch 153 = .ok (.aload_n 0, 1) := by decide +kernel
theorem dX5_branch_154 : decode cX5_branch 154 = .ok (.getfield 38, 3) := by decide +kernel
theorem dX5_branch_157 : decode cX5_branch 157 = .ok (.iload_n 2, 1) := by decide +kernel
theorem dX5_branch_158 : decode cX5_branch 158 = .ok (.iaload, 1) := by decide +kernel
theorem dX5_branch_159 : decode cX5_branch 159 = .ok (.iastore, 1) := by decide +kernel
theorem dX5_branch_160 : decode cX5_branch 160 = .ok (.aload_n 0, 1) := by decide +kernel
theorem dX5_branch_161 : decode cX5_branch 161 = .ok (.getfield 29, 3) := by decide +kernel
theorem dX5_branch_164 : decode cX5_branch 164 = .ok (.bipush 30, 2) := by decide +kernel
theorem dX5_branch_166 : decode cX5_branch 166 = .ok (.iload_n 2, 1) := by decide +kernel
theorem dX5_branch_167 : decode cX5_branch 167 = .ok (.iadd, 1) := by decide +kernel
theorem dX5_branch_168 : decode cX5_branch 168 = .ok (.aload_n 0, 1) := by decide +kernel
theorem dX5_branch_169 : decode cX5_branch 169 = .ok (.getfield 29, 3) := by decide +kernel
theorem dX5_branch_172 : decode cX5_branch 172 = .ok (.iload_n 2, 1) := by decide +kernel
theorem dX5_branch_173 : decode cX5_branch 173 = .ok (.baload, 1) := by decide +kernel
theorem dX5_branch_174 : decode cX5_branch 174 = .ok (.bastore, 1) := by decide +kernel
theorem dX5_branch_175 : decode cX5_branch 175 = .ok (.aload_n 0, 1) := by decide +kernel
theorem dX5_branch_176 : decode cX5_branch 176 = .ok (.getfield 41, 3) := by decide +kernel
theorem dX5_branch_179 : decode cX5_branch 179 = .ok (.bipush 30, 2) := by decide +kernel
theorem dX5_branch_181 : decode cX5_branch 181 = .ok (.iload_n 2, 1) := by decide +kernel
theorem dX5_branch_182 : decode cX5_branch 182 = .ok (.iadd, 1) := by decide +kernel
theorem dX5_branch_183 : decode cX5_branch 183 = .ok (.aload_n 0, 1) := by decide +kernel
theorem dX5_branch_184 : decode cX5_branch 184 = .ok (.getfield 41, 3) := by decide +kernel
theorem dX5_branch_187 : decode cX5_branch 187 = .ok (.iload_n 2, 1) := by decide +kernel
theorem dX5_branch_188 : decode cX5_branch 188 = .ok (.iaload, 1) := by decide +kernel
theorem dX5_branch_189 : decode cX5_branch 189 = .ok (.iastore, 1) := by decide +kernel
theorem dX5_branch_190 : decode cX5_branch 190 = .ok (.aload_n 0, 1) := by decide +kernel
theorem dX5_branch_191 : decode cX5_branch 191 = .ok (.getfield 44, 3) := by decide +kernel
theorem dX5_branch_194 : decode cX5_branch 194 = .ok (.bipush 30, 2) := by decide +kernel
theorem dX5_branch_196 : decode cX5_branch 196 = .ok (.iload_n 2, 1) := by decide +kernel
theorem dX5_branch_197 : decode cX5_branch 197 = .ok (.iadd, 1) := by decide +kernel
theorem dX5_branch_198 : decode cX5_branch 198 = .ok (.aload_n 0, 1) := by decide +kernel
theorem dX5_branch_199 : decode cX5_branch 199 = .ok (.getfield 44, 3) := by decide +kernel
theorem dX5_branch_202 : decode cX5_branch 202 = .ok (.iload_n 2, 1) := by decide +kernel
theorem dX5_branch_203 : decode cX5_branch 203 = .ok (.iaload, 1) := by decide +kernel
theorem dX5_branch_204 : decode cX5_branch 204 = .ok (.iastore, 1) := by decide +kernel
theorem dX5_branch_205 : decode cX5_branch 205 = .ok (.aload_n 0, 1) := by decide +kernel
theorem dX5_branch_206 : decode cX5_branch 206 = .ok (.getfield 47, 3) := by decide +kernel
theorem dX5_branch_209 : decode cX5_branch 209 = .ok (.bipush 30, 2) := by decide +kernel
theorem dX5_branch_211 : decode cX5_branch 211 = .ok (.iload_n 2, 1) := by decide +kernel
theorem dX5_branch_212 : decode cX5_branch 212 = .ok (.iadd, 1) := by decide +kernel
theorem dX5_branch_213 : decode cX5_branch 213 = .ok (.aload_n 0, 1) := by decide +kernel
theorem dX5_branch_214 : decode cX5_branch 214 = .ok (.getfield 47, 3) := by decide +kernel
theorem dX5_branch_217 : decode cX5_branch 217 = .ok (.iload_n 2, 1) := by decide +kernel
theorem dX5_branch_218 : decode cX5_branch 218 = .ok (.iaload, 1) := by decide +kernel
theorem dX5_branch_219 : decode cX5_branch 219 = .ok (.iastore, 1) := by decide +kernel
theorem dX5_branch_220 : decode cX5_branch 220 = .ok (.iinc 2 1, 3) := by decide +kernel
theorem dX5_branch_223 : decode cX5_branch 223 = .ok (.goto (-103), 3) := by decide +kernel
theorem dX5_branch_226 : decode cX5_branch 226 = .ok (.aload_n 0, 1) := by decide +kernel
theorem dX5_branch_227 : decode cX5_branch 227 = .ok (.getfield 35, 3) := by decide +kernel
theorem dX5_branch_230 : decode cX5_branch 230 = .ok (.iconst 1, 1) := by decide +kernel
theorem dX5_branch_231 : decode cX5_branch 231 = .ok (.aload_n 0, 1) := by decide +kernel
theorem dX5_branch_232 : decode cX5_branch 232 = .ok (.getfield 35, 3) := by decide +kernel
theorem dX5_branch_235 : decode cX5_branch 235 = .ok (.iconst 0, 1) := by decide +kernel
theorem dX5_branch_236 : decode cX5_branch 236 = .ok (.iaload, 1) := by decide +kernel
theorem dX5_branch_237 : decode cX5_branch 237 = .ok (.iastore, 1) := by decide +kernel
theorem dX5_branch_238 : decode cX5_branch 238 = .ok (.aload_n 0, 1) := by decide +kernel
theorem dX5_branch_239 : decode cX5_branch 239 = .ok (.iconst 1, 1) := by decide +kernel
theorem dX5_branch_240 : decode cX5_branch 240 = .ok (.putfield 68, 3) := by decide +kernel
theorem dX5_branch_243 : decode cX5_branch 243 = .ok (.iload_n 1, 1) := by decide +kernel
theorem dX5_branch_244 : decode cX5_branch 244 = .ok (.ireturn, 1) := by decide +kernel
set_option maxRecDepth 20000 in
theorem ggX5_write_X5_in : GoodIn wsX5_write wsX5_in := goodIn_r _ [5] (by decide +kernel) (by decide +kernel)
set_option maxRecDepth 20000 in
theorem gX5_write_X5_in : GoodIn wsX5_write (va_wsS RX5 72 yX5_in wsX5_in) := goodIn_app (goodIn_of _ (by decide +kernel)) ggX5_write_X5_in
theorem dX5_write_0 : decode cX5_write 0 = .ok (.iload_n 1, 1) := by decide +kernel
theorem dX5_write_1 : decode cX5_write 1 = .ok (.iconst 2, 1) := by decide +kernel
theorem dX5_write_2 : decode cX5_write 2 = .ok (.invokestatic 72, 3) := by decide +kernel
theorem dX5_write_5 : decode cX5_write 5 = .ok (.ifCond .ne 5, 3) := by decide +kernel
theorem dX5_write_8 : decode cX5_write 8 = .ok (.iconst 0, 1) := by decide +kernel
theorem dX5_write_9 : decode cX5_write 9 = .ok (.ireturn, 1) := by decide +kernel
theorem dX5_write_10 : decode cX5_write 10 = .ok (.aload_n 0, 1) := by decide +kernel
theorem dX5_write_11 : decode cX5_write 11 = .ok (.iload_n 1, 1) := by decide +kernel
theorem dX5_write_12 : decode cX5_write 12 = .ok (.putfield 68, 3) := by decide +kernel
theorem dX5_write_15 : decode cX5_write 15 = .ok (.iconst 1, 1) := by decide +kernel
theorem dX5_write_16 : decode cX5_write 16 = .ok (.ireturn, 1) := by decide +kernel
set_option maxRecDepth 20000 in
theorem ggX5_refer_X5_in : GoodIn wsX5_refer wsX5_in := goodIn_r _ [9] (by decide +kernel) (by decide +kernel)
set_option maxRecDepth 20000 in
theorem gX5_refer_X5_in : GoodIn wsX5_refer (va_wsS RX5 72 yX5_in wsX5_in) := goodIn_app (goodIn_of _ (by decide +kernel)) ggX5_refer_X5_in
theorem dX5_refer_0 : decode cX5_refer 0 = .ok (.iload_n 1, 1) := by decide +kernel
theorem dX5_refer_1 : decode cX5_refer 1 = .ok (.bipush 9, 2) := by decide +kernel
theorem dX5_refer_3 : decode cX5_refer 3 = .ok (.invokestatic 72, 3) := by decide +kernel
theorem dX5_refer_6 : decode cX5_refer 6 = .ok (.ifCond .eq 31, 3) := by decide +kernel
theorem dX5_refer_9 : decode cX5_refer 9 = .ok (.iload_n 2, 1) := by decide +kernel
theorem dX5_refer_10 : decode cX5_refer 10 = .ok (.bipush 12, 2) := by decide +kernel
theorem dX5_refer_12 : decode cX5_refer 12 = .ok (.invokestatic 72, 3) := by decide +kernel
theorem dX5_refer_15 : decode cX5_refer 15 = .ok (.ifCond .eq 22, 3) := by decide +kernel
theorem dX5_refer_18 : decode cX5_refer 18 = .ok (.iload_n 3, 1) := by decide +kernel
theorem dX5_refer_19 : decode cX5_refer 19 = .ok (.bipush 12, 2) := by decide +kernel
theorem dX5_refer_21 : decode cX5_refer 21 = .ok (.invokestatic 72, 3) := by decide +kernel
theorem dX5_refer_24 : decode cX5_refer 24 = .ok (.ifCond .eq 13, 3) := by decide +kernel
theorem dX5_refer_27 : decode cX5_refer 27 = .ok (.iload 4, 2) := by decide +kernel
theorem dX5_refer_29 : decode cX5_refer 29 = .ok (.bipush 15, 2) := by decide +kernel
theorem dX5_refer_31 : decode cX5_refer 31 = .ok (.invokestatic 72, 3) := by decide +kernel
theorem dX5_refer_34 : decode cX5_refer 34 = .ok (.ifCond .ne 5, 3) := by decide +kernel
theorem dX5_refer_37 : decode cX5_refer 37 = .ok (.iconst (-1), 1) := by decide +kernel
theorem dX5_refer_38 : decode cX5_refer 38 = .ok (.ireturn, 1) := by decide +kernel
theorem dX5_refer_39 : decode cX5_refer 39 = .ok (.aload_n 0, 1) := by decide +kernel
theorem dX5_refer_40 : decode cX5_refer 40 = .ok (.getfield 91, 3) := by decide +kernel
theorem dX5_refer_43 : decode cX5_refer 43 = .ok (.bipush 16, 2) := by decide +kernel
theorem dX5_refer_45 : decode cX5_refer 45 = .ok (.if_icmp .ne 6, 3) := by decide +kernel
theorem dX5_refer_48 : decode cX5_refer 48 = .ok (.bipush (-3), 2) := by decide +kernel
theorem dX5_refer_50 : decode cX5_refer 50 = .ok (.ireturn, 1) := by decide +kernel
theorem dX5_refer_51 : decode cX5_refer 51 = .ok (.aload_n 0, 1) := by decide +kernel
theorem dX5_refer_52 : decode cX5_refer 52 = .ok (.getfield 50, 3) := by decide +kernel
theorem dX5_refer_55 : decode cX5_refer 55 = .ok (.aload_n 0, 1) := by decide +kernel
theorem dX5_refer_56 : decode cX5_refer 56 = .ok (.getfield 91, 3) := by decide +kernel
theorem dX5_refer_59 : decode cX5_refer 59 = .ok (.iload_n 1, 1) := by decide +kernel
theorem dX5_refer_60 : decode cX5_refer 60 = .ok (.iastore, 1) := by decide +kernel
theorem dX5_refer_61 : decode cX5_refer 61 = .ok (.aload_n 0, 1) := by decide +kernel
theorem dX5_refer_62 : decode cX5_refer 62 = .ok (.getfield 53, 3) := by decide +kernel
theorem dX5_refer_65 : decode cX5_refer 65 = .ok (.aload_n 0, 1) := by decide +kernel
theorem dX5_refer_66 : decode cX5_refer 66 = .ok (.getfield 91, 3) := by decide +kernel
theorem dX5_refer_69 : decode cX5_refer 69 = .ok (.iload_n 2, 1) := by decide +kernel
theorem dX5_refer_70 : decode cX5_refer 70 = .ok (.iastore, 1) := by decide +kernel
theorem dX5_refer_71 : decode cX5_refer 71 = .ok (.aload_n 0, 1) := by decide +kernel
theorem dX5_refer_72 : decode cX5_refer 72 = .ok (.getfield 56, 3) := by decide +kernel
theorem dX5_refer_75 : decode cX5_refer 75 = .ok (.aload_n 0, 1) := by decide +kernel
theorem dX5_refer_76 : decode cX5_refer 76 = .ok (.getfield 91, 3) := by decide +kernel
theorem dX5_refer_79 : decode cX5_refer 79 = .ok (.iload_n 3, 1) := by decide +kernel
theorem dX5_refer_80 : decode cX5_refer 80 = .ok (.iastore, 1) := by decide +kernel
theorem dX5_refer_81 : decode cX5_refer 81 = .ok (.aload_n 0, 1) := by decide +kernel
theorem dX5_refer_82 : decode cX5_refer 82 = .ok (.getfield 59, 3) := by decide +kernel
theorem dX5_refer_85 : decode cX5_refer 85 = .ok (.aload_n 0, 1) := by decide +kernel
theorem dX5_refer_86 : decode cX5_refer 86 = .ok (.getfield 91, 3) := by decide +kernel
theorem dX5_refer_89 : decode cX5_refer 89 = .ok (.iload 4, 2) := by decide +kernel
theorem dX5_refer_91 : decode cX5_refer 91 = .ok (.iastore, 1) := by decide +kernel
theorem dX5_refer_92 : decode cX5_refer 92 = .ok (.aload_n 0, 1) := by decide +kernel
theorem dX5_refer_93 : decode cX5_refer 93 = .ok (.dup, 1) := by decide +kernel
theorem dX5_refer_94 : decode cX5_refer 94 = .ok (.getfield 91, 3) := by decide +kernel
theorem dX5_refer_97 : decode cX5_refer 97 = .ok (.iconst 1, 1) := by decide +kernel
theorem dX5_refer_98 : decode cX5_refer 98 = .ok (.iadd, 1) := by decide +kernel
theorem dX5_refer_99 : decode cX5_refer 99 = .ok (.putfield 91, 3) := by decide +kernel
theorem dX5_refer_102 : decode cX5_refer 102 = .ok (.aload_n 0, 1) := by decide +kernel
theorem dX5_refer_103 : decode cX5_refer 103 = .ok (.getfield 91, 3) := by decide +kernel
theorem dX5_refer_106 : decode cX5_refer 106 = .ok (.iconst 1, 1) := by decide +kernel
theorem dX5_refer_107 : decode cX5_refer 107 = .ok (.isub, 1) := by decide +kernel
theorem dX5_refer_108 : decode cX5_refer 108 = .ok (.ireturn, 1) := by decide +kernel
theorem dX5_forget_0 : decode cX5_forget 0 = .ok (.aload_n 0, 1) := by decide +kernel
theorem dX5_forget_1 : decode cX5_forget 1 = .ok (.getfield 91, 3) := by decide +kernel
theorem dX5_forget_4 : decode cX5_forget 4 = .ok (.istore_n 1, 1) := by decide +kernel
theorem dX5_forget_5 : decode cX5_forget 5 = .ok (.aload_n 0, 1) := by decide +kernel
theorem dX5_forget_6 : decode cX5_forget 6 = .ok (.iconst 0, 1) := by decide +kernel
theorem dX5_forget_7 : decode cX5_forget 7 = .ok (.putfield 91, 3) := by decide +kernel
theorem dX5_forget_10 : decode cX5_forget 10 = .ok (.iload_n 1, 1) := by decide +kernel
theorem dX5_forget_11 : decode cX5_forget 11 = .ok (.ireturn, 1) := by decide +kernel
theorem dX5_verdict_0 : decode cX5_verdict 0 = .ok (.bipush 64, 2) := by decide +kernel
theorem dX5_verdict_2 : decode cX5_verdict 2 = .ok (.iload_n 0, 1) := by decide +kernel
theorem dX5_verdict_3 : decode cX5_verdict 3 = .ok (.imul, 1) := by decide +kernel
theorem dX5_verdict_4 : decode cX5_verdict 4 = .ok (.iload_n 1, 1) := by decide +kernel
theorem dX5_verdict_5 : decode cX5_verdict 5 = .ok (.iadd, 1) := by decide +kernel
theorem dX5_verdict_6 : decode cX5_verdict 6 = .ok (.ireturn, 1) := by decide +kernel
set_option maxRecDepth 20000 in
theorem ggX5_isChanged_X5_has : GoodIn wsX5_isChanged wsX5_has := goodIn_r _ [7] (by decide +kernel) (by decide +kernel)
set_option maxRecDepth 20000 in
theorem gX5_isChanged_X5_has : GoodIn wsX5_isChanged (va_wsS RX5 94 yX5_has wsX5_has) := goodIn_app (goodIn_of _ (by decide +kernel)) ggX5_isChanged_X5_has
theorem dX5_isChanged_0 : decode cX5_isChanged 0 = .ok (.bipush 12, 2) := by decide +kernel
theorem dX5_isChanged_2 : decode cX5_isChanged 2 = .ok (.iload_n 1, 1) := by decide +kernel
theorem dX5_isChanged_3 : decode cX5_isChanged 3 = .ok (.imul, 1) := by decide +kernel
theorem dX5_isChanged_4 : decode cX5_isChanged 4 = .ok (.iload_n 2, 1) := by decide +kernel
theorem dX5_isChanged_5 : decode cX5_isChanged 5 = .ok (.iadd, 1) := by decide +kernel
theorem dX5_isChanged_6 : decode cX5_isChanged 6 = .ok (.istore_n 3, 1) := by decide +kernel
theorem dX5_isChanged_7 : decode cX5_isChanged 7 = .ok (.aload_n 0, 1) := by decide +kernel
theorem dX5_isChanged_8 : decode cX5_isChanged 8 = .ok (.getfield 20, 3) := by decide +kernel
theorem dX5_isChanged_11 : decode cX5_isChanged 11 = .ok (.iload_n 3, 1) := by decide +kernel
theorem dX5_isChanged_12 : decode cX5_isChanged 12 = .ok (.iaload, 1) := by decide +kernel
theorem dX5_isChanged_13 : decode cX5_isChanged 13 = .ok (.istore 4, 2) := by decide +kernel
theorem dX5_isChanged_15 : decode cX5_isChanged 15 = .ok (.iload 4, 2) := by decide +kernel
theorem dX5_isChanged_17 : decode cX5_isChanged 17 = .ok (.ifCond .lt 39, 3) := by decide +kernel
theorem dX5_isChanged_20 : decode cX5_isChanged 20 = .ok (.aload_n 0, 1) := by decide +kernel
theorem dX5_isChanged_21 : decode cX5_isChanged 21 = .ok (.getfield 13, 3) := by decide +kernel
theorem dX5_isChanged_24 : decode cX5_isChanged 24 = .ok (.bipush 12, 2) := by decide +kernel
theorem dX5_isChanged_26 : decode cX5_isChanged 26 = .ok (.iload_n 1, 1) := by decide +kernel
theorem dX5_isChanged_27 : decode cX5_isChanged 27 = .ok (.imul, 1) := by decide +kernel
theorem dX5_isChanged_28 : decode cX5_isChanged 28 = .ok (.iload 4, 2) := by decide +kernel
theorem dX5_isChanged_30 : decode cX5_isChanged 30 = .ok (.iadd, 1) := by decide +kernel
theorem dX5_isChanged_31 : decode cX5_isChanged 31 = .ok (.iaload, 1) := by decide +kernel
theorem dX5_isChanged_32 : decode cX5_isChanged 32 = .ok (.bipush 10, 2) := by decide +kernel
theorem dX5_isChanged_34 : decode cX5_isChanged 34 = .ok (.iand, 1) := by decide +kernel
theorem dX5_isChanged_35 : decode cX5_isChanged 35 = .ok (.ifCond .ne 19, 3) := by decide +kernel
theorem dX5_isChanged_38 : decode cX5_isChanged 38 = .ok (.aload_n 0, 1) := by decide +kernel
theorem dX5_isChanged_39 : decode cX5_isChanged 39 = .ok (.getfield 13, 3) := by decide +kernel
theorem dX5_isChanged_42 : decode cX5_isChanged 42 = .ok (.iload_n 3, 1) := by decide +kernel
theorem dX5_isChanged_43 : decode cX5_isChanged 43 = .ok (.iaload, 1) := by decide +kernel
theorem dX5_isChanged_44 : decode cX5_isChanged 44 = .ok (.iconst 2, 1) := by decide +kernel
theorem dX5_isChanged_45 : decode cX5_isChanged 45 = .ok (.iand, 1) := by decide +kernel
theorem dX5_isChanged_46 : decode cX5_isChanged 46 = .ok (.ifCond .eq 10, 3) := by decide +kernel
theorem dX5_isChanged_49 : decode cX5_isChanged 49 = .ok (.iload 4, 2) := by decide +kernel
theorem dX5_isChanged_51 : decode cX5_isChanged 51 = .ok (.ifCond .eq 5, 3) := by decide +kernel
theorem dX5_isChanged_54 : decode cX5_isChanged 54 = .ok (.iconst 1, 1) := by decide +kernel
theorem dX5_isChanged_55 : decode cX5_isChanged 55 = .ok (.ireturn, 1) := by decide +kernel
theorem dX5_isChanged_56 : decode cX5_isChanged 56 = .ok (.iconst 0, 1) := by decide +kernel
theorem dX5_isChanged_57 : decode cX5_isChanged 57 = .ok (.istore 5, 2) := by decide +kernel
theorem dX5_isChanged_59 : decode cX5_isChanged 59 = .ok (.iload 5, 2) := by decide +kernel
theorem dX5_isChanged_61 : decode cX5_isChanged 61 = .ok (.bipush 12, 2) := by decide +kernel
theorem dX5_isChanged_63 : decode cX5_isChanged 63 = .ok (.if_icmp .ge 42, 3) := by decide +kernel
theorem dX5_isChanged_66 : decode cX5_isChanged 66 = .ok (.aload_n 0, 1) := by decide +kernel
theorem dX5_isChanged_67 : decode cX5_isChanged 67 = .ok (.getfield 23, 3) := by decide +kernel
theorem dX5_isChanged_70 : decode cX5_isChanged 70 = .ok (.iload_n 3, 1) := by decide +kernel
theorem dX5_isChanged_71 : decode cX5_isChanged 71 = .ok (.iaload, 1) := by decide +kernel
theorem dX5_isChanged_72 : decode cX5_isChanged 72 = .ok (.iload 5, 2) := by decide +kernel
theorem dX5_isChanged_74 : decode cX5_isChanged 74 = .ok (.invokestatic 94, 3) := by decide +kernel
theorem dX5_isChanged_77 : decode cX5_isChanged 77 = .ok (.ifCond .eq 22, 3) := by decide +kernel
theorem dX5_isChanged_80 : decode cX5_isChanged 80 = .ok (.aload_n 0, 1) := by decide +kernel
theorem dX5_isChanged_81 : decode cX5_isChanged 81 = .ok (.getfield 13, 3) := by decide +kernel
theorem dX5_isChanged_84 : decode cX5_isChanged 84 = .ok (.bipush 12, 2) := by decide +kernel
theorem dX5_isChanged_86 : decode cX5_isChanged 86 = .ok (.iload_n 1, 1) := by decide +kernel
theorem dX5_isChanged_87 : decode cX5_isChanged 87 = .ok (.imul, 1) := by decide +kernel
theorem dX5_isChanged_88 : decode cX5_isChanged 88 = .ok (.iload 5, 2) := by decide +kernel
theorem dX5_isChanged_90 : decode cX5_isChanged 90 = .ok (.iadd, 1) := by decide +kernel
theorem dX5_isChanged_91 : decode cX5_isChanged 91 = .ok (.iaload, 1) := by decide +kernel
theorem dX5_isChanged_92 : decode cX5_isChanged 92 = .ok (.iconst 2, 1) := by decide +kernel
theorem dX5_isChanged_93 : decode cX5_isChanged 93 = .ok (.iand, 1) := by decide +kernel
theorem dX5_isChanged_94 : decode cX5_isChanged 94 = .ok (.ifCond .ne 5, 3) := by decide +kernel
theorem dX5_isChanged_97 : decode cX5_isChanged 97 = .ok (.iconst 1, 1) := by decide +kernel
theorem dX5_isChanged_98 : decode cX5_isChanged 98 = .ok (.ireturn, 1) := by decide +kernel
theorem dX5_isChanged_99 : decode cX5_isChanged 99 = .ok (.iinc 5 1, 3) := by decide +kernel
theorem dX5_isChanged_102 : decode cX5_isChanged 102 = .ok (.goto (-43), 3) := by decide +kernel
theorem dX5_isChanged_105 : decode cX5_isChanged 105 = .ok (.iconst 0, 1) := by decide +kernel
theorem dX5_isChanged_106 : decode cX5_isChanged 106 = .ok (.ireturn, 1) := by decide +kernel
set_option maxRecDepth 20000 in
theorem ggX5_loaded_X5_verdict : GoodIn wsX5_loaded wsX5_verdict := goodIn_r _ [9] (by decide +kernel) (by decide +kernel)
set_option maxRecDepth 20000 in
theorem gX5_loaded_X5_verdict : GoodIn wsX5_loaded (va_wsS RX5 97 yX5_verdict wsX5_verdict) := goodIn_app (goodIn_of _ (by decide +kernel)) ggX5_loaded_X5_verdict
set_option maxRecDepth 20000 in
theorem ggX5_loaded_X5_has : GoodIn wsX5_loaded wsX5_has := goodIn_r _ [12] (by decide +kernel) (by decide +kernel)
set_option maxRecDepth 20000 in
theorem gX5_loaded_X5_has : GoodIn wsX5_loaded (va_wsS RX5 94 yX5_has wsX5_has) := goodIn_app (goodIn_of _ (by decide +kernel)) ggX5_loaded_X5_has
set_option maxRecDepth 20000 in
theorem ggX5_loaded_X5_isChanged : GoodIn wsX5_loaded wsX5_isChanged := goodIn_r _ [16, 4, 17, 5, 10, 11, 8, 12, 18, 19, 20, 21, 22, 23, 24, 25, 26, 27, 28, 29, 30, 31, 32, 33, 34, 35, 36, 37, 38] (by decide +kernel) (by decide +kernel)
set_option maxRecDepth 20000 in
theorem gX5_loaded_X5_isChanged : GoodIn wsX5_loaded (wsV RX5 101 RX5 yX5_isChanged wsX5_isChanged) := goodIn_app (goodIn_of _ (by decide +kernel)) ggX5_loaded_X5_isChanged
theorem dX5_loaded_0 : decode cX5_loaded 0 = .ok (.iconst 1, 1) := by decide +kernel
theorem dX5_loaded_1 : decode cX5_loaded 1 = .ok (.istore_n 3, 1) := by decide +kernel
theorem dX5_loaded_2 : decode cX5_loaded 2 = .ok (.iconst 0, 1) := by decide +kernel
theorem dX5_loaded_3 : decode cX5_loaded 3 = .ok (.istore 4, 2) := by decide +kernel
theorem dX5_loaded_5 : decode cX5_loaded 5 = .ok (.iconst 0, 1) := by decide +kernel
theorem dX5_loaded_6 : decode cX5_loaded 6 = .ok (.istore 5, 2) := by decide +kernel
theorem dX5_loaded_8 : decode cX5_loaded 8 = .ok (.aload_n 0, 1) := by decide +kernel
theorem dX5_loaded_9 : decode cX5_loaded 9 = .ok (.getfield 62, 3) := by decide +kernel
theorem dX5_loaded_12 : decode cX5_loaded 12 = .ok (.iconst 0, 1) := by decide +kernel
theorem dX5_loaded_13 : decode cX5_loaded 13 = .ok (.iload_n 2, 1) := by decide +kernel
theorem dX5_loaded_14 : decode cX5_loaded 14 = .ok (.iastore, 1) := by decide +kernel
theorem dX5_loaded_15 : decode cX5_loaded 15 = .ok (.aload_n 0, 1) := by decide +kernel
theorem dX5_loaded_16 : decode cX5_loaded 16 = .ok (.getfield 65, 3) := by decide +kernel
theorem dX5_loaded_19 : decode cX5_loaded 19 = .ok (.iconst 0, 1) := by decide +kernel
theorem dX5_loaded_20 : decode cX5_loaded 20 = .ok (.bipush (-2), 2) := by decide +kernel
theorem dX5_loaded_22 : decode cX5_loaded 22 = .ok (.iastore, 1) := by decide +kernel
theorem dX5_loaded_23 : decode cX5_loaded 23 = .ok (.iload_n 3, 1) := by decide +kernel
theorem dX5_loaded_24 : decode cX5_loaded 24 = .ok (.ifCond .le 248, 3) := by decide +kernel
theorem dX5_loaded_27 : decode cX5_loaded 27 = .ok (.aload_n 0, 1) := by decide +kernel
theorem dX5_loaded_28 : decode cX5_loaded 28 = .ok (.getfield 62, 3) := by decide +kernel
theorem dX5_loaded_31 : decode cX5_loaded 31 = .ok (.iload_n 3, 1) := by decide +kernel
theorem dX5_loaded_32 : decode cX5_loaded 32 = .ok (.iconst 1, 1) := by decide +kernel
theorem dX5_loaded_33 : decode cX5_loaded 33 = .ok (.isub, 1) := by decide +kernel
theorem dX5_loaded_34 : decode cX5_loaded 34 = .ok (.iaload, 1) := by decide +kernel
theorem dX5_loaded_35 : decode cX5_loaded 35 = .ok (.istore 6, 2) := by decide +kernel
theorem dX5_loaded_37 : decode cX5_loaded 37 = .ok (.bipush 12, 2) := by decide +kernel
theorem dX5_loaded_39 : decode cX5_loaded 39 = .ok (.iload_n 1, 1) := by decide +kernel
theorem dX5_loaded_40 : decode cX5_loaded 40 = .ok (.imul, 1) := by decide +kernel
theorem dX5_loaded_41 : decode cX5_loaded 41 = .ok (.iload 6, 2) := by decide +kernel
theorem dX5_loaded_43 : decode cX5_loaded 43 = .ok (.iadd, 1) := by decide +kernel
theorem dX5_loaded_44 : decode cX5_loaded 44 = .ok (.istore 7, 2) := by decide +kernel
theorem dX5_loaded_46 : decode cX5_loaded 46 = .ok (.aload_n 0, 1) := by decide +kernel
theorem dX5_loaded_47 : decode cX5_loaded 47 = .ok (.getfield 65, 3) := by decide +kernel
theorem dX5_loaded_50 : decode cX5_loaded 50 = .ok (.iload_n 3, 1) := by decide +kernel
theorem dX5_loaded_51 : decode cX5_loaded 51 = .ok (.iconst 1, 1) := by decide +kernel
theorem dX5_loaded_52 : decode cX5_loaded 52 = .ok (.isub, 1) := by decide +kernel
theorem dX5_loaded_53 : decode cX5_loaded 53 = .ok (.iaload, 1) := by decide +kernel
theorem dX5_loaded_54 : decode cX5_loaded 54 = .ok (.bipush (-2), 2) := by decide +kernel
theorem dX5_loaded_56 : decode cX5_loaded 56 = .ok (.if_icmp .ne 46, 3) := by decide +kernel
theorem dX5_loaded_59 : decode cX5_loaded 59 = .ok (.aload_n 0, 1) := by decide +kernel
theorem dX5_loaded_60 : decode cX5_loaded 60 = .ok (.getfield 7, 3) := by decide +kernel
theorem dX5_loaded_63 : decode cX5_loaded 63 = .ok (.iload 7, 2) := by decide +kernel
theorem dX5_loaded_65 : decode cX5_loaded 65 = .ok (.baload, 1) := by decide +kernel
theorem dX5_loaded_66 : decode cX5_loaded 66 = .ok (.ifCond .ne 10, 3) := by decide +kernel
theorem dX5_loaded_69 : decode cX5_loaded 69 = .ok (.iconst 1, 1) := by decide +kernel
theorem dX5_loaded_70 : decode cX5_loaded 70 = .ok (.iload 6, 2) := by decide +kernel
theorem dX5_loaded_72 : decode cX5_loaded 72 = .ok (.invokestatic 97, 3) := by decide +kernel
theorem dX5_loaded_75 : decode cX5_loaded 75 = .ok (.ireturn, 1) := by decide +kernel
theorem dX5_loaded_76 : decode cX5_loaded 76 = .ok (.iload 4, 2) := by decide +kernel
theorem dX5_loaded_78 : decode cX5_loaded 78 = .ok (.iload 6, 2) := by decide +kernel
theorem dX5_loaded_80 : decode cX5_loaded 80 = .ok (.invokestatic 94, 3) := by decide +kernel
theorem dX5_loaded_83 : decode cX5_loaded 83 = .ok (.ifCond .eq 10, 3) := by decide +kernel
theorem dX5_loaded_86 : decode cX5_loaded 86 = .ok (.iconst 2, 1) := by decide +kernel
theorem dX5_loaded_87 : decode cX5_loaded 87 = .ok (.iload 6, 2) := by decide +kernel
theorem dX5_loaded_89 : decode cX5_loaded 89 = .ok (.invokestatic 97, 3) := by decide +kernel
theorem dX5_loaded_92 : decode cX5_loaded 92 = .ok (.ireturn, 1) := by decide +kernel
theorem dX5_loaded_93 : decode cX5_loaded 93 = .ok (.iload 4, 2) := by decide +kernel
theorem dX5_loaded_95 : decode cX5_loaded 95 = .ok (.iconst 1, 1) := by decide +kernel
theorem dX5_loaded_96 : decode cX5_loaded 96 = .ok (.iload 6, 2) := by decide +kernel
theorem dX5_loaded_98 : decode cX5_loaded 98 = .ok (.ishl, 1) := by decide +kernel
theorem dX5_loaded_99 : decode cX5_loaded 99 = .ok (.ior, 1) := by decide +kernel
theorem dX5_loaded_100 : decode cX5_loaded 100 = .ok (.istore 4, 2) := by decide +kernel
theorem dX5_loaded_102 : decode cX5_loaded 102 = .ok (.iconst (-1), 1) := by decide +kernel
theorem dX5_loaded_103 : decode cX5_loaded 103 = .ok (.istore 8, 2) := by decide +kernel
theorem dX5_loaded_105 : decode cX5_loaded 105 = .ok (.iload 8, 2) := by decide +kernel
theorem dX5_loaded_107 : decode cX5_loaded 107 = .ok (.ifCond .ge 95, 3) := by decide +kernel
theorem dX5_loaded_110 : decode cX5_loaded 110 = .ok (.aload_n 0, 1) := by decide +kernel
theorem dX5_loaded_111 : decode cX5_loaded 111 = .ok (.getfield 65, 3) := by decide +kernel
theorem dX5_loaded_114 : decode cX5_loaded 114 = .ok (.iload_n 3, 1) := by decide +kernel
theorem dX5_loaded_115 : decode cX5_loaded 115 = .ok (.iconst 1, 1) := by decide +kernel
theorem dX5_loaded_116 : decode cX5_loaded 116 = .ok (.isub, 1) := by decide +kernel
theorem dX5_loaded_117 : decode cX5_loaded 117 = .ok (.iaload, 1) := by decide +kernel
theorem dX5_loaded_118 : decode cX5_loaded 118 = .ok (.bipush 11, 2) := by decide +kernel
theorem dX5_loaded_120 : decode cX5_loaded 120 = .ok (.if_icmp .ge 82, 3) := by decide +kernel
theorem dX5_loaded_123 : decode cX5_loaded 123 = .ok (.aload_n 0, 1) := by decide +kernel
theorem dX5_loaded_124 : decode cX5_loaded 124 = .ok (.getfield 65, 3) := by decide +kernel
theorem dX5_loaded_127 : decode cX5_loaded 127 = .ok (.iload_n 3, 1) := by decide +kernel
theorem dX5_loaded_128 : decode cX5_loaded 128 = .ok (.iconst 1, 1) := by decide +kernel
theorem dX5_loaded_129 : decode cX5_loaded 129 = .ok (.isub, 1) := by decide +kernel
theorem dX5_loaded_130 : decode cX5_loaded 130 = .ok (.dup2, 1) := by decide +kernel
theorem dX5_loaded_131 : decode cX5_loaded 131 = .ok (.iaload, 1) := by decide +kernel
theorem dX5_loaded_132 : decode cX5_loaded 132 = .ok (.iconst 1, 1) := by decide +kernel
theorem dX5_loaded_133 : decode cX5_loaded 133 = .ok (.iadd, 1) := by decide +kernel
theorem dX5_loaded_134 : decode cX5_loaded 134 = .ok (.iastore, 1) := by decide +kernel
theorem dX5_loaded_135 : decode cX5_loaded 135 = .ok (.aload_n 0, 1) := by decide +kernel
theorem dX5_loaded_136 : decode cX5_loaded 136 = .ok (.getfield 65, 3) := by decide +kernel
theorem dX5_loaded_139 : decode cX5_loaded 139 = .ok (.iload_n 3, 1) := by decide +kernel
theorem dX5_loaded_140 : decode cX5_loaded 140 = .ok (.iconst 1, 1) := by decide +kernel
theorem dX5_loaded_141 : decode cX5_loaded 141 = .ok (.isub, 1) := by decide +kernel
theorem dX5_loaded_142 : decode cX5_loaded 142 = .ok (.iaload, 1) := by decide +kernel
theorem dX5_loaded_143 : decode cX5_loaded 143 = .ok (.istore 9, 2) := by decide +kernel
theorem dX5_loaded_145 : decode cX5_loaded 145 = .ok (.iload 9, 2) := by decide +kernel
theorem dX5_loaded_147 : decode cX5_loaded 147 = .ok (.ifCond .ge 15, 3) := by decide +kernel
theorem dX5_loaded_150 : decode cX5_loaded 150 = .ok (.aload_n 0, 1) := by decide +kernel
theorem dX5_loaded_151 : decode cX5_loaded 151 = .ok (.getfield 20, 3) := by decide +kernel
theorem dX5_loaded_154 : decode cX5_loaded 154 = .ok (.iload 7, 2) := by decide +kernel
theorem dX5_loaded_156 : decode cX5_loaded 156 = .ok (.iaload, 1) := by decide +kernel
theorem dX5_loaded_157 : decode cX5_loaded 157 = .ok (.istore 8, 2) := by decide +kernel
theorem dX5_loaded_159 : decode cX5_loaded 159 = .ok (.goto 22, 3) := by decide +kernel
theorem dX5_loaded_162 : decode cX5_loaded 162 = .ok (.aload_n 0, 1) := by decide +kernel
theorem dX5_loaded_163 : decode cX5_loaded 163 = .ok (.getfield 23, 3) := by decide +kernel
theorem dX5_loaded_166 : decode cX5_loaded 166 = .ok (.iload 7, 2) := by decide +kernel
theorem dX5_loaded_168 : decode cX5_loaded 168 = .ok (.iaload, 1) := by decide +kernel
theorem dX5_loaded_169 : decode cX5_loaded 169 = .ok (.iload 9, 2) := by decide +kernel
theorem dX5_loaded_171 : decode cX5_loaded 171 = .ok (.invokestatic 94, 3) := by decide +kernel
theorem dX5_loaded_174 : decode cX5_loaded 174 = .ok (.ifCond .eq 7, 3) := by decide +kernel
theorem dX5_loaded_177 : decode cX5_loaded 177 = .ok (.iload 9, 2) := by decide +kernel
theorem dX5_loaded_179 : decode cX5_loaded 179 = .ok (.istore 8, 2) := by decide +kernel
theorem dX5_loaded_181 : decode cX5_loaded 181 = .ok (.iload 8, 2) := by decide +kernel
theorem dX5_loaded_183 : decode cX5_loaded 183 = .ok (.ifCond .lt 16, 3) := by decide +kernel
theorem dX5_loaded_186 : decode cX5_loaded 186 = .ok (.iload 5, 2) := by decide +kernel
theorem dX5_loaded_188 : decode cX5_loaded 188 = .ok (.iload 8, 2) := by decide +kernel
theorem dX5_loaded_190 : decode cX5_loaded 190 = .ok (.invokestatic 94, 3) := by decide +kernel
theorem dX5_loaded_193 : decode cX5_loaded 193 = .ok (.ifCond .eq 6, 3) := by decide +kernel
theorem dX5_loaded_196 : decode cX5_loaded 196 = .ok (.iconst (-1), 1) := by decide +kernel
theorem dX5_loaded_197 : decode cX5_loaded 197 = .ok (.istore 8, 2) := by decide +kernel
theorem dX5_loaded_199 : decode cX5_loaded 199 = .ok (.goto (-94), 3) := by decide +kernel
theorem dX5_loaded_202 : decode cX5_loaded 202 = .ok (.iload 8, 2) := by decide +kernel
theorem dX5_loaded_204 : decode cX5_loaded 204 = .ok (.ifCond .lt 25, 3) := by decide +kernel
theorem dX5_loaded_207 : decode cX5_loaded 207 = .ok (.aload_n 0, 1) := by decide +kernel
theorem dX5_loaded_208 : decode cX5_loaded 208 = .ok (.getfield 62, 3) := by decide +kernel
theorem dX5_loaded_211 : decode cX5_loaded 211 = .ok (.iload_n 3, 1) := by decide +kernel
theorem dX5_loaded_212 : decode cX5_loaded 212 = .ok (.iload 8, 2) := by decide +kernel
theorem dX5_loaded_214 : decode cX5_loaded 214 = .ok (.iastore, 1) := by decide +kernel
theorem dX5_loaded_215 : decode cX5_loaded 215 = .ok (.aload_n 0, 1) := by decide +kernel
theorem dX5_loaded_216 : decode cX5_loaded 216 = .ok (.getfield 65, 3) := by decide +kernel
theorem dX5_loaded_219 : decode cX5_loaded 219 = .ok (.iload_n 3, 1) := by decide +kernel
theorem dX5_loaded_220 : decode cX5_loaded 220 = .ok (.bipush (-2), 2) := by decide +kernel
theorem dX5_loaded_222 : decode cX5_loaded 222 = .ok (.iastore, 1) := by decide +kernel
theorem dX5_loaded_223 : decode cX5_loaded 223 = .ok (.iinc 3 1, 3) := by decide +kernel
theorem dX5_loaded_226 : decode cX5_loaded 226 = .ok (.goto (-203), 3) := by decide +kernel
theorem dX5_loaded_229 : decode cX5_loaded 229 = .ok (.aload_n 0, 1) := by decide +kernel
theorem dX5_loaded_230 : decode cX5_loaded 230 = .ok (.iload_n 1, 1) := by decide +kernel
theorem dX5_loaded_231 : decode cX5_loaded 231 = .ok (.iload 6, 2) := by decide +kernel
theorem dX5_loaded_233 : decode cX5_loaded 233 = .ok (.invokevirtual 101, 3) := by decide +kernel
theorem dX5_loaded_236 : decode cX5_loaded 236 = .ok (.ifCond .eq 10, 3) := by decide +kernel
theorem dX5_loaded_239 : decode cX5_loaded 239 = .ok (.iconst 3, 1) := by decide +kernel
theorem dX5_loaded_240 : decode cX5_loaded 240 = .ok (.iload 6, 2) := by decide +kernel
theorem dX5_loaded_242 : decode cX5_loaded 242 = .ok (.invokestatic 97, 3) := by decide +kernel
theorem dX5_loaded_245 : decode cX5_loaded 245 = .ok (.ireturn, 1) := by decide +kernel
theorem dX5_loaded_246 : decode cX5_loaded 246 = .ok (.iload 4, 2) := by decide +kernel
theorem dX5_loaded_248 : decode cX5_loaded 248 = .ok (.iconst 1, 1) := by decide +kernel
theorem dX5_loaded_249 : decode cX5_loaded 249 = .ok (.iload 6, 2) := by decide +kernel
theorem dX5_loaded_251 : decode cX5_loaded 251 = .ok (.ishl, 1) := by decide +kernel
theorem dX5_loaded_252 : decode cX5_loaded 252 = .ok (.iconst (-1), 1) := by decide +kernel
theorem dX5_loaded_253 : decode cX5_loaded 253 = .ok (.ixor, 1) := by decide +kernel
theorem dX5_loaded_254 : decode cX5_loaded 254 = .ok (.iand, 1) := by decide +kernel
theorem dX5_loaded_255 : decode cX5_loaded 255 = .ok (.istore 4, 2) := by decide +kernel
theorem dX5_loaded_257 : decode cX5_loaded 257 = .ok (.iload 5, 2) := by decide +kernel
theorem dX5_loaded_259 : decode cX5_loaded 259 = .ok (.iconst 1, 1) := by decide +kernel
theorem dX5_loaded_260 : decode cX5_loaded 260 = .ok (.iload 6, 2) := by decide +kernel
theorem dX5_loaded_262 : decode cX5_loaded 262 = .ok (.ishl, 1) := by decide +kernel
theorem dX5_loaded_263 : decode cX5_loaded 263 = .ok (.ior, 1) := by decide +kernel
theorem dX5_loaded_264 : decode cX5_loaded 264 = .ok (.istore 5, 2) := by decide +kernel
theorem dX5_loaded_266 : decode cX5_loaded 266 = .ok (.iinc 3 (-1), 3) := by decide +kernel
theorem dX5_loaded_269 : decode cX5_loaded 269 = .ok (.goto (-246), 3) := by decide +kernel
theorem dX5_loaded_272 : decode cX5_loaded 272 = .ok (.iconst 0, 1) := by decide +kernel
theorem dX5_loaded_273 : decode cX5_loaded 273 = .ok (.iload_n 2, 1) := by decide +kernel
theorem dX5_loaded_274 : decode cX5_loaded 274 = .ok (.invokestatic 97, 3) := by decide +kernel
theorem dX5_loaded_277 : decode cX5_loaded 277 = .ok (.ireturn, 1) := by decide +kernel
set_option maxRecDepth 20000 in
theorem ggX5_isLoaded_X5_loaded : GoodIn wsX5_isLoaded wsX5_loaded := goodIn_r _ [5, 6, 7, 8, 9, 10, 11, 12, 4, 13, 14, 15, 16, 17, 18, 19, 20, 21, 22, 23, 24, 25, 26, 27, 28, 29, 30, 31, 32, 33, 34, 35, 36, 37, 38, 39, 40, 41, 42] (by decide +kernel) (by decide +kernel)
set_option maxRecDepth 20000 in
theorem gX5_isLoaded_X5_loaded : GoodIn wsX5_isLoaded (wsV RX5 104 RX5 yX5_loaded wsX5_loaded) := goodIn_app (goodIn_of _ (by decide +kernel)) ggX5_isLoaded_X5_loaded
theorem dX5_isLoaded_0 : decode cX5_isLoaded 0 = .ok (.aload_n 0, 1) := by decide +kernel
theorem dX5_isLoaded_1 : decode cX5_isLoaded 1 = .ok (.iload_n 1, 1) := by decide +kernel
theorem dX5_isLoaded_2 : decode cX5_isLoaded 2 = .ok (.iload_n 2, 1) := by decide +kernel
theorem dX5_isLoaded_3 : decode cX5_isLoaded 3 = .ok (.invokevirtual 104, 3) := by decide +kernel
theorem dX5_isLoaded_6 : decode cX5_isLoaded 6 = .ok (.bipush 64, 2) := by decide +kernel
theorem dX5_isLoaded_8 : decode cX5_isLoaded 8 = .ok (.if_icmp .ge 7, 3) := by decide +kernel
theorem dX5_isLoaded_11 : decode cX5_isLoaded 11 = .ok (.iconst 1, 1) := by decide +kernel
theorem dX5_isLoaded_12 : decode cX5_isLoaded 12 = .ok (.goto 4, 3) := by decide +kernel
theorem dX5_isLoaded_15 : decode cX5_isLoaded 15 = .ok (.iconst 0, 1) := by decide +kernel
theorem dX5_isLoaded_16 : decode cX5_isLoaded 16 = .ok (.ireturn, 1) := by decide +kernel
theorem dX5_aboveOf_0 : decode cX5_aboveOf 0 = .ok (.iconst 0, 1) := by decide +kernel
theorem dX5_aboveOf_1 : decode cX5_aboveOf 1 = .ok (.istore_n 3, 1) := by decide +kernel
theorem dX5_aboveOf_2 : decode cX5_aboveOf 2 = .ok (.iload_n 2, 1) := by decide +kernel
theorem dX5_aboveOf_3 : decode cX5_aboveOf 3 = .ok (.istore 4, 2) := by decide +kernel
theorem dX5_aboveOf_5 : decode cX5_aboveOf 5 = .ok (.iload 4, 2) := by decide +kernel
theorem dX5_aboveOf_7 : decode cX5_aboveOf 7 = .ok (.ifCond .lt 27, 3) := by decide +kernel
theorem dX5_aboveOf_10 : decode cX5_aboveOf 10 = .ok (.iload_n 3, 1) := by decide +kernel
theorem dX5_aboveOf_11 : decode cX5_aboveOf 11 = .ok (.iconst 1, 1) := by decide +kernel
theorem dX5_aboveOf_12 : decode cX5_aboveOf 12 = .ok (.iload 4, 2) := by decide +kernel
theorem dX5_aboveOf_14 : decode cX5_aboveOf 14 = .ok (.ishl, 1) := by decide +kernel
theorem dX5_aboveOf_15 : decode cX5_aboveOf 15 = .ok (.ior, 1) := by decide +kernel
theorem dX5_aboveOf_16 : decode cX5_aboveOf 16 = .ok (.istore_n 3, 1) := by decide +kernel
theorem dX5_aboveOf_17 : decode cX5_aboveOf 17 = .ok (.aload_n 0, 1) := by decide +kernel
theorem dX5_aboveOf_18 : decode cX5_aboveOf 18 = .ok (.getfield 20, 3) := by decide +kernel
theorem dX5_aboveOf_21 : decode cX5_aboveOf 21 = .ok (.bipush 12, 2) := by decide +kernel
theorem dX5_aboveOf_23 : decode cX5_aboveOf 23 = .ok (.iload_n 1, 1) := by decide +kernel
theorem dX5_aboveOf_24 : decode cX5_aboveOf 24 = .ok (.imul, 1) := by decide +kernel
theorem dX5_aboveOf_25 : decode cX5_aboveOf 25 = .ok (.iload 4, 2) := by decide +kernel
theorem dX5_aboveOf_27 : decode cX5_aboveOf 27 = .ok (.iadd, 1) := by decide +kernel
theorem dX5_aboveOf_28 : decode cX5_aboveOf 28 = .ok (.iaload, 1) := by decide +kernel
theorem dX5_aboveOf_29 : decode cX5_aboveOf 29 = .ok (.istore 4, 2) := by decide +kernel
theorem dX5_aboveOf_31 : decode cX5_aboveOf 31 = .ok (.goto (-26), 3) := by decide +kernel
theorem dX5_aboveOf_34 : decode cX5_aboveOf 34 = .ok (.iload_n 3, 1) := by decide +kernel
theorem dX5_aboveOf_35 : decode cX5_aboveOf 35 = .ok (.ireturn, 1) := by decide +kernel
set_option maxRecDepth 20000 in
theorem ggX5_facesOf_X5_aboveOf : GoodIn wsX5_facesOf wsX5_aboveOf := goodIn_r _ [6, 7, 11, 12, 13, 14, 15, 16, 17, 18, 19, 20, 21, 22, 23, 24, 25, 26, 27, 28, 29, 30, 31] (by decide +kernel) (by decide +kernel)
set_option maxRecDepth 20000 in
theorem gX5_facesOf_X5_aboveOf : GoodIn wsX5_facesOf (wsV RX5 107 RX5 yX5_aboveOf wsX5_aboveOf) := goodIn_app (goodIn_of _ (by decide +kernel)) ggX5_facesOf_X5_aboveOf
set_option maxRecDepth 20000 in
theorem ggX5_facesOf_X5_has : GoodIn wsX5_facesOf wsX5_has := goodIn_r _ [10] (by decide +kernel) (by decide +kernel)
set_option maxRecDepth 20000 in
theorem gX5_facesOf_X5_has : GoodIn wsX5_facesOf (va_wsS RX5 94 yX5_has wsX5_has) := goodIn_app (goodIn_of _ (by decide +kernel)) ggX5_facesOf_X5_has
theorem dX5_facesOf_0 : decode cX5_facesOf 0 = .ok (.iconst 0, 1) := by decide +kernel
theorem dX5_facesOf_1 : decode cX5_facesOf 1 = .ok (.istore_n 3, 1) := by decide +kernel
theorem dX5_facesOf_2 : decode cX5_facesOf 2 = .ok (.aload_n 0, 1) := by decide +kernel
theorem dX5_facesOf_3 : decode cX5_facesOf 3 = .ok (.iload_n 1, 1) := by decide +kernel
theorem dX5_facesOf_4 : decode cX5_facesOf 4 = .ok (.iload_n 2, 1) := by decide +kernel
theorem dX5_facesOf_5 : decode cX5_facesOf 5 = .ok (.invokevirtual 107, 3) := by decide +kernel
theorem dX5_facesOf_8 : decode cX5_facesOf 8 = .ok (.istore 4, 2) := by decide +kernel
theorem dX5_facesOf_10 : decode cX5_facesOf 10 = .ok (.iload 4, 2) := by decide +kernel
theorem dX5_facesOf_12 : decode cX5_facesOf 12 = .ok (.ifCond .eq 69, 3) := by decide +kernel
theorem dX5_facesOf_15 : decode cX5_facesOf 15 = .ok (.iconst 0, 1) := by decide +kernel
theorem dX5_facesOf_16 : decode cX5_facesOf 16 = .ok (.istore 5, 2) := by decide +kernel
theorem dX5_facesOf_18 : decode cX5_facesOf 18 = .ok (.iconst 0, 1) := by decide +kernel
theorem dX5_facesOf_19 : decode cX5_facesOf 19 = .ok (.istore 6, 2) := by decide +kernel
theorem dX5_facesOf_21 : decode cX5_facesOf 21 = .ok (.iload 6, 2) := by decide +kernel
theorem dX5_facesOf_23 : decode cX5_facesOf 23 = .ok (.bipush 12, 2) := by decide +kernel
theorem dX5_facesOf_25 : decode cX5_facesOf 25 = .ok (.if_icmp .ge 36, 3) := by decide +kernel
theorem dX5_facesOf_28 : decode cX5_facesOf 28 = .ok (.iload 4, 2) := by decide +kernel
theorem dX5_facesOf_30 : decode cX5_facesOf 30 = .ok (.iload 6, 2) := by decide +kernel
theorem dX5_facesOf_32 : decode cX5_facesOf 32 = .ok (.invokestatic 94, 3) := by decide +kernel
theorem dX5_facesOf_35 : decode cX5_facesOf 35 = .ok (.ifCond .eq 20, 3) := by decide +kernel
theorem dX5_facesOf_38 : decode cX5_facesOf 38 = .ok (.iload 5, 2) := by decide +kernel
theorem dX5_facesOf_40 : decode cX5_facesOf 40 = .ok (.aload_n 0, 1) := by decide +kernel
theorem dX5_facesOf_41 : decode cX5_facesOf 41 = .ok (.getfield 23, 3) := by decide +kernel
theorem dX5_facesOf_44 : decode cX5_facesOf 44 = .ok (.bipush 12, 2) := by decide +kernel
theorem dX5_facesOf_46 : decode cX5_facesOf 46 = .ok (.iload_n 1, 1) := by decide +kernel
theorem dX5_facesOf_47 : decode cX5_facesOf 47 = .ok (.imul, 1) := by decide +kernel
theorem dX5_facesOf_48 : decode cX5_facesOf 48 = .ok (.iload 6, 2) := by decide +kernel
theorem dX5_facesOf_50 : decode cX5_facesOf 50 = .ok (.iadd, 1) := by decide +kernel
theorem dX5_facesOf_51 : decode cX5_facesOf 51 = .ok (.iaload, 1) := by decide +kernel
theorem dX5_facesOf_52 : decode cX5_facesOf 52 = .ok (.ior, 1) := by decide +kernel
theorem dX5_facesOf_53 : decode cX5_facesOf 53 = .ok (.istore 5, 2) := by decide +kernel
theorem dX5_facesOf_55 : decode cX5_facesOf 55 = .ok (.iinc 6 1, 3) := by decide +kernel
theorem dX5_facesOf_58 : decode cX5_facesOf 58 = .ok (.goto (-37), 3) := by decide +kernel
theorem dX5_facesOf_61 : decode cX5_facesOf 61 = .ok (.iload 5, 2) := by decide +kernel
theorem dX5_facesOf_63 : decode cX5_facesOf 63 = .ok (.iload_n 3, 1) := by decide +kernel
theorem dX5_facesOf_64 : decode cX5_facesOf 64 = .ok (.iconst (-1), 1) := by decide +kernel
theorem dX5_facesOf_65 : decode cX5_facesOf 65 = .ok (.ixor, 1) := by decide +kernel
theorem dX5_facesOf_66 : decode cX5_facesOf 66 = .ok (.iand, 1) := by decide +kernel
theorem dX5_facesOf_67 : decode cX5_facesOf 67 = .ok (.istore 5, 2) := by decide +kernel
theorem dX5_facesOf_69 : decode cX5_facesOf 69 = .ok (.iload_n 3, 1) := by decide +kernel
theorem dX5_facesOf_70 : decode cX5_facesOf 70 = .ok (.iload 5, 2) := by decide +kernel
theorem dX5_facesOf_72 : decode cX5_facesOf 72 = .ok (.ior, 1) := by decide +kernel
theorem dX5_facesOf_73 : decode cX5_facesOf 73 = .ok (.istore_n 3, 1) := by decide +kernel
theorem dX5_facesOf_74 : decode cX5_facesOf 74 = .ok (.iload 5, 2) := by decide +kernel
theorem dX5_facesOf_76 : decode cX5_facesOf 76 = .ok (.istore 4, 2) := by decide +kernel
theorem dX5_facesOf_78 : decode cX5_facesOf 78 = .ok (.goto (-68), 3) := by decide +kernel
theorem dX5_facesOf_81 : decode cX5_facesOf 81 = .ok (.iload_n 3, 1) := by decide +kernel
theorem dX5_facesOf_82 : decode cX5_facesOf 82 = .ok (.ireturn, 1) := by decide +kernel
set_option maxRecDepth 20000 in
theorem ggX5_under_X5_aboveOf : GoodIn wsX5_under wsX5_aboveOf := goodIn_r _ [5, 6, 15, 16, 17, 18, 19, 20, 21, 22, 23, 24, 25, 26, 27, 28, 29, 30, 31, 32, 33, 34, 35] (by decide +kernel) (by decide +kernel)
set_option maxRecDepth 20000 in
theorem gX5_under_X5_aboveOf : GoodIn wsX5_under (wsV RX5 107 RX5 yX5_aboveOf wsX5_aboveOf) := goodIn_app (goodIn_of _ (by decide +kernel)) ggX5_under_X5_aboveOf
set_option maxRecDepth 20000 in
theorem ggX5_under_X5_facesOf : GoodIn wsX5_under wsX5_facesOf := goodIn_r _ [10, 11, 1, 2, 3, 4, 5, 6, 12, 13, 14, 15, 16, 17, 18, 19, 20, 21, 22, 23, 24, 25, 26, 27, 28, 29, 30, 31, 32, 33, 34, 35] (by decide +kernel) (by decide +kernel)
set_option maxRecDepth 20000 in
theorem gX5_under_X5_facesOf : GoodIn wsX5_under (wsV RX5 110 RX5 yX5_facesOf wsX5_facesOf) := goodIn_app (goodIn_of _ (by decide +kernel)) ggX5_under_X5_facesOf
set_option maxRecDepth 20000 in
theorem ggX5_under_X5_has : GoodIn wsX5_under wsX5_has := goodIn_r _ [14] (by decide +kernel) (by decide +kernel)
set_option maxRecDepth 20000 in
theorem gX5_under_X5_has : GoodIn wsX5_under (va_wsS RX5 94 yX5_has wsX5_has) := goodIn_app (goodIn_of _ (by decide +kernel)) ggX5_under_X5_has
theorem dX5_under_0 : decode cX5_under 0 = .ok (.aload_n 0, 1) := by decide +kernel
theorem dX5_under_1 : decode cX5_under 1 = .ok (.iload_n 1, 1) := by decide +kernel
theorem dX5_under_2 : decode cX5_under 2 = .ok (.iload_n 2, 1) := by decide +kernel
theorem dX5_under_3 : decode cX5_under 3 = .ok (.invokevirtual 107, 3) := by decide +kernel
theorem dX5_under_6 : decode cX5_under 6 = .ok (.aload_n 0, 1) := by decide +kernel
theorem dX5_under_7 : decode cX5_under 7 = .ok (.iload_n 1, 1) := by decide +kernel
theorem dX5_under_8 : decode cX5_under 8 = .ok (.iload_n 2, 1) := by decide +kernel
theorem dX5_under_9 : decode cX5_under 9 = .ok (.invokevirtual 110, 3) := by decide +kernel
theorem dX5_under_12 : decode cX5_under 12 = .ok (.ior, 1) := by decide +kernel
theorem dX5_under_13 : decode cX5_under 13 = .ok (.iload_n 3, 1) := by decide +kernel
theorem dX5_under_14 : decode cX5_under 14 = .ok (.invokestatic 94, 3) := by decide +kernel
theorem dX5_under_17 : decode cX5_under 17 = .ok (.ireturn, 1) := by decide +kernel
theorem dX5_nestOf_0 : decode cX5_nestOf 0 = .ok (.aload_n 0, 1) := by decide +kernel
theorem dX5_nestOf_1 : decode cX5_nestOf 1 = .ok (.getfield 26, 3) := by decide +kernel
theorem dX5_nestOf_4 : decode cX5_nestOf 4 = .ok (.bipush 12, 2) := by decide +kernel
theorem dX5_nestOf_6 : decode cX5_nestOf 6 = .ok (.iload_n 1, 1) := by decide +kernel
theorem dX5_nestOf_7 : decode cX5_nestOf 7 = .ok (.imul, 1) := by decide +kernel
theorem dX5_nestOf_8 : decode cX5_nestOf 8 = .ok (.iload_n 2, 1) := by decide +kernel
theorem dX5_nestOf_9 : decode cX5_nestOf 9 = .ok (.iadd, 1) := by decide +kernel
theorem dX5_nestOf_10 : decode cX5_nestOf 10 = .ok (.iaload, 1) := by decide +kernel
theorem dX5_nestOf_11 : decode cX5_nestOf 11 = .ok (.istore_n 3, 1) := by decide +kernel
theorem dX5_nestOf_12 : decode cX5_nestOf 12 = .ok (.bipush 12, 2) := by decide +kernel
theorem dX5_nestOf_14 : decode cX5_nestOf 14 = .ok (.iload_n 1, 1) := by decide +kernel
theorem dX5_nestOf_15 : decode cX5_nestOf 15 = .ok (.imul, 1) := by decide +kernel
theorem dX5_nestOf_16 : decode cX5_nestOf 16 = .ok (.iload_n 3, 1) := by decide +kernel
theorem dX5_nestOf_17 : decode cX5_nestOf 17 = .ok (.iadd, 1) := by decide +kernel
theorem dX5_nestOf_18 : decode cX5_nestOf 18 = .ok (.istore 4, 2) := by decide +kernel
theorem dX5_nestOf_20 : decode cX5_nestOf 20 = .ok (.aload_n 0, 1) := by decide +kernel
theorem dX5_nestOf_21 : decode cX5_nestOf 21 = .ok (.getfield 7, 3) := by decide +kernel
theorem dX5_nestOf_24 : decode cX5_nestOf 24 = .ok (.iload 4, 2) := by decide +kernel
theorem dX5_nestOf_26 : decode cX5_nestOf 26 = .ok (.baload, 1) := by decide +kernel
theorem dX5_nestOf_27 : decode cX5_nestOf 27 = .ok (.ifCond .eq 39, 3) := by decide +kernel
theorem dX5_nestOf_30 : decode cX5_nestOf 30 = .ok (.aload_n 0, 1) := by decide +kernel
theorem dX5_nestOf_31 : decode cX5_nestOf 31 = .ok (.getfield 17, 3) := by decide +kernel
theorem dX5_nestOf_34 : decode cX5_nestOf 34 = .ok (.iload 4, 2) := by decide +kernel
theorem dX5_nestOf_36 : decode cX5_nestOf 36 = .ok (.iaload, 1) := by decide +kernel
theorem dX5_nestOf_37 : decode cX5_nestOf 37 = .ok (.aload_n 0, 1) := by decide +kernel
theorem dX5_nestOf_38 : decode cX5_nestOf 38 = .ok (.getfield 17, 3) := by decide +kernel
theorem dX5_nestOf_41 : decode cX5_nestOf 41 = .ok (.bipush 12, 2) := by decide +kernel
theorem dX5_nestOf_43 : decode cX5_nestOf 43 = .ok (.iload_n 1, 1) := by decide +kernel
theorem dX5_nestOf_44 : decode cX5_nestOf 44 = .ok (.imul, 1) := by decide +kernel
theorem dX5_nestOf_45 : decode cX5_nestOf 45 = .ok (.iload_n 2, 1) := by decide +kernel
theorem dX5_nestOf_46 : decode cX5_nestOf 46 = .ok (.iadd, 1) := by decide +kernel
theorem dX5_nestOf_47 : decode cX5_nestOf 47 = .ok (.iaload, 1) := by decide +kernel
theorem dX5_nestOf_48 : decode cX5_nestOf 48 = .ok (.if_icmp .ne 18, 3) := by decide +kernel
theorem dX5_nestOf_51 : decode cX5_nestOf 51 = .ok (.aload_n 0, 1) := by decide +kernel
theorem dX5_nestOf_52 : decode cX5_nestOf 52 = .ok (.getfield 26, 3) := by decide +kernel
theorem dX5_nestOf_55 : decode cX5_nestOf 55 = .ok (.iload 4, 2) := by decide +kernel
theorem dX5_nestOf_57 : decode cX5_nestOf 57 = .ok (.iaload, 1) := by decide +kernel
theorem dX5_nestOf_58 : decode cX5_nestOf 58 = .ok (.iload_n 3, 1) := by decide +kernel
theorem dX5_nestOf_59 : decode cX5_nestOf 59 = .ok (.if_icmp .ne 7, 3) := by decide +kernel
theorem dX5_nestOf_62 : decode cX5_nestOf 62 = .ok (.iload_n 3, 1) := by decide +kernel
theorem dX5_nestOf_63 : decode cX5_nestOf 63 = .ok (.goto 4, 3) := by decide +kernel
theorem dX5_nestOf_66 : decode cX5_nestOf 66 = .ok (.iload_n 2, 1) := by decide +kernel
theorem dX5_nestOf_67 : decode cX5_nestOf 67 = .ok (.ireturn, 1) := by decide +kernel
set_option maxRecDepth 20000 in
theorem ggX5_isOpen_X5_nestOf : GoodIn wsX5_isOpen wsX5_nestOf := goodIn_r _ [9, 10, 11, 3, 29, 30, 31, 32, 33, 34, 35, 36, 37, 38, 39, 40, 41, 42, 43, 44, 45, 46, 47, 48, 49] (by decide +kernel) (by decide +kernel)
set_option maxRecDepth 20000 in
theorem gX5_isOpen_X5_nestOf : GoodIn wsX5_isOpen (wsV RX5 113 RX5 yX5_nestOf wsX5_nestOf) := goodIn_app (goodIn_of _ (by decide +kernel)) ggX5_isOpen_X5_nestOf
set_option maxRecDepth 20000 in
theorem ggX5_isOpen_X5_aboveOf : GoodIn wsX5_isOpen wsX5_aboveOf := goodIn_r _ [15, 16, 29, 30, 31, 32, 33, 34, 35, 36, 37, 38, 39, 40, 41, 42, 43, 44, 45, 46, 47, 48, 49] (by decide +kernel) (by decide +kernel)
set_option maxRecDepth 20000 in
theorem gX5_isOpen_X5_aboveOf : GoodIn wsX5_isOpen (wsV RX5 107 RX5 yX5_aboveOf wsX5_aboveOf) := goodIn_app (goodIn_of _ (by decide +kernel)) ggX5_isOpen_X5_aboveOf
set_option maxRecDepth 20000 in
theorem ggX5_isOpen_X5_has : GoodIn wsX5_isOpen wsX5_has := goodIn_r _ [19] (by decide +kernel) (by decide +kernel)
set_option maxRecDepth 20000 in
theorem gX5_isOpen_X5_has : GoodIn wsX5_isOpen (va_wsS RX5 94 yX5_has wsX5_has) := goodIn_app (goodIn_of _ (by decide +kernel)) ggX5_isOpen_X5_has
set_option maxRecDepth 20000 in
theorem ggX5_isOpen_X5_under : GoodIn wsX5_isOpen wsX5_under := goodIn_r _ [23, 12, 13, 14, 8, 15, 16, 24, 25, 26, 27, 28, 17, 18, 19, 29, 30, 31, 32, 33, 34, 35, 36, 37, 38, 39, 40, 41, 42, 43, 44, 45, 46, 47, 48, 49] (by decide +kernel) (by decide +kernel)
set_option maxRecDepth 20000 in
theorem gX5_isOpen_X5_under : GoodIn wsX5_isOpen (wsV RX5 116 RX5 yX5_under wsX5_under) := goodIn_app (goodIn_of _ (by decide +kernel)) ggX5_isOpen_X5_under
theorem dX5_isOpen_0 : decode cX5_isOpen 0 = .ok (.bipush 30, 2) := by decide +kernel
theorem dX5_isOpen_2 : decode cX5_isOpen 2 = .ok (.iload_n 1, 1) := by decide +kernel
theorem dX5_isOpen_3 : decode cX5_isOpen 3 = .ok (.imul, 1) := by decide +kernel
theorem dX5_isOpen_4 : decode cX5_isOpen 4 = .ok (.iload_n 2, 1) := by decide +kernel
theorem dX5_isOpen_5 : decode cX5_isOpen 5 = .ok (.iadd, 1) := by decide +kernel
theorem dX5_isOpen_6 : decode cX5_isOpen 6 = .ok (.istore 5, 2) := by decide +kernel
theorem dX5_isOpen_8 : decode cX5_isOpen 8 = .ok (.aload_n 0, 1) := by decide +kernel
theorem dX5_isOpen_9 : decode cX5_isOpen 9 = .ok (.getfield 38, 3) := by decide +kernel
theorem dX5_isOpen_12 : decode cX5_isOpen 12 = .ok (.iload 5, 2) := by decide +kernel
theorem dX5_isOpen_14 : decode cX5_isOpen 14 = .ok (.iaload, 1) := by decide +kernel
theorem dX5_isOpen_15 : decode cX5_isOpen 15 = .ok (.istore 6, 2) := by decide +kernel
theorem dX5_isOpen_17 : decode cX5_isOpen 17 = .ok (.aload_n 0, 1) := by decide +kernel
theorem dX5_isOpen_18 : decode cX5_isOpen 18 = .ok (.getfield 44, 3) := by decide +kernel
theorem dX5_isOpen_21 : decode cX5_isOpen 21 = .ok (.iload 5, 2) := by decide +kernel
theorem dX5_isOpen_23 : decode cX5_isOpen 23 = .ok (.iaload, 1) := by decide +kernel
theorem dX5_isOpen_24 : decode cX5_isOpen 24 = .ok (.istore 7, 2) := by decide +kernel
theorem dX5_isOpen_26 : decode cX5_isOpen 26 = .ok (.aload_n 0, 1) := by decide +kernel
theorem dX5_isOpen_27 : decode cX5_isOpen 27 = .ok (.getfield 17, 3) := by decide +kernel
theorem dX5_isOpen_30 : decode cX5_isOpen 30 = .ok (.bipush 12, 2) := by decide +kernel
theorem dX5_isOpen_32 : decode cX5_isOpen 32 = .ok (.iload_n 1, 1) := by decide +kernel
theorem dX5_isOpen_33 : decode cX5_isOpen 33 = .ok (.imul, 1) := by decide +kernel
theorem dX5_isOpen_34 : decode cX5_isOpen 34 = .ok (.iload 6, 2) := by decide +kernel
theorem dX5_isOpen_36 : decode cX5_isOpen 36 = .ok (.iadd, 1) := by decide +kernel
theorem dX5_isOpen_37 : decode cX5_isOpen 37 = .ok (.iaload, 1) := by decide +kernel
theorem dX5_isOpen_38 : decode cX5_isOpen 38 = .ok (.aload_n 0, 1) := by decide +kernel
theorem dX5_isOpen_39 : decode cX5_isOpen 39 = .ok (.getfield 17, 3) := by decide +kernel
theorem dX5_isOpen_42 : decode cX5_isOpen 42 = .ok (.bipush 12, 2) := by decide +kernel
theorem dX5_isOpen_44 : decode cX5_isOpen 44 = .ok (.iload_n 1, 1) := by decide +kernel
theorem dX5_isOpen_45 : decode cX5_isOpen 45 = .ok (.imul, 1) := by decide +kernel
theorem dX5_isOpen_46 : decode cX5_isOpen 46 = .ok (.iload 4, 2) := by decide +kernel
theorem dX5_isOpen_48 : decode cX5_isOpen 48 = .ok (.iadd, 1) := by decide +kernel
theorem dX5_isOpen_49 : decode cX5_isOpen 49 = .ok (.iaload, 1) := by decide +kernel
theorem dX5_isOpen_50 : decode cX5_isOpen 50 = .ok (.if_icmp .ne 7, 3) := by decide +kernel
theorem dX5_isOpen_53 : decode cX5_isOpen 53 = .ok (.iconst 1, 1) := by decide +kernel
theorem dX5_isOpen_54 : decode cX5_isOpen 54 = .ok (.goto 4, 3) := by decide +kernel
theorem dX5_isOpen_57 : decode cX5_isOpen 57 = .ok (.iconst 0, 1) := by decide +kernel
theorem dX5_isOpen_58 : decode cX5_isOpen 58 = .ok (.istore 8, 2) := by decide +kernel
theorem dX5_isOpen_60 : decode cX5_isOpen 60 = .ok (.iload 7, 2) := by decide +kernel
theorem dX5_isOpen_62 : decode cX5_isOpen 62 = .ok (.iconst 3, 1) := by decide +kernel
theorem dX5_isOpen_63 : decode cX5_isOpen 63 = .ok (.if_icmp .ne 5, 3) := by decide +kernel
theorem dX5_isOpen_66 : decode cX5_isOpen 66 = .ok (.iconst 1, 1) := by decide +kernel
theorem dX5_isOpen_67 : decode cX5_isOpen 67 = .ok (.ireturn, 1) := by decide +kernel
theorem dX5_isOpen_68 : decode cX5_isOpen 68 = .ok (.iload 7, 2) := by decide +kernel
theorem dX5_isOpen_70 : decode cX5_isOpen 70 = .ok (.ifCond .ne 26, 3) := by decide +kernel
theorem dX5_isOpen_73 : decode cX5_isOpen 73 = .ok (.aload_n 0, 1) := by decide +kernel
theorem dX5_isOpen_74 : decode cX5_isOpen 74 = .ok (.iload_n 1, 1) := by decide +kernel
theorem dX5_isOpen_75 : decode cX5_isOpen 75 = .ok (.iload 6, 2) := by decide +kernel
theorem dX5_isOpen_77 : decode cX5_isOpen 77 = .ok (.invokevirtual 113, 3) := by decide +kernel
theorem dX5_isOpen_80 : decode cX5_isOpen 80 = .ok (.aload_n 0, 1) := by decide +kernel
theorem dX5_isOpen_81 : decode cX5_isOpen 81 = .ok (.iload_n 1, 1) := by decide +kernel
theorem dX5_isOpen_82 : decode cX5_isOpen 82 = .ok (.iload 4, 2) := by decide +kernel
theorem dX5_isOpen_84 : decode cX5_isOpen 84 = .ok (.invokevirtual 113, 3) := by decide +kernel
theorem dX5_isOpen_87 : decode cX5_isOpen 87 = .ok (.if_icmp .ne 7, 3) := by decide +kernel
theorem dX5_isOpen_90 : decode cX5_isOpen 90 = .ok (.iconst 1, 1) := by decide +kernel
theorem dX5_isOpen_91 : decode cX5_isOpen 91 = .ok (.goto 4, 3) := by decide +kernel
theorem dX5_isOpen_94 : decode cX5_isOpen 94 = .ok (.iconst 0, 1) := by decide +kernel
theorem dX5_isOpen_95 : decode cX5_isOpen 95 = .ok (.ireturn, 1) := by decide +kernel
theorem dX5_isOpen_96 : decode cX5_isOpen 96 = .ok (.iload 8, 2) := by decide +kernel
theorem dX5_isOpen_98 : decode cX5_isOpen 98 = .ok (.ifCond .eq 5, 3) := by decide +kernel
theorem dX5_isOpen_101 : decode cX5_isOpen 101 = .ok (.iconst 1, 1) := by decide +kernel
theorem dX5_isOpen_102 : decode cX5_isOpen 102 = .ok (.ireturn, 1) := by decide +kernel
theorem dX5_isOpen_103 : decode cX5_isOpen 103 = .ok (.iload 7, 2) := by decide +kernel
theorem dX5_isOpen_105 : decode cX5_isOpen 105 = .ok (.iconst 2, 1) := by decide +kernel
theorem dX5_isOpen_106 : decode cX5_isOpen 106 = .ok (.if_icmp .ne 56, 3) := by decide +kernel
theorem dX5_isOpen_109 : decode cX5_isOpen 109 = .ok (.aload_n 0, 1) := by decide +kernel
theorem dX5_isOpen_110 : decode cX5_isOpen 110 = .ok (.iload_n 1, 1) := by decide +kernel
theorem dX5_isOpen_111 : decode cX5_isOpen 111 = .ok (.iload 4, 2) := by decide +kernel
theorem dX5_isOpen_113 : decode cX5_isOpen 113 = .ok (.invokevirtual 107, 3) := by decide +kernel
theorem dX5_isOpen_116 : decode cX5_isOpen 116 = .ok (.iload 6, 2) := by decide +kernel
theorem dX5_isOpen_118 : decode cX5_isOpen 118 = .ok (.invokestatic 94, 3) := by decide +kernel
theorem dX5_isOpen_121 : decode cX5_isOpen 121 = .ok (.ifCond .eq 41, 3) := by decide +kernel
theorem dX5_isOpen_124 : decode cX5_isOpen 124 = .ok (.aload_n 0, 1) := by decide +kernel
theorem dX5_isOpen_125 : decode cX5_isOpen 125 = .ok (.getfield 47, 3) := by decide +kernel
theorem dX5_isOpen_128 : decode cX5_isOpen 128 = .ok (.iload 5, 2) := by decide +kernel
theorem dX5_isOpen_130 : decode cX5_isOpen 130 = .ok (.iaload, 1) := by decide +kernel
theorem dX5_isOpen_131 : decode cX5_isOpen 131 = .ok (.iconst 1, 1) := by decide +kernel
theorem dX5_isOpen_132 : decode cX5_isOpen 132 = .ok (.iand, 1) := by decide +kernel
theorem dX5_isOpen_133 : decode cX5_isOpen 133 = .ok (.ifCond .ne 25, 3) := by decide +kernel
theorem dX5_isOpen_136 : decode cX5_isOpen 136 = .ok (.aload_n 0, 1) := by decide +kernel
theorem dX5_isOpen_137 : decode cX5_isOpen 137 = .ok (.iload_n 1, 1) := by decide +kernel
theorem dX5_isOpen_138 : decode cX5_isOpen 138 = .ok (.iload_n 3, 1) := by decide +kernel
theorem dX5_isOpen_139 : decode cX5_isOpen 139 = .ok (.iload 4, 2) := by decide +kernel
theorem dX5_isOpen_141 : decode cX5_isOpen 141 = .ok (.invokevirtual 116, 3) := by decide +kernel
theorem dX5_isOpen_144 : decode cX5_isOpen 144 = .ok (.ifCond .ne 14, 3) := by decide +kernel
theorem dX5_isOpen_147 : decode cX5_isOpen 147 = .ok (.aload_n 0, 1) := by decide +kernel
theorem dX5_isOpen_148 : decode cX5_isOpen 148 = .ok (.iload_n 1, 1) := by decide +kernel
theorem dX5_isOpen_149 : decode cX5_isOpen 149 = .ok (.iload 4, 2) := by decide +kernel
theorem dX5_isOpen_151 : decode cX5_isOpen 151 = .ok (.iload_n 3, 1) := by decide +kernel
theorem dX5_isOpen_152 : decode cX5_isOpen 152 = .ok (.invokevirtual 116, 3) := by decide +kernel
theorem dX5_isOpen_155 : decode cX5_isOpen 155 = .ok (.ifCond .eq 7, 3) := by decide +kernel
theorem dX5_isOpen_158 : decode cX5_isOpen 158 = .ok (.iconst 1, 1) := by decide +kernel
theorem dX5_isOpen_159 : decode cX5_isOpen 159 = .ok (.goto 4, 3) := by decide +kernel
theorem dX5_isOpen_162 : decode cX5_isOpen 162 = .ok (.iconst 0, 1) := by decide +kernel
theorem dX5_isOpen_163 : decode cX5_isOpen 163 = .ok (.ireturn, 1) := by decide +kernel
set_option maxRecDepth 20000 in
theorem ggX5_field_X5_has : GoodIn wsX5_field wsX5_has := goodIn_r _ [7] (by decide +kernel) (by decide +kernel)
set_option maxRecDepth 20000 in
theorem gX5_field_X5_has : GoodIn wsX5_field (va_wsS RX5 94 yX5_has wsX5_has) := goodIn_app (goodIn_of _ (by decide +kernel)) ggX5_field_X5_has
set_option maxRecDepth 20000 in
theorem ggX5_field_X5_own : GoodIn wsX5_field wsX5_own := goodIn_r _ [11, 12, 13, 14, 15, 16, 21, 22, 23, 24, 25, 26, 27, 28, 29, 30, 31, 32, 33, 34, 35, 36, 37, 38, 39, 40, 41] (by decide +kernel) (by decide +kernel)
set_option maxRecDepth 20000 in
theorem gX5_field_X5_own : GoodIn wsX5_field (wsV RX5 84 RX5 yX5_own wsX5_own) := goodIn_app (goodIn_of _ (by decide +kernel)) ggX5_field_X5_own
set_option maxRecDepth 20000 in
theorem ggX5_field_X5_lay : GoodIn wsX5_field wsX5_lay := goodIn_r _ [20, 1, 21, 22, 23, 24, 25, 26, 27, 28, 29, 30, 31, 32, 33, 34, 35, 36, 37, 38, 39, 40, 41] (by decide +kernel) (by decide +kernel)
set_option maxRecDepth 20000 in
theorem gX5_field_X5_lay : GoodIn wsX5_field (wsV RX5 120 RX5 yX5_lay wsX5_lay) := goodIn_app (goodIn_of _ (by decide +kernel)) ggX5_field_X5_lay
theorem dX5_field_0 : decode cX5_field 0 = .ok (.iconst 1, 1) := by decide +kernel
theorem dX5_field_1 : decode cX5_field 1 = .ok (.istore 4, 2) := by decide +kernel
theorem dX5_field_3 : decode cX5_field 3 = .ok (.iconst 0, 1) := by decide +kernel
theorem dX5_field_4 : decode cX5_field 4 = .ok (.istore 5, 2) := by decide +kernel
theorem dX5_field_6 : decode cX5_field 6 = .ok (.aload_n 0, 1) := by decide +kernel
theorem dX5_field_7 : decode cX5_field 7 = .ok (.getfield 62, 3) := by decide +kernel
theorem dX5_field_10 : decode cX5_field 10 = .ok (.iconst 0, 1) := by decide +kernel
theorem dX5_field_11 : decode cX5_field 11 = .ok (.iload_n 2, 1) := by decide +kernel
theorem dX5_field_12 : decode cX5_field 12 = .ok (.iastore, 1) := by decide +kernel
theorem dX5_field_13 : decode cX5_field 13 = .ok (.iload 4, 2) := by decide +kernel
theorem dX5_field_15 : decode cX5_field 15 = .ok (.ifCond .le 143, 3) := by decide +kernel
theorem dX5_field_18 : decode cX5_field 18 = .ok (.iinc 4 (-1), 3) := by decide +kernel
theorem dX5_field_21 : decode cX5_field 21 = .ok (.aload_n 0, 1) := by decide +kernel
theorem dX5_field_22 : decode cX5_field 22 = .ok (.getfield 62, 3) := by decide +kernel
theorem dX5_field_25 : decode cX5_field 25 = .ok (.iload 4, 2) := by decide +kernel
theorem dX5_field_27 : decode cX5_field 27 = .ok (.iaload, 1) := by decide +kernel
theorem dX5_field_28 : decode cX5_field 28 = .ok (.istore 6, 2) := by decide +kernel
theorem dX5_field_30 : decode cX5_field 30 = .ok (.bipush 12, 2) := by decide +kernel
theorem dX5_field_32 : decode cX5_field 32 = .ok (.iload_n 1, 1) := by decide +kernel
theorem dX5_field_33 : decode cX5_field 33 = .ok (.imul, 1) := by decide +kernel
theorem dX5_field_34 : decode cX5_field 34 = .ok (.iload 6, 2) := by decide +kernel
theorem dX5_field_36 : decode cX5_field 36 = .ok (.iadd, 1) := by decide +kernel
theorem dX5_field_37 : decode cX5_field 37 = .ok (.istore 7, 2) := by decide +kernel
theorem dX5_field_39 : decode cX5_field 39 = .ok (.iload 5, 2) := by decide +kernel
theorem dX5_field_41 : decode cX5_field 41 = .ok (.iload 6, 2) := by decide +kernel
theorem dX5_field_43 : decode cX5_field 43 = .ok (.invokestatic 94, 3) := by decide +kernel
theorem dX5_field_46 : decode cX5_field 46 = .ok (.ifCond .eq 6, 3) := by decide +kernel
theorem dX5_field_49 : decode cX5_field 49 = .ok (.goto (-36), 3) := by decide +kernel
theorem dX5_field_52 : decode cX5_field 52 = .ok (.iload 5, 2) := by decide +kernel
theorem dX5_field_54 : decode cX5_field 54 = .ok (.iconst 1, 1) := by decide +kernel
theorem dX5_field_55 : decode cX5_field 55 = .ok (.iload 6, 2) := by decide +kernel
theorem dX5_field_57 : decode cX5_field 57 = .ok (.ishl, 1) := by decide +kernel
theorem dX5_field_58 : decode cX5_field 58 = .ok (.ior, 1) := by decide +kernel
theorem dX5_field_59 : decode cX5_field 59 = .ok (.istore 5, 2) := by decide +kernel
theorem dX5_field_61 : decode cX5_field 61 = .ok (.aload_n 0, 1) := by decide +kernel
theorem dX5_field_62 : decode cX5_field 62 = .ok (.iload_n 1, 1) := by decide +kernel
theorem dX5_field_63 : decode cX5_field 63 = .ok (.iload 6, 2) := by decide +kernel
theorem dX5_field_65 : decode cX5_field 65 = .ok (.iconst 0, 1) := by decide +kernel
theorem dX5_field_66 : decode cX5_field 66 = .ok (.iload_n 3, 1) := by decide +kernel
theorem dX5_field_67 : decode cX5_field 67 = .ok (.invokevirtual 84, 3) := by decide +kernel
theorem dX5_field_70 : decode cX5_field 70 = .ok (.istore 8, 2) := by decide +kernel
theorem dX5_field_72 : decode cX5_field 72 = .ok (.iload 8, 2) := by decide +kernel
theorem dX5_field_74 : decode cX5_field 74 = .ok (.ifCond .lt 6, 3) := by decide +kernel
theorem dX5_field_77 : decode cX5_field 77 = .ok (.iload 8, 2) := by decide +kernel
theorem dX5_field_79 : decode cX5_field 79 = .ok (.ireturn, 1) := by decide +kernel
theorem dX5_field_80 : decode cX5_field 80 = .ok (.aload_n 0, 1) := by decide +kernel
theorem dX5_field_81 : decode cX5_field 81 = .ok (.getfield 20, 3) := by decide +kernel
theorem dX5_field_84 : decode cX5_field 84 = .ok (.iload 7, 2) := by decide +kernel
theorem dX5_field_86 : decode cX5_field 86 = .ok (.iaload, 1) := by decide +kernel
theorem dX5_field_87 : decode cX5_field 87 = .ok (.ifCond .lt 18, 3) := by decide +kernel
theorem dX5_field_90 : decode cX5_field 90 = .ok (.aload_n 0, 1) := by decide +kernel
theorem dX5_field_91 : decode cX5_field 91 = .ok (.iload 4, 2) := by decide +kernel
theorem dX5_field_93 : decode cX5_field 93 = .ok (.aload_n 0, 1) := by decide +kernel
theorem dX5_field_94 : decode cX5_field 94 = .ok (.getfield 20, 3) := by decide +kernel
theorem dX5_field_97 : decode cX5_field 97 = .ok (.iload 7, 2) := by decide +kernel
theorem dX5_field_99 : decode cX5_field 99 = .ok (.iaload, 1) := by decide +kernel
theorem dX5_field_100 : decode cX5_field 100 = .ok (.invokevirtual 120, 3) := by decide +kernel
theorem dX5_field_103 : decode cX5_field 103 = .ok (.istore 4, 2) := by decide +kernel
theorem dX5_field_105 : decode cX5_field 105 = .ok (.bipush 11, 2) := by decide +kernel
theorem dX5_field_107 : decode cX5_field 107 = .ok (.istore 9, 2) := by decide +kernel
theorem dX5_field_109 : decode cX5_field 109 = .ok (.iload 9, 2) := by decide +kernel
theorem dX5_field_111 : decode cX5_field 111 = .ok (.ifCond .lt 44, 3) := by decide +kernel
theorem dX5_field_114 : decode cX5_field 114 = .ok (.aload_n 0, 1) := by decide +kernel
theorem dX5_field_115 : decode cX5_field 115 = .ok (.getfield 23, 3) := by decide +kernel
theorem dX5_field_118 : decode cX5_field 118 = .ok (.iload 7, 2) := by decide +kernel
theorem dX5_field_120 : decode cX5_field 120 = .ok (.iaload, 1) := by decide +kernel
theorem dX5_field_121 : decode cX5_field 121 = .ok (.iload 9, 2) := by decide +kernel
theorem dX5_field_123 : decode cX5_field 123 = .ok (.invokestatic 94, 3) := by decide +kernel
theorem dX5_field_126 : decode cX5_field 126 = .ok (.ifCond .eq 23, 3) := by decide +kernel
theorem dX5_field_129 : decode cX5_field 129 = .ok (.iload 5, 2) := by decide +kernel
theorem dX5_field_131 : decode cX5_field 131 = .ok (.iload 9, 2) := by decide +kernel
theorem dX5_field_133 : decode cX5_field 133 = .ok (.invokestatic 94, 3) := by decide +kernel
theorem dX5_field_136 : decode cX5_field 136 = .ok (.ifCond .ne 13, 3) := by decide +kernel
theorem dX5_field_139 : decode cX5_field 139 = .ok (.aload_n 0, 1) := by decide +kernel
theorem dX5_field_140 : decode cX5_field 140 = .ok (.iload 4, 2) := by decide +kernel
theorem dX5_field_142 : decode cX5_field 142 = .ok (.iload 9, 2) := by decide +kernel
theorem dX5_field_144 : decode cX5_field 144 = .ok (.invokevirtual 120, 3) := by decide +kernel
theorem dX5_field_147 : decode cX5_field 147 = .ok (.istore 4, 2) := by decide +kernel
theorem dX5_field_149 : decode cX5_field 149 = .ok (.iinc 9 (-1), 3) := by decide +kernel
theorem dX5_field_152 : decode cX5_field 152 = .ok (.goto (-43), 3) := by decide +kernel
theorem dX5_field_155 : decode cX5_field 155 = .ok (.goto (-142), 3) := by decide +kernel
theorem dX5_field_158 : decode cX5_field 158 = .ok (.iconst (-1), 1) := by decide +kernel
theorem dX5_field_159 : decode cX5_field 159 = .ok (.ireturn, 1) := by decide +kernel
theorem dX5_lay_0 : decode cX5_lay 0 = .ok (.iconst 0, 1) := by decide +kernel
theorem dX5_lay_1 : decode cX5_lay 1 = .ok (.istore_n 3, 1) := by decide +kernel
theorem dX5_lay_2 : decode cX5_lay 2 = .ok (.iconst 0, 1) := by decide +kernel
theorem dX5_lay_3 : decode cX5_lay 3 = .ok (.istore 4, 2) := by decide +kernel
theorem dX5_lay_5 : decode cX5_lay 5 = .ok (.iload 4, 2) := by decide +kernel
theorem dX5_lay_7 : decode cX5_lay 7 = .ok (.iload_n 1, 1) := by decide +kernel
theorem dX5_lay_8 : decode cX5_lay 8 = .ok (.if_icmp .ge 39, 3) := by decide +kernel
theorem dX5_lay_11 : decode cX5_lay 11 = .ok (.aload_n 0, 1) := by decide +kernel
theorem dX5_lay_12 : decode cX5_lay 12 = .ok (.getfield 62, 3) := by decide +kernel
theorem dX5_lay_15 : decode cX5_lay 15 = .ok (.iload 4, 2) := by decide +kernel
theorem dX5_lay_17 : decode cX5_lay 17 = .ok (.iaload, 1) := by decide +kernel
theorem dX5_lay_18 : decode cX5_lay 18 = .ok (.iload_n 2, 1) := by decide +kernel
theorem dX5_lay_19 : decode cX5_lay 19 = .ok (.if_icmp .ne 6, 3) := by decide +kernel
theorem dX5_lay_22 : decode cX5_lay 22 = .ok (.goto 19, 3) := by decide +kernel
theorem dX5_lay_25 : decode cX5_lay 25 = .ok (.aload_n 0, 1) := by decide +kernel
theorem dX5_lay_26 : decode cX5_lay 26 = .ok (.getfield 62, 3) := by decide +kernel
theorem dX5_lay_29 : decode cX5_lay 29 = .ok (.iload_n 3, 1) := by decide +kernel
theorem dX5_lay_30 : decode cX5_lay 30 = .ok (.aload_n 0, 1) := by decide +kernel
theorem dX5_lay_31 : decode cX5_lay 31 = .ok (.getfield 62, 3) := by decide +kernel
theorem dX5_lay_34 : decode cX5_lay 34 = .ok (.iload 4, 2) := by decide +kernel
theorem dX5_lay_36 : decode cX5_lay 36 = .ok (.iaload, 1) := by decide +kernel
theorem dX5_lay_37 : decode cX5_lay 37 = .ok (.iastore, 1) := by decide +kernel
theorem dX5_lay_38 : decode cX5_lay 38 = .ok (.iinc 3 1, 3) := by decide +kernel
theorem dX5_lay_41 : decode cX5_lay 41 = .ok (.iinc 4 1, 3) := by decide +kernel
theorem dX5_lay_44 : decode cX5_lay 44 = .ok (.goto (-39), 3) := by decide +kernel
theorem dX5_lay_47 : decode cX5_lay 47 = .ok (.aload_n 0, 1) := by decide +kernel
theorem dX5_lay_48 : decode cX5_lay 48 = .ok (.getfield 62, 3) := by decide +kernel
theorem dX5_lay_51 : decode cX5_lay 51 = .ok (.iload_n 3, 1) := by decide +kernel
theorem dX5_lay_52 : decode cX5_lay 52 = .ok (.iload_n 2, 1) := by decide +kernel
theorem dX5_lay_53 : decode cX5_lay 53 = .ok (.iastore, 1) := by decide +kernel
theorem dX5_lay_54 : decode cX5_lay 54 = .ok (.iload_n 3, 1) := by decide +kernel
theorem dX5_lay_55 : decode cX5_lay 55 = .ok (.iconst 1, 1) := by decide +kernel
theorem dX5_lay_56 : decode cX5_lay 56 = .ok (.iadd, 1) := by decide +kernel
theorem dX5_lay_57 : decode cX5_lay 57 = .ok (.ireturn, 1) := by decide +kernel
set_option maxRecDepth 20000 in
theorem ggX5_offers_X5_own : GoodIn wsX5_offers wsX5_own := goodIn_r _ [7, 8, 9, 10, 11, 12, 13, 14, 15, 16, 17, 18, 19, 20, 21, 22, 23, 24, 25, 26, 27, 28, 29, 30, 31, 32, 33] (by decide +kernel) (by decide +kernel)
set_option maxRecDepth 20000 in
theorem gX5_offers_X5_own : GoodIn wsX5_offers (wsV RX5 84 RX5 yX5_own wsX5_own) := goodIn_app (goodIn_of _ (by decide +kernel)) ggX5_offers_X5_own
theorem dX5_offers_0 : decode cX5_offers 0 = .ok (.aload_n 0, 1) := by decide +kernel
theorem dX5_offers_1 : decode cX5_offers 1 = .ok (.iload_n 1, 1) := by decide +kernel
theorem dX5_offers_2 : decode cX5_offers 2 = .ok (.iload_n 2, 1) := by decide +kernel
theorem dX5_offers_3 : decode cX5_offers 3 = .ok (.iconst 1, 1) := by decide +kernel
theorem dX5_offers_4 : decode cX5_offers 4 = .ok (.iload_n 3, 1) := by decide +kernel
theorem dX5_offers_5 : decode cX5_offers 5 = .ok (.invokevirtual 84, 3) := by decide +kernel
theorem dX5_offers_8 : decode cX5_offers 8 = .ok (.istore 4, 2) := by decide +kernel
theorem dX5_offers_10 : decode cX5_offers 10 = .ok (.iload 4, 2) := by decide +kernel
theorem dX5_offers_12 : decode cX5_offers 12 = .ok (.ifCond .lt 39, 3) := by decide +kernel
theorem dX5_offers_15 : decode cX5_offers 15 = .ok (.aload_n 0, 1) := by decide +kernel
theorem dX5_offers_16 : decode cX5_offers 16 = .ok (.getfield 44, 3) := by decide +kernel
theorem dX5_offers_19 : decode cX5_offers 19 = .ok (.bipush 30, 2) := by decide +kernel
theorem dX5_offers_21 : decode cX5_offers 21 = .ok (.iload_n 1, 1) := by decide +kernel
theorem dX5_offers_22 : decode cX5_offers 22 = .ok (.imul, 1) := by decide +kernel
theorem dX5_offers_23 : decode cX5_offers 23 = .ok (.iload 4, 2) := by decide +kernel
theorem dX5_offers_25 : decode cX5_offers 25 = .ok (.iadd, 1) := by decide +kernel
theorem dX5_offers_26 : decode cX5_offers 26 = .ok (.iaload, 1) := by decide +kernel
theorem dX5_offers_27 : decode cX5_offers 27 = .ok (.ifCond .eq 24, 3) := by decide +kernel
theorem dX5_offers_30 : decode cX5_offers 30 = .ok (.aload_n 0, 1) := by decide +kernel
theorem dX5_offers_31 : decode cX5_offers 31 = .ok (.getfield 47, 3) := by decide +kernel
theorem dX5_offers_34 : decode cX5_offers 34 = .ok (.bipush 30, 2) := by decide +kernel
theorem dX5_offers_36 : decode cX5_offers 36 = .ok (.iload_n 1, 1) := by decide +kernel
theorem dX5_offers_37 : decode cX5_offers 37 = .ok (.imul, 1) := by decide +kernel
theorem dX5_offers_38 : decode cX5_offers 38 = .ok (.iload 4, 2) := by decide +kernel
theorem dX5_offers_40 : decode cX5_offers 40 = .ok (.iadd, 1) := by decide +kernel
theorem dX5_offers_41 : decode cX5_offers 41 = .ok (.iaload, 1) := by decide +kernel
theorem dX5_offers_42 : decode cX5_offers 42 = .ok (.iconst 1, 1) := by decide +kernel
theorem dX5_offers_43 : decode cX5_offers 43 = .ok (.iand, 1) := by decide +kernel
theorem dX5_offers_44 : decode cX5_offers 44 = .ok (.ifCond .ne 7, 3) := by decide +kernel
theorem dX5_offers_47 : decode cX5_offers 47 = .ok (.iconst 1, 1) := by decide +kernel
theorem dX5_offers_48 : decode cX5_offers 48 = .ok (.goto 4, 3) := by decide +kernel
theorem dX5_offers_51 : decode cX5_offers 51 = .ok (.iconst 0, 1) := by decide +kernel
theorem dX5_offers_52 : decode cX5_offers 52 = .ok (.ireturn, 1) := by decide +kernel
set_option maxRecDepth 20000 in
theorem ggX5_specific_X5_facesOf : GoodIn wsX5_specific wsX5_facesOf := goodIn_r _ [5, 6, 7, 8, 9, 4, 10, 11, 12, 13, 14, 34, 35, 36, 37, 38, 39, 40, 41, 42, 43, 44, 45, 46, 47, 48, 49, 50, 51, 52, 53, 54] (by decide +kernel) (by decide +kernel)
set_option maxRecDepth 20000 in
theorem gX5_specific_X5_facesOf : GoodIn wsX5_specific (wsV RX5 110 RX5 yX5_facesOf wsX5_facesOf) := goodIn_app (goodIn_of _ (by decide +kernel)) ggX5_specific_X5_facesOf
set_option maxRecDepth 20000 in
theorem ggX5_specific_X5_has : GoodIn wsX5_specific wsX5_has := goodIn_r _ [14] (by decide +kernel) (by decide +kernel)
set_option maxRecDepth 20000 in
theorem gX5_specific_X5_has : GoodIn wsX5_specific (va_wsS RX5 94 yX5_has wsX5_has) := goodIn_app (goodIn_of _ (by decide +kernel)) ggX5_specific_X5_has
set_option maxRecDepth 20000 in
theorem ggX5_specific_X5_offers : GoodIn wsX5_specific wsX5_offers := goodIn_r _ [18, 19, 20, 21, 22, 23, 4, 24, 25, 26, 27, 28, 29, 34, 35, 36, 37, 38, 39, 40, 41, 42, 43, 44, 45, 46, 47, 48, 49, 50, 51, 52, 53, 54] (by decide +kernel) (by decide +kernel)
set_option maxRecDepth 20000 in
theorem gX5_specific_X5_offers : GoodIn wsX5_specific (wsV RX5 123 RX5 yX5_offers wsX5_offers) := goodIn_app (goodIn_of _ (by decide +kernel)) ggX5_specific_X5_offers
set_option maxRecDepth 20000 in
theorem ggX5_specific_X5_under : GoodIn wsX5_specific wsX5_under := goodIn_r _ [33, 7, 8, 9, 4, 10, 11, 1, 2, 3, 5, 6, 12, 13, 14, 34, 35, 36, 37, 38, 39, 40, 41, 42, 43, 44, 45, 46, 47, 48, 49, 50, 51, 52, 53, 54] (by decide +kernel) (by decide +kernel)
set_option maxRecDepth 20000 in
theorem gX5_specific_X5_under : GoodIn wsX5_specific (wsV RX5 116 RX5 yX5_under wsX5_under) := goodIn_app (goodIn_of _ (by decide +kernel)) ggX5_specific_X5_under
theorem dX5_specific_0 : decode cX5_specific 0 = .ok (.iconst 0, 1) := by decide +kernel
theorem dX5_specific_1 : decode cX5_specific 1 = .ok (.istore 4, 2) := by decide +kernel
theorem dX5_specific_3 : decode cX5_specific 3 = .ok (.iconst 0, 1) := by decide +kernel
theorem dX5_specific_4 : decode cX5_specific 4 = .ok (.istore 5, 2) := by decide +kernel
theorem dX5_specific_6 : decode cX5_specific 6 = .ok (.aload_n 0, 1) := by decide +kernel
theorem dX5_specific_7 : decode cX5_specific 7 = .ok (.iload_n 1, 1) := by decide +kernel
theorem dX5_specific_8 : decode cX5_specific 8 = .ok (.iload_n 2, 1) := by decide +kernel
theorem dX5_specific_9 : decode cX5_specific 9 = .ok (.invokevirtual 110, 3) := by decide +kernel
theorem dX5_specific_12 : decode cX5_specific 12 = .ok (.istore 6, 2) := by decide +kernel
theorem dX5_specific_14 : decode cX5_specific 14 = .ok (.iconst 0, 1) := by decide +kernel
theorem dX5_specific_15 : decode cX5_specific 15 = .ok (.istore 7, 2) := by decide +kernel
theorem dX5_specific_17 : decode cX5_specific 17 = .ok (.iload 7, 2) := by decide +kernel
theorem dX5_specific_19 : decode cX5_specific 19 = .ok (.bipush 12, 2) := by decide +kernel
theorem dX5_specific_21 : decode cX5_specific 21 = .ok (.if_icmp .ge 39, 3) := by decide +kernel
theorem dX5_specific_24 : decode cX5_specific 24 = .ok (.iload 6, 2) := by decide +kernel
theorem dX5_specific_26 : decode cX5_specific 26 = .ok (.iload 7, 2) := by decide +kernel
theorem dX5_specific_28 : decode cX5_specific 28 = .ok (.invokestatic 94, 3) := by decide +kernel
theorem dX5_specific_31 : decode cX5_specific 31 = .ok (.ifCond .eq 23, 3) := by decide +kernel
theorem dX5_specific_34 : decode cX5_specific 34 = .ok (.aload_n 0, 1) := by decide +kernel
theorem dX5_specific_35 : decode cX5_specific 35 = .ok (.iload_n 1, 1) := by decide +kernel
theorem dX5_specific_36 : decode cX5_specific 36 = .ok (.iload 7, 2) := by decide +kernel
theorem dX5_specific_38 : decode cX5_specific 38 = .ok (.iload_n 3, 1) := by decide +kernel
theorem dX5_specific_39 : decode cX5_specific 39 = .ok (.invokevirtual 123, 3) := by decide +kernel
theorem dX5_specific_42 : decode cX5_specific 42 = .ok (.ifCond .eq 12, 3) := by decide +kernel
theorem dX5_specific_45 : decode cX5_specific 45 = .ok (.iload 4, 2) := by decide +kernel
theorem dX5_specific_47 : decode cX5_specific 47 = .ok (.iconst 1, 1) := by decide +kernel
theorem dX5_specific_48 : decode cX5_specific 48 = .ok (.iload 7, 2) := by decide +kernel
theorem dX5_specific_50 : decode cX5_specific 50 = .ok (.ishl, 1) := by decide +kernel
theorem dX5_specific_51 : decode cX5_specific 51 = .ok (.ior, 1) := by decide +kernel
theorem dX5_specific_52 : decode cX5_specific 52 = .ok (.istore 4, 2) := by decide +kernel
theorem dX5_specific_54 : decode cX5_specific 54 = .ok (.iinc 7 1, 3) := by decide +kernel
theorem dX5_specific_57 : decode cX5_specific 57 = .ok (.goto (-40), 3) := by decide +kernel
theorem dX5_specific_60 : decode cX5_specific 60 = .ok (.iconst 0, 1) := by decide +kernel
theorem dX5_specific_61 : decode cX5_specific 61 = .ok (.istore 7, 2) := by decide +kernel
theorem dX5_specific_63 : decode cX5_specific 63 = .ok (.iload 7, 2) := by decide +kernel
theorem dX5_specific_65 : decode cX5_specific 65 = .ok (.bipush 12, 2) := by decide +kernel
theorem dX5_specific_67 : decode cX5_specific 67 = .ok (.if_icmp .ge 80, 3) := by decide +kernel
theorem dX5_specific_70 : decode cX5_specific 70 = .ok (.iload 4, 2) := by decide +kernel
theorem dX5_specific_72 : decode cX5_specific 72 = .ok (.iload 7, 2) := by decide +kernel
theorem dX5_specific_74 : decode cX5_specific 74 = .ok (.invokestatic 94, 3) := by decide +kernel
theorem dX5_specific_77 : decode cX5_specific 77 = .ok (.istore 8, 2) := by decide +kernel
theorem dX5_specific_79 : decode cX5_specific 79 = .ok (.iconst 0, 1) := by decide +kernel
theorem dX5_specific_80 : decode cX5_specific 80 = .ok (.istore 9, 2) := by decide +kernel
theorem dX5_specific_82 : decode cX5_specific 82 = .ok (.iload 9, 2) := by decide +kernel
theorem dX5_specific_84 : decode cX5_specific 84 = .ok (.bipush 12, 2) := by decide +kernel
theorem dX5_specific_86 : decode cX5_specific 86 = .ok (.if_icmp .ge 41, 3) := by decide +kernel
theorem dX5_specific_89 : decode cX5_specific 89 = .ok (.iload 9, 2) := by decide +kernel
theorem dX5_specific_91 : decode cX5_specific 91 = .ok (.iload 7, 2) := by decide +kernel
theorem dX5_specific_93 : decode cX5_specific 93 = .ok (.if_icmp .eq 28, 3) := by decide +kernel
theorem dX5_specific_96 : decode cX5_specific 96 = .ok (.iload 4, 2) := by decide +kernel
theorem dX5_specific_98 : decode cX5_specific 98 = .ok (.iload 9, 2) := by decide +kernel
theorem dX5_specific_100 : decode cX5_specific 100 = .ok (.invokestatic 94, 3) := by decide +kernel
theorem dX5_specific_103 : decode cX5_specific 103 = .ok (.ifCond .eq 18, 3) := by decide +kernel
theorem dX5_specific_106 : decode cX5_specific 106 = .ok (.aload_n 0, 1) := by decide +kernel
theorem dX5_specific_107 : decode cX5_specific 107 = .ok (.iload_n 1, 1) := by decide +kernel
theorem dX5_specific_108 : decode cX5_specific 108 = .ok (.iload 9, 2) := by decide +kernel
theorem dX5_specific_110 : decode cX5_specific 110 = .ok (.iload 7, 2) := by decide +kernel
theorem dX5_specific_112 : decode cX5_specific 112 = .ok (.invokevirtual 116, 3) := by decide +kernel
theorem dX5_specific_115 : decode cX5_specific 115 = .ok (.ifCond .eq 6, 3) := by decide +kernel
theorem dX5_specific_118 : decode cX5_specific 118 = .ok (.iconst 0, 1) := by decide +kernel
theorem dX5_specific_119 : decode cX5_specific 119 = .ok (.istore 8, 2) := by decide +kernel
theorem dX5_specific_121 : decode cX5_specific 121 = .ok (.iinc 9 1, 3) := by decide +kernel
theorem dX5_specific_124 : decode cX5_specific 124 = .ok (.goto (-42), 3) := by decide +kernel
theorem dX5_specific_127 : decode cX5_specific 127 = .ok (.iload 8, 2) := by decide +kernel
theorem dX5_specific_129 : decode cX5_specific 129 = .ok (.ifCond .eq 12, 3) := by decide +kernel
theorem dX5_specific_132 : decode cX5_specific 132 = .ok (.iload 5, 2) := by decide +kernel
theorem dX5_specific_134 : decode cX5_specific 134 = .ok (.iconst 1, 1) := by decide +kernel
theorem dX5_specific_135 : decode cX5_specific 135 = .ok (.iload 7, 2) := by decide +kernel
theorem dX5_specific_137 : decode cX5_specific 137 = .ok (.ishl, 1) := by decide +kernel
theorem dX5_specific_138 : decode cX5_specific 138 = .ok (.ior, 1) := by decide +kernel
theorem dX5_specific_139 : decode cX5_specific 139 = .ok (.istore 5, 2) := by decide +kernel
theorem dX5_specific_141 : decode cX5_specific 141 = .ok (.iinc 7 1, 3) := by decide +kernel
theorem dX5_specific_144 : decode cX5_specific 144 = .ok (.goto (-81), 3) := by decide +kernel
theorem dX5_specific_147 : decode cX5_specific 147 = .ok (.iload 5, 2) := by decide +kernel
theorem dX5_specific_149 : decode cX5_specific 149 = .ok (.ireturn, 1) := by decide +kernel
set_option maxRecDepth 20000 in
theorem ggX5_bodied_X5_has : GoodIn wsX5_bodied wsX5_has := goodIn_r _ [5] (by decide +kernel) (by decide +kernel)
set_option maxRecDepth 20000 in
theorem gX5_bodied_X5_has : GoodIn wsX5_bodied (va_wsS RX5 94 yX5_has wsX5_has) := goodIn_app (goodIn_of _ (by decide +kernel)) ggX5_bodied_X5_has
set_option maxRecDepth 20000 in
theorem ggX5_bodied_X5_own : GoodIn wsX5_bodied wsX5_own := goodIn_r _ [9, 10, 11, 12, 13, 14, 15, 16, 17, 18, 19, 20, 21, 22, 23, 24, 25, 26, 27, 28, 29, 30, 31, 32, 33, 34, 35] (by decide +kernel) (by decide +kernel)
set_option maxRecDepth 20000 in
theorem gX5_bodied_X5_own : GoodIn wsX5_bodied (wsV RX5 84 RX5 yX5_own wsX5_own) := goodIn_app (goodIn_of _ (by decide +kernel)) ggX5_bodied_X5_own
theorem dX5_bodied_0 : decode cX5_bodied 0 = .ok (.iconst (-1), 1) := by decide +kernel
theorem dX5_bodied_1 : decode cX5_bodied 1 = .ok (.istore 4, 2) := by decide +kernel
theorem dX5_bodied_3 : decode cX5_bodied 3 = .ok (.iconst 0, 1) := by decide +kernel
theorem dX5_bodied_4 : decode cX5_bodied 4 = .ok (.istore 5, 2) := by decide +kernel
theorem dX5_bodied_6 : decode cX5_bodied 6 = .ok (.iload 5, 2) := by decide +kernel
theorem dX5_bodied_8 : decode cX5_bodied 8 = .ok (.bipush 12, 2) := by decide +kernel
theorem dX5_bodied_10 : decode cX5_bodied 10 = .ok (.if_icmp .ge 67, 3) := by decide +kernel
theorem dX5_bodied_13 : decode cX5_bodied 13 = .ok (.iload_n 2, 1) := by decide +kernel
theorem dX5_bodied_14 : decode cX5_bodied 14 = .ok (.iload 5, 2) := by decide +kernel
theorem dX5_bodied_16 : decode cX5_bodied 16 = .ok (.invokestatic 94, 3) := by decide +kernel
theorem dX5_bodied_19 : decode cX5_bodied 19 = .ok (.ifCond .ne 6, 3) := by decide +kernel
theorem dX5_bodied_22 : decode cX5_bodied 22 = .ok (.goto 49, 3) := by decide +kernel
theorem dX5_bodied_25 : decode cX5_bodied 25 = .ok (.aload_n 0, 1) := by decide +kernel
theorem dX5_bodied_26 : decode cX5_bodied 26 = .ok (.iload_n 1, 1) := by decide +kernel
theorem dX5_bodied_27 : decode cX5_bodied 27 = .ok (.iload 5, 2) := by decide +kernel
theorem dX5_bodied_29 : decode cX5_bodied 29 = .ok (.iconst 1, 1) := by decide +kernel
theorem dX5_bodied_30 : decode cX5_bodied 30 = .ok (.iload_n 3, 1) := by decide +kernel
theorem dX5_bodied_31 : decode cX5_bodied 31 = .ok (.invokevirtual 84, 3) := by decide +kernel
theorem dX5_bodied_34 : decode cX5_bodied 34 = .ok (.istore 6, 2) := by decide +kernel
theorem dX5_bodied_36 : decode cX5_bodied 36 = .ok (.aload_n 0, 1) := by decide +kernel
theorem dX5_bodied_37 : decode cX5_bodied 37 = .ok (.getfield 47, 3) := by decide +kernel
theorem dX5_bodied_40 : decode cX5_bodied 40 = .ok (.bipush 30, 2) := by decide +kernel
theorem dX5_bodied_42 : decode cX5_bodied 42 = .ok (.iload_n 1, 1) := by decide +kernel
theorem dX5_bodied_43 : decode cX5_bodied 43 = .ok (.imul, 1) := by decide +kernel
theorem dX5_bodied_44 : decode cX5_bodied 44 = .ok (.iload 6, 2) := by decide +kernel
theorem dX5_bodied_46 : decode cX5_bodied 46 = .ok (.iadd, 1) := by decide +kernel
theorem dX5_bodied_47 : decode cX5_bodied 47 = .ok (.iaload, 1) := by decide +kernel
theorem dX5_bodied_48 : decode cX5_bodied 48 = .ok (.iconst 2, 1) := by decide +kernel
theorem dX5_bodied_49 : decode cX5_bodied 49 = .ok (.iand, 1) := by decide +kernel
theorem dX5_bodied_50 : decode cX5_bodied 50 = .ok (.ifCond .eq 6, 3) := by decide +kernel
theorem dX5_bodied_53 : decode cX5_bodied 53 = .ok (.goto 18, 3) := by decide +kernel
theorem dX5_bodied_56 : decode cX5_bodied 56 = .ok (.iload 4, 2) := by decide +kernel
theorem dX5_bodied_58 : decode cX5_bodied 58 = .ok (.iconst (-1), 1) := by decide +kernel
theorem dX5_bodied_59 : decode cX5_bodied 59 = .ok (.if_icmp .ne 8, 3) := by decide +kernel
theorem dX5_bodied_62 : decode cX5_bodied 62 = .ok (.iload 6, 2) := by decide +kernel
theorem dX5_bodied_64 : decode cX5_bodied 64 = .ok (.goto 5, 3) := by decide +kernel
theorem dX5_bodied_67 : decode cX5_bodied 67 = .ok (.bipush (-2), 2) := by decide +kernel
theorem dX5_bodied_69 : decode cX5_bodied 69 = .ok (.istore 4, 2) := by decide +kernel
theorem dX5_bodied_71 : decode cX5_bodied 71 = .ok (.iinc 5 1, 3) := by decide +kernel
theorem dX5_bodied_74 : decode cX5_bodied 74 = .ok (.goto (-68), 3) := by decide +kernel
theorem dX5_bodied_77 : decode cX5_bodied 77 = .ok (.iload 4, 2) := by decide +kernel
theorem dX5_bodied_79 : decode cX5_bodied 79 = .ok (.ireturn, 1) := by decide +kernel
set_option maxRecDepth 20000 in
theorem ggX5_find_X5_own : GoodIn wsX5_find wsX5_own := goodIn_r _ [14, 5, 6, 9, 7, 8, 43, 44, 45, 46, 47, 48, 49, 50, 51, 52, 53, 54, 55, 56, 57, 58, 59, 60, 61, 62, 63] (by decide +kernel) (by decide +kernel)
set_option maxRecDepth 20000 in
theorem gX5_find_X5_own : GoodIn wsX5_find (wsV RX5 84 RX5 yX5_own wsX5_own) := goodIn_app (goodIn_of _ (by decide +kernel)) ggX5_find_X5_own
set_option maxRecDepth 20000 in
theorem ggX5_find_X5_specific : GoodIn wsX5_find wsX5_specific := goodIn_r _ [18, 19, 20, 21, 13, 22, 23, 24, 25, 26, 27, 4, 28, 29, 30, 31, 32, 33, 34, 2, 3, 10, 11, 12, 14, 5, 6, 9, 7, 8, 35, 36, 37, 38, 43, 44, 45, 46, 47, 48, 49, 50, 51, 52, 53, 54, 55, 56, 57, 58, 59, 60, 61, 62, 63] (by decide +kernel) (by decide +kernel)
set_option maxRecDepth 20000 in
theorem gX5_find_X5_specific : GoodIn wsX5_find (wsV RX5 126 RX5 yX5_specific wsX5_specific) := goodIn_app (goodIn_of _ (by decide +kernel)) ggX5_find_X5_specific
set_option maxRecDepth 20000 in
theorem ggX5_find_X5_bodied : GoodIn wsX5_find wsX5_bodied := goodIn_r _ [42, 3, 28, 29, 13, 30, 10, 11, 12, 14, 5, 6, 9, 7, 8, 43, 44, 45, 46, 47, 48, 49, 50, 51, 52, 53, 54, 55, 56, 57, 58, 59, 60, 61, 62, 63] (by decide +kernel) (by decide +kernel)
set_option maxRecDepth 20000 in
theorem gX5_find_X5_bodied : GoodIn wsX5_find (wsV RX5 130 RX5 yX5_bodied wsX5_bodied) := goodIn_app (goodIn_of _ (by decide +kernel)) ggX5_find_X5_bodied
set_option maxRecDepth 20000 in
theorem ggX5_find_X5_facesOf : GoodIn wsX5_find wsX5_facesOf := goodIn_r _ [22, 23, 24, 25, 26, 13, 27, 4, 28, 29, 30, 43, 44, 45, 46, 47, 48, 49, 50, 51, 52, 53, 54, 55, 56, 57, 58, 59, 60, 61, 62, 63] (by decide +kernel) (by decide +kernel)
set_option maxRecDepth 20000 in
theorem gX5_find_X5_facesOf : GoodIn wsX5_find (wsV RX5 110 RX5 yX5_facesOf wsX5_facesOf) := goodIn_app (goodIn_of _ (by decide +kernel)) ggX5_find_X5_facesOf
set_option maxRecDepth 20000 in
theorem ggX5_find_X5_has : GoodIn wsX5_find wsX5_has := goodIn_r _ [30] (by decide +kernel) (by decide +kernel)
set_option maxRecDepth 20000 in
theorem gX5_find_X5_has : GoodIn wsX5_find (va_wsS RX5 94 yX5_has wsX5_has) := goodIn_app (goodIn_of _ (by decide +kernel)) ggX5_find_X5_has
theorem dX5_find_0 : decode cX5_find 0 = .ok (.aload_n 0, 1) := by decide +kernel
theorem dX5_find_1 : decode cX5_find 1 = .ok (.getfield 13, 3) := by decide +kernel
theorem dX5_find_4 : decode cX5_find 4 = .ok (.bipush 12, 2) := by decide +kernel
theorem dX5_find_6 : decode cX5_find 6 = .ok (.iload_n 1, 1) := by decide +kernel
theorem dX5_find_7 : decode cX5_find 7 = .ok (.imul, 1) := by decide +kernel
theorem dX5_find_8 : decode cX5_find 8 = .ok (.iload_n 2, 1) := by decide +kernel
theorem dX5_find_9 : decode cX5_find 9 = .ok (.iadd, 1) := by decide +kernel
theorem dX5_find_10 : decode cX5_find 10 = .ok (.iaload, 1) := by decide +kernel
theorem dX5_find_11 : decode cX5_find 11 = .ok (.iconst 2, 1) := by decide +kernel
theorem dX5_find_12 : decode cX5_find 12 = .ok (.iand, 1) := by decide +kernel
theorem dX5_find_13 : decode cX5_find 13 = .ok (.ifCond .eq 7, 3) := by decide +kernel
theorem dX5_find_16 : decode cX5_find 16 = .ok (.iconst 1, 1) := by decide +kernel
theorem dX5_find_17 : decode cX5_find 17 = .ok (.goto 4, 3) := by decide +kernel
theorem dX5_find_20 : decode cX5_find 20 = .ok (.iconst 0, 1) := by decide +kernel
theorem dX5_find_21 : decode cX5_find 21 = .ok (.istore 4, 2) := by decide +kernel
theorem dX5_find_23 : decode cX5_find 23 = .ok (.iload_n 2, 1) := by decide +kernel
theorem dX5_find_24 : decode cX5_find 24 = .ok (.istore 5, 2) := by decide +kernel
theorem dX5_find_26 : decode cX5_find 26 = .ok (.iload 5, 2) := by decide +kernel
theorem dX5_find_28 : decode cX5_find 28 = .ok (.ifCond .lt 86, 3) := by decide +kernel
theorem dX5_find_31 : decode cX5_find 31 = .ok (.aload_n 0, 1) := by decide +kernel
theorem dX5_find_32 : decode cX5_find 32 = .ok (.iload_n 1, 1) := by decide +kernel
theorem dX5_find_33 : decode cX5_find 33 = .ok (.iload 5, 2) := by decide +kernel
theorem dX5_find_35 : decode cX5_find 35 = .ok (.iconst 1, 1) := by decide +kernel
theorem dX5_find_36 : decode cX5_find 36 = .ok (.iload_n 3, 1) := by decide +kernel
theorem dX5_find_37 : decode cX5_find 37 = .ok (.invokevirtual 84, 3) := by decide +kernel
theorem dX5_find_40 : decode cX5_find 40 = .ok (.istore 6, 2) := by decide +kernel
theorem dX5_find_42 : decode cX5_find 42 = .ok (.iload 6, 2) := by decide +kernel
theorem dX5_find_44 : decode cX5_find 44 = .ok (.ifCond .ge 6, 3) := by decide +kernel
theorem dX5_find_47 : decode cX5_find 47 = .ok (.goto 50, 3) := by decide +kernel
theorem dX5_find_50 : decode cX5_find 50 = .ok (.iload 4, 2) := by decide +kernel
theorem dX5_find_52 : decode cX5_find 52 = .ok (.ifCond .eq 42, 3) := by decide +kernel
theorem dX5_find_55 : decode cX5_find 55 = .ok (.iload 5, 2) := by decide +kernel
theorem dX5_find_57 : decode cX5_find 57 = .ok (.iload_n 2, 1) := by decide +kernel
theorem dX5_find_58 : decode cX5_find 58 = .ok (.if_icmp .eq 36, 3) := by decide +kernel
theorem dX5_find_61 : decode cX5_find 61 = .ok (.aload_n 0, 1) := by decide +kernel
theorem dX5_find_62 : decode cX5_find 62 = .ok (.getfield 44, 3) := by decide +kernel
theorem dX5_find_65 : decode cX5_find 65 = .ok (.bipush 30, 2) := by decide +kernel
theorem dX5_find_67 : decode cX5_find 67 = .ok (.iload_n 1, 1) := by decide +kernel
theorem dX5_find_68 : decode cX5_find 68 = .ok (.imul, 1) := by decide +kernel
theorem dX5_find_69 : decode cX5_find 69 = .ok (.iload 6, 2) := by decide +kernel
theorem dX5_find_71 : decode cX5_find 71 = .ok (.iadd, 1) := by decide +kernel
theorem dX5_find_72 : decode cX5_find 72 = .ok (.iaload, 1) := by decide +kernel
theorem dX5_find_73 : decode cX5_find 73 = .ok (.iconst 3, 1) := by decide +kernel
theorem dX5_find_74 : decode cX5_find 74 = .ok (.if_icmp .ne 23, 3) := by decide +kernel
theorem dX5_find_77 : decode cX5_find 77 = .ok (.aload_n 0, 1) := by decide +kernel
theorem dX5_find_78 : decode cX5_find 78 = .ok (.getfield 47, 3) := by decide +kernel
theorem dX5_find_81 : decode cX5_find 81 = .ok (.bipush 30, 2) := by decide +kernel
theorem dX5_find_83 : decode cX5_find 83 = .ok (.iload_n 1, 1) := by decide +kernel
theorem dX5_find_84 : decode cX5_find 84 = .ok (.imul, 1) := by decide +kernel
theorem dX5_find_85 : decode cX5_find 85 = .ok (.iload 6, 2) := by decide +kernel
theorem dX5_find_87 : decode cX5_find 87 = .ok (.iadd, 1) := by decide +kernel
theorem dX5_find_88 : decode cX5_find 88 = .ok (.iaload, 1) := by decide +kernel
theorem dX5_find_89 : decode cX5_find 89 = .ok (.iconst 1, 1) := by decide +kernel
theorem dX5_find_90 : decode cX5_find 90 = .ok (.iand, 1) := by decide +kernel
theorem dX5_find_91 : decode cX5_find 91 = .ok (.ifCond .ne 6, 3) := by decide +kernel
theorem dX5_find_94 : decode cX5_find 94 = .ok (.iload 6, 2) := by decide +kernel
theorem dX5_find_96 : decode cX5_find 96 = .ok (.ireturn, 1) := by decide +kernel
theorem dX5_find_97 : decode cX5_find 97 = .ok (.aload_n 0, 1) := by decide +kernel
theorem dX5_find_98 : decode cX5_find 98 = .ok (.getfield 20, 3) := by decide +kernel
theorem dX5_find_101 : decode cX5_find 101 = .ok (.bipush 12, 2) := by decide +kernel
theorem dX5_find_103 : decode cX5_find 103 = .ok (.iload_n 1, 1) := by decide +kernel
theorem dX5_find_104 : decode cX5_find 104 = .ok (.imul, 1) := by decide +kernel
theorem dX5_find_105 : decode cX5_find 105 = .ok (.iload 5, 2) := by decide +kernel
theorem dX5_find_107 : decode cX5_find 107 = .ok (.iadd, 1) := by decide +kernel
theorem dX5_find_108 : decode cX5_find 108 = .ok (.iaload, 1) := by decide +kernel
theorem dX5_find_109 : decode cX5_find 109 = .ok (.istore 5, 2) := by decide +kernel
theorem dX5_find_111 : decode cX5_find 111 = .ok (.goto (-85), 3) := by decide +kernel
theorem dX5_find_114 : decode cX5_find 114 = .ok (.aload_n 0, 1) := by decide +kernel
theorem dX5_find_115 : decode cX5_find 115 = .ok (.iload_n 1, 1) := by decide +kernel
theorem dX5_find_116 : decode cX5_find 116 = .ok (.aload_n 0, 1) := by decide +kernel
theorem dX5_find_117 : decode cX5_find 117 = .ok (.iload_n 1, 1) := by decide +kernel
theorem dX5_find_118 : decode cX5_find 118 = .ok (.iload_n 2, 1) := by decide +kernel
theorem dX5_find_119 : decode cX5_find 119 = .ok (.iload_n 3, 1) := by decide +kernel
theorem dX5_find_120 : decode cX5_find 120 = .ok (.invokevirtual 126, 3) := by decide +kernel
theorem dX5_find_123 : decode cX5_find 123 = .ok (.iload_n 3, 1) := by decide +kernel
theorem dX5_find_124 : decode cX5_find 124 = .ok (.invokevirtual 130, 3) := by decide +kernel
theorem dX5_find_127 : decode cX5_find 127 = .ok (.istore 5, 2) := by decide +kernel
theorem dX5_find_129 : decode cX5_find 129 = .ok (.iload 5, 2) := by decide +kernel
theorem dX5_find_131 : decode cX5_find 131 = .ok (.ifCond .lt 6, 3) := by decide +kernel
theorem dX5_find_134 : decode cX5_find 134 = .ok (.iload 5, 2) := by decide +kernel
theorem dX5_find_136 : decode cX5_find 136 = .ok (.ireturn, 1) := by decide +kernel
theorem dX5_find_137 : decode cX5_find 137 = .ok (.aload_n 0, 1) := by decide +kernel
theorem dX5_find_138 : decode cX5_find 138 = .ok (.iload_n 1, 1) := by decide +kernel
theorem dX5_find_139 : decode cX5_find 139 = .ok (.iload_n 2, 1) := by decide +kernel
theorem dX5_find_140 : decode cX5_find 140 = .ok (.invokevirtual 110, 3) := by decide +kernel
theorem dX5_find_143 : decode cX5_find 143 = .ok (.istore 6, 2) := by decide +kernel
theorem dX5_find_145 : decode cX5_find 145 = .ok (.iconst 0, 1) := by decide +kernel
theorem dX5_find_146 : decode cX5_find 146 = .ok (.istore 7, 2) := by decide +kernel
theorem dX5_find_148 : decode cX5_find 148 = .ok (.iload 7, 2) := by decide +kernel
theorem dX5_find_150 : decode cX5_find 150 = .ok (.aload_n 0, 1) := by decide +kernel
theorem dX5_find_151 : decode cX5_find 151 = .ok (.getfield 35, 3) := by decide +kernel
theorem dX5_find_154 : decode cX5_find 154 = .ok (.iload_n 1, 1) := by decide +kernel
theorem dX5_find_155 : decode cX5_find 155 = .ok (.iaload, 1) := by decide +kernel
theorem dX5_find_156 : decode cX5_find 156 = .ok (.if_icmp .ge 89, 3) := by decide +kernel
theorem dX5_find_159 : decode cX5_find 159 = .ok (.bipush 30, 2) := by decide +kernel
theorem dX5_find_161 : decode cX5_find 161 = .ok (.iload_n 1, 1) := by decide +kernel
theorem dX5_find_162 : decode cX5_find 162 = .ok (.imul, 1) := by decide +kernel
theorem dX5_find_163 : decode cX5_find 163 = .ok (.iload 7, 2) := by decide +kernel
theorem dX5_find_165 : decode cX5_find 165 = .ok (.iadd, 1) := by decide +kernel
theorem dX5_find_166 : decode cX5_find 166 = .ok (.istore 8, 2) := by decide +kernel
theorem dX5_find_168 : decode cX5_find 168 = .ok (.aload_n 0, 1) := by decide +kernel
theorem dX5_find_169 : decode cX5_find 169 = .ok (.getfield 32, 3) := by decide +kernel
theorem dX5_find_172 : decode cX5_find 172 = .ok (.iload 8, 2) := by decide +kernel
theorem dX5_find_174 : decode cX5_find 174 = .ok (.baload, 1) := by decide +kernel
theorem dX5_find_175 : decode cX5_find 175 = .ok (.ifCond .ne 64, 3) := by decide +kernel
theorem dX5_find_178 : decode cX5_find 178 = .ok (.aload_n 0, 1) := by decide +kernel
theorem dX5_find_179 : decode cX5_find 179 = .ok (.getfield 29, 3) := by decide +kernel
theorem dX5_find_182 : decode cX5_find 182 = .ok (.iload 8, 2) := by decide +kernel
theorem dX5_find_184 : decode cX5_find 184 = .ok (.baload, 1) := by decide +kernel
theorem dX5_find_185 : decode cX5_find 185 = .ok (.ifCond .eq 54, 3) := by decide +kernel
theorem dX5_find_188 : decode cX5_find 188 = .ok (.aload_n 0, 1) := by decide +kernel
theorem dX5_find_189 : decode cX5_find 189 = .ok (.getfield 41, 3) := by decide +kernel
theorem dX5_find_192 : decode cX5_find 192 = .ok (.iload 8, 2) := by decide +kernel
theorem dX5_find_194 : decode cX5_find 194 = .ok (.iaload, 1) := by decide +kernel
theorem dX5_find_195 : decode cX5_find 195 = .ok (.iload_n 3, 1) := by decide +kernel
theorem dX5_find_196 : decode cX5_find 196 = .ok (.if_icmp .ne 43, 3) := by decide +kernel
theorem dX5_find_199 : decode cX5_find 199 = .ok (.iload 6, 2) := by decide +kernel
theorem dX5_find_201 : decode cX5_find 201 = .ok (.aload_n 0, 1) := by decide +kernel
theorem dX5_find_202 : decode cX5_find 202 = .ok (.getfield 38, 3) := by decide +kernel
theorem dX5_find_205 : decode cX5_find 205 = .ok (.iload 8, 2) := by decide +kernel
theorem dX5_find_207 : decode cX5_find 207 = .ok (.iaload, 1) := by decide +kernel
theorem dX5_find_208 : decode cX5_find 208 = .ok (.invokestatic 94, 3) := by decide +kernel
theorem dX5_find_211 : decode cX5_find 211 = .ok (.ifCond .eq 28, 3) := by decide +kernel
theorem dX5_find_214 : decode cX5_find 214 = .ok (.aload_n 0, 1) := by decide +kernel
theorem dX5_find_215 : decode cX5_find 215 = .ok (.getfield 44, 3) := by decide +kernel
theorem dX5_find_218 : decode cX5_find 218 = .ok (.iload 8, 2) := by decide +kernel
theorem dX5_find_220 : decode cX5_find 220 = .ok (.iaload, 1) := by decide +kernel
theorem dX5_find_221 : decode cX5_find 221 = .ok (.ifCond .eq 18, 3) := by decide +kernel
theorem dX5_find_224 : decode cX5_find 224 = .ok (.aload_n 0, 1) := by decide +kernel
theorem dX5_find_225 : decode cX5_find 225 = .ok (.getfield 47, 3) := by decide +kernel
theorem dX5_find_228 : decode cX5_find 228 = .ok (.iload 8, 2) := by decide +kernel
theorem dX5_find_230 : decode cX5_find 230 = .ok (.iaload, 1) := by decide +kernel
theorem dX5_find_231 : decode cX5_find 231 = .ok (.iconst 1, 1) := by decide +kernel
theorem dX5_find_232 : decode cX5_find 232 = .ok (.iand, 1) := by decide +kernel
theorem dX5_find_233 : decode cX5_find 233 = .ok (.ifCond .ne 6, 3) := by decide +kernel
theorem dX5_find_236 : decode cX5_find 236 = .ok (.iload 7, 2) := by decide +kernel
theorem dX5_find_238 : decode cX5_find 238 = .ok (.ireturn, 1) := by decide +kernel
theorem dX5_find_239 : decode cX5_find 239 = .ok (.iinc 7 1, 3) := by decide +kernel
theorem dX5_find_242 : decode cX5_find 242 = .ok (.goto (-94), 3) := by decide +kernel
theorem dX5_find_245 : decode cX5_find 245 = .ok (.iconst (-1), 1) := by decide +kernel
theorem dX5_find_246 : decode cX5_find 246 = .ok (.ireturn, 1) := by decide +kernel
set_option maxRecDepth 20000 in
theorem ggX5_resolved_X5_loaded : GoodIn wsX5_resolved wsX5_loaded := goodIn_r _ [13, 14, 15, 16, 17, 18, 19, 20, 12, 21, 22, 23, 24, 25, 26, 27, 28, 4, 83, 84, 85, 86, 87, 88, 89, 90, 91, 92, 93, 94, 95, 96, 97, 98, 99, 100, 101, 102, 103] (by decide +kernel) (by decide +kernel)
set_option maxRecDepth 20000 in
theorem gX5_resolved_X5_loaded : GoodIn wsX5_resolved (wsV RX5 104 RX5 yX5_loaded wsX5_loaded) := goodIn_app (goodIn_of _ (by decide +kernel)) ggX5_resolved_X5_loaded
