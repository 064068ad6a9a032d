set_option maxRecDepth 20000 in
theorem ggX0_init_X1_init : GoodIn wsX0_init wsX1_init := goodIn_r _ [14, 15, 2, 3, 16, 17, 18, 19, 20, 21, 22, 23, 24, 25, 26, 27, 28, 29, 30, 31, 6, 32, 33, 34, 35, 36, 37, 38, 39, 40, 41, 42, 43, 44, 45, 46, 47, 48, 49, 50, 51, 52, 53, 54, 55, 56, 57, 58, 59, 60, 61, 62, 63, 64, 72, 73, 74, 75, 76, 77, 78, 79, 80, 81] (by decide +kernel) (by decide +kernel)
set_option maxRecDepth 20000 in
theorem gX0_init_X1_init : GoodIn wsX0_init (wsX1_init) := ggX0_init_X1_init
set_option maxRecDepth 20000 in
theorem ggX0_init_X2_init : GoodIn wsX0_init wsX2_init := goodIn_r _ [66, 67, 2, 3, 16, 68, 69, 70, 71, 85, 86, 87, 88, 89, 90] (by decide +kernel) (by decide +kernel)
set_option maxRecDepth 20000 in
theorem gX0_init_X2_init_n20 : GoodIn wsX0_init (wsX2_init) := ggX0_init_X2_init
theorem dX0_init_0 : decode cX0_init 0 = .ok (.aload_n 0, 1) := by decide +kernel
theorem dX0_init_1 : decode cX0_init 1 = .ok (.invokespecial 3, 3) := by decide +kernel
theorem dX0_init_4 : decode cX0_init 4 = .ok (.aload_n 0, 1) := by decide +kernel
theorem dX0_init_5 : decode cX0_init 5 = .ok (.new 9, 3) := by decide +kernel
theorem dX0_init_8 : decode cX0_init 8 = .ok (.dup, 1) := by decide +kernel
theorem dX0_init_9 : decode cX0_init 9 = .ok (.invokespecial 11, 3) := by decide +kernel
theorem dX0_init_12 : decode cX0_init 12 = .ok (.putfield 12, 3) := by decide +kernel
theorem dX0_init_15 : decode cX0_init 15 = .ok (.aload_n 0, 1) := by decide +kernel
theorem dX0_init_16 : decode cX0_init 16 = .ok (.new 18, 3) := by decide +kernel
theorem dX0_init_19 : decode cX0_init 19 = .ok (.dup, 1) := by decide +kernel
theorem dX0_init_20 : decode cX0_init 20 = .ok (.invokespecial 20, 3) := by decide +kernel
theorem dX0_init_23 : decode cX0_init 23 = .ok (.putfield 21, 3) := by decide +kernel
theorem dX0_init_26 : decode cX0_init 26 = .ok (.return_, 1) := by decide +kernel
set_option maxRecDepth 20000 in
theorem ggX0_discardType_X1_takeAway : GoodIn wsX0_discardType wsX1_takeAway := goodIn_r _ [7, 8, 9, 10, 11, 6, 12, 13, 14, 15, 16, 17, 18, 19, 20, 21, 22, 23, 24, 25, 26, 27, 28, 29, 30, 31, 32, 33, 34, 35, 36, 37, 38, 39, 40, 41, 42, 43, 44, 45, 46, 47, 48, 49, 50, 51, 52, 53, 65, 66, 67, 68, 69, 70, 71, 72, 73, 74] (by decide +kernel) (by decide +kernel)
set_option maxRecDepth 20000 in
theorem gX0_discardType_X1_takeAway : GoodIn wsX0_discardType (wsV RX0 25 RX1 yX1_takeAway wsX1_takeAway) := goodIn_app (goodIn_of _ (by decide +kernel)) ggX0_discardType_X1_takeAway
set_option maxRecDepth 20000 in
theorem ggX0_discardType_X2_discardAllOf : GoodIn wsX0_discardType wsX2_discardAllOf := goodIn_r _ [58, 59, 60, 61, 16, 14, 17, 75, 76, 77, 78, 79, 80] (by decide +kernel) (by decide +kernel)
set_option maxRecDepth 20000 in
theorem gX0_discardType_X2_discardAllOf : GoodIn wsX0_discardType (wsV RX0 29 RX2 yX2_discardAllOf wsX2_discardAllOf) := goodIn_app (goodIn_of _ (by decide +kernel)) ggX0_discardType_X2_discardAllOf
theorem dX0_discardType_0 : decode cX0_discardType 0 = .ok (.aload_n 0, 1) := by decide +kernel
theorem dX0_discardType_1 : decode cX0_discardType 1 = .ok (.getfield 12, 3) := by decide +kernel
theorem dX0_discardType_4 : decode cX0_discardType 4 = .ok (.iload_n 1, 1) := by decide +kernel
theorem dX0_discardType_5 : decode cX0_discardType 5 = .ok (.invokevirtual 25, 3) := by decide +kernel
theorem dX0_discardType_8 : decode cX0_discardType 8 = .ok (.ifCond .ne 5, 3) := by decide +kernel
theorem dX0_discardType_11 : decode cX0_discardType 11 = .ok (.iconst 0, 1) := by decide +kernel
theorem dX0_discardType_12 : decode cX0_discardType 12 = .ok (.ireturn, 1) := by decide +kernel
theorem dX0_discardType_13 : decode cX0_discardType 13 = .ok (.aload_n 0, 1) := by decide +kernel
theorem dX0_discardType_14 : decode cX0_discardType 14 = .ok (.getfield 21, 3) := by decide +kernel
theorem dX0_discardType_17 : decode cX0_discardType 17 = .ok (.iload_n 1, 1) := by decide +kernel
theorem dX0_discardType_18 : decode cX0_discardType 18 = .ok (.invokevirtual 29, 3) := by decide +kernel
theorem dX0_discardType_21 : decode cX0_discardType 21 = .ok (.iconst 1, 1) := by decide +kernel
theorem dX0_discardType_22 : decode cX0_discardType 22 = .ok (.ireturn, 1) := by decide +kernel
set_option maxRecDepth 20000 in
theorem ggX0_addMember_X1_isThere : GoodIn wsX0_addMember wsX1_isThere := goodIn_r _ [7, 8, 9, 10, 11, 33, 34, 35, 36, 37, 38, 39, 40, 41, 42] (by decide +kernel) (by decide +kernel)
set_option maxRecDepth 20000 in
theorem gX0_addMember_X1_isThere : GoodIn wsX0_addMember (wsV RX0 33 RX1 yX1_isThere wsX1_isThere) := goodIn_app (goodIn_of _ (by decide +kernel)) ggX0_addMember_X1_isThere
set_option maxRecDepth 20000 in
theorem ggX0_addMember_X2_find : GoodIn wsX0_addMember wsX2_find := goodIn_r _ [16, 17, 18, 19, 20, 21, 22, 15, 23, 9, 10, 11, 43, 44, 45, 46, 47, 48] (by decide +kernel) (by decide +kernel)
set_option maxRecDepth 20000 in
theorem gX0_addMember_X2_find : GoodIn wsX0_addMember (wsV RX0 36 RX2 yX2_find wsX2_find) := goodIn_app (goodIn_of _ (by decide +kernel)) ggX0_addMember_X2_find
set_option maxRecDepth 20000 in
theorem ggX0_addMember_X2_append : GoodIn wsX0_addMember wsX2_append := goodIn_r _ [27, 17, 19, 18, 28, 29, 21, 22, 15, 23, 43, 44, 45, 46, 47, 48] (by decide +kernel) (by decide +kernel)
set_option maxRecDepth 20000 in
theorem gX0_addMember_X2_append : GoodIn wsX0_addMember (wsV RX0 40 RX2 yX2_append wsX2_append) := goodIn_app (goodIn_of _ (by decide +kernel)) ggX0_addMember_X2_append
theorem dX0_addMember_0 : decode cX0_addMember 0 = .ok (.aload_n 0, 1) := by decide +kernel
theorem dX0_addMember_1 : decode cX0_addMember 1 = .ok (.getfield 12, 3) := by decide +kernel
theorem dX0_addMember_4 : decode cX0_addMember 4 = .ok (.iload_n 1, 1) := by decide +kernel
theorem dX0_addMember_5 : decode cX0_addMember 5 = .ok (.invokevirtual 33, 3) := by decide +kernel
theorem dX0_addMember_8 : decode cX0_addMember 8 = .ok (.ifCond .eq 18, 3) := by decide +kernel
theorem dX0_addMember_11 : decode cX0_addMember 11 = .ok (.aload_n 0, 1) := by decide +kernel
theorem dX0_addMember_12 : decode cX0_addMember 12 = .ok (.getfield 21, 3) := by decide +kernel
theorem dX0_addMember_15 : decode cX0_addMember 15 = .ok (.iload_n 1, 1) := by decide +kernel
theorem dX0_addMember_16 : decode cX0_addMember 16 = .ok (.iload_n 2, 1) := by decide +kernel
theorem dX0_addMember_17 : decode cX0_addMember 17 = .ok (.iload_n 3, 1) := by decide +kernel
theorem dX0_addMember_18 : decode cX0_addMember 18 = .ok (.invokevirtual 36, 3) := by decide +kernel
theorem dX0_addMember_21 : decode cX0_addMember 21 = .ok (.bipush (-2), 2) := by decide +kernel
theorem dX0_addMember_23 : decode cX0_addMember 23 = .ok (.if_icmp .eq 5, 3) := by decide +kernel
theorem dX0_addMember_26 : decode cX0_addMember 26 = .ok (.iconst (-1), 1) := by decide +kernel
theorem dX0_addMember_27 : decode cX0_addMember 27 = .ok (.ireturn, 1) := by decide +kernel
theorem dX0_addMember_28 : decode cX0_addMember 28 = .ok (.aload_n 0, 1) := by decide +kernel
theorem dX0_addMember_29 : decode cX0_addMember 29 = .ok (.getfield 21, 3) := by decide +kernel
theorem dX0_addMember_32 : decode cX0_addMember 32 = .ok (.iload_n 1, 1) := by decide +kernel
theorem dX0_addMember_33 : decode cX0_addMember 33 = .ok (.iload_n 2, 1) := by decide +kernel
theorem dX0_addMember_34 : decode cX0_addMember 34 = .ok (.iload_n 3, 1) := by decide +kernel
theorem dX0_addMember_35 : decode cX0_addMember 35 = .ok (.iload 4, 2) := by decide +kernel
theorem dX0_addMember_37 : decode cX0_addMember 37 = .ok (.iload 5, 2) := by decide +kernel
theorem dX0_addMember_39 : decode cX0_addMember 39 = .ok (.invokevirtual 40, 3) := by decide +kernel
theorem dX0_addMember_42 : decode cX0_addMember 42 = .ok (.ireturn, 1) := by decide +kernel
set_option maxRecDepth 20000 in
theorem ggX0_becomeAs_X1_becomeAs : GoodIn wsX0_becomeAs wsX1_becomeAs := goodIn_r _ [7, 8, 9, 10, 11, 12, 13, 14, 15, 16, 17, 18, 19, 20, 6, 21, 22, 23, 24, 25, 26, 27, 28, 29, 30, 31, 32, 33, 34, 35, 36, 37, 38, 39, 40, 41, 42, 43, 44, 45, 46, 47, 48, 49, 50, 51, 52, 53, 54, 55, 56, 57, 58, 59, 75, 76, 77, 78, 79, 80, 81, 82, 83, 84] (by decide +kernel) (by decide +kernel)
set_option maxRecDepth 20000 in
theorem gX0_becomeAs_X1_becomeAs : GoodIn wsX0_becomeAs (wsV RX0 44 RX1 yX1_becomeAs wsX1_becomeAs) := goodIn_app (goodIn_of _ (by decide +kernel)) ggX0_becomeAs_X1_becomeAs
set_option maxRecDepth 20000 in
theorem ggX0_becomeAs_X2_becomeAs : GoodIn wsX0_becomeAs wsX2_becomeAs := goodIn_r _ [64, 65, 66, 67, 68, 11, 12, 13, 69, 70, 71, 85, 86, 87, 88, 89, 90] (by decide +kernel) (by decide +kernel)
set_option maxRecDepth 20000 in
theorem gX0_becomeAs_X2_becomeAs : GoodIn wsX0_becomeAs (wsV RX0 48 RX2 yX2_becomeAs wsX2_becomeAs) := goodIn_app (goodIn_of _ (by decide +kernel)) ggX0_becomeAs_X2_becomeAs
theorem dX0_becomeAs_0 : decode cX0_becomeAs 0 = .ok (.aload_n 0, 1) := by decide +kernel
theorem dX0_becomeAs_1 : decode cX0_becomeAs 1 = .ok (.getfield 12, 3) := by decide +kernel
theorem dX0_becomeAs_4 : decode cX0_becomeAs 4 = .ok (.aload_n 1, 1) := by decide +kernel
theorem dX0_becomeAs_5 : decode cX0_becomeAs 5 = .ok (.getfield 12, 3) := by decide +kernel
theorem dX0_becomeAs_8 : decode cX0_becomeAs 8 = .ok (.invokevirtual 44, 3) := by decide +kernel
theorem dX0_becomeAs_11 : decode cX0_becomeAs 11 = .ok (.aload_n 0, 1) := by decide +kernel
theorem dX0_becomeAs_12 : decode cX0_becomeAs 12 = .ok (.getfield 21, 3) := by decide +kernel
theorem dX0_becomeAs_15 : decode cX0_becomeAs 15 = .ok (.aload_n 1, 1) := by decide +kernel
theorem dX0_becomeAs_16 : decode cX0_becomeAs 16 = .ok (.getfield 21, 3) := by decide +kernel
theorem dX0_becomeAs_19 : decode cX0_becomeAs 19 = .ok (.invokevirtual 48, 3) := by decide +kernel
theorem dX0_becomeAs_22 : decode cX0_becomeAs 22 = .ok (.return_, 1) := by decide +kernel
set_option maxRecDepth 20000 in
theorem ggX0_resolution_X1_loading : GoodIn wsX0_resolution wsX1_loading := goodIn_r _ [6, 7, 185, 186, 187, 188, 189, 190, 191, 192, 193, 194] (by decide +kernel) (by decide +kernel)
set_option maxRecDepth 20000 in
theorem gX0_resolution_X1_loading : GoodIn wsX0_resolution (wsV RX0 57 RX1 yX1_loading wsX1_loading) := goodIn_app (goodIn_of _ (by decide +kernel)) ggX0_resolution_X1_loading
set_option maxRecDepth 20000 in
theorem ggX0_resolution_X4_isGood : GoodIn wsX0_resolution wsX4_isGood := goodIn_r _ [10, 11, 12, 9, 13] (by decide +kernel) (by decide +kernel)
set_option maxRecDepth 20000 in
theorem gX0_resolution_X4_isGood_n61 : GoodIn wsX0_resolution (wsX4_isGood) := ggX0_resolution_X4_isGood
set_option maxRecDepth 20000 in
theorem ggX0_resolution_X1_reaching : GoodIn wsX0_resolution wsX1_reaching := goodIn_r _ [17, 7, 18, 8, 9, 10, 11, 12, 13, 19, 20, 21, 5, 22, 23, 185, 186, 187, 188, 189, 190, 191, 192, 193, 194] (by decide +kernel) (by decide +kernel)
set_option maxRecDepth 20000 in
theorem gX0_resolution_X1_reaching : GoodIn wsX0_resolution (wsV RX0 67 RX1 yX1_reaching wsX1_reaching) := goodIn_app (goodIn_of _ (by decide +kernel)) ggX0_resolution_X1_reaching
set_option maxRecDepth 20000 in
theorem ggX0_resolution_X3_isOfField : GoodIn wsX0_resolution wsX3_isOfField := goodIn_r _ [28, 29, 181, 182, 183, 184] (by decide +kernel) (by decide +kernel)
set_option maxRecDepth 20000 in
theorem gX0_resolution_X3_isOfField : GoodIn wsX0_resolution (wsV RX0 74 RX3 yX3_isOfField wsX3_isOfField) := goodIn_app (goodIn_of _ (by decide +kernel)) ggX0_resolution_X3_isOfField
set_option maxRecDepth 20000 in
theorem ggX0_resolution_X0_lookUpField : GoodIn wsX0_resolution wsX0_lookUpField := goodIn_r _ [34, 35, 36, 37, 38, 33, 39, 40, 1, 41, 9, 42, 43, 44, 45, 46, 47, 48, 49, 50, 51, 52, 53, 54, 55, 56, 57, 58, 59, 5, 60, 61, 62, 63, 64, 65, 66, 178, 179, 180, 181, 182, 183, 184, 195, 196, 197, 198, 199, 200, 185, 186, 187, 188, 189, 190, 191, 192, 193, 194] (by decide +kernel) (by decide +kernel)
set_option maxRecDepth 20000 in
theorem gX0_resolution_X0_lookUpField : GoodIn wsX0_resolution (wsV RX0 78 RX0 yX0_lookUpField wsX0_lookUpField) := goodIn_app (goodIn_of _ (by decide +kernel)) ggX0_resolution_X0_lookUpField
set_option maxRecDepth 20000 in
theorem ggX0_resolution_X0_lookUpMethod : GoodIn wsX0_resolution wsX0_lookUpMethod := goodIn_r _ [70, 1, 71, 72, 73, 5, 74, 18, 75, 76, 77, 33, 78, 40, 45, 46, 47, 48, 49, 50, 51, 52, 53, 54, 55, 56, 41, 9, 42, 79, 80, 81, 82, 83, 84, 85, 86, 87, 88, 89, 90, 91, 92, 62, 63, 64, 65, 66, 93, 94, 95, 96, 97, 98, 99, 100, 101, 102, 103, 104, 105, 106, 107, 108, 109, 43, 44, 110, 111, 112, 113, 114, 115, 116, 117, 118, 119, 120, 121, 122, 123, 124, 125, 126, 127, 128, 129, 178, 179, 180, 181, 182, 183, 184, 185, 186, 187, 188, 189, 190, 191, 192, 193, 194, 195, 196, 197, 198, 199, 200] (by decide +kernel) (by decide +kernel)
set_option maxRecDepth 20000 in
theorem gX0_resolution_X0_lookUpMethod : GoodIn wsX0_resolution (wsV RX0 82 RX0 yX0_lookUpMethod wsX0_lookUpMethod) := goodIn_app (goodIn_of _ (by decide +kernel)) ggX0_resolution_X0_lookUpMethod
set_option maxRecDepth 20000 in
theorem ggX0_resolution_X0_checkMember : GoodIn wsX0_resolution wsX0_checkMember := goodIn_r _ [133, 40, 1, 134, 135, 136, 33, 137, 138, 139, 140, 48, 141, 52, 79, 80, 81, 82, 83, 142, 20, 21, 5, 22, 23, 143, 144, 145, 146, 147, 148, 149, 150, 151, 41, 9, 42, 84, 85, 86, 87, 88, 152, 153, 154, 155, 101, 156, 157, 158, 159, 160, 161, 162, 163, 164, 165, 19, 166, 167, 168, 27, 169, 29, 170, 171, 172, 173, 174, 175, 176, 177, 118, 119, 120, 121, 181, 182, 183, 184, 178, 179, 180, 195, 196, 197, 198, 199, 200, 185, 186, 187, 188, 189, 190, 191, 192, 193, 194] (by decide +kernel) (by decide +kernel)
set_option maxRecDepth 20000 in
theorem gX0_resolution_X0_checkMember : GoodIn wsX0_resolution (wsV RX0 85 RX0 yX0_checkMember wsX0_checkMember) := goodIn_app (goodIn_of _ (by decide +kernel)) ggX0_resolution_X0_checkMember
theorem dX0_resolution_0 : decode cX0_resolution 0 = .ok (.aload_n 0, 1) := by decide +kernel
theorem dX0_resolution_1 : decode cX0_resolution 1 = .ok (.getfield 12, 3) := by decide +kernel
theorem dX0_resolution_4 : decode cX0_resolution 4 = .ok (.aload_n 1, 1) := by decide +kernel
theorem dX0_resolution_5 : decode cX0_resolution 5 = .ok (.getfield 51, 3) := by decide +kernel
theorem dX0_resolution_8 : decode cX0_resolution 8 = .ok (.invokevirtual 57, 3) := by decide +kernel
theorem dX0_resolution_11 : decode cX0_resolution 11 = .ok (.istore_n 2, 1) := by decide +kernel
theorem dX0_resolution_12 : decode cX0_resolution 12 = .ok (.iload_n 2, 1) := by decide +kernel
theorem dX0_resolution_13 : decode cX0_resolution 13 = .ok (.invokestatic 61, 3) := by decide +kernel
theorem dX0_resolution_16 : decode cX0_resolution 16 = .ok (.ifCond .ne 5, 3) := by decide +kernel
theorem dX0_resolution_19 : decode cX0_resolution 19 = .ok (.iload_n 2, 1) := by decide +kernel
theorem dX0_resolution_20 : decode cX0_resolution 20 = .ok (.ireturn, 1) := by decide +kernel
theorem dX0_resolution_21 : decode cX0_resolution 21 = .ok (.aload_n 0, 1) := by decide +kernel
theorem dX0_resolution_22 : decode cX0_resolution 22 = .ok (.getfield 12, 3) := by decide +kernel
theorem dX0_resolution_25 : decode cX0_resolution 25 = .ok (.aload_n 1, 1) := by decide +kernel
theorem dX0_resolution_26 : decode cX0_resolution 26 = .ok (.getfield 64, 3) := by decide +kernel
theorem dX0_resolution_29 : decode cX0_resolution 29 = .ok (.aload_n 1, 1) := by decide +kernel
theorem dX0_resolution_30 : decode cX0_resolution 30 = .ok (.getfield 51, 3) := by decide +kernel
theorem dX0_resolution_33 : decode cX0_resolution 33 = .ok (.invokevirtual 67, 3) := by decide +kernel
theorem dX0_resolution_36 : decode cX0_resolution 36 = .ok (.istore_n 2, 1) := by decide +kernel
theorem dX0_resolution_37 : decode cX0_resolution 37 = .ok (.iload_n 2, 1) := by decide +kernel
theorem dX0_resolution_38 : decode cX0_resolution 38 = .ok (.invokestatic 61, 3) := by decide +kernel
theorem dX0_resolution_41 : decode cX0_resolution 41 = .ok (.ifCond .eq 12, 3) := by decide +kernel
theorem dX0_resolution_44 : decode cX0_resolution 44 = .ok (.aload_n 1, 1) := by decide +kernel
theorem dX0_resolution_45 : decode cX0_resolution 45 = .ok (.getfield 71, 3) := by decide +kernel
theorem dX0_resolution_48 : decode cX0_resolution 48 = .ok (.bipush 8, 2) := by decide +kernel
theorem dX0_resolution_50 : decode cX0_resolution 50 = .ok (.if_icmp .ne 5, 3) := by decide +kernel
theorem dX0_resolution_53 : decode cX0_resolution 53 = .ok (.iload_n 2, 1) := by decide +kernel
theorem dX0_resolution_54 : decode cX0_resolution 54 = .ok (.ireturn, 1) := by decide +kernel
theorem dX0_resolution_55 : decode cX0_resolution 55 = .ok (.aload_n 1, 1) := by decide +kernel
theorem dX0_resolution_56 : decode cX0_resolution 56 = .ok (.invokevirtual 74, 3) := by decide +kernel
theorem dX0_resolution_59 : decode cX0_resolution 59 = .ok (.ifCond .eq 11, 3) := by decide +kernel
theorem dX0_resolution_62 : decode cX0_resolution 62 = .ok (.aload_n 0, 1) := by decide +kernel
theorem dX0_resolution_63 : decode cX0_resolution 63 = .ok (.aload_n 1, 1) := by decide +kernel
theorem dX0_resolution_64 : decode cX0_resolution 64 = .ok (.invokevirtual 78, 3) := by decide +kernel
theorem dX0_resolution_67 : decode cX0_resolution 67 = .ok (.goto 8, 3) := by decide +kernel
theorem dX0_resolution_70 : decode cX0_resolution 70 = .ok (.aload_n 0, 1) := by decide +kernel
theorem dX0_resolution_71 : decode cX0_resolution 71 = .ok (.aload_n 1, 1) := by decide +kernel
theorem dX0_resolution_72 : decode cX0_resolution 72 = .ok (.invokevirtual 82, 3) := by decide +kernel
theorem dX0_resolution_75 : decode cX0_resolution 75 = .ok (.istore_n 2, 1) := by decide +kernel
theorem dX0_resolution_76 : decode cX0_resolution 76 = .ok (.iload_n 2, 1) := by decide +kernel
theorem dX0_resolution_77 : decode cX0_resolution 77 = .ok (.invokestatic 61, 3) := by decide +kernel
theorem dX0_resolution_80 : decode cX0_resolution 80 = .ok (.ifCond .eq 15, 3) := by decide +kernel
theorem dX0_resolution_83 : decode cX0_resolution 83 = .ok (.aload_n 0, 1) := by decide +kernel
theorem dX0_resolution_84 : decode cX0_resolution 84 = .ok (.aload_n 1, 1) := by decide +kernel
theorem dX0_resolution_85 : decode cX0_resolution 85 = .ok (.iload_n 2, 1) := by decide +kernel
theorem dX0_resolution_86 : decode cX0_resolution 86 = .ok (.bipush 16, 2) := by decide +kernel
theorem dX0_resolution_88 : decode cX0_resolution 88 = .ok (.isub, 1) := by decide +kernel
theorem dX0_resolution_89 : decode cX0_resolution 89 = .ok (.invokevirtual 85, 3) := by decide +kernel
theorem dX0_resolution_92 : decode cX0_resolution 92 = .ok (.goto 4, 3) := by decide +kernel
theorem dX0_resolution_95 : decode cX0_resolution 95 = .ok (.iload_n 2, 1) := by decide +kernel
theorem dX0_resolution_96 : decode cX0_resolution 96 = .ok (.ireturn, 1) := by decide +kernel
set_option maxRecDepth 20000 in
theorem ggX0_selection_X3_hasReceiver : GoodIn wsX0_selection wsX3_hasReceiver := goodIn_r _ [6, 7, 114, 115, 116, 117] (by decide +kernel) (by decide +kernel)
set_option maxRecDepth 20000 in
theorem gX0_selection_X3_hasReceiver : GoodIn wsX0_selection (wsV RX0 89 RX3 yX3_hasReceiver wsX3_hasReceiver) := goodIn_app (goodIn_of _ (by decide +kernel)) ggX0_selection_X3_hasReceiver
set_option maxRecDepth 20000 in
theorem ggX0_selection_X4_isGood : GoodIn wsX0_selection wsX4_isGood := goodIn_r _ [10, 11, 12, 9, 13] (by decide +kernel) (by decide +kernel)
set_option maxRecDepth 20000 in
theorem gX0_selection_X4_isGood_n61 : GoodIn wsX0_selection (wsX4_isGood) := ggX0_selection_X4_isGood
set_option maxRecDepth 20000 in
theorem ggX0_selection_X0_isFit : GoodIn wsX0_selection wsX0_isFit := goodIn_r _ [18, 19, 20, 21, 22, 23, 24, 25, 8, 9, 10, 11, 12, 13, 26, 27, 28, 29, 30, 31, 32, 33, 34, 35, 36, 37, 38, 118, 119, 120, 121, 122, 123, 124, 125, 126, 127, 128, 129, 130] (by decide +kernel) (by decide +kernel)
set_option maxRecDepth 20000 in
theorem gX0_selection_X0_isFit : GoodIn wsX0_selection (wsV RX0 92 RX0 yX0_isFit wsX0_isFit) := goodIn_app (goodIn_of _ (by decide +kernel)) ggX0_selection_X0_isFit
set_option maxRecDepth 20000 in
theorem ggX0_selection_X2_accessOf : GoodIn wsX0_selection wsX2_accessOf := goodIn_r _ [43, 44, 131, 132, 133, 134, 135, 136] (by decide +kernel) (by decide +kernel)
set_option maxRecDepth 20000 in
theorem gX0_selection_X2_accessOf : GoodIn wsX0_selection (wsV RX0 96 RX2 yX2_accessOf wsX2_accessOf) := goodIn_app (goodIn_of _ (by decide +kernel)) ggX0_selection_X2_accessOf
set_option maxRecDepth 20000 in
theorem ggX0_selection_X0_selectFor : GoodIn wsX0_selection wsX0_selectFor := goodIn_r _ [48, 1, 19, 49, 50, 51, 42, 52, 53, 54, 55, 56, 57, 58, 59, 37, 9, 38, 60, 61, 62, 17, 63, 64, 65, 66, 67, 44, 68, 39, 40, 41, 43, 69, 70, 71, 72, 73, 74, 75, 23, 76, 77, 78, 79, 80, 81, 82, 83, 84, 85, 86, 87, 88, 89, 90, 36, 91, 92, 93, 94, 95, 96, 97, 98, 99, 100, 101, 102, 103, 104, 105, 106, 107, 108, 109, 118, 119, 120, 131, 132, 133, 134, 135, 136, 121, 122, 123, 124, 125, 126, 127, 128, 129, 130] (by decide +kernel) (by decide +kernel)
set_option maxRecDepth 20000 in
theorem gX0_selection_X0_selectFor : GoodIn wsX0_selection (wsV RX0 102 RX0 yX0_selectFor wsX0_selectFor) := goodIn_app (goodIn_of _ (by decide +kernel)) ggX0_selection_X0_selectFor
set_option maxRecDepth 20000 in
theorem ggX0_selection_X0_checkSelected : GoodIn wsX0_selection wsX0_checkSelected := goodIn_r _ [113, 1, 106, 107, 108, 42, 109, 68, 39, 40, 41, 43, 44, 118, 119, 120, 114, 115, 116, 117, 131, 132, 133, 134, 135, 136] (by decide +kernel) (by decide +kernel)
set_option maxRecDepth 20000 in
theorem gX0_selection_X0_checkSelected : GoodIn wsX0_selection (wsV RX0 106 RX0 yX0_checkSelected wsX0_checkSelected) := goodIn_app (goodIn_of _ (by decide +kernel)) ggX0_selection_X0_checkSelected
theorem dX0_selection_0 : decode cX0_selection 0 = .ok (.aload_n 1, 1) := by decide +kernel
theorem dX0_selection_1 : decode cX0_selection 1 = .ok (.invokevirtual 89, 3) := by decide +kernel
theorem dX0_selection_4 : decode cX0_selection 4 = .ok (.ifCond .eq 10, 3) := by decide +kernel
theorem dX0_selection_7 : decode cX0_selection 7 = .ok (.iload_n 2, 1) := by decide +kernel
theorem dX0_selection_8 : decode cX0_selection 8 = .ok (.invokestatic 61, 3) := by decide +kernel
theorem dX0_selection_11 : decode cX0_selection 11 = .ok (.ifCond .ne 6, 3) := by decide +kernel
theorem dX0_selection_14 : decode cX0_selection 14 = .ok (.bipush (-2), 2) := by decide +kernel
theorem dX0_selection_16 : decode cX0_selection 16 = .ok (.ireturn, 1) := by decide +kernel
theorem dX0_selection_17 : decode cX0_selection 17 = .ok (.aload_n 0, 1) := by decide +kernel
theorem dX0_selection_18 : decode cX0_selection 18 = .ok (.iload_n 3, 1) := by decide +kernel
theorem dX0_selection_19 : decode cX0_selection 19 = .ok (.aload_n 1, 1) := by decide +kernel
theorem dX0_selection_20 : decode cX0_selection 20 = .ok (.getfield 64, 3) := by decide +kernel
theorem dX0_selection_23 : decode cX0_selection 23 = .ok (.invokevirtual 92, 3) := by decide +kernel
theorem dX0_selection_26 : decode cX0_selection 26 = .ok (.ifCond .ne 9, 3) := by decide +kernel
theorem dX0_selection_29 : decode cX0_selection 29 = .ok (.sipush 512, 3) := by decide +kernel
theorem dX0_selection_32 : decode cX0_selection 32 = .ok (.iload_n 3, 1) := by decide +kernel
theorem dX0_selection_33 : decode cX0_selection 33 = .ok (.iadd, 1) := by decide +kernel
theorem dX0_selection_34 : decode cX0_selection 34 = .ok (.ireturn, 1) := by decide +kernel
theorem dX0_selection_35 : decode cX0_selection 35 = .ok (.iload_n 2, 1) := by decide +kernel
theorem dX0_selection_36 : decode cX0_selection 36 = .ok (.bipush 16, 2) := by decide +kernel
theorem dX0_selection_38 : decode cX0_selection 38 = .ok (.isub, 1) := by decide +kernel
theorem dX0_selection_39 : decode cX0_selection 39 = .ok (.istore 4, 2) := by decide +kernel
theorem dX0_selection_41 : decode cX0_selection 41 = .ok (.aload_n 0, 1) := by decide +kernel
theorem dX0_selection_42 : decode cX0_selection 42 = .ok (.getfield 21, 3) := by decide +kernel
theorem dX0_selection_45 : decode cX0_selection 45 = .ok (.iload 4, 2) := by decide +kernel
theorem dX0_selection_47 : decode cX0_selection 47 = .ok (.invokevirtual 96, 3) := by decide +kernel
theorem dX0_selection_50 : decode cX0_selection 50 = .ok (.ifCond .ne 7, 3) := by decide +kernel
theorem dX0_selection_53 : decode cX0_selection 53 = .ok (.iload_n 2, 1) := by decide +kernel
theorem dX0_selection_54 : decode cX0_selection 54 = .ok (.goto 14, 3) := by decide +kernel
theorem dX0_selection_57 : decode cX0_selection 57 = .ok (.aload_n 0, 1) := by decide +kernel
theorem dX0_selection_58 : decode cX0_selection 58 = .ok (.iload_n 3, 1) := by decide +kernel
theorem dX0_selection_59 : decode cX0_selection 59 = .ok (.iload 4, 2) := by decide +kernel
theorem dX0_selection_61 : decode cX0_selection 61 = .ok (.aload_n 1, 1) := by decide +kernel
theorem dX0_selection_62 : decode cX0_selection 62 = .ok (.getfield 99, 3) := by decide +kernel
theorem dX0_selection_65 : decode cX0_selection 65 = .ok (.invokevirtual 102, 3) := by decide +kernel
theorem dX0_selection_68 : decode cX0_selection 68 = .ok (.istore 5, 2) := by decide +kernel
theorem dX0_selection_70 : decode cX0_selection 70 = .ok (.iload 5, 2) := by decide +kernel
theorem dX0_selection_72 : decode cX0_selection 72 = .ok (.invokestatic 61, 3) := by decide +kernel
theorem dX0_selection_75 : decode cX0_selection 75 = .ok (.ifCond .eq 16, 3) := by decide +kernel
theorem dX0_selection_78 : decode cX0_selection 78 = .ok (.aload_n 0, 1) := by decide +kernel
theorem dX0_selection_79 : decode cX0_selection 79 = .ok (.aload_n 1, 1) := by decide +kernel
theorem dX0_selection_80 : decode cX0_selection 80 = .ok (.iload 5, 2) := by decide +kernel
theorem dX0_selection_82 : decode cX0_selection 82 = .ok (.bipush 16, 2) := by decide +kernel
theorem dX0_selection_84 : decode cX0_selection 84 = .ok (.isub, 1) := by decide +kernel
theorem dX0_selection_85 : decode cX0_selection 85 = .ok (.invokevirtual 106, 3) := by decide +kernel
theorem dX0_selection_88 : decode cX0_selection 88 = .ok (.goto 5, 3) := by decide +kernel
theorem dX0_selection_91 : decode cX0_selection 91 = .ok (.iload 5, 2) := by decide +kernel
theorem dX0_selection_93 : decode cX0_selection 93 = .ok (.ireturn, 1) := by decide +kernel
set_option maxRecDepth 20000 in
theorem ggX0_lookUpField_X0_findField : GoodIn wsX0_lookUpField wsX0_findField := goodIn_r _ [6, 1, 7, 8, 9, 10, 11, 12, 13, 14, 15, 16, 17, 18, 19, 20, 21, 22, 23, 24, 25, 26, 27, 28, 29, 30, 31, 2, 3, 4, 5, 32, 33, 34, 35, 36, 37, 38, 39, 44, 45, 46, 47, 48, 49, 50, 51, 52, 53, 54, 55, 56, 57, 58, 59] (by decide +kernel) (by decide +kernel)
set_option maxRecDepth 20000 in
theorem gX0_lookUpField_X0_findField : GoodIn wsX0_lookUpField (wsV RX0 112 RX0 yX0_findField wsX0_findField) := goodIn_app (goodIn_of _ (by decide +kernel)) ggX0_lookUpField_X0_findField
theorem dX0_lookUpField_0 : decode cX0_lookUpField 0 = .ok (.aload_n 0, 1) := by decide +kernel
theorem dX0_lookUpField_1 : decode cX0_lookUpField 1 = .ok (.iconst 0, 1) := by decide +kernel
theorem dX0_lookUpField_2 : decode cX0_lookUpField 2 = .ok (.putfield 109, 3) := by decide +kernel
theorem dX0_lookUpField_5 : decode cX0_lookUpField 5 = .ok (.aload_n 0, 1) := by decide +kernel
theorem dX0_lookUpField_6 : decode cX0_lookUpField 6 = .ok (.aload_n 1, 1) := by decide +kernel
theorem dX0_lookUpField_7 : decode cX0_lookUpField 7 = .ok (.getfield 64, 3) := by decide +kernel
theorem dX0_lookUpField_10 : decode cX0_lookUpField 10 = .ok (.aload_n 1, 1) := by decide +kernel
theorem dX0_lookUpField_11 : decode cX0_lookUpField 11 = .ok (.getfield 99, 3) := by decide +kernel
theorem dX0_lookUpField_14 : decode cX0_lookUpField 14 = .ok (.invokevirtual 112, 3) := by decide +kernel
theorem dX0_lookUpField_17 : decode cX0_lookUpField 17 = .ok (.istore_n 2, 1) := by decide +kernel
theorem dX0_lookUpField_18 : decode cX0_lookUpField 18 = .ok (.iload_n 2, 1) := by decide +kernel
theorem dX0_lookUpField_19 : decode cX0_lookUpField 19 = .ok (.bipush (-2), 2) := by decide +kernel
theorem dX0_lookUpField_21 : decode cX0_lookUpField 21 = .ok (.if_icmp .ne 14, 3) := by decide +kernel
theorem dX0_lookUpField_24 : decode cX0_lookUpField 24 = .ok (.sipush 320, 3) := by decide +kernel
theorem dX0_lookUpField_27 : decode cX0_lookUpField 27 = .ok (.aload_n 1, 1) := by decide +kernel
theorem dX0_lookUpField_28 : decode cX0_lookUpField 28 = .ok (.getfield 64, 3) := by decide +kernel
theorem dX0_lookUpField_31 : decode cX0_lookUpField 31 = .ok (.iadd, 1) := by decide +kernel
theorem dX0_lookUpField_32 : decode cX0_lookUpField 32 = .ok (.goto 7, 3) := by decide +kernel
theorem dX0_lookUpField_35 : decode cX0_lookUpField 35 = .ok (.bipush 16, 2) := by decide +kernel
theorem dX0_lookUpField_37 : decode cX0_lookUpField 37 = .ok (.iload_n 2, 1) := by decide +kernel
theorem dX0_lookUpField_38 : decode cX0_lookUpField 38 = .ok (.iadd, 1) := by decide +kernel
theorem dX0_lookUpField_39 : decode cX0_lookUpField 39 = .ok (.ireturn, 1) := by decide +kernel
set_option maxRecDepth 20000 in
theorem ggX0_findField_X4_contains : GoodIn wsX0_findField wsX4_contains := goodIn_r _ [6] (by decide +kernel) (by decide +kernel)
set_option maxRecDepth 20000 in
theorem gX0_findField_X4_contains_n115 : GoodIn wsX0_findField (wsX4_contains) := ggX0_findField_X4_contains
set_option maxRecDepth 20000 in
theorem ggX0_findField_X4_bit : GoodIn wsX0_findField wsX4_bit := goodIn_r _ [8] (by decide +kernel) (by decide +kernel)
set_option maxRecDepth 20000 in
theorem gX0_findField_X4_bit_n118 : GoodIn wsX0_findField (wsX4_bit) := ggX0_findField_X4_bit
set_option maxRecDepth 20000 in
theorem ggX0_findField_X2_find : GoodIn wsX0_findField wsX2_find := goodIn_r _ [13, 14, 15, 16, 17, 18, 19, 12, 20, 4, 5, 6, 39, 40, 41, 42, 43, 44] (by decide +kernel) (by decide +kernel)
set_option maxRecDepth 20000 in
theorem gX0_findField_X2_find : GoodIn wsX0_findField (wsV RX0 36 RX2 yX2_find wsX2_find) := goodIn_app (goodIn_of _ (by decide +kernel)) ggX0_findField_X2_find
set_option maxRecDepth 20000 in
theorem ggX0_findField_X1_directFacesOf : GoodIn wsX0_findField wsX1_directFacesOf := goodIn_r _ [25, 26, 45, 46, 47, 48, 49, 50, 51, 52, 53, 54] (by decide +kernel) (by decide +kernel)
set_option maxRecDepth 20000 in
theorem gX0_findField_X1_directFacesOf : GoodIn wsX0_findField (wsV RX0 121 RX1 yX1_directFacesOf wsX1_directFacesOf) := goodIn_app (goodIn_of _ (by decide +kernel)) ggX0_findField_X1_directFacesOf
set_option maxRecDepth 20000 in
theorem ggX0_findField_X0_findField : GoodIn wsX0_findField wsX0_findField := goodIn_r _ [0, 1, 2, 3, 4, 5, 6, 7, 8, 9, 10, 11, 12, 13, 14, 15, 16, 17, 18, 19, 20, 21, 22, 23, 24, 25, 26, 27, 28, 29, 30, 31, 32, 33, 34, 35, 36, 37, 38, 39, 40, 41, 42, 43, 44, 45, 46, 47, 48, 49, 50, 51, 52, 53, 54] (by decide +kernel) (by decide +kernel)
set_option maxRecDepth 20000 in
theorem gX0_findField_X0_findField : GoodIn wsX0_findField (wsV RX0 112 RX0 yX0_findField wsX0_findField) := goodIn_app (goodIn_of _ (by decide +kernel)) ggX0_findField_X0_findField
set_option maxRecDepth 20000 in
theorem ggX0_findField_X1_superOf : GoodIn wsX0_findField wsX1_superOf := goodIn_r _ [34, 35, 45, 46, 47, 48, 49, 50, 51, 52, 53, 54] (by decide +kernel) (by decide +kernel)
set_option maxRecDepth 20000 in
theorem gX0_findField_X1_superOf : GoodIn wsX0_findField (wsV RX0 124 RX1 yX1_superOf wsX1_superOf) := goodIn_app (goodIn_of _ (by decide +kernel)) ggX0_findField_X1_superOf
theorem dX0_findField_0 : decode cX0_findField 0 = .ok (.aload_n 0, 1) := by decide +kernel
theorem dX0_findField_1 : decode cX0_findField 1 = .ok (.getfield 109, 3) := by decide +kernel
theorem dX0_findField_4 : decode cX0_findField 4 = .ok (.iload_n 1, 1) := by decide +kernel
theorem dX0_findField_5 : decode cX0_findField 5 = .ok (.invokestatic 115, 3) := by decide +kernel
theorem dX0_findField_8 : decode cX0_findField 8 = .ok (.ifCond .eq 6, 3) := by decide +kernel
theorem dX0_findField_11 : decode cX0_findField 11 = .ok (.bipush (-2), 2) := by decide +kernel
theorem dX0_findField_13 : decode cX0_findField 13 = .ok (.ireturn, 1) := by decide +kernel
theorem dX0_findField_14 : decode cX0_findField 14 = .ok (.aload_n 0, 1) := by decide +kernel
theorem dX0_findField_15 : decode cX0_findField 15 = .ok (.dup, 1) := by decide +kernel
theorem dX0_findField_16 : decode cX0_findField 16 = .ok (.getfield 109, 3) := by decide +kernel
theorem dX0_findField_19 : decode cX0_findField 19 = .ok (.iload_n 1, 1) := by decide +kernel
theorem dX0_findField_20 : decode cX0_findField 20 = .ok (.invokestatic 118, 3) := by decide +kernel
theorem dX0_findField_23 : decode cX0_findField 23 = .ok (.ior, 1) := by decide +kernel
theorem dX0_findField_24 : decode cX0_findField 24 = .ok (.putfield 109, 3) := by decide +kernel
theorem dX0_findField_27 : decode cX0_findField 27 = .ok (.aload_n 0, 1) := by decide +kernel
theorem dX0_findField_28 : decode cX0_findField 28 = .ok (.getfield 21, 3) := by decide +kernel
theorem dX0_findField_31 : decode cX0_findField 31 = .ok (.iload_n 1, 1) := by decide +kernel
theorem dX0_findField_32 : decode cX0_findField 32 = .ok (.iconst 0, 1) := by decide +kernel
theorem dX0_findField_33 : decode cX0_findField 33 = .ok (.iload_n 2, 1) := by decide +kernel
theorem dX0_findField_34 : decode cX0_findField 34 = .ok (.invokevirtual 36, 3) := by decide +kernel
theorem dX0_findField_37 : decode cX0_findField 37 = .ok (.istore_n 3, 1) := by decide +kernel
theorem dX0_findField_38 : decode cX0_findField 38 = .ok (.iconst 0, 1) := by decide +kernel
theorem dX0_findField_39 : decode cX0_findField 39 = .ok (.istore 4, 2) := by decide +kernel
theorem dX0_findField_41 : decode cX0_findField 41 = .ok (.iload 4, 2) := by decide +kernel
theorem dX0_findField_43 : decode cX0_findField 43 = .ok (.bipush 12, 2) := by decide +kernel
theorem dX0_findField_45 : decode cX0_findField 45 = .ok (.if_icmp .ge 39, 3) := by decide +kernel
theorem dX0_findField_48 : decode cX0_findField 48 = .ok (.iload_n 3, 1) := by decide +kernel
theorem dX0_findField_49 : decode cX0_findField 49 = .ok (.bipush (-2), 2) := by decide +kernel
theorem dX0_findField_51 : decode cX0_findField 51 = .ok (.if_icmp .ne 33, 3) := by decide +kernel
theorem dX0_findField_54 : decode cX0_findField 54 = .ok (.aload_n 0, 1) := by decide +kernel
theorem dX0_findField_55 : decode cX0_findField 55 = .ok (.getfield 12, 3) := by decide +kernel
theorem dX0_findField_58 : decode cX0_findField 58 = .ok (.iload_n 1, 1) := by decide +kernel
theorem dX0_findField_59 : decode cX0_findField 59 = .ok (.invokevirtual 121, 3) := by decide +kernel
theorem dX0_findField_62 : decode cX0_findField 62 = .ok (.iload 4, 2) := by decide +kernel
theorem dX0_findField_64 : decode cX0_findField 64 = .ok (.invokestatic 115, 3) := by decide +kernel
theorem dX0_findField_67 : decode cX0_findField 67 = .ok (.ifCond .eq 11, 3) := by decide +kernel
theorem dX0_findField_70 : decode cX0_findField 70 = .ok (.aload_n 0, 1) := by decide +kernel
theorem dX0_findField_71 : decode cX0_findField 71 = .ok (.iload 4, 2) := by decide +kernel
theorem dX0_findField_73 : decode cX0_findField 73 = .ok (.iload_n 2, 1) := by decide +kernel
theorem dX0_findField_74 : decode cX0_findField 74 = .ok (.invokevirtual 112, 3) := by decide +kernel
theorem dX0_findField_77 : decode cX0_findField 77 = .ok (.istore_n 3, 1) := by decide +kernel
theorem dX0_findField_78 : decode cX0_findField 78 = .ok (.iinc 4 1, 3) := by decide +kernel
theorem dX0_findField_81 : decode cX0_findField 81 = .ok (.goto (-40), 3) := by decide +kernel
theorem dX0_findField_84 : decode cX0_findField 84 = .ok (.iload_n 3, 1) := by decide +kernel
theorem dX0_findField_85 : decode cX0_findField 85 = .ok (.bipush (-2), 2) := by decide +kernel
theorem dX0_findField_87 : decode cX0_findField 87 = .ok (.if_icmp .ne 21, 3) := by decide +kernel
theorem dX0_findField_90 : decode cX0_findField 90 = .ok (.iload_n 1, 1) := by decide +kernel
theorem dX0_findField_91 : decode cX0_findField 91 = .ok (.ifCond .eq 17, 3) := by decide +kernel
theorem dX0_findField_94 : decode cX0_findField 94 = .ok (.aload_n 0, 1) := by decide +kernel
theorem dX0_findField_95 : decode cX0_findField 95 = .ok (.aload_n 0, 1) := by decide +kernel
theorem dX0_findField_96 : decode cX0_findField 96 = .ok (.getfield 12, 3) := by decide +kernel
theorem dX0_findField_99 : decode cX0_findField 99 = .ok (.iload_n 1, 1) := by decide +kernel
theorem dX0_findField_100 : decode cX0_findField 100 = .ok (.invokevirtual 124, 3) := by decide +kernel
theorem dX0_findField_103 : decode cX0_findField 103 = .ok (.iload_n 2, 1) := by decide +kernel
theorem dX0_findField_104 : decode cX0_findField 104 = .ok (.invokevirtual 112, 3) := by decide +kernel
theorem dX0_findField_107 : decode cX0_findField 107 = .ok (.istore_n 3, 1) := by decide +kernel
theorem dX0_findField_108 : decode cX0_findField 108 = .ok (.iload_n 3, 1) := by decide +kernel
theorem dX0_findField_109 : decode cX0_findField 109 = .ok (.ireturn, 1) := by decide +kernel
set_option maxRecDepth 20000 in
theorem ggX0_lookUpMethod_X1_isInterface : GoodIn wsX0_lookUpMethod wsX1_isInterface := goodIn_r _ [6, 7, 94, 95, 96, 97, 98, 99, 100, 101, 102, 103] (by decide +kernel) (by decide +kernel)
set_option maxRecDepth 20000 in
theorem gX0_lookUpMethod_X1_isInterface : GoodIn wsX0_lookUpMethod (wsV RX0 127 RX1 yX1_isInterface wsX1_isInterface) := goodIn_app (goodIn_of _ (by decide +kernel)) ggX0_lookUpMethod_X1_isInterface
set_option maxRecDepth 20000 in
theorem ggX0_lookUpMethod_X0_findInInterface : GoodIn wsX0_lookUpMethod wsX0_findInInterface := goodIn_r _ [12, 13, 14, 15, 16, 17, 18, 19, 20, 21, 22, 23, 24, 25, 26, 27, 28, 29, 30, 31, 32, 33, 34, 35, 36, 37, 38, 87, 88, 89, 104, 105, 106, 107, 108, 109] (by decide +kernel) (by decide +kernel)
set_option maxRecDepth 20000 in
theorem gX0_lookUpMethod_X0_findInInterface : GoodIn wsX0_lookUpMethod (wsV RX0 130 RX0 yX0_findInInterface wsX0_findInInterface) := goodIn_app (goodIn_of _ (by decide +kernel)) ggX0_lookUpMethod_X0_findInInterface
set_option maxRecDepth 20000 in
theorem ggX0_lookUpMethod_X0_findInAbove : GoodIn wsX0_lookUpMethod wsX0_findInAbove := goodIn_r _ [42, 13, 1, 14, 15, 16, 17, 18, 19, 20, 21, 22, 23, 24, 25, 26, 27, 28, 43, 44, 45, 5, 46, 47, 87, 88, 89, 104, 105, 106, 107, 108, 109, 94, 95, 96, 97, 98, 99, 100, 101, 102, 103] (by decide +kernel) (by decide +kernel)
set_option maxRecDepth 20000 in
theorem gX0_lookUpMethod_X0_findInAbove : GoodIn wsX0_lookUpMethod (wsV RX0 133 RX0 yX0_findInAbove wsX0_findInAbove) := goodIn_app (goodIn_of _ (by decide +kernel)) ggX0_lookUpMethod_X0_findInAbove
set_option maxRecDepth 20000 in
theorem ggX0_lookUpMethod_X0_findBest : GoodIn wsX0_lookUpMethod wsX0_findBest := goodIn_r _ [51, 1, 13, 52, 53, 54, 5, 55, 56, 57, 58, 59, 17, 60, 19, 20, 22, 21, 23, 24, 25, 26, 27, 28, 61, 62, 63, 64, 33, 38, 65, 66, 67, 68, 69, 70, 71, 72, 73, 11, 74, 14, 15, 16, 18, 75, 76, 77, 78, 79, 80, 81, 82, 83, 84, 85, 86, 87, 88, 89, 94, 95, 96, 97, 98, 99, 100, 101, 102, 103, 104, 105, 106, 107, 108, 109] (by decide +kernel) (by decide +kernel)
set_option maxRecDepth 20000 in
theorem gX0_lookUpMethod_X0_findBest : GoodIn wsX0_lookUpMethod (wsV RX0 136 RX0 yX0_findBest wsX0_findBest) := goodIn_app (goodIn_of _ (by decide +kernel)) ggX0_lookUpMethod_X0_findBest
theorem dX0_lookUpMethod_0 : decode cX0_lookUpMethod 0 = .ok (.aload_n 0, 1) := by decide +kernel
theorem dX0_lookUpMethod_1 : decode cX0_lookUpMethod 1 = .ok (.getfield 12, 3) := by decide +kernel
theorem dX0_lookUpMethod_4 : decode cX0_lookUpMethod 4 = .ok (.aload_n 1, 1) := by decide +kernel
theorem dX0_lookUpMethod_5 : decode cX0_lookUpMethod 5 = .ok (.getfield 64, 3) := by decide +kernel
theorem dX0_lookUpMethod_8 : decode cX0_lookUpMethod 8 = .ok (.invokevirtual 127, 3) := by decide +kernel
theorem dX0_lookUpMethod_11 : decode cX0_lookUpMethod 11 = .ok (.istore_n 2, 1) := by decide +kernel
theorem dX0_lookUpMethod_12 : decode cX0_lookUpMethod 12 = .ok (.aload_n 1, 1) := by decide +kernel
theorem dX0_lookUpMethod_13 : decode cX0_lookUpMethod 13 = .ok (.getfield 71, 3) := by decide +kernel
theorem dX0_lookUpMethod_16 : decode cX0_lookUpMethod 16 = .ok (.iconst 4, 1) := by decide +kernel
theorem dX0_lookUpMethod_17 : decode cX0_lookUpMethod 17 = .ok (.if_icmp .ne 7, 3) := by decide +kernel
theorem dX0_lookUpMethod_20 : decode cX0_lookUpMethod 20 = .ok (.iload_n 2, 1) := by decide +kernel
theorem dX0_lookUpMethod_21 : decode cX0_lookUpMethod 21 = .ok (.ifCond .ne 16, 3) := by decide +kernel
theorem dX0_lookUpMethod_24 : decode cX0_lookUpMethod 24 = .ok (.aload_n 1, 1) := by decide +kernel
theorem dX0_lookUpMethod_25 : decode cX0_lookUpMethod 25 = .ok (.getfield 71, 3) := by decide +kernel
theorem dX0_lookUpMethod_28 : decode cX0_lookUpMethod 28 = .ok (.bipush 7, 2) := by decide +kernel
theorem dX0_lookUpMethod_30 : decode cX0_lookUpMethod 30 = .ok (.if_icmp .ne 16, 3) := by decide +kernel
theorem dX0_lookUpMethod_33 : decode cX0_lookUpMethod 33 = .ok (.iload_n 2, 1) := by decide +kernel
theorem dX0_lookUpMethod_34 : decode cX0_lookUpMethod 34 = .ok (.ifCond .ne 12, 3) := by decide +kernel
theorem dX0_lookUpMethod_37 : decode cX0_lookUpMethod 37 = .ok (.sipush 192, 3) := by decide +kernel
theorem dX0_lookUpMethod_40 : decode cX0_lookUpMethod 40 = .ok (.aload_n 1, 1) := by decide +kernel
theorem dX0_lookUpMethod_41 : decode cX0_lookUpMethod 41 = .ok (.getfield 64, 3) := by decide +kernel
theorem dX0_lookUpMethod_44 : decode cX0_lookUpMethod 44 = .ok (.iadd, 1) := by decide +kernel
theorem dX0_lookUpMethod_45 : decode cX0_lookUpMethod 45 = .ok (.ireturn, 1) := by decide +kernel
theorem dX0_lookUpMethod_46 : decode cX0_lookUpMethod 46 = .ok (.iload_n 2, 1) := by decide +kernel
theorem dX0_lookUpMethod_47 : decode cX0_lookUpMethod 47 = .ok (.ifCond .eq 18, 3) := by decide +kernel
theorem dX0_lookUpMethod_50 : decode cX0_lookUpMethod 50 = .ok (.aload_n 0, 1) := by decide +kernel
theorem dX0_lookUpMethod_51 : decode cX0_lookUpMethod 51 = .ok (.aload_n 1, 1) := by decide +kernel
theorem dX0_lookUpMethod_52 : decode cX0_lookUpMethod 52 = .ok (.getfield 64, 3) := by decide +kernel
theorem dX0_lookUpMethod_55 : decode cX0_lookUpMethod 55 = .ok (.aload_n 1, 1) := by decide +kernel
theorem dX0_lookUpMethod_56 : decode cX0_lookUpMethod 56 = .ok (.getfield 99, 3) := by decide +kernel
theorem dX0_lookUpMethod_59 : decode cX0_lookUpMethod 59 = .ok (.invokevirtual 130, 3) := by decide +kernel
theorem dX0_lookUpMethod_62 : decode cX0_lookUpMethod 62 = .ok (.goto 15, 3) := by decide +kernel
theorem dX0_lookUpMethod_65 : decode cX0_lookUpMethod 65 = .ok (.aload_n 0, 1) := by decide +kernel
theorem dX0_lookUpMethod_66 : decode cX0_lookUpMethod 66 = .ok (.aload_n 1, 1) := by decide +kernel
theorem dX0_lookUpMethod_67 : decode cX0_lookUpMethod 67 = .ok (.getfield 64, 3) := by decide +kernel
theorem dX0_lookUpMethod_70 : decode cX0_lookUpMethod 70 = .ok (.aload_n 1, 1) := by decide +kernel
theorem dX0_lookUpMethod_71 : decode cX0_lookUpMethod 71 = .ok (.getfield 99, 3) := by decide +kernel
theorem dX0_lookUpMethod_74 : decode cX0_lookUpMethod 74 = .ok (.invokevirtual 133, 3) := by decide +kernel
theorem dX0_lookUpMethod_77 : decode cX0_lookUpMethod 77 = .ok (.istore_n 3, 1) := by decide +kernel
theorem dX0_lookUpMethod_78 : decode cX0_lookUpMethod 78 = .ok (.iload_n 3, 1) := by decide +kernel
theorem dX0_lookUpMethod_79 : decode cX0_lookUpMethod 79 = .ok (.bipush (-2), 2) := by decide +kernel
theorem dX0_lookUpMethod_81 : decode cX0_lookUpMethod 81 = .ok (.if_icmp .ne 16, 3) := by decide +kernel
theorem dX0_lookUpMethod_84 : decode cX0_lookUpMethod 84 = .ok (.aload_n 0, 1) := by decide +kernel
theorem dX0_lookUpMethod_85 : decode cX0_lookUpMethod 85 = .ok (.aload_n 1, 1) := by decide +kernel
theorem dX0_lookUpMethod_86 : decode cX0_lookUpMethod 86 = .ok (.getfield 64, 3) := by decide +kernel
theorem dX0_lookUpMethod_89 : decode cX0_lookUpMethod 89 = .ok (.aload_n 1, 1) := by decide +kernel
theorem dX0_lookUpMethod_90 : decode cX0_lookUpMethod 90 = .ok (.getfield 99, 3) := by decide +kernel
theorem dX0_lookUpMethod_93 : decode cX0_lookUpMethod 93 = .ok (.invokevirtual 136, 3) := by decide +kernel
theorem dX0_lookUpMethod_96 : decode cX0_lookUpMethod 96 = .ok (.istore_n 3, 1) := by decide +kernel
theorem dX0_lookUpMethod_97 : decode cX0_lookUpMethod 97 = .ok (.iload_n 3, 1) := by decide +kernel
theorem dX0_lookUpMethod_98 : decode cX0_lookUpMethod 98 = .ok (.bipush (-2), 2) := by decide +kernel
theorem dX0_lookUpMethod_100 : decode cX0_lookUpMethod 100 = .ok (.if_icmp .ne 14, 3) := by decide +kernel
theorem dX0_lookUpMethod_103 : decode cX0_lookUpMethod 103 = .ok (.sipush 384, 3) := by decide +kernel
theorem dX0_lookUpMethod_106 : decode cX0_lookUpMethod 106 = .ok (.aload_n 1, 1) := by decide +kernel
theorem dX0_lookUpMethod_107 : decode cX0_lookUpMethod 107 = .ok (.getfield 64, 3) := by decide +kernel
theorem dX0_lookUpMethod_110 : decode cX0_lookUpMethod 110 = .ok (.iadd, 1) := by decide +kernel
theorem dX0_lookUpMethod_111 : decode cX0_lookUpMethod 111 = .ok (.goto 7, 3) := by decide +kernel
theorem dX0_lookUpMethod_114 : decode cX0_lookUpMethod 114 = .ok (.bipush 16, 2) := by decide +kernel
theorem dX0_lookUpMethod_116 : decode cX0_lookUpMethod 116 = .ok (.iload_n 3, 1) := by decide +kernel
theorem dX0_lookUpMethod_117 : decode cX0_lookUpMethod 117 = .ok (.iadd, 1) := by decide +kernel
theorem dX0_lookUpMethod_118 : decode cX0_lookUpMethod 118 = .ok (.ireturn, 1) := by decide +kernel
set_option maxRecDepth 20000 in
theorem ggX0_findInInterface_X2_find : GoodIn wsX0_findInInterface wsX2_find := goodIn_r _ [6, 7, 8, 9, 10, 11, 12, 5, 13, 14, 15, 16, 30, 31, 32, 33, 34, 35] (by decide +kernel) (by decide +kernel)
set_option maxRecDepth 20000 in
theorem gX0_findInInterface_X2_find : GoodIn wsX0_findInInterface (wsV RX0 36 RX2 yX2_find wsX2_find) := goodIn_app (goodIn_of _ (by decide +kernel)) ggX0_findInInterface_X2_find
set_option maxRecDepth 20000 in
theorem ggX0_findInInterface_X2_accessOf : GoodIn wsX0_findInInterface wsX2_accessOf := goodIn_r _ [20, 21, 30, 31, 32, 33, 34, 35] (by decide +kernel) (by decide +kernel)
set_option maxRecDepth 20000 in
theorem gX0_findInInterface_X2_accessOf : GoodIn wsX0_findInInterface (wsV RX0 96 RX2 yX2_accessOf wsX2_accessOf) := goodIn_app (goodIn_of _ (by decide +kernel)) ggX0_findInInterface_X2_accessOf
set_option maxRecDepth 20000 in
theorem ggX0_findInInterface_X2_isStatic : GoodIn wsX0_findInInterface wsX2_isStatic := goodIn_r _ [25, 26, 30, 31, 32, 33, 34, 35] (by decide +kernel) (by decide +kernel)
set_option maxRecDepth 20000 in
theorem gX0_findInInterface_X2_isStatic : GoodIn wsX0_findInInterface (wsV RX0 139 RX2 yX2_isStatic wsX2_isStatic) := goodIn_app (goodIn_of _ (by decide +kernel)) ggX0_findInInterface_X2_isStatic
theorem dX0_findInInterface_0 : decode cX0_findInInterface 0 = .ok (.aload_n 0, 1) := by decide +kernel
theorem dX0_findInInterface_1 : decode cX0_findInInterface 1 = .ok (.getfield 21, 3) := by decide +kernel
theorem dX0_findInInterface_4 : decode cX0_findInInterface 4 = .ok (.iload_n 1, 1) := by decide +kernel
theorem dX0_findInInterface_5 : decode cX0_findInInterface 5 = .ok (.iconst 1, 1) := by decide +kernel
theorem dX0_findInInterface_6 : decode cX0_findInInterface 6 = .ok (.iload_n 2, 1) := by decide +kernel
theorem dX0_findInInterface_7 : decode cX0_findInInterface 7 = .ok (.invokevirtual 36, 3) := by decide +kernel
theorem dX0_findInInterface_10 : decode cX0_findInInterface 10 = .ok (.istore_n 3, 1) := by decide +kernel
theorem dX0_findInInterface_11 : decode cX0_findInInterface 11 = .ok (.iload_n 3, 1) := by decide +kernel
theorem dX0_findInInterface_12 : decode cX0_findInInterface 12 = .ok (.bipush (-2), 2) := by decide +kernel
theorem dX0_findInInterface_14 : decode cX0_findInInterface 14 = .ok (.if_icmp .eq 5, 3) := by decide +kernel
theorem dX0_findInInterface_17 : decode cX0_findInInterface 17 = .ok (.iload_n 3, 1) := by decide +kernel
theorem dX0_findInInterface_18 : decode cX0_findInInterface 18 = .ok (.ireturn, 1) := by decide +kernel
theorem dX0_findInInterface_19 : decode cX0_findInInterface 19 = .ok (.aload_n 0, 1) := by decide +kernel
theorem dX0_findInInterface_20 : decode cX0_findInInterface 20 = .ok (.getfield 21, 3) := by decide +kernel
theorem dX0_findInInterface_23 : decode cX0_findInInterface 23 = .ok (.iconst 0, 1) := by decide +kernel
theorem dX0_findInInterface_24 : decode cX0_findInInterface 24 = .ok (.iconst 1, 1) := by decide +kernel
theorem dX0_findInInterface_25 : decode cX0_findInInterface 25 = .ok (.iload_n 2, 1) := by decide +kernel
theorem dX0_findInInterface_26 : decode cX0_findInInterface 26 = .ok (.invokevirtual 36, 3) := by decide +kernel
theorem dX0_findInInterface_29 : decode cX0_findInInterface 29 = .ok (.istore 4, 2) := by decide +kernel
theorem dX0_findInInterface_31 : decode cX0_findInInterface 31 = .ok (.iload 4, 2) := by decide +kernel
theorem dX0_findInInterface_33 : decode cX0_findInInterface 33 = .ok (.bipush (-2), 2) := by decide +kernel
theorem dX0_findInInterface_35 : decode cX0_findInInterface 35 = .ok (.if_icmp .eq 33, 3) := by decide +kernel
theorem dX0_findInInterface_38 : decode cX0_findInInterface 38 = .ok (.aload_n 0, 1) := by decide +kernel
theorem dX0_findInInterface_39 : decode cX0_findInInterface 39 = .ok (.getfield 21, 3) := by decide +kernel
theorem dX0_findInInterface_42 : decode cX0_findInInterface 42 = .ok (.iload 4, 2) := by decide +kernel
theorem dX0_findInInterface_44 : decode cX0_findInInterface 44 = .ok (.invokevirtual 96, 3) := by decide +kernel
theorem dX0_findInInterface_47 : decode cX0_findInInterface 47 = .ok (.iconst 3, 1) := by decide +kernel
theorem dX0_findInInterface_48 : decode cX0_findInInterface 48 = .ok (.if_icmp .ne 20, 3) := by decide +kernel
theorem dX0_findInInterface_51 : decode cX0_findInInterface 51 = .ok (.aload_n 0, 1) := by decide +kernel
theorem dX0_findInInterface_52 : decode cX0_findInInterface 52 = .ok (.getfield 21, 3) := by decide +kernel
theorem dX0_findInInterface_55 : decode cX0_findInInterface 55 = .ok (.iload 4, 2) := by decide +kernel
theorem dX0_findInInterface_57 : decode cX0_findInInterface 57 = .ok (.invokevirtual 139, 3) := by decide +kernel
theorem dX0_findInInterface_60 : decode cX0_findInInterface 60 = .ok (.ifCond .ne 8, 3) := by decide +kernel
theorem dX0_findInInterface_63 : decode cX0_findInInterface 63 = .ok (.iload 4, 2) := by decide +kernel
theorem dX0_findInInterface_65 : decode cX0_findInInterface 65 = .ok (.goto 5, 3) := by decide +kernel
theorem dX0_findInInterface_68 : decode cX0_findInInterface 68 = .ok (.bipush (-2), 2) := by decide +kernel
theorem dX0_findInInterface_70 : decode cX0_findInInterface 70 = .ok (.ireturn, 1) := by decide +kernel
set_option maxRecDepth 20000 in
theorem ggX0_findInAbove_X2_find : GoodIn wsX0_findInAbove wsX2_find := goodIn_r _ [7, 8, 9, 10, 11, 12, 13, 6, 14, 15, 16, 17, 27, 28, 29, 30, 31, 32] (by decide +kernel) (by decide +kernel)
set_option maxRecDepth 20000 in
theorem gX0_findInAbove_X2_find : GoodIn wsX0_findInAbove (wsV RX0 36 RX2 yX2_find wsX2_find) := goodIn_app (goodIn_of _ (by decide +kernel)) ggX0_findInAbove_X2_find
set_option maxRecDepth 20000 in
theorem ggX0_findInAbove_X1_superOf : GoodIn wsX0_findInAbove wsX1_superOf := goodIn_r _ [22, 23, 33, 34, 35, 36, 37, 38, 39, 40, 41, 42] (by decide +kernel) (by decide +kernel)
set_option maxRecDepth 20000 in
theorem gX0_findInAbove_X1_superOf : GoodIn wsX0_findInAbove (wsV RX0 124 RX1 yX1_superOf wsX1_superOf) := goodIn_app (goodIn_of _ (by decide +kernel)) ggX0_findInAbove_X1_superOf
theorem dX0_findInAbove_0 : decode cX0_findInAbove 0 = .ok (.iload_n 1, 1) := by decide +kernel
theorem dX0_findInAbove_1 : decode cX0_findInAbove 1 = .ok (.istore_n 3, 1) := by decide +kernel
theorem dX0_findInAbove_2 : decode cX0_findInAbove 2 = .ok (.iconst 0, 1) := by decide +kernel
theorem dX0_findInAbove_3 : decode cX0_findInAbove 3 = .ok (.istore 4, 2) := by decide +kernel
theorem dX0_findInAbove_5 : decode cX0_findInAbove 5 = .ok (.iload 4, 2) := by decide +kernel
theorem dX0_findInAbove_7 : decode cX0_findInAbove 7 = .ok (.bipush 12, 2) := by decide +kernel
theorem dX0_findInAbove_9 : decode cX0_findInAbove 9 = .ok (.if_icmp .ge 45, 3) := by decide +kernel
theorem dX0_findInAbove_12 : decode cX0_findInAbove 12 = .ok (.iload_n 3, 1) := by decide +kernel
theorem dX0_findInAbove_13 : decode cX0_findInAbove 13 = .ok (.iconst (-1), 1) := by decide +kernel
theorem dX0_findInAbove_14 : decode cX0_findInAbove 14 = .ok (.if_icmp .eq 40, 3) := by decide +kernel
theorem dX0_findInAbove_17 : decode cX0_findInAbove 17 = .ok (.aload_n 0, 1) := by decide +kernel
theorem dX0_findInAbove_18 : decode cX0_findInAbove 18 = .ok (.getfield 21, 3) := by decide +kernel
theorem dX0_findInAbove_21 : decode cX0_findInAbove 21 = .ok (.iload_n 3, 1) := by decide +kernel
theorem dX0_findInAbove_22 : decode cX0_findInAbove 22 = .ok (.iconst 1, 1) := by decide +kernel
theorem dX0_findInAbove_23 : decode cX0_findInAbove 23 = .ok (.iload_n 2, 1) := by decide +kernel
theorem dX0_findInAbove_24 : decode cX0_findInAbove 24 = .ok (.invokevirtual 36, 3) := by decide +kernel
theorem dX0_findInAbove_27 : decode cX0_findInAbove 27 = .ok (.istore 5, 2) := by decide +kernel
theorem dX0_findInAbove_29 : decode cX0_findInAbove 29 = .ok (.iload 5, 2) := by decide +kernel
theorem dX0_findInAbove_31 : decode cX0_findInAbove 31 = .ok (.bipush (-2), 2) := by decide +kernel
theorem dX0_findInAbove_33 : decode cX0_findInAbove 33 = .ok (.if_icmp .eq 6, 3) := by decide +kernel
theorem dX0_findInAbove_36 : decode cX0_findInAbove 36 = .ok (.iload 5, 2) := by decide +kernel
theorem dX0_findInAbove_38 : decode cX0_findInAbove 38 = .ok (.ireturn, 1) := by decide +kernel
theorem dX0_findInAbove_39 : decode cX0_findInAbove 39 = .ok (.aload_n 0, 1) := by decide +kernel
theorem dX0_findInAbove_40 : decode cX0_findInAbove 40 = .ok (.getfield 12, 3) := by decide +kernel
theorem dX0_findInAbove_43 : decode cX0_findInAbove 43 = .ok (.iload_n 3, 1) := by decide +kernel
theorem dX0_findInAbove_44 : decode cX0_findInAbove 44 = .ok (.invokevirtual 124, 3) := by decide +kernel
theorem dX0_findInAbove_47 : decode cX0_findInAbove 47 = .ok (.istore_n 3, 1) := by decide +kernel
theorem dX0_findInAbove_48 : decode cX0_findInAbove 48 = .ok (.iinc 4 1, 3) := by decide +kernel
theorem dX0_findInAbove_51 : decode cX0_findInAbove 51 = .ok (.goto (-46), 3) := by decide +kernel
theorem dX0_findInAbove_54 : decode cX0_findInAbove 54 = .ok (.bipush (-2), 2) := by decide +kernel
theorem dX0_findInAbove_56 : decode cX0_findInAbove 56 = .ok (.ireturn, 1) := by decide +kernel
set_option maxRecDepth 20000 in
theorem ggX0_findBest_X1_facesOf : GoodIn wsX0_findBest wsX1_facesOf := goodIn_r _ [7, 8, 60, 61, 62, 63, 64, 65, 66, 67, 68, 69] (by decide +kernel) (by decide +kernel)
set_option maxRecDepth 20000 in
theorem gX0_findBest_X1_facesOf : GoodIn wsX0_findBest (wsV RX0 142 RX1 yX1_facesOf wsX1_facesOf) := goodIn_app (goodIn_of _ (by decide +kernel)) ggX0_findBest_X1_facesOf
set_option maxRecDepth 20000 in
theorem ggX0_findBest_X2_ownersOfInheritable : GoodIn wsX0_findBest wsX2_ownersOfInheritable := goodIn_r _ [13, 14, 15, 16, 17, 18, 19, 12, 20, 21, 22, 23, 24, 25, 26, 27, 28, 29, 30, 31, 70, 71, 72, 73, 74, 75] (by decide +kernel) (by decide +kernel)
set_option maxRecDepth 20000 in
theorem gX0_findBest_X2_ownersOfInheritable : GoodIn wsX0_findBest (wsV RX0 145 RX2 yX2_ownersOfInheritable wsX2_ownersOfInheritable) := goodIn_app (goodIn_of _ (by decide +kernel)) ggX0_findBest_X2_ownersOfInheritable
set_option maxRecDepth 20000 in
theorem ggX0_findBest_X1_mostSpecificOf : GoodIn wsX0_findBest wsX1_mostSpecificOf := goodIn_r _ [35, 8, 21, 22, 23, 60, 61, 62, 63, 64, 65, 66, 67, 68, 69] (by decide +kernel) (by decide +kernel)
set_option maxRecDepth 20000 in
theorem gX0_findBest_X1_mostSpecificOf : GoodIn wsX0_findBest (wsV RX0 148 RX1 yX1_mostSpecificOf wsX1_mostSpecificOf) := goodIn_app (goodIn_of _ (by decide +kernel)) ggX0_findBest_X1_mostSpecificOf
set_option maxRecDepth 20000 in
theorem ggX0_findBest_X0_findOnlyWithBody : GoodIn wsX0_findBest wsX0_findOnlyWithBody := goodIn_r _ [40, 2, 21, 22, 23, 41, 42, 43, 12, 44, 14, 15, 17, 16, 18, 19, 20, 45, 46, 47, 48, 29, 57, 58, 59, 70, 71, 72, 73, 74, 75] (by decide +kernel) (by decide +kernel)
set_option maxRecDepth 20000 in
theorem gX0_findBest_X0_findOnlyWithBody : GoodIn wsX0_findBest (wsV RX0 151 RX0 yX0_findOnlyWithBody wsX0_findOnlyWithBody) := goodIn_app (goodIn_of _ (by decide +kernel)) ggX0_findBest_X0_findOnlyWithBody
set_option maxRecDepth 20000 in
theorem ggX0_findBest_X0_findLeast : GoodIn wsX0_findBest wsX0_findLeast := goodIn_r _ [52, 2, 53, 54, 55, 56, 21, 22, 23, 41, 42, 43, 12, 44, 14, 15, 17, 16, 18, 19, 20, 57, 58, 59, 70, 71, 72, 73, 74, 75] (by decide +kernel) (by decide +kernel)
set_option maxRecDepth 20000 in
theorem gX0_findBest_X0_findLeast : GoodIn wsX0_findBest (wsV RX0 154 RX0 yX0_findLeast wsX0_findLeast) := goodIn_app (goodIn_of _ (by decide +kernel)) ggX0_findBest_X0_findLeast
theorem dX0_findBest_0 : decode cX0_findBest 0 = .ok (.aload_n 0, 1) := by decide +kernel
theorem dX0_findBest_1 : decode cX0_findBest 1 = .ok (.getfield 12, 3) := by decide +kernel
theorem dX0_findBest_4 : decode cX0_findBest 4 = .ok (.iload_n 1, 1) := by decide +kernel
theorem dX0_findBest_5 : decode cX0_findBest 5 = .ok (.invokevirtual 142, 3) := by decide +kernel
theorem dX0_findBest_8 : decode cX0_findBest 8 = .ok (.aload_n 0, 1) := by decide +kernel
theorem dX0_findBest_9 : decode cX0_findBest 9 = .ok (.getfield 21, 3) := by decide +kernel
theorem dX0_findBest_12 : decode cX0_findBest 12 = .ok (.iload_n 2, 1) := by decide +kernel
theorem dX0_findBest_13 : decode cX0_findBest 13 = .ok (.invokevirtual 145, 3) := by decide +kernel
theorem dX0_findBest_16 : decode cX0_findBest 16 = .ok (.iand, 1) := by decide +kernel
theorem dX0_findBest_17 : decode cX0_findBest 17 = .ok (.istore_n 3, 1) := by decide +kernel
theorem dX0_findBest_18 : decode cX0_findBest 18 = .ok (.aload_n 0, 1) := by decide +kernel
theorem dX0_findBest_19 : decode cX0_findBest 19 = .ok (.aload_n 0, 1) := by decide +kernel
theorem dX0_findBest_20 : decode cX0_findBest 20 = .ok (.getfield 12, 3) := by decide +kernel
theorem dX0_findBest_23 : decode cX0_findBest 23 = .ok (.iload_n 3, 1) := by decide +kernel
theorem dX0_findBest_24 : decode cX0_findBest 24 = .ok (.invokevirtual 148, 3) := by decide +kernel
theorem dX0_findBest_27 : decode cX0_findBest 27 = .ok (.iload_n 2, 1) := by decide +kernel
theorem dX0_findBest_28 : decode cX0_findBest 28 = .ok (.invokevirtual 151, 3) := by decide +kernel
theorem dX0_findBest_31 : decode cX0_findBest 31 = .ok (.istore 4, 2) := by decide +kernel
theorem dX0_findBest_33 : decode cX0_findBest 33 = .ok (.iload 4, 2) := by decide +kernel
theorem dX0_findBest_35 : decode cX0_findBest 35 = .ok (.ifCond .lt 8, 3) := by decide +kernel
theorem dX0_findBest_38 : decode cX0_findBest 38 = .ok (.iload 4, 2) := by decide +kernel
theorem dX0_findBest_40 : decode cX0_findBest 40 = .ok (.goto 9, 3) := by decide +kernel
theorem dX0_findBest_43 : decode cX0_findBest 43 = .ok (.aload_n 0, 1) := by decide +kernel
theorem dX0_findBest_44 : decode cX0_findBest 44 = .ok (.iload_n 3, 1) := by decide +kernel
theorem dX0_findBest_45 : decode cX0_findBest 45 = .ok (.iload_n 2, 1) := by decide +kernel
theorem dX0_findBest_46 : decode cX0_findBest 46 = .ok (.invokevirtual 154, 3) := by decide +kernel
theorem dX0_findBest_49 : decode cX0_findBest 49 = .ok (.ireturn, 1) := by decide +kernel
set_option maxRecDepth 20000 in
theorem ggX0_findLeast_X4_contains : GoodIn wsX0_findLeast wsX4_contains := goodIn_r _ [8] (by decide +kernel) (by decide +kernel)
set_option maxRecDepth 20000 in
theorem gX0_findLeast_X4_contains_n115 : GoodIn wsX0_findLeast (wsX4_contains) := ggX0_findLeast_X4_contains
set_option maxRecDepth 20000 in
theorem ggX0_findLeast_X2_find : GoodIn wsX0_findLeast wsX2_find := goodIn_r _ [13, 14, 15, 16, 17, 18, 19, 12, 20, 6, 7, 8, 24, 25, 26, 27, 28, 29] (by decide +kernel) (by decide +kernel)
set_option maxRecDepth 20000 in
theorem gX0_findLeast_X2_find : GoodIn wsX0_findLeast (wsV RX0 36 RX2 yX2_find wsX2_find) := goodIn_app (goodIn_of _ (by decide +kernel)) ggX0_findLeast_X2_find
theorem dX0_findLeast_0 : decode cX0_findLeast 0 = .ok (.bipush (-2), 2) := by decide +kernel
theorem dX0_findLeast_2 : decode cX0_findLeast 2 = .ok (.istore_n 3, 1) := by decide +kernel
theorem dX0_findLeast_3 : decode cX0_findLeast 3 = .ok (.iconst 0, 1) := by decide +kernel
theorem dX0_findLeast_4 : decode cX0_findLeast 4 = .ok (.istore 4, 2) := by decide +kernel
theorem dX0_findLeast_6 : decode cX0_findLeast 6 = .ok (.iload 4, 2) := by decide +kernel
theorem dX0_findLeast_8 : decode cX0_findLeast 8 = .ok (.bipush 12, 2) := by decide +kernel
theorem dX0_findLeast_10 : decode cX0_findLeast 10 = .ok (.if_icmp .ge 49, 3) := by decide +kernel
theorem dX0_findLeast_13 : decode cX0_findLeast 13 = .ok (.iload_n 1, 1) := by decide +kernel
theorem dX0_findLeast_14 : decode cX0_findLeast 14 = .ok (.iload 4, 2) := by decide +kernel
theorem dX0_findLeast_16 : decode cX0_findLeast 16 = .ok (.invokestatic 115, 3) := by decide +kernel
theorem dX0_findLeast_19 : decode cX0_findLeast 19 = .ok (.ifCond .eq 34, 3) := by decide +kernel
theorem dX0_findLeast_22 : decode cX0_findLeast 22 = .ok (.aload_n 0, 1) := by decide +kernel
theorem dX0_findLeast_23 : decode cX0_findLeast 23 = .ok (.getfield 21, 3) := by decide +kernel
theorem dX0_findLeast_26 : decode cX0_findLeast 26 = .ok (.iload 4, 2) := by decide +kernel
theorem dX0_findLeast_28 : decode cX0_findLeast 28 = .ok (.iconst 1, 1) := by decide +kernel
theorem dX0_findLeast_29 : decode cX0_findLeast 29 = .ok (.iload_n 2, 1) := by decide +kernel
theorem dX0_findLeast_30 : decode cX0_findLeast 30 = .ok (.invokevirtual 36, 3) := by decide +kernel
theorem dX0_findLeast_33 : decode cX0_findLeast 33 = .ok (.istore 5, 2) := by decide +kernel
theorem dX0_findLeast_35 : decode cX0_findLeast 35 = .ok (.iload_n 3, 1) := by decide +kernel
theorem dX0_findLeast_36 : decode cX0_findLeast 36 = .ok (.bipush (-2), 2) := by decide +kernel
theorem dX0_findLeast_38 : decode cX0_findLeast 38 = .ok (.if_icmp .ne 8, 3) := by decide +kernel
theorem dX0_findLeast_41 : decode cX0_findLeast 41 = .ok (.iload 5, 2) := by decide +kernel
theorem dX0_findLeast_43 : decode cX0_findLeast 43 = .ok (.goto 9, 3) := by decide +kernel
theorem dX0_findLeast_46 : decode cX0_findLeast 46 = .ok (.iload_n 3, 1) := by decide +kernel
theorem dX0_findLeast_47 : decode cX0_findLeast 47 = .ok (.iload 5, 2) := by decide +kernel
theorem dX0_findLeast_49 : decode cX0_findLeast 49 = .ok (.invokestatic 157, 3) := by decide +kernel
theorem dX0_findLeast_52 : decode cX0_findLeast 52 = .ok (.istore_n 3, 1) := by decide +kernel
theorem dX0_findLeast_53 : decode cX0_findLeast 53 = .ok (.iinc 4 1, 3) := by decide +kernel
theorem dX0_findLeast_56 : decode cX0_findLeast 56 = .ok (.goto (-50), 3) := by decide +kernel
theorem dX0_findLeast_59 : decode cX0_findLeast 59 = .ok (.iload_n 3, 1) := by decide +kernel
theorem dX0_findLeast_60 : decode cX0_findLeast 60 = .ok (.ireturn, 1) := by decide +kernel
set_option maxRecDepth 20000 in
theorem ggX0_findOnlyWithBody_X4_contains : GoodIn wsX0_findOnlyWithBody wsX4_contains := goodIn_r _ [4] (by decide +kernel) (by decide +kernel)
set_option maxRecDepth 20000 in
theorem gX0_findOnlyWithBody_X4_contains_n115 : GoodIn wsX0_findOnlyWithBody (wsX4_contains) := ggX0_findOnlyWithBody_X4_contains
set_option maxRecDepth 20000 in
theorem ggX0_findOnlyWithBody_X2_find : GoodIn wsX0_findOnlyWithBody wsX2_find := goodIn_r _ [9, 10, 11, 12, 13, 14, 15, 8, 16, 2, 3, 4, 25, 26, 27, 28, 29, 30] (by decide +kernel) (by decide +kernel)
set_option maxRecDepth 20000 in
theorem gX0_findOnlyWithBody_X2_find : GoodIn wsX0_findOnlyWithBody (wsV RX0 36 RX2 yX2_find wsX2_find) := goodIn_app (goodIn_of _ (by decide +kernel)) ggX0_findOnlyWithBody_X2_find
set_option maxRecDepth 20000 in
theorem ggX0_findOnlyWithBody_X2_isAbstract : GoodIn wsX0_findOnlyWithBody wsX2_isAbstract := goodIn_r _ [20, 21, 25, 26, 27, 28, 29, 30] (by decide +kernel) (by decide +kernel)
set_option maxRecDepth 20000 in
theorem gX0_findOnlyWithBody_X2_isAbstract : GoodIn wsX0_findOnlyWithBody (wsV RX0 162 RX2 yX2_isAbstract wsX2_isAbstract) := goodIn_app (goodIn_of _ (by decide +kernel)) ggX0_findOnlyWithBody_X2_isAbstract
theorem dX0_findOnlyWithBody_0 : decode cX0_findOnlyWithBody 0 = .ok (.bipush (-2), 2) := by decide +kernel
theorem dX0_findOnlyWithBody_2 : decode cX0_findOnlyWithBody 2 = .ok (.istore_n 3, 1) := by decide +kernel
theorem dX0_findOnlyWithBody_3 : decode cX0_findOnlyWithBody 3 = .ok (.iconst 0, 1) := by decide +kernel
theorem dX0_findOnlyWithBody_4 : decode cX0_findOnlyWithBody 4 = .ok (.istore 4, 2) := by decide +kernel
theorem dX0_findOnlyWithBody_6 : decode cX0_findOnlyWithBody 6 = .ok (.iload 4, 2) := by decide +kernel
theorem dX0_findOnlyWithBody_8 : decode cX0_findOnlyWithBody 8 = .ok (.bipush 12, 2) := by decide +kernel
theorem dX0_findOnlyWithBody_10 : decode cX0_findOnlyWithBody 10 = .ok (.if_icmp .ge 64, 3) := by decide +kernel
theorem dX0_findOnlyWithBody_13 : decode cX0_findOnlyWithBody 13 = .ok (.iload_n 1, 1) := by decide +kernel
theorem dX0_findOnlyWithBody_14 : decode cX0_findOnlyWithBody 14 = .ok (.iload 4, 2) := by decide +kernel
theorem dX0_findOnlyWithBody_16 : decode cX0_findOnlyWithBody 16 = .ok (.invokestatic 115, 3) := by decide +kernel
theorem dX0_findOnlyWithBody_19 : decode cX0_findOnlyWithBody 19 = .ok (.ifCond .eq 49, 3) := by decide +kernel
theorem dX0_findOnlyWithBody_22 : decode cX0_findOnlyWithBody 22 = .ok (.aload_n 0, 1) := by decide +kernel
theorem dX0_findOnlyWithBody_23 : decode cX0_findOnlyWithBody 23 = .ok (.getfield 21, 3) := by decide +kernel
theorem dX0_findOnlyWithBody_26 : decode cX0_findOnlyWithBody 26 = .ok (.iload 4, 2) := by decide +kernel
theorem dX0_findOnlyWithBody_28 : decode cX0_findOnlyWithBody 28 = .ok (.iconst 1, 1) := by decide +kernel
theorem dX0_findOnlyWithBody_29 : decode cX0_findOnlyWithBody 29 = .ok (.iload_n 2, 1) := by decide +kernel
theorem dX0_findOnlyWithBody_30 : decode cX0_findOnlyWithBody 30 = .ok (.invokevirtual 36, 3) := by decide +kernel
theorem dX0_findOnlyWithBody_33 : decode cX0_findOnlyWithBody 33 = .ok (.istore 5, 2) := by decide +kernel
theorem dX0_findOnlyWithBody_35 : decode cX0_findOnlyWithBody 35 = .ok (.iload 5, 2) := by decide +kernel
theorem dX0_findOnlyWithBody_37 : decode cX0_findOnlyWithBody 37 = .ok (.bipush (-2), 2) := by decide +kernel
theorem dX0_findOnlyWithBody_39 : decode cX0_findOnlyWithBody 39 = .ok (.if_icmp .eq 29, 3) := by decide +kernel
theorem dX0_findOnlyWithBody_42 : decode cX0_findOnlyWithBody 42 = .ok (.aload_n 0, 1) := by decide +kernel
theorem dX0_findOnlyWithBody_43 : decode cX0_findOnlyWithBody 43 = .ok (.getfield 21, 3) := by decide +kernel
theorem dX0_findOnlyWithBody_46 : decode cX0_findOnlyWithBody 46 = .ok (.iload 5, 2) := by decide +kernel
theorem dX0_findOnlyWithBody_48 : decode cX0_findOnlyWithBody 48 = .ok (.invokevirtual 162, 3) := by decide +kernel
theorem dX0_findOnlyWithBody_51 : decode cX0_findOnlyWithBody 51 = .ok (.ifCond .ne 17, 3) := by decide +kernel
theorem dX0_findOnlyWithBody_54 : decode cX0_findOnlyWithBody 54 = .ok (.iload_n 3, 1) := by decide +kernel
theorem dX0_findOnlyWithBody_55 : decode cX0_findOnlyWithBody 55 = .ok (.bipush (-2), 2) := by decide +kernel
theorem dX0_findOnlyWithBody_57 : decode cX0_findOnlyWithBody 57 = .ok (.if_icmp .ne 8, 3) := by decide +kernel
theorem dX0_findOnlyWithBody_60 : decode cX0_findOnlyWithBody 60 = .ok (.iload 5, 2) := by decide +kernel
theorem dX0_findOnlyWithBody_62 : decode cX0_findOnlyWithBody 62 = .ok (.goto 5, 3) := by decide +kernel
theorem dX0_findOnlyWithBody_65 : decode cX0_findOnlyWithBody 65 = .ok (.bipush (-4), 2) := by decide +kernel
theorem dX0_findOnlyWithBody_67 : decode cX0_findOnlyWithBody 67 = .ok (.istore_n 3, 1) := by decide +kernel
theorem dX0_findOnlyWithBody_68 : decode cX0_findOnlyWithBody 68 = .ok (.iinc 4 1, 3) := by decide +kernel
theorem dX0_findOnlyWithBody_71 : decode cX0_findOnlyWithBody 71 = .ok (.goto (-65), 3) := by decide +kernel
theorem dX0_findOnlyWithBody_74 : decode cX0_findOnlyWithBody 74 = .ok (.iload_n 3, 1) := by decide +kernel
theorem dX0_findOnlyWithBody_75 : decode cX0_findOnlyWithBody 75 = .ok (.ireturn, 1) := by decide +kernel
set_option maxRecDepth 20000 in
theorem ggX0_checkMember_X0_isAccessible : GoodIn wsX0_checkMember wsX0_isAccessible := goodIn_r _ [7, 1, 2, 8, 9, 10, 11, 12, 13, 14, 15, 16, 17, 18, 19, 20, 21, 22, 23, 24, 25, 26, 27, 6, 28, 29, 30, 31, 32, 33, 34, 35, 36, 37, 38, 39, 40, 41, 42, 43, 44, 45, 46, 47, 48, 49, 50, 51, 52, 53, 54, 55, 56, 57, 80, 81, 82, 83, 84, 85, 86, 87, 88, 89, 90, 91, 92, 93, 94, 95, 96, 97, 98] (by decide +kernel) (by decide +kernel)
set_option maxRecDepth 20000 in
theorem gX0_checkMember_X0_isAccessible : GoodIn wsX0_checkMember (wsV RX0 165 RX0 yX0_isAccessible wsX0_isAccessible) := goodIn_app (goodIn_of _ (by decide +kernel)) ggX0_checkMember_X0_isAccessible
set_option maxRecDepth 20000 in
theorem ggX0_checkMember_X2_isStatic : GoodIn wsX0_checkMember wsX2_isStatic := goodIn_r _ [40, 41, 83, 84, 85, 86, 87, 88] (by decide +kernel) (by decide +kernel)
set_option maxRecDepth 20000 in
theorem gX0_checkMember_X2_isStatic : GoodIn wsX0_checkMember (wsV RX0 139 RX2 yX2_isStatic wsX2_isStatic) := goodIn_app (goodIn_of _ (by decide +kernel)) ggX0_checkMember_X2_isStatic
set_option maxRecDepth 20000 in
theorem ggX0_checkMember_X3_needsStatic : GoodIn wsX0_checkMember wsX3_needsStatic := goodIn_r _ [62, 63, 76, 77, 78, 79] (by decide +kernel) (by decide +kernel)
set_option maxRecDepth 20000 in
theorem gX0_checkMember_X3_needsStatic : GoodIn wsX0_checkMember (wsV RX0 169 RX3 yX3_needsStatic wsX3_needsStatic) := goodIn_app (goodIn_of _ (by decide +kernel)) ggX0_checkMember_X3_needsStatic
set_option maxRecDepth 20000 in
theorem ggX0_checkMember_X3_isPut : GoodIn wsX0_checkMember wsX3_isPut := goodIn_r _ [67, 63, 76, 77, 78, 79] (by decide +kernel) (by decide +kernel)
set_option maxRecDepth 20000 in
theorem gX0_checkMember_X3_isPut : GoodIn wsX0_checkMember (wsV RX0 172 RX3 yX3_isPut wsX3_isPut) := goodIn_app (goodIn_of _ (by decide +kernel)) ggX0_checkMember_X3_isPut
set_option maxRecDepth 20000 in
theorem ggX0_checkMember_X2_isFinal : GoodIn wsX0_checkMember wsX2_isFinal := goodIn_r _ [71, 41, 83, 84, 85, 86, 87, 88] (by decide +kernel) (by decide +kernel)
set_option maxRecDepth 20000 in
theorem gX0_checkMember_X2_isFinal : GoodIn wsX0_checkMember (wsV RX0 175 RX2 yX2_isFinal wsX2_isFinal) := goodIn_app (goodIn_of _ (by decide +kernel)) ggX0_checkMember_X2_isFinal
set_option maxRecDepth 20000 in
theorem ggX0_checkMember_X2_ownerOf : GoodIn wsX0_checkMember wsX2_ownerOf := goodIn_r _ [12, 13, 83, 84, 85, 86, 87, 88] (by decide +kernel) (by decide +kernel)
set_option maxRecDepth 20000 in
theorem gX0_checkMember_X2_ownerOf : GoodIn wsX0_checkMember (wsV RX0 178 RX2 yX2_ownerOf wsX2_ownerOf) := goodIn_app (goodIn_of _ (by decide +kernel)) ggX0_checkMember_X2_ownerOf
set_option maxRecDepth 20000 in
theorem ggX0_checkMember_X1_liesUnder : GoodIn wsX0_checkMember wsX1_liesUnder := goodIn_r _ [45, 33, 46, 34, 35, 36, 89, 90, 91, 92, 93, 94, 95, 96, 97, 98] (by decide +kernel) (by decide +kernel)
set_option maxRecDepth 20000 in
theorem gX0_checkMember_X1_liesUnder : GoodIn wsX0_checkMember (wsV RX0 181 RX1 yX1_liesUnder wsX1_liesUnder) := goodIn_app (goodIn_of _ (by decide +kernel)) ggX0_checkMember_X1_liesUnder
set_option maxRecDepth 20000 in
theorem ggX0_checkMember_X2_isAbstract : GoodIn wsX0_checkMember wsX2_isAbstract := goodIn_r _ [75, 41, 83, 84, 85, 86, 87, 88] (by decide +kernel) (by decide +kernel)
set_option maxRecDepth 20000 in
theorem gX0_checkMember_X2_isAbstract : GoodIn wsX0_checkMember (wsV RX0 162 RX2 yX2_isAbstract wsX2_isAbstract) := goodIn_app (goodIn_of _ (by decide +kernel)) ggX0_checkMember_X2_isAbstract
theorem dX0_checkMember_0 : decode cX0_checkMember 0 = .ok (.aload_n 0, 1) := by decide +kernel
theorem dX0_checkMember_1 : decode cX0_checkMember 1 = .ok (.iload_n 2, 1) := by decide +kernel
theorem dX0_checkMember_2 : decode cX0_checkMember 2 = .ok (.aload_n 1, 1) := by decide +kernel
theorem dX0_checkMember_3 : decode cX0_checkMember 3 = .ok (.getfield 64, 3) := by decide +kernel
theorem dX0_checkMember_6 : decode cX0_checkMember 6 = .ok (.aload_n 1, 1) := by decide +kernel
theorem dX0_checkMember_7 : decode cX0_checkMember 7 = .ok (.getfield 51, 3) := by decide +kernel
theorem dX0_checkMember_10 : decode cX0_checkMember 10 = .ok (.invokevirtual 165, 3) := by decide +kernel
theorem dX0_checkMember_13 : decode cX0_checkMember 13 = .ok (.ifCond .ne 9, 3) := by decide +kernel
theorem dX0_checkMember_16 : decode cX0_checkMember 16 = .ok (.sipush 272, 3) := by decide +kernel
theorem dX0_checkMember_19 : decode cX0_checkMember 19 = .ok (.iload_n 2, 1) := by decide +kernel
theorem dX0_checkMember_20 : decode cX0_checkMember 20 = .ok (.iadd, 1) := by decide +kernel
theorem dX0_checkMember_21 : decode cX0_checkMember 21 = .ok (.ireturn, 1) := by decide +kernel
theorem dX0_checkMember_22 : decode cX0_checkMember 22 = .ok (.aload_n 0, 1) := by decide +kernel
theorem dX0_checkMember_23 : decode cX0_checkMember 23 = .ok (.getfield 21, 3) := by decide +kernel
theorem dX0_checkMember_26 : decode cX0_checkMember 26 = .ok (.iload_n 2, 1) := by decide +kernel
theorem dX0_checkMember_27 : decode cX0_checkMember 27 = .ok (.invokevirtual 139, 3) := by decide +kernel
theorem dX0_checkMember_30 : decode cX0_checkMember 30 = .ok (.aload_n 1, 1) := by decide +kernel
theorem dX0_checkMember_31 : decode cX0_checkMember 31 = .ok (.invokevirtual 169, 3) := by decide +kernel
theorem dX0_checkMember_34 : decode cX0_checkMember 34 = .ok (.if_icmp .eq 9, 3) := by decide +kernel
theorem dX0_checkMember_37 : decode cX0_checkMember 37 = .ok (.sipush 208, 3) := by decide +kernel
theorem dX0_checkMember_40 : decode cX0_checkMember 40 = .ok (.iload_n 2, 1) := by decide +kernel
theorem dX0_checkMember_41 : decode cX0_checkMember 41 = .ok (.iadd, 1) := by decide +kernel
theorem dX0_checkMember_42 : decode cX0_checkMember 42 = .ok (.ireturn, 1) := by decide +kernel
theorem dX0_checkMember_43 : decode cX0_checkMember 43 = .ok (.aload_n 1, 1) := by decide +kernel
theorem dX0_checkMember_44 : decode cX0_checkMember 44 = .ok (.invokevirtual 172, 3) := by decide +kernel
theorem dX0_checkMember_47 : decode cX0_checkMember 47 = .ok (.ifCond .eq 35, 3) := by decide +kernel
theorem dX0_checkMember_50 : decode cX0_checkMember 50 = .ok (.aload_n 0, 1) := by decide +kernel
theorem dX0_checkMember_51 : decode cX0_checkMember 51 = .ok (.getfield 21, 3) := by decide +kernel
theorem dX0_checkMember_54 : decode cX0_checkMember 54 = .ok (.iload_n 2, 1) := by decide +kernel
theorem dX0_checkMember_55 : decode cX0_checkMember 55 = .ok (.invokevirtual 175, 3) := by decide +kernel
theorem dX0_checkMember_58 : decode cX0_checkMember 58 = .ok (.ifCond .eq 24, 3) := by decide +kernel
theorem dX0_checkMember_61 : decode cX0_checkMember 61 = .ok (.aload_n 0, 1) := by decide +kernel
theorem dX0_checkMember_62 : decode cX0_checkMember 62 = .ok (.getfield 21, 3) := by decide +kernel
theorem dX0_checkMember_65 : decode cX0_checkMember 65 = .ok (.iload_n 2, 1) := by decide +kernel
theorem dX0_checkMember_66 : decode cX0_checkMember 66 = .ok (.invokevirtual 178, 3) := by decide +kernel
theorem dX0_checkMember_69 : decode cX0_checkMember 69 = .ok (.aload_n 1, 1) := by decide +kernel
theorem dX0_checkMember_70 : decode cX0_checkMember 70 = .ok (.getfield 51, 3) := by decide +kernel
theorem dX0_checkMember_73 : decode cX0_checkMember 73 = .ok (.if_icmp .eq 9, 3) := by decide +kernel
theorem dX0_checkMember_76 : decode cX0_checkMember 76 = .ok (.sipush 272, 3) := by decide +kernel
theorem dX0_checkMember_79 : decode cX0_checkMember 79 = .ok (.iload_n 2, 1) := by decide +kernel
theorem dX0_checkMember_80 : decode cX0_checkMember 80 = .ok (.iadd, 1) := by decide +kernel
theorem dX0_checkMember_81 : decode cX0_checkMember 81 = .ok (.ireturn, 1) := by decide +kernel
theorem dX0_checkMember_82 : decode cX0_checkMember 82 = .ok (.aload_n 1, 1) := by decide +kernel
theorem dX0_checkMember_83 : decode cX0_checkMember 83 = .ok (.getfield 71, 3) := by decide +kernel
theorem dX0_checkMember_86 : decode cX0_checkMember 86 = .ok (.iconst 5, 1) := by decide +kernel
theorem dX0_checkMember_87 : decode cX0_checkMember 87 = .ok (.if_icmp .ne 30, 3) := by decide +kernel
theorem dX0_checkMember_90 : decode cX0_checkMember 90 = .ok (.aload_n 0, 1) := by decide +kernel
theorem dX0_checkMember_91 : decode cX0_checkMember 91 = .ok (.getfield 12, 3) := by decide +kernel
theorem dX0_checkMember_94 : decode cX0_checkMember 94 = .ok (.aload_n 1, 1) := by decide +kernel
theorem dX0_checkMember_95 : decode cX0_checkMember 95 = .ok (.getfield 51, 3) := by decide +kernel
theorem dX0_checkMember_98 : decode cX0_checkMember 98 = .ok (.aload_n 1, 1) := by decide +kernel
theorem dX0_checkMember_99 : decode cX0_checkMember 99 = .ok (.getfield 64, 3) := by decide +kernel
theorem dX0_checkMember_102 : decode cX0_checkMember 102 = .ok (.invokevirtual 181, 3) := by decide +kernel
theorem dX0_checkMember_105 : decode cX0_checkMember 105 = .ok (.ifCond .ne 12, 3) := by decide +kernel
theorem dX0_checkMember_108 : decode cX0_checkMember 108 = .ok (.sipush 192, 3) := by decide +kernel
theorem dX0_checkMember_111 : decode cX0_checkMember 111 = .ok (.aload_n 1, 1) := by decide +kernel
theorem dX0_checkMember_112 : decode cX0_checkMember 112 = .ok (.getfield 64, 3) := by decide +kernel
theorem dX0_checkMember_115 : decode cX0_checkMember 115 = .ok (.iadd, 1) := by decide +kernel
theorem dX0_checkMember_116 : decode cX0_checkMember 116 = .ok (.ireturn, 1) := by decide +kernel
theorem dX0_checkMember_117 : decode cX0_checkMember 117 = .ok (.aload_n 1, 1) := by decide +kernel
theorem dX0_checkMember_118 : decode cX0_checkMember 118 = .ok (.getfield 71, 3) := by decide +kernel
theorem dX0_checkMember_121 : decode cX0_checkMember 121 = .ok (.iconst 5, 1) := by decide +kernel
theorem dX0_checkMember_122 : decode cX0_checkMember 122 = .ok (.if_icmp .ne 20, 3) := by decide +kernel
theorem dX0_checkMember_125 : decode cX0_checkMember 125 = .ok (.aload_n 0, 1) := by decide +kernel
theorem dX0_checkMember_126 : decode cX0_checkMember 126 = .ok (.getfield 21, 3) := by decide +kernel
theorem dX0_checkMember_129 : decode cX0_checkMember 129 = .ok (.iload_n 2, 1) := by decide +kernel
theorem dX0_checkMember_130 : decode cX0_checkMember 130 = .ok (.invokevirtual 162, 3) := by decide +kernel
theorem dX0_checkMember_133 : decode cX0_checkMember 133 = .ok (.ifCond .eq 9, 3) := by decide +kernel
theorem dX0_checkMember_136 : decode cX0_checkMember 136 = .ok (.sipush 464, 3) := by decide +kernel
theorem dX0_checkMember_139 : decode cX0_checkMember 139 = .ok (.iload_n 2, 1) := by decide +kernel
theorem dX0_checkMember_140 : decode cX0_checkMember 140 = .ok (.iadd, 1) := by decide +kernel
theorem dX0_checkMember_141 : decode cX0_checkMember 141 = .ok (.ireturn, 1) := by decide +kernel
theorem dX0_checkMember_142 : decode cX0_checkMember 142 = .ok (.bipush 16, 2) := by decide +kernel
theorem dX0_checkMember_144 : decode cX0_checkMember 144 = .ok (.iload_n 2, 1) := by decide +kernel
theorem dX0_checkMember_145 : decode cX0_checkMember 145 = .ok (.iadd, 1) := by decide +kernel
theorem dX0_checkMember_146 : decode cX0_checkMember 146 = .ok (.ireturn, 1) := by decide +kernel
set_option maxRecDepth 20000 in
theorem ggX0_isAccessible_X2_ownerOf : GoodIn wsX0_isAccessible wsX2_ownerOf := goodIn_r _ [7, 8, 57, 58, 59, 60, 61, 62] (by decide +kernel) (by decide +kernel)
set_option maxRecDepth 20000 in
theorem gX0_isAccessible_X2_ownerOf : GoodIn wsX0_isAccessible (wsV RX0 178 RX2 yX2_ownerOf wsX2_ownerOf) := goodIn_app (goodIn_of _ (by decide +kernel)) ggX0_isAccessible_X2_ownerOf
set_option maxRecDepth 20000 in
theorem ggX0_isAccessible_X2_accessOf : GoodIn wsX0_isAccessible wsX2_accessOf := goodIn_r _ [12, 13, 57, 58, 59, 60, 61, 62] (by decide +kernel) (by decide +kernel)
set_option maxRecDepth 20000 in
theorem gX0_isAccessible_X2_accessOf : GoodIn wsX0_isAccessible (wsV RX0 96 RX2 yX2_accessOf wsX2_accessOf) := goodIn_app (goodIn_of _ (by decide +kernel)) ggX0_isAccessible_X2_accessOf
set_option maxRecDepth 20000 in
theorem ggX0_isAccessible_X1_isSamePackage : GoodIn wsX0_isAccessible wsX1_isSamePackage := goodIn_r _ [18, 19, 63, 64, 65, 66, 67, 68, 69, 70, 71, 72] (by decide +kernel) (by decide +kernel)
set_option maxRecDepth 20000 in
theorem gX0_isAccessible_X1_isSamePackage : GoodIn wsX0_isAccessible (wsV RX0 184 RX1 yX1_isSamePackage wsX1_isSamePackage) := goodIn_app (goodIn_of _ (by decide +kernel)) ggX0_isAccessible_X1_isSamePackage
set_option maxRecDepth 20000 in
theorem ggX0_isAccessible_X0_isInherited : GoodIn wsX0_isAccessible wsX0_isInherited := goodIn_r _ [24, 2, 1, 3, 4, 5, 6, 7, 8, 25, 26, 27, 17, 28, 29, 30, 31, 32, 33, 34, 35, 36, 37, 38, 39, 40, 41, 42, 54, 55, 56, 57, 58, 59, 60, 61, 62, 63, 64, 65, 66, 67, 68, 69, 70, 71, 72] (by decide +kernel) (by decide +kernel)
set_option maxRecDepth 20000 in
theorem gX0_isAccessible_X0_isInherited : GoodIn wsX0_isAccessible (wsV RX0 187 RX0 yX0_isInherited wsX0_isInherited) := goodIn_app (goodIn_of _ (by decide +kernel)) ggX0_isAccessible_X0_isInherited
set_option maxRecDepth 20000 in
theorem ggX0_isAccessible_X1_nestOf : GoodIn wsX0_isAccessible wsX1_nestOf := goodIn_r _ [46, 47, 48, 49, 50, 17, 51, 52, 30, 31, 32, 53, 15, 16, 18, 19, 63, 64, 65, 66, 67, 68, 69, 70, 71, 72] (by decide +kernel) (by decide +kernel)
set_option maxRecDepth 20000 in
theorem gX0_isAccessible_X1_nestOf : GoodIn wsX0_isAccessible (wsV RX0 190 RX1 yX1_nestOf wsX1_nestOf) := goodIn_app (goodIn_of _ (by decide +kernel)) ggX0_isAccessible_X1_nestOf
theorem dX0_isAccessible_0 : decode cX0_isAccessible 0 = .ok (.aload_n 0, 1) := by decide +kernel
theorem dX0_isAccessible_1 : decode cX0_isAccessible 1 = .ok (.getfield 21, 3) := by decide +kernel
theorem dX0_isAccessible_4 : decode cX0_isAccessible 4 = .ok (.iload_n 1, 1) := by decide +kernel
theorem dX0_isAccessible_5 : decode cX0_isAccessible 5 = .ok (.invokevirtual 178, 3) := by decide +kernel
theorem dX0_isAccessible_8 : decode cX0_isAccessible 8 = .ok (.istore 4, 2) := by decide +kernel
theorem dX0_isAccessible_10 : decode cX0_isAccessible 10 = .ok (.aload_n 0, 1) := by decide +kernel
theorem dX0_isAccessible_11 : decode cX0_isAccessible 11 = .ok (.getfield 21, 3) := by decide +kernel
theorem dX0_isAccessible_14 : decode cX0_isAccessible 14 = .ok (.iload_n 1, 1) := by decide +kernel
theorem dX0_isAccessible_15 : decode cX0_isAccessible 15 = .ok (.invokevirtual 96, 3) := by decide +kernel
theorem dX0_isAccessible_18 : decode cX0_isAccessible 18 = .ok (.tableswitch 68 1 3 #[57, 28, 26], 26) := by decide +kernel
theorem dX0_isAccessible_44 : decode cX0_isAccessible 44 = .ok (.iconst 1, 1) := by decide +kernel
theorem dX0_isAccessible_45 : decode cX0_isAccessible 45 = .ok (.ireturn, 1) := by decide +kernel
theorem dX0_isAccessible_46 : decode cX0_isAccessible 46 = .ok (.aload_n 0, 1) := by decide +kernel
theorem dX0_isAccessible_47 : decode cX0_isAccessible 47 = .ok (.getfield 12, 3) := by decide +kernel
theorem dX0_isAccessible_50 : decode cX0_isAccessible 50 = .ok (.iload 4, 2) := by decide +kernel
theorem dX0_isAccessible_52 : decode cX0_isAccessible 52 = .ok (.iload_n 3, 1) := by decide +kernel
theorem dX0_isAccessible_53 : decode cX0_isAccessible 53 = .ok (.invokevirtual 184, 3) := by decide +kernel
theorem dX0_isAccessible_56 : decode cX0_isAccessible 56 = .ok (.ifCond .ne 13, 3) := by decide +kernel
theorem dX0_isAccessible_59 : decode cX0_isAccessible 59 = .ok (.aload_n 0, 1) := by decide +kernel
theorem dX0_isAccessible_60 : decode cX0_isAccessible 60 = .ok (.iload_n 1, 1) := by decide +kernel
theorem dX0_isAccessible_61 : decode cX0_isAccessible 61 = .ok (.iload_n 2, 1) := by decide +kernel
theorem dX0_isAccessible_62 : decode cX0_isAccessible 62 = .ok (.iload_n 3, 1) := by decide +kernel
theorem dX0_isAccessible_63 : decode cX0_isAccessible 63 = .ok (.invokevirtual 187, 3) := by decide +kernel
theorem dX0_isAccessible_66 : decode cX0_isAccessible 66 = .ok (.ifCond .eq 7, 3) := by decide +kernel
theorem dX0_isAccessible_69 : decode cX0_isAccessible 69 = .ok (.iconst 1, 1) := by decide +kernel
theorem dX0_isAccessible_70 : decode cX0_isAccessible 70 = .ok (.goto 4, 3) := by decide +kernel
theorem dX0_isAccessible_73 : decode cX0_isAccessible 73 = .ok (.iconst 0, 1) := by decide +kernel
theorem dX0_isAccessible_74 : decode cX0_isAccessible 74 = .ok (.ireturn, 1) := by decide +kernel
theorem dX0_isAccessible_75 : decode cX0_isAccessible 75 = .ok (.aload_n 0, 1) := by decide +kernel
theorem dX0_isAccessible_76 : decode cX0_isAccessible 76 = .ok (.getfield 12, 3) := by decide +kernel
theorem dX0_isAccessible_79 : decode cX0_isAccessible 79 = .ok (.iload 4, 2) := by decide +kernel
theorem dX0_isAccessible_81 : decode cX0_isAccessible 81 = .ok (.iload_n 3, 1) := by decide +kernel
theorem dX0_isAccessible_82 : decode cX0_isAccessible 82 = .ok (.invokevirtual 184, 3) := by decide +kernel
theorem dX0_isAccessible_85 : decode cX0_isAccessible 85 = .ok (.ireturn, 1) := by decide +kernel
theorem dX0_isAccessible_86 : decode cX0_isAccessible 86 = .ok (.aload_n 0, 1) := by decide +kernel
theorem dX0_isAccessible_87 : decode cX0_isAccessible 87 = .ok (.getfield 12, 3) := by decide +kernel
theorem dX0_isAccessible_90 : decode cX0_isAccessible 90 = .ok (.iload 4, 2) := by decide +kernel
theorem dX0_isAccessible_92 : decode cX0_isAccessible 92 = .ok (.invokevirtual 190, 3) := by decide +kernel
theorem dX0_isAccessible_95 : decode cX0_isAccessible 95 = .ok (.aload_n 0, 1) := by decide +kernel
theorem dX0_isAccessible_96 : decode cX0_isAccessible 96 = .ok (.getfield 12, 3) := by decide +kernel
theorem dX0_isAccessible_99 : decode cX0_isAccessible 99 = .ok (.iload_n 3, 1) := by decide +kernel
theorem dX0_isAccessible_100 : decode cX0_isAccessible 100 = .ok (.invokevirtual 190, 3) := by decide +kernel
theorem dX0_isAccessible_103 : decode cX0_isAccessible 103 = .ok (.if_icmp .ne 7, 3) := by decide +kernel
theorem dX0_isAccessible_106 : decode cX0_isAccessible 106 = .ok (.iconst 1, 1) := by decide +kernel
theorem dX0_isAccessible_107 : decode cX0_isAccessible 107 = .ok (.goto 4, 3) := by decide +kernel
theorem dX0_isAccessible_110 : decode cX0_isAccessible 110 = .ok (.iconst 0, 1) := by decide +kernel
theorem dX0_isAccessible_111 : decode cX0_isAccessible 111 = .ok (.ireturn, 1) := by decide +kernel
set_option maxRecDepth 20000 in
theorem ggX0_isInherited_X2_ownerOf : GoodIn wsX0_isInherited wsX2_ownerOf := goodIn_r _ [7, 8, 31, 32, 33, 34, 35, 36] (by decide +kernel) (by decide +kernel)
set_option maxRecDepth 20000 in
theorem gX0_isInherited_X2_ownerOf : GoodIn wsX0_isInherited (wsV RX0 178 RX2 yX2_ownerOf wsX2_ownerOf) := goodIn_app (goodIn_of _ (by decide +kernel)) ggX0_isInherited_X2_ownerOf
set_option maxRecDepth 20000 in
theorem ggX0_isInherited_X1_hasAbove : GoodIn wsX0_isInherited wsX1_hasAbove := goodIn_r _ [13, 14, 15, 16, 17, 37, 38, 39, 40, 41, 42, 43, 44, 45, 46] (by decide +kernel) (by decide +kernel)
set_option maxRecDepth 20000 in
theorem gX0_isInherited_X1_hasAbove : GoodIn wsX0_isInherited (wsV RX0 193 RX1 yX1_hasAbove wsX1_hasAbove) := goodIn_app (goodIn_of _ (by decide +kernel)) ggX0_isInherited_X1_hasAbove
set_option maxRecDepth 20000 in
theorem ggX0_isInherited_X2_isStatic : GoodIn wsX0_isInherited wsX2_isStatic := goodIn_r _ [21, 22, 31, 32, 33, 34, 35, 36] (by decide +kernel) (by decide +kernel)
set_option maxRecDepth 20000 in
theorem gX0_isInherited_X2_isStatic : GoodIn wsX0_isInherited (wsV RX0 139 RX2 yX2_isStatic wsX2_isStatic) := goodIn_app (goodIn_of _ (by decide +kernel)) ggX0_isInherited_X2_isStatic
set_option maxRecDepth 20000 in
theorem ggX0_isInherited_X1_liesUnder : GoodIn wsX0_isInherited wsX1_liesUnder := goodIn_r _ [26, 14, 27, 15, 16, 17, 37, 38, 39, 40, 41, 42, 43, 44, 45, 46] (by decide +kernel) (by decide +kernel)
set_option maxRecDepth 20000 in
theorem gX0_isInherited_X1_liesUnder : GoodIn wsX0_isInherited (wsV RX0 181 RX1 yX1_liesUnder wsX1_liesUnder) := goodIn_app (goodIn_of _ (by decide +kernel)) ggX0_isInherited_X1_liesUnder
theorem dX0_isInherited_0 : decode cX0_isInherited 0 = .ok (.aload_n 0, 1) := by decide +kernel
theorem dX0_isInherited_1 : decode cX0_isInherited 1 = .ok (.getfield 12, 3) := by decide +kernel
theorem dX0_isInherited_4 : decode cX0_isInherited 4 = .ok (.iload_n 3, 1) := by decide +kernel
theorem dX0_isInherited_5 : decode cX0_isInherited 5 = .ok (.aload_n 0, 1) := by decide +kernel
theorem dX0_isInherited_6 : decode cX0_isInherited 6 = .ok (.getfield 21, 3) := by decide +kernel
theorem dX0_isInherited_9 : decode cX0_isInherited 9 = .ok (.iload_n 1, 1) := by decide +kernel
theorem dX0_isInherited_10 : decode cX0_isInherited 10 = .ok (.invokevirtual 178, 3) := by decide +kernel
theorem dX0_isInherited_13 : decode cX0_isInherited 13 = .ok (.invokevirtual 193, 3) := by decide +kernel
theorem dX0_isInherited_16 : decode cX0_isInherited 16 = .ok (.ifCond .eq 42, 3) := by decide +kernel
theorem dX0_isInherited_19 : decode cX0_isInherited 19 = .ok (.aload_n 0, 1) := by decide +kernel
theorem dX0_isInherited_20 : decode cX0_isInherited 20 = .ok (.getfield 21, 3) := by decide +kernel
theorem dX0_isInherited_23 : decode cX0_isInherited 23 = .ok (.iload_n 1, 1) := by decide +kernel
theorem dX0_isInherited_24 : decode cX0_isInherited 24 = .ok (.invokevirtual 139, 3) := by decide +kernel
theorem dX0_isInherited_27 : decode cX0_isInherited 27 = .ok (.ifCond .ne 27, 3) := by decide +kernel
theorem dX0_isInherited_30 : decode cX0_isInherited 30 = .ok (.aload_n 0, 1) := by decide +kernel
theorem dX0_isInherited_31 : decode cX0_isInherited 31 = .ok (.getfield 12, 3) := by decide +kernel
theorem dX0_isInherited_34 : decode cX0_isInherited 34 = .ok (.iload_n 2, 1) := by decide +kernel
theorem dX0_isInherited_35 : decode cX0_isInherited 35 = .ok (.iload_n 3, 1) := by decide +kernel
theorem dX0_isInherited_36 : decode cX0_isInherited 36 = .ok (.invokevirtual 181, 3) := by decide +kernel
theorem dX0_isInherited_39 : decode cX0_isInherited 39 = .ok (.ifCond .ne 15, 3) := by decide +kernel
theorem dX0_isInherited_42 : decode cX0_isInherited 42 = .ok (.aload_n 0, 1) := by decide +kernel
theorem dX0_isInherited_43 : decode cX0_isInherited 43 = .ok (.getfield 12, 3) := by decide +kernel
theorem dX0_isInherited_46 : decode cX0_isInherited 46 = .ok (.iload_n 3, 1) := by decide +kernel
theorem dX0_isInherited_47 : decode cX0_isInherited 47 = .ok (.iload_n 2, 1) := by decide +kernel
theorem dX0_isInherited_48 : decode cX0_isInherited 48 = .ok (.invokevirtual 181, 3) := by decide +kernel
theorem dX0_isInherited_51 : decode cX0_isInherited 51 = .ok (.ifCond .eq 7, 3) := by decide +kernel
theorem dX0_isInherited_54 : decode cX0_isInherited 54 = .ok (.iconst 1, 1) := by decide +kernel
theorem dX0_isInherited_55 : decode cX0_isInherited 55 = .ok (.goto 4, 3) := by decide +kernel
theorem dX0_isInherited_58 : decode cX0_isInherited 58 = .ok (.iconst 0, 1) := by decide +kernel
theorem dX0_isInherited_59 : decode cX0_isInherited 59 = .ok (.ireturn, 1) := by decide +kernel
set_option maxRecDepth 20000 in
theorem ggX0_isFit_X1_loading : GoodIn wsX0_isFit wsX1_loading := goodIn_r _ [6, 7, 30, 31, 32, 33, 34, 35, 36, 37, 38, 39] (by decide +kernel) (by decide +kernel)
set_option maxRecDepth 20000 in
theorem gX0_isFit_X1_loading : GoodIn wsX0_isFit (wsV RX0 57 RX1 yX1_loading wsX1_loading) := goodIn_app (goodIn_of _ (by decide +kernel)) ggX0_isFit_X1_loading
set_option maxRecDepth 20000 in
theorem ggX0_isFit_X4_isGood : GoodIn wsX0_isFit wsX4_isGood := goodIn_r _ [10, 11, 12, 9, 13] (by decide +kernel) (by decide +kernel)
set_option maxRecDepth 20000 in
theorem gX0_isFit_X4_isGood_n61 : GoodIn wsX0_isFit (wsX4_isGood) := ggX0_isFit_X4_isGood
set_option maxRecDepth 20000 in
theorem ggX0_isFit_X1_canBeMade : GoodIn wsX0_isFit wsX1_canBeMade := goodIn_r _ [17, 18, 30, 31, 32, 33, 34, 35, 36, 37, 38, 39] (by decide +kernel) (by decide +kernel)
set_option maxRecDepth 20000 in
theorem gX0_isFit_X1_canBeMade : GoodIn wsX0_isFit (wsV RX0 196 RX1 yX1_canBeMade wsX1_canBeMade) := goodIn_app (goodIn_of _ (by decide +kernel)) ggX0_isFit_X1_canBeMade
set_option maxRecDepth 20000 in
theorem ggX0_isFit_X1_liesUnder : GoodIn wsX0_isFit wsX1_liesUnder := goodIn_r _ [22, 23, 24, 25, 9, 26, 30, 31, 32, 33, 34, 35, 36, 37, 38, 39] (by decide +kernel) (by decide +kernel)
set_option maxRecDepth 20000 in
theorem gX0_isFit_X1_liesUnder : GoodIn wsX0_isFit (wsV RX0 181 RX1 yX1_liesUnder wsX1_liesUnder) := goodIn_app (goodIn_of _ (by decide +kernel)) ggX0_isFit_X1_liesUnder
theorem dX0_isFit_0 : decode cX0_isFit 0 = .ok (.aload_n 0, 1) := by decide +kernel
theorem dX0_isFit_1 : decode cX0_isFit 1 = .ok (.getfield 12, 3) := by decide +kernel
theorem dX0_isFit_4 : decode cX0_isFit 4 = .ok (.iload_n 1, 1) := by decide +kernel
theorem dX0_isFit_5 : decode cX0_isFit 5 = .ok (.invokevirtual 57, 3) := by decide +kernel
theorem dX0_isFit_8 : decode cX0_isFit 8 = .ok (.invokestatic 61, 3) := by decide +kernel
theorem dX0_isFit_11 : decode cX0_isFit 11 = .ok (.ifCond .eq 30, 3) := by decide +kernel
theorem dX0_isFit_14 : decode cX0_isFit 14 = .ok (.aload_n 0, 1) := by decide +kernel
theorem dX0_isFit_15 : decode cX0_isFit 15 = .ok (.getfield 12, 3) := by decide +kernel
theorem dX0_isFit_18 : decode cX0_isFit 18 = .ok (.iload_n 1, 1) := by decide +kernel
theorem dX0_isFit_19 : decode cX0_isFit 19 = .ok (.invokevirtual 196, 3) := by decide +kernel
theorem dX0_isFit_22 : decode cX0_isFit 22 = .ok (.ifCond .eq 19, 3) := by decide +kernel
theorem dX0_isFit_25 : decode cX0_isFit 25 = .ok (.aload_n 0, 1) := by decide +kernel
theorem dX0_isFit_26 : decode cX0_isFit 26 = .ok (.getfield 12, 3) := by decide +kernel
theorem dX0_isFit_29 : decode cX0_isFit 29 = .ok (.iload_n 1, 1) := by decide +kernel
theorem dX0_isFit_30 : decode cX0_isFit 30 = .ok (.iload_n 2, 1) := by decide +kernel
theorem dX0_isFit_31 : decode cX0_isFit 31 = .ok (.invokevirtual 181, 3) := by decide +kernel
theorem dX0_isFit_34 : decode cX0_isFit 34 = .ok (.ifCond .eq 7, 3) := by decide +kernel
theorem dX0_isFit_37 : decode cX0_isFit 37 = .ok (.iconst 1, 1) := by decide +kernel
theorem dX0_isFit_38 : decode cX0_isFit 38 = .ok (.goto 4, 3) := by decide +kernel
theorem dX0_isFit_41 : decode cX0_isFit 41 = .ok (.iconst 0, 1) := by decide +kernel
theorem dX0_isFit_42 : decode cX0_isFit 42 = .ok (.ireturn, 1) := by decide +kernel
set_option maxRecDepth 20000 in
theorem ggX0_selectFor_X2_find : GoodIn wsX0_selectFor wsX2_find := goodIn_r _ [7, 8, 9, 10, 11, 12, 13, 6, 14, 15, 16, 17, 79, 80, 81, 82, 83, 84] (by decide +kernel) (by decide +kernel)
set_option maxRecDepth 20000 in
theorem gX0_selectFor_X2_find : GoodIn wsX0_selectFor (wsV RX0 36 RX2 yX2_find wsX2_find) := goodIn_app (goodIn_of _ (by decide +kernel)) ggX0_selectFor_X2_find
set_option maxRecDepth 20000 in
theorem ggX0_selectFor_X0_overrides : GoodIn wsX0_selectFor wsX0_overrides := goodIn_r _ [22, 1, 2, 23, 24, 25, 6, 26, 27, 28, 29, 30, 31, 32, 33, 34, 35, 36, 10, 37, 38, 39, 40, 41, 42, 76, 77, 78, 79, 80, 81, 82, 83, 84, 85, 86, 87, 88, 89, 90, 91, 92, 93, 94] (by decide +kernel) (by decide +kernel)
set_option maxRecDepth 20000 in
theorem gX0_selectFor_X0_overrides : GoodIn wsX0_selectFor (wsV RX0 199 RX0 yX0_overrides wsX0_overrides) := goodIn_app (goodIn_of _ (by decide +kernel)) ggX0_selectFor_X0_overrides
set_option maxRecDepth 20000 in
theorem ggX0_selectFor_X1_superOf : GoodIn wsX0_selectFor wsX1_superOf := goodIn_r _ [46, 47, 85, 86, 87, 88, 89, 90, 91, 92, 93, 94] (by decide +kernel) (by decide +kernel)
set_option maxRecDepth 20000 in
theorem gX0_selectFor_X1_superOf : GoodIn wsX0_selectFor (wsV RX0 124 RX1 yX1_superOf wsX1_superOf) := goodIn_app (goodIn_of _ (by decide +kernel)) ggX0_selectFor_X1_superOf
set_option maxRecDepth 20000 in
theorem ggX0_selectFor_X0_selectFromFaces : GoodIn wsX0_selectFor wsX0_selectFromFaces := goodIn_r _ [51, 2, 1, 52, 53, 54, 40, 55, 56, 57, 58, 59, 6, 60, 8, 9, 11, 10, 12, 13, 14, 15, 16, 17, 61, 24, 25, 26, 27, 28, 62, 63, 64, 65, 66, 67, 68, 69, 70, 21, 71, 3, 4, 5, 7, 72, 73, 74, 75, 76, 77, 78, 85, 86, 87, 88, 89, 90, 91, 92, 93, 94, 79, 80, 81, 82, 83, 84] (by decide +kernel) (by decide +kernel)
set_option maxRecDepth 20000 in
theorem gX0_selectFor_X0_selectFromFaces : GoodIn wsX0_selectFor (wsV RX0 202 RX0 yX0_selectFromFaces wsX0_selectFromFaces) := goodIn_app (goodIn_of _ (by decide +kernel)) ggX0_selectFor_X0_selectFromFaces
