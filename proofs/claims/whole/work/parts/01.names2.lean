theorem dX0_init_0 : decode cX0_init 0 = .ok (.aload_n 0, 1) := by decide +kernel
theorem dX0_init_1 : decode cX0_init 1 = .ok (.invokespecial 3, 3) := by decide +kernel
theorem dX0_init_4 : decode cX0_init 4 = .ok (.aload_n 0, 1) := by decide +kernel
theorem dX0_init_5 : decode cX0_init 5 = .ok (.new 9, 3) := by decide +kernel
theorem dX0_init_8 : decode cX0_init 8 = .ok (.dup, 1) := by decide +kernel
theorem dX0_init_9 : decode cX0_init 9 = .ok (.invokespecial 11, 3) := by decide +kernel
theorem dX0_init_12 : decode cX0_init 12 = .ok (.putfield 12, 3) := by decide +kernel
theorem dX0_init_15 : decode cX0_init 15 = .ok (.aload_n 0, 1) := by decide +kernel
theorem dX0_init_16 : decode cX0_init 16 = .ok (.new 18, 3) := by decide +kernel
theorem dX0_init_19 : decode cX0_init 19 = .ok (.dup, 1) := by decide +kernel
theorem dX0_init_20 : decode cX0_init 20 = .ok (.invokespecial 20, 3) := by decide +kernel
theorem dX0_init_23 : decode cX0_init 23 = .ok (.putfield 21, 3) := by decide +kernel
theorem dX0_init_26 : decode cX0_init 26 = .ok (.return_, 1) := by decide +kernel
theorem dX0_discardType_0 : decode cX0_discardType 0 = .ok (.aload_n 0, 1) := by decide +kernel
theorem dX0_discardType_1 : decode cX0_discardType 1 = .ok (.getfield 12, 3) := by decide +kernel
theorem dX0_discardType_4 : decode cX0_discardType 4 = .ok (.iload_n 1, 1) := by decide +kernel
theorem dX0_discardType_5 : decode cX0_discardType 5 = .ok (.invokevirtual 25, 3) := by decide +kernel
theorem dX0_discardType_8 : decode cX0_discardType 8 = .ok (.ifCond .ne 5, 3) := by decide +kernel
theorem dX0_discardType_11 : decode cX0_discardType 11 = .ok (.iconst 0, 1) := by decide +kernel
theorem dX0_discardType_12 : decode cX0_discardType 12 = .ok (.ireturn, 1) := by decide +kernel
theorem dX0_discardType_13 : decode cX0_discardType 13 = .ok (.aload_n 0, 1) := by decide +kernel
theorem dX0_discardType_14 : decode cX0_discardType 14 = .ok (.getfield 21, 3) := by decide +kernel
theorem dX0_discardType_17 : decode cX0_discardType 17 = .ok (.iload_n 1, 1) := by decide +kernel
theorem dX0_discardType_18 : decode cX0_discardType 18 = .ok (.invokevirtual 29, 3) := by decide +kernel
theorem dX0_discardType_21 : decode cX0_discardType 21 = .ok (.iconst 1, 1) := by decide +kernel
theorem dX0_discardType_22 : decode cX0_discardType 22 = .ok (.ireturn, 1) := by decide +kernel
theorem dX0_addMember_0 : decode cX0_addMember 0 = .ok (.aload_n 0, 1) := by decide +kernel
theorem dX0_addMember_1 : decode cX0_addMember 1 = .ok (.getfield 12, 3) := by decide +kernel
theorem dX0_addMember_4 : decode cX0_addMember 4 = .ok (.iload_n 1, 1) := by decide +kernel
theorem dX0_addMember_5 : decode cX0_addMember 5 = .ok (.invokevirtual 33, 3) := by decide +kernel
theorem dX0_addMember_8 : decode cX0_addMember 8 = .ok (.ifCond .eq 18, 3) := by decide +kernel
theorem dX0_addMember_11 : decode cX0_addMember 11 = .ok (.aload_n 0, 1) := by decide +kernel
theorem dX0_addMember_12 : decode cX0_addMember 12 = .ok (.getfield 21, 3) := by decide +kernel
theorem dX0_addMember_15 : decode cX0_addMember 15 = .ok (.iload_n 1, 1) := by decide +kernel
theorem dX0_addMember_16 : decode cX0_addMember 16 = .ok (.iload_n 2, 1) := by decide +kernel
theorem dX0_addMember_17 : decode cX0_addMember 17 = .ok (.iload_n 3, 1) := by decide +kernel
theorem dX0_addMember_18 : decode cX0_addMember 18 = .ok (.invokevirtual 36, 3) := by decide +kernel
theorem dX0_addMember_21 : decode cX0_addMember 21 = .ok (.bipush (-2), 2) := by decide +kernel
theorem dX0_addMember_23 : decode cX0_addMember 23 = .ok (.if_icmp .eq 5, 3) := by decide +kernel
theorem dX0_addMember_26 : decode cX0_addMember 26 = .ok (.iconst (-1), 1) := by decide +kernel
theorem dX0_addMember_27 : decode cX0_addMember 27 = .ok (.ireturn, 1) := by decide +kernel
theorem dX0_addMember_28 : decode cX0_addMember 28 = .ok (.aload_n 0, 1) := by decide +kernel
theorem dX0_addMember_29 : decode cX0_addMember 29 = .ok (.getfield 21, 3) := by decide +kernel
theorem dX0_addMember_32 : decode cX0_addMember 32 = .ok (.iload_n 1, 1) := by decide +kernel
theorem dX0_addMember_33 : decode cX0_addMember 33 = .ok (.iload_n 2, 1) := by decide +kernel
theorem dX0_addMember_34 : decode cX0_addMember 34 = .ok (.iload_n 3, 1) := by decide +kernel
theorem dX0_addMember_35 : decode cX0_addMember 35 = .ok (.iload 4, 2) := by decide +kernel
theorem dX0_addMember_37 : decode cX0_addMember 37 = .ok (.iload 5, 2) := by decide +kernel
theorem dX0_addMember_39 : decode cX0_addMember 39 = .ok (.invokevirtual 40, 3) := by decide +kernel
theorem dX0_addMember_42 : decode cX0_addMember 42 = .ok (.ireturn, 1) := by decide +kernel
theorem dX0_becomeAs_0 : decode cX0_becomeAs 0 = .ok (.aload_n 0, 1) := by decide +kernel
theorem dX0_becomeAs_1 : decode cX0_becomeAs 1 = .ok (.getfield 12, 3) := by decide +kernel
theorem dX0_becomeAs_4 : decode cX0_becomeAs 4 = .ok (.aload_n 1, 1) := by decide +kernel
theorem dX0_becomeAs_5 : decode cX0_becomeAs 5 = .ok (.getfield 12, 3) := by decide +kernel
theorem dX0_becomeAs_8 : decode cX0_becomeAs 8 = .ok (.invokevirtual 44, 3) := by decide +kernel
theorem dX0_becomeAs_11 : decode cX0_becomeAs 11 = .ok (.aload_n 0, 1) := by decide +kernel
theorem dX0_becomeAs_12 : decode cX0_becomeAs 12 = .ok (.getfield 21, 3) := by decide +kernel
theorem dX0_becomeAs_15 : decode cX0_becomeAs 15 = .ok (.aload_n 1, 1) := by decide +kernel
theorem dX0_becomeAs_16 : decode cX0_becomeAs 16 = .ok (.getfield 21, 3) := by decide +kernel
theorem dX0_becomeAs_19 : decode cX0_becomeAs 19 = .ok (.invokevirtual 48, 3) := by decide +kernel
theorem dX0_becomeAs_22 : decode cX0_becomeAs 22 = .ok (.return_, 1) := by decide +kernel
theorem dX0_resolution_0 : decode cX0_resolution 0 = .ok (.aload_n 0, 1) := by decide +kernel
theorem dX0_resolution_1 : decode cX0_resolution 1 = .ok (.getfield 12, 3) := by decide +kernel
theorem dX0_resolution_4 : decode cX0_resolution 4 = .ok (.aload_n 1, 1) := by decide +kernel
theorem dX0_resolution_5 : decode cX0_resolution 5 = .ok (.getfield 51, 3) := by decide +kernel
theorem dX0_resolution_8 : decode cX0_resolution 8 = .ok (.invokevirtual 57, 3) := by decide +kernel
theorem dX0_resolution_11 : decode cX0_resolution 11 = .ok (.istore_n 2, 1) := by decide +kernel
theorem dX0_resolution_12 : decode cX0_resolution 12 = .ok (.iload_n 2, 1) := by decide +kernel
theorem dX0_resolution_13 : decode cX0_resolution 13 = .ok (.invokestatic 61, 3) := by decide +kernel
theorem dX0_resolution_16 : decode cX0_resolution 16 = .ok (.ifCond .ne 5, 3) := by decide +kernel
theorem dX0_resolution_19 : decode cX0_resolution 19 = .ok (.iload_n 2, 1) := by decide +kernel
theorem dX0_resolution_20 : decode cX0_resolution 20 = .ok (.ireturn, 1) := by decide +kernel
theorem dX0_resolution_21 : decode cX0_resolution 21 = .ok (.aload_n 0, 1) := by decide +kernel
theorem dX0_resolution_22 : decode cX0_resolution 22 = .ok (.getfield 12, 3) := by decide +kernel
theorem dX0_resolution_25 : decode cX0_resolution 25 = .ok (.aload_n 1, 1) := by decide +kernel
theorem dX0_resolution_26 : decode cX0_resolution 26 = .ok (.getfield 64, 3) := by decide +kernel
theorem dX0_resolution_29 : decode cX0_resolution 29 = .ok (.aload_n 1, 1) := by decide +kernel
theorem dX0_resolution_30 : decode cX0_resolution 30 = .ok (.getfield 51, 3) := by decide +kernel
theorem dX0_resolution_33 : decode cX0_resolution 33 = .ok (.invokevirtual 67, 3) := by decide +kernel
theorem dX0_resolution_36 : decode cX0_resolution 36 = .ok (.istore_n 2, 1) := by decide +kernel
theorem dX0_resolution_37 : decode cX0_resolution 37 = .ok (.iload_n 2, 1) := by decide +kernel
theorem dX0_resolution_38 : decode cX0_resolution 38 = .ok (.invokestatic 61, 3) := by decide +kernel
theorem dX0_resolution_41 : decode cX0_resolution 41 = .ok (.ifCond .eq 12, 3) := by decide +kernel
theorem dX0_resolution_44 : decode cX0_resolution 44 = .ok (.aload_n 1, 1) := by decide +kernel
theorem dX0_resolution_45 : decode cX0_resolution 45 = .ok (.getfield 71, 3) := by decide +kernel
theorem dX0_resolution_48 : decode cX0_resolution 48 = .ok (.bipush 8, 2) := by decide +kernel
theorem dX0_resolution_50 : decode cX0_resolution 50 = .ok (.if_icmp .ne 5, 3) := by decide +kernel
theorem dX0_resolution_53 : decode cX0_resolution 53 = .ok (.iload_n 2, 1) := by decide +kernel
theorem dX0_resolution_54 : decode cX0_resolution 54 = .ok (.ireturn, 1) := by decide +kernel
theorem dX0_resolution_55 : decode cX0_resolution 55 = .ok (.aload_n 1, 1) := by decide +kernel
theorem dX0_resolution_56 : decode cX0_resolution 56 = .ok (.invokevirtual 74, 3) := by decide +kernel
theorem dX0_resolution_59 : decode cX0_resolution 59 = .ok (.ifCond .eq 11, 3) := by decide +kernel
theorem dX0_resolution_62 : decode cX0_resolution 62 = .ok (.aload_n 0, 1) := by decide +kernel
theorem dX0_resolution_63 : decode cX0_resolution 63 = .ok (.aload_n 1, 1) := by decide +kernel
theorem dX0_resolution_64 : decode cX0_resolution 64 = .ok (.invokevirtual 78, 3) := by decide +kernel
theorem dX0_resolution_67 : decode cX0_resolution 67 = .ok (.goto 8, 3) := by decide +kernel
theorem dX0_resolution_70 : decode cX0_resolution 70 = .ok (.aload_n 0, 1) := by decide +kernel
theorem dX0_resolution_71 : decode cX0_resolution 71 = .ok (.aload_n 1, 1) := by decide +kernel
theorem dX0_resolution_72 : decode cX0_resolution 72 = .ok (.invokevirtual 82, 3) := by decide +kernel
theorem dX0_resolution_75 : decode cX0_resolution 75 = .ok (.istore_n 2, 1) := by decide +kernel
theorem dX0_resolution_76 : decode cX0_resolution 76 = .ok (.iload_n 2, 1) := by decide +kernel
theorem dX0_resolution_77 : decode cX0_resolution 77 = .ok (.invokestatic 61, 3) := by decide +kernel
theorem dX0_resolution_80 : decode cX0_resolution 80 = .ok (.ifCond .eq 15, 3) := by decide +kernel
theorem dX0_resolution_83 : decode cX0_resolution 83 = .ok (.aload_n 0, 1) := by decide +kernel
theorem dX0_resolution_84 : decode cX0_resolution 84 = .ok (.aload_n 1, 1) := by decide +kernel
theorem dX0_resolution_85 : decode cX0_resolution 85 = .ok (.iload_n 2, 1) := by decide +kernel
theorem dX0_resolution_86 : decode cX0_resolution 86 = .ok (.bipush 16, 2) := by decide +kernel
theorem dX0_resolution_88 : decode cX0_resolution 88 = .ok (.isub, 1) := by decide +kernel
theorem dX0_resolution_89 : decode cX0_resolution 89 = .ok (.invokevirtual 85, 3) := by decide +kernel
theorem dX0_resolution_92 : decode cX0_resolution 92 = .ok (.goto 4, 3) := by decide +kernel
theorem dX0_resolution_95 : decode cX0_resolution 95 = .ok (.iload_n 2, 1) := by decide +kernel
theorem dX0_resolution_96 : decode cX0_resolution 96 = .ok (.ireturn, 1) := by decide +kernel
theorem dX0_selection_0 : decode cX0_selection 0 = .ok (.aload_n 1, 1) := by decide +kernel
theorem dX0_selection_1 : decode cX0_selection 1 = .ok (.invokevirtual 89, 3) := by decide +kernel
theorem dX0_selection_4 : decode cX0_selection 4 = .ok (.ifCond .eq 10, 3) := by decide +kernel
theorem dX0_selection_7 : decode cX0_selection 7 = .ok (.iload_n 2, 1) := by decide +kernel
theorem dX0_selection_8 : decode cX0_selection 8 = .ok (.invokestatic 61, 3) := by decide +kernel
theorem dX0_selection_11 : decode cX0_selection 11 = .ok (.ifCond .ne 6, 3) := by decide +kernel
theorem dX0_selection_14 : decode cX0_selection 14 = .ok (.bipush (-2), 2) := by decide +kernel
theorem dX0_selection_16 : decode cX0_selection 16 = .ok (.ireturn, 1) := by decide +kernel
theorem dX0_selection_17 : decode cX0_selection 17 = .ok (.aload_n 0, 1) := by decide +kernel
theorem dX0_selection_18 : decode cX0_selection 18 = .ok (.iload_n 3, 1) := by decide +kernel
theorem dX0_selection_19 : decode cX0_selection 19 = .ok (.aload_n 1, 1) := by decide +kernel
theorem dX0_selection_20 : decode cX0_selection 20 = .ok (.getfield 64, 3) := by decide +kernel
theorem dX0_selection_23 : decode cX0_selection 23 = .ok (.invokevirtual 92, 3) := by decide +kernel
theorem dX0_selection_26 : decode cX0_selection 26 = .ok (.ifCond .ne 9, 3) := by decide +kernel
theorem dX0_selection_29 : decode cX0_selection 29 = .ok (.sipush 512, 3) := by decide +kernel
theorem dX0_selection_32 : decode cX0_selection 32 = .ok (.iload_n 3, 1) := by decide +kernel
theorem dX0_selection_33 : decode cX0_selection 33 = .ok (.iadd, 1) := by decide +kernel
theorem dX0_selection_34 : decode cX0_selection 34 = .ok (.ireturn, 1) := by decide +kernel
theorem dX0_selection_35 : decode cX0_selection 35 = .ok (.iload_n 2, 1) := by decide +kernel
theorem dX0_selection_36 : decode cX0_selection 36 = .ok (.bipush 16, 2) := by decide +kernel
theorem dX0_selection_38 : decode cX0_selection 38 = .ok (.isub, 1) := by decide +kernel
theorem dX0_selection_39 : decode cX0_selection 39 = .ok (.istore 4, 2) := by decide +kernel
theorem dX0_selection_41 : decode cX0_selection 41 = .ok (.aload_n 0, 1) := by decide +kernel
theorem dX0_selection_42 : decode cX0_selection 42 = .ok (.getfield 21, 3) := by decide +kernel
theorem dX0_selection_45 : decode cX0_selection 45 = .ok (.iload 4, 2) := by decide +kernel
theorem dX0_selection_47 : decode cX0_selection 47 = .ok (.invokevirtual 96, 3) := by decide +kernel
theorem dX0_selection_50 : decode cX0_selection 50 = .ok (.ifCond .ne 7, 3) := by decide +kernel
theorem dX0_selection_53 : decode cX0_selection 53 = .ok (.iload_n 2, 1) := by decide +kernel
theorem dX0_selection_54 : decode cX0_selection 54 = .ok (.goto 14, 3) := by decide +kernel
theorem dX0_selection_57 : decode cX0_selection 57 = .ok (.aload_n 0, 1) := by decide +kernel
theorem dX0_selection_58 : decode cX0_selection 58 = .ok (.iload_n 3, 1) := by decide +kernel
theorem dX0_selection_59 : decode cX0_selection 59 = .ok (.iload 4, 2) := by decide +kernel
theorem dX0_selection_61 : decode cX0_selection 61 = .ok (.aload_n 1, 1) := by decide +kernel
theorem dX0_selection_62 : decode cX0_selection 62 = .ok (.getfield 99, 3) := by decide +kernel
theorem dX0_selection_65 : decode cX0_selection 65 = .ok (.invokevirtual 102, 3) := by decide +kernel
theorem dX0_selection_68 : decode cX0_selection 68 = .ok (.istore 5, 2) := by decide +kernel
theorem dX0_selection_70 : decode cX0_selection 70 = .ok (.iload 5, 2) := by decide +kernel
theorem dX0_selection_72 : decode cX0_selection 72 = .ok (.invokestatic 61, 3) := by decide +kernel
theorem dX0_selection_75 : decode cX0_selection 75 = .ok (.ifCond .eq 16, 3) := by decide +kernel
theorem dX0_selection_78 : decode cX0_selection 78 = .ok (.aload_n 0, 1) := by decide +kernel
theorem dX0_selection_79 : decode cX0_selection 79 = .ok (.aload_n 1, 1) := by decide +kernel
theorem dX0_selection_80 : decode cX0_selection 80 = .ok (.iload 5, 2) := by decide +kernel
theorem dX0_selection_82 : decode cX0_selection 82 = .ok (.bipush 16, 2) := by decide +kernel
theorem dX0_selection_84 : decode cX0_selection 84 = .ok (.isub, 1) := by decide +kernel
theorem dX0_selection_85 : decode cX0_selection 85 = .ok (.invokevirtual 106, 3) := by decide +kernel
theorem dX0_selection_88 : decode cX0_selection 88 = .ok (.goto 5, 3) := by decide +kernel
theorem dX0_selection_91 : decode cX0_selection 91 = .ok (.iload 5, 2) := by decide +kernel
theorem dX0_selection_93 : decode cX0_selection 93 = .ok (.ireturn, 1) := by decide +kernel
theorem dX0_lookUpField_0 : decode cX0_lookUpField 0 = .ok (.aload_n 0, 1) := by decide +kernel
theorem dX0_lookUpField_1 : decode cX0_lookUpField 1 = .ok (.iconst 0, 1) := by decide +kernel
theorem dX0_lookUpField_2 : decode cX0_lookUpField 2 = .ok (.putfield 109, 3) := by decide +kernel
theorem dX0_lookUpField_5 : decode cX0_lookUpField 5 = .ok (.aload_n 0, 1) := by decide +kernel
theorem dX0_lookUpField_6 : decode cX0_lookUpField 6 = .ok (.aload_n 1, 1) := by decide +kernel
theorem dX0_lookUpField_7 : decode cX0_lookUpField 7 = .ok (.getfield 64, 3) := by decide +kernel
theorem dX0_lookUpField_10 : decode cX0_lookUpField 10 = .ok (.aload_n 1, 1) := by decide +kernel
theorem dX0_lookUpField_11 : decode cX0_lookUpField 11 = .ok (.getfield 99, 3) := by decide +kernel
theorem dX0_lookUpField_14 : decode cX0_lookUpField 14 = .ok (.invokevirtual 112, 3) := by decide +kernel
theorem dX0_lookUpField_17 : decode cX0_lookUpField 17 = .ok (.istore_n 2, 1) := by decide +kernel
theorem dX0_lookUpField_18 : decode cX0_lookUpField 18 = .ok (.iload_n 2, 1) := by decide +kernel
theorem dX0_lookUpField_19 : decode cX0_lookUpField 19 = .ok (.bipush (-2), 2) := by decide +kernel
theorem dX0_lookUpField_21 : decode cX0_lookUpField 21 = .ok (.if_icmp .ne 14, 3) := by decide +kernel
theorem dX0_lookUpField_24 : decode cX0_lookUpField 24 = .ok (.sipush 320, 3) := by decide +kernel
theorem dX0_lookUpField_27 : decode cX0_lookUpField 27 = .ok (.aload_n 1, 1) := by decide +kernel
theorem dX0_lookUpField_28 : decode cX0_lookUpField 28 = .ok (.getfield 64, 3) := by decide +kernel
theorem dX0_lookUpField_31 : decode cX0_lookUpField 31 = .ok (.iadd, 1) := by decide +kernel
theorem dX0_lookUpField_32 : decode cX0_lookUpField 32 = .ok (.goto 7, 3) := by decide +kernel
theorem dX0_lookUpField_35 : decode cX0_lookUpField 35 = .ok (.bipush 16, 2) := by decide +kernel
theorem dX0_lookUpField_37 : decode cX0_lookUpField 37 = .ok (.iload_n 2, 1) := by decide +kernel
theorem dX0_lookUpField_38 : decode cX0_lookUpField 38 = .ok (.iadd, 1) := by decide +kernel
theorem dX0_lookUpField_39 : decode cX0_lookUpField 39 = .ok (.ireturn, 1) := by decide +kernel
theorem dX0_findField_0 : decode cX0_findField 0 = .ok (.aload_n 0, 1) := by decide +kernel
theorem dX0_findField_1 : decode cX0_findField 1 = .ok (.getfield 109, 3) := by decide +kernel
theorem dX0_findField_4 : decode cX0_findField 4 = .ok (.iload_n 1, 1) := by decide +kernel
theorem dX0_findField_5 : decode cX0_findField 5 = .ok (.invokestatic 115, 3) := by decide +kernel
theorem dX0_findField_8 : decode cX0_findField 8 = .ok (.ifCond .eq 6, 3) := by decide +kernel
theorem dX0_findField_11 : decode cX0_findField 11 = .ok (.bipush (-2), 2) := by decide +kernel
theorem dX0_findField_13 : decode cX0_findField 13 = .ok (.ireturn, 1) := by decide +kernel
theorem dX0_findField_14 : decode cX0_findField 14 = .ok (.aload_n 0, 1) := by decide +kernel
theorem dX0_findField_15 : decode cX0_findField 15 = .ok (.dup, 1) := by decide +kernel
theorem dX0_findField_16 : decode cX0_findField 16 = .ok (.getfield 109, 3) := by decide +kernel
theorem dX0_findField_19 : decode cX0_findField 19 = .ok (.iload_n 1, 1) := by decide +kernel
theorem dX0_findField_20 : decode cX0_findField 20 = .ok (.invokestatic 118, 3) := by decide +kernel
theorem dX0_findField_23 : decode cX0_findField 23 = .ok (.ior, 1) := by decide +kernel
theorem dX0_findField_24 : decode cX0_findField 24 = .ok (.putfield 109, 3) := by decide +kernel
theorem dX0_findField_27 : decode cX0_findField 27 = .ok (.aload_n 0, 1) := by decide +kernel
theorem dX0_findField_28 : decode cX0_findField 28 = .ok (.getfield 21, 3) := by decide +kernel
theorem dX0_findField_31 : decode cX0_findField 31 = .ok (.iload_n 1, 1) := by decide +kernel
theorem dX0_findField_32 : decode cX0_findField 32 = .ok (.iconst 0, 1) := by decide +kernel
theorem dX0_findField_33 : decode cX0_findField 33 = .ok (.iload_n 2, 1) := by decide +kernel
theorem dX0_findField_34 : decode cX0_findField 34 = .ok (.invokevirtual 36, 3) := by decide +kernel
theorem dX0_findField_37 : decode cX0_findField 37 = .ok (.istore_n 3, 1) := by decide +kernel
theorem dX0_findField_38 : decode cX0_findField 38 = .ok (.iconst 0, 1) := by decide +kernel
theorem dX0_findField_39 : decode cX0_findField 39 = .ok (.istore 4, 2) := by decide +kernel
theorem dX0_findField_41 : decode cX0_findField 41 = .ok (.iload 4, 2) := by decide +kernel
theorem dX0_findField_43 : decode cX0_findField 43 = .ok (.bipush 12, 2) := by decide +kernel
theorem dX0_findField_45 : decode cX0_findField 45 = .ok (.if_icmp .ge 39, 3) := by decide +kernel
theorem dX0_findField_48 : decode cX0_findField 48 = .ok (.iload_n 3, 1) := by decide +kernel
theorem dX0_findField_49 : decode cX0_findField 49 = .ok (.bipush (-2), 2) := by decide +kernel
theorem dX0_findField_51 : decode cX0_findField 51 = .ok (.if_icmp .ne 33, 3) := by decide +kernel
theorem dX0_findField_54 : decode cX0_findField 54 = .ok (.aload_n 0, 1) := by decide +kernel
theorem dX0_findField_55 : decode cX0_findField 55 = .ok (.getfield 12, 3) := by decide +kernel
theorem dX0_findField_58 : decode cX0_findField 58 = .ok (.iload_n 1, 1) := by decide +kernel
theorem dX0_findField_59 : decode cX0_findField 59 = .ok (.invokevirtual 121, 3) := by decide +kernel
theorem dX0_findField_62 : decode cX0_findField 62 = .ok (.iload 4, 2) := by decide +kernel
theorem dX0_findField_64 : decode cX0_findField 64 = .ok (.invokestatic 115, 3) := by decide +kernel
theorem dX0_findField_67 : decode cX0_findField 67 = .ok (.ifCond .eq 11, 3) := by decide +kernel
theorem dX0_findField_70 : decode cX0_findField 70 = .ok (.aload_n 0, 1) := by decide +kernel
theorem dX0_findField_71 : decode cX0_findField 71 = .ok (.iload 4, 2) := by decide +kernel
theorem dX0_findField_73 : decode cX0_findField 73 = .ok (.iload_n 2, 1) := by decide +kernel
theorem dX0_findField_74 : decode cX0_findField 74 = .ok (.invokevirtual 112, 3) := by decide +kernel
theorem dX0_findField_77 : decode cX0_findField 77 = .ok (.istore_n 3, 1) := by decide +kernel
theorem dX0_findField_78 : decode cX0_findField 78 = .ok (.iinc 4 1, 3) := by decide +kernel
theorem dX0_findField_81 : decode cX0_findField 81 = .ok (.goto (-40), 3) := by decide +kernel
theorem dX0_findField_84 : decode cX0_findField 84 = .ok (.iload_n 3, 1) := by decide +kernel
theorem dX0_findField_85 : decode cX0_findField 85 = .ok (.bipush (-2), 2) := by decide +kernel
theorem dX0_findField_87 : decode cX0_findField 87 = .ok (.if_icmp .ne 21, 3) := by decide +kernel
theorem dX0_findField_90 : decode cX0_findField 90 = .ok (.iload_n 1, 1) := by decide +kernel
theorem dX0_findField_91 : decode cX0_findField 91 = .ok (.ifCond .eq 17, 3) := by decide +kernel
theorem dX0_findField_94 : decode cX0_findField 94 = .ok (.aload_n 0, 1) := by decide +kernel
theorem dX0_findField_95 : decode cX0_findField 95 = .ok (.aload_n 0, 1) := by decide +kernel
theorem dX0_findField_96 : decode cX0_findField 96 = .ok (.getfield 12, 3) := by decide +kernel
theorem dX0_findField_99 : decode cX0_findField 99 = .ok (.iload_n 1, 1) := by decide +kernel
theorem dX0_findField_100 : decode cX0_findField 100 = .ok (.invokevirtual 124, 3) := by decide +kernel
theorem dX0_findField_103 : decode cX0_findField 103 = .ok (.iload_n 2, 1) := by decide +kernel
theorem dX0_findField_104 : decode cX0_findField 104 = .ok (.invokevirtual 112, 3) := by decide +kernel
theorem dX0_findField_107 : decode cX0_findField 107 = .ok (.istore_n 3, 1) := by decide +kernel
theorem dX0_findField_108 : decode cX0_findField 108 = .ok (.iload_n 3, 1) := by decide +kernel
theorem dX0_findField_109 : decode cX0_findField 109 = .ok (.ireturn, 1) := by decide +kernel
theorem dX0_lookUpMethod_0 : decode cX0_lookUpMethod 0 = .ok (.aload_n 0, 1) := by decide +kernel
theorem dX0_lookUpMethod_1 : decode cX0_lookUpMethod 1 = .ok (.getfield 12, 3) := by decide +kernel
theorem dX0_lookUpMethod_4 : decode cX0_lookUpMethod 4 = .ok (.aload_n 1, 1) := by decide +kernel
theorem dX0_lookUpMethod_5 : decode cX0_lookUpMethod 5 = .ok (.getfield 64, 3) := by decide +kernel
theorem dX0_lookUpMethod_8 : decode cX0_lookUpMethod 8 = .ok (.invokevirtual 127, 3) := by decide +kernel
theorem dX0_lookUpMethod_11 : decode cX0_lookUpMethod 11 = .ok (.istore_n 2, 1) := by decide +kernel
theorem dX0_lookUpMethod_12 : decode cX0_lookUpMethod 12 = .ok (.aload_n 1, 1) := by decide +kernel
theorem dX0_lookUpMethod_13 : decode cX0_lookUpMethod 13 = .ok (.getfield 71, 3) := by decide +kernel
theorem dX0_lookUpMethod_16 : decode cX0_lookUpMethod 16 = .ok (.iconst 4, 1) := by decide +kernel
theorem dX0_lookUpMethod_17 : decode cX0_lookUpMethod 17 = .ok (.if_icmp .ne 7, 3) := by decide +kernel
theorem dX0_lookUpMethod_20 : decode cX0_lookUpMethod 20 = .ok (.iload_n 2, 1) := by decide +kernel
theorem dX0_lookUpMethod_21 : decode cX0_lookUpMethod 21 = .ok (.ifCond .ne 16, 3) := by decide +kernel
theorem dX0_lookUpMethod_24 : decode cX0_lookUpMethod 24 = .ok (.aload_n 1, 1) := by decide +kernel
theorem dX0_lookUpMethod_25 : decode cX0_lookUpMethod 25 = .ok (.getfield 71, 3) := by decide +kernel
theorem dX0_lookUpMethod_28 : decode cX0_lookUpMethod 28 = .ok (.bipush 7, 2) := by decide +kernel
theorem dX0_lookUpMethod_30 : decode cX0_lookUpMethod 30 = .ok (.if_icmp .ne 16, 3) := by decide +kernel
theorem dX0_lookUpMethod_33 : decode cX0_lookUpMethod 33 = .ok (.iload_n 2, 1) := by decide +kernel
theorem dX0_lookUpMethod_34 : decode cX0_lookUpMethod 34 = .ok (.ifCond .ne 12, 3) := by decide +kernel
theorem dX0_lookUpMethod_37 : decode cX0_lookUpMethod 37 = .ok (.sipush 192, 3) := by decide +kernel
theorem dX0_lookUpMethod_40 : decode cX0_lookUpMethod 40 = .ok (.aload_n 1, 1) := by decide +kernel
theorem dX0_lookUpMethod_41 : decode cX0_lookUpMethod 41 = .ok (.getfield 64, 3) := by decide +kernel
theorem dX0_lookUpMethod_44 : decode cX0_lookUpMethod 44 = .ok (.iadd, 1) := by decide +kernel
theorem dX0_lookUpMethod_45 : decode cX0_lookUpMethod 45 = .ok (.ireturn, 1) := by decide +kernel
theorem dX0_lookUpMethod_46 : decode cX0_lookUpMethod 46 = .ok (.iload_n 2, 1) := by decide +kernel
theorem dX0_lookUpMethod_47 : decode cX0_lookUpMethod 47 = .ok (.ifCond .eq 18, 3) := by decide +kernel
theorem dX0_lookUpMethod_50 : decode cX0_lookUpMethod 50 = .ok (.aload_n 0, 1) := by decide +kernel
theorem dX0_lookUpMethod_51 : decode cX0_lookUpMethod 51 = .ok (.aload_n 1, 1) := by decide +kernel
theorem dX0_lookUpMethod_52 : decode cX0_lookUpMethod 52 = .ok (.getfield 64, 3) := by decide +kernel
theorem dX0_lookUpMethod_55 : decode cX0_lookUpMethod 55 = .ok (.aload_n 1, 1) := by decide +kernel
theorem dX0_lookUpMethod_56 : decode cX0_lookUpMethod 56 = .ok (.getfield 99, 3) := by decide +kernel
theorem dX0_lookUpMethod_59 : decode cX0_lookUpMethod 59 = .ok (.invokevirtual 130, 3) := by decide +kernel
theorem dX0_lookUpMethod_62 : decode cX0_lookUpMethod 62 = .ok (.goto 15, 3) := by decide +kernel
theorem dX0_lookUpMethod_65 : decode cX0_lookUpMethod 65 = .ok (.aload_n 0, 1) := by decide +kernel
theorem dX0_lookUpMethod_66 : decode cX0_lookUpMethod 66 = .ok (.aload_n 1, 1) := by decide +kernel
theorem dX0_lookUpMethod_67 : decode cX0_lookUpMethod 67 = .ok (.getfield 64, 3) := by decide +kernel
theorem dX0_lookUpMethod_70 : decode cX0_lookUpMethod 70 = .ok (.aload_n 1, 1) := by decide +kernel
theorem dX0_lookUpMethod_71 : decode cX0_lookUpMethod 71 = .ok (.getfield 99, 3) := by decide +kernel
theorem dX0_lookUpMethod_74 : decode cX0_lookUpMethod 74 = .ok (.invokevirtual 133, 3) := by decide +kernel
theorem dX0_lookUpMethod_77 : decode cX0_lookUpMethod 77 = .ok (.istore_n 3, 1) := by decide +kernel
theorem dX0_lookUpMethod_78 : decode cX0_lookUpMethod 78 = .ok (.iload_n 3, 1) := by decide +kernel
theorem dX0_lookUpMethod_79 : decode cX0_lookUpMethod 79 = .ok (.bipush (-2), 2) := by decide +kernel
theorem dX0_lookUpMethod_81 : decode cX0_lookUpMethod 81 = .ok (.if_icmp .ne 16, 3) := by decide +kernel
theorem dX0_lookUpMethod_84 : decode cX0_lookUpMethod 84 = .ok (.aload_n 0, 1) := by decide +kernel
theorem dX0_lookUpMethod_85 : decode cX0_lookUpMethod 85 = .ok (.aload_n 1, 1) := by decide +kernel
theorem dX0_lookUpMethod_86 : decode cX0_lookUpMethod 86 = .ok (.getfield 64, 3) := by decide +kernel
theorem dX0_lookUpMethod_89 : decode cX0_lookUpMethod 89 = .ok (.aload_n 1, 1) := by decide +kernel
theorem dX0_lookUpMethod_90 : decode cX0_lookUpMethod 90 = .ok (.getfield 99, 3) := by decide +kernel
theorem dX0_lookUpMethod_93 : decode cX0_lookUpMethod 93 = .ok (.invokevirtual 136, 3) := by decide +kernel
theorem dX0_lookUpMethod_96 : decode cX0_lookUpMethod 96 = .ok (.istore_n 3, 1) := by decide +kernel
theorem dX0_lookUpMethod_97 : decode cX0_lookUpMethod 97 = .ok (.iload_n 3, 1) := by decide +kernel
theorem dX0_lookUpMethod_98 : decode cX0_lookUpMethod 98 = .ok (.bipush (-2), 2) := by decide +kernel
theorem dX0_lookUpMethod_100 : decode cX0_lookUpMethod 100 = .ok (.if_icmp .ne 14, 3) := by decide +kernel
theorem dX0_lookUpMethod_103 : decode cX0_lookUpMethod 103 = .ok (.sipush 384, 3) := by decide +kernel
theorem dX0_lookUpMethod_106 : decode cX0_lookUpMethod 106 = .ok (.aload_n 1, 1) := by decide +kernel
theorem dX0_lookUpMethod_107 : decode cX0_lookUpMethod 107 = .ok (.getfield 64, 3) := by decide +kernel
theorem dX0_lookUpMethod_110 : decode cX0_lookUpMethod 110 = .ok (.iadd, 1) := by decide +kernel
theorem dX0_lookUpMethod_111 : decode cX0_lookUpMethod 111 = .ok (.goto 7, 3) := by decide +kernel
theorem dX0_lookUpMethod_114 : decode cX0_lookUpMethod 114 = .ok (.bipush 16, 2) := by decide +kernel
theorem dX0_lookUpMethod_116 : decode cX0_lookUpMethod 116 = .ok (.iload_n 3, 1) := by decide +kernel
theorem dX0_lookUpMethod_117 : decode cX0_lookUpMethod 117 = .ok (.iadd, 1) := by decide +kernel
theorem dX0_lookUpMethod_118 : decode cX0_lookUpMethod 118 = .ok (.ireturn, 1) := by decide +kernel
theorem dX0_findInInterface_0 : decode cX0_findInInterface 0 = .ok (.aload_n 0, 1) := by decide +kernel
theorem dX0_findInInterface_1 : decode cX0_findInInterface 1 = .ok (.getfield 21, 3) := by decide +kernel
theorem dX0_findInInterface_4 : decode cX0_findInInterface 4 = .ok (.iload_n 1, 1) := by decide +kernel
theorem dX0_findInInterface_5 : decode cX0_findInInterface 5 = .ok (.iconst 1, 1) := by decide +kernel
theorem dX0_findInInterface_6 : decode cX0_findInInterface 6 = .ok (.iload_n 2, 1) := by decide +kernel
theorem dX0_findInInterface_7 : decode cX0_findInInterface 7 = .ok (.invokevirtual 36, 3) := by decide +kernel
theorem dX0_findInInterface_10 : decode cX0_findInInterface 10 = .ok (.istore_n 3, 1) := by decide +kernel
theorem dX0_findInInterface_11 : decode cX0_findInInterface 11 = .ok (.iload_n 3, 1) := by decide +kernel
theorem dX0_findInInterface_12 : decode cX0_findInInterface 12 = .ok (.bipush (-2), 2) := by decide +kernel
theorem dX0_findInInterface_14 : decode cX0_findInInterface 14 = .ok (.if_icmp .eq 5, 3) := by decide +kernel
theorem dX0_findInInterface_17 : decode cX0_findInInterface 17 = .ok (.iload_n 3, 1) := by decide +kernel
theorem dX0_findInInterface_18 : decode cX0_findInInterface 18 = .ok (.ireturn, 1) := by decide +kernel
theorem dX0_findInInterface_19 : decode cX0_findInInterface 19 = .ok (.aload_n 0, 1) := by decide +kernel
theorem dX0_findInInterface_20 : decode cX0_findInInterface 20 = .ok (.getfield 21, 3) := by decide +kernel
theorem dX0_findInInterface_23 : decode cX0_findInInterface 23 = .ok (.iconst 0, 1) := by decide +kernel
theorem dX0_findInInterface_24 : decode cX0_findInInterface 24 = .ok (.iconst 1, 1) := by decide +kernel
theorem dX0_findInInterface_25 : decode cX0_findInInterface 25 = .ok (.iload_n 2, 1) := by decide +kernel
theorem dX0_findInInterface_26 : decode cX0_findInInterface 26 = .ok (.invokevirtual 36, 3) := by decide +kernel
theorem dX0_findInInterface_29 : decode cX0_findInInterface 29 = .ok (.istore 4, 2) := by decide +kernel
theorem dX0_findInInterface_31 : decode cX0_findInInterface 31 = .ok (.iload 4, 2) := by decide +kernel
theorem dX0_findInInterface_33 : decode cX0_findInInterface 33 = .ok (.bipush (-2), 2) := by decide +kernel
theorem dX0_findInInterface_35 : decode cX0_findInInterface 35 = .ok (.if_icmp .eq 33, 3) := by decide +kernel
theorem dX0_findInInterface_38 : decode cX0_findInInterface 38 = .ok (.aload_n 0, 1) := by decide +kernel
theorem dX0_findInInterface_39 : decode cX0_findInInterface 39 = .ok (.getfield 21, 3) := by decide +kernel
theorem dX0_findInInterface_42 : decode cX0_findInInterface 42 = .ok (.iload 4, 2) := by decide +kernel
theorem dX0_findInInterface_44 : decode cX0_findInInterface 44 = .ok (.invokevirtual 96, 3) := by decide +kernel
theorem dX0_findInInterface_47 : decode cX0_findInInterface 47 = .ok (.iconst 3, 1) := by decide +kernel
theorem dX0_findInInterface_48 : decode cX0_findInInterface 48 = .ok (.if_icmp .ne 20, 3) := by decide +kernel
theorem dX0_findInInterface_51 : decode cX0_findInInterface 51 = .ok (.aload_n 0, 1) := by decide +kernel
theorem dX0_findInInterface_52 : decode cX0_findInInterface 52 = .ok (.getfield 21, 3) := by decide +kernel
theorem dX0_findInInterface_55 : decode cX0_findInInterface 55 = .ok (.iload 4, 2) := by decide +kernel
theorem dX0_findInInterface_57 : decode cX0_findInInterface 57 = .ok (.invokevirtual 139, 3) := by decide +kernel
theorem dX0_findInInterface_60 : decode cX0_findInInterface 60 = .ok (.ifCond .ne 8, 3) := by decide +kernel
theorem dX0_findInInterface_63 : decode cX0_findInInterface 63 = .ok (.iload 4, 2) := by decide +kernel
theorem dX0_findInInterface_65 : decode cX0_findInInterface 65 = .ok (.goto 5, 3) := by decide +kernel
theorem dX0_findInInterface_68 : decode cX0_findInInterface 68 = .ok (.bipush (-2), 2) := by decide +kernel
theorem dX0_findInInterface_70 : decode cX0_findInInterface 70 = .ok (.ireturn, 1) := by decide +kernel
theorem dX0_findInAbove_0 : decode cX0_findInAbove 0 = .ok (.iload_n 1, 1) := by decide +kernel
theorem dX0_findInAbove_1 : decode cX0_findInAbove 1 = .ok (.istore_n 3, 1) := by decide +kernel
theorem dX0_findInAbove_2 : decode cX0_findInAbove 2 = .ok (.iconst 0, 1) := by decide +kernel
theorem dX0_findInAbove_3 : decode cX0_findInAbove 3 = .ok (.istore 4, 2) := by decide +kernel
theorem dX0_findInAbove_5 : decode cX0_findInAbove 5 = .ok (.iload 4, 2) := by decide +kernel
theorem dX0_findInAbove_7 : decode cX0_findInAbove 7 = .ok (.bipush 12, 2) := by decide +kernel
theorem dX0_findInAbove_9 : decode cX0_findInAbove 9 = .ok (.if_icmp .ge 45, 3) := by decide +kernel
theorem dX0_findInAbove_12 : decode cX0_findInAbove 12 = .ok (.iload_n 3, 1) := by decide +kernel
theorem dX0_findInAbove_13 : decode cX0_findInAbove 13 = .ok (.iconst (-1), 1) := by decide +kernel
theorem dX0_findInAbove_14 : decode cX0_findInAbove 14 = .ok (.if_icmp .eq 40, 3) := by decide +kernel
theorem dX0_findInAbove_17 : decode cX0_findInAbove 17 = .ok (.aload_n 0, 1) := by decide +kernel
theorem dX0_findInAbove_18 : decode cX0_findInAbove 18 = .ok (.getfield 21, 3) := by decide +kernel
theorem dX0_findInAbove_21 : decode cX0_findInAbove 21 = .ok (.iload_n 3, 1) := by decide +kernel
theorem dX0_findInAbove_22 : decode cX0_findInAbove 22 = .ok (.iconst 1, 1) := by decide +kernel
theorem dX0_findInAbove_23 : decode cX0_findInAbove 23 = .ok (.iload_n 2, 1) := by decide +kernel
theorem dX0_findInAbove_24 : decode cX0_findInAbove 24 = .ok (.invokevirtual 36, 3) := by decide +kernel
theorem dX0_findInAbove_27 : decode cX0_findInAbove 27 = .ok (.istore 5, 2) := by decide +kernel
theorem dX0_findInAbove_29 : decode cX0_findInAbove 29 = .ok (.iload 5, 2) := by decide +kernel
theorem dX0_findInAbove_31 : decode cX0_findInAbove 31 = .ok (.bipush (-2), 2) := by decide +kernel
theorem dX0_findInAbove_33 : decode cX0_findInAbove 33 = .ok (.if_icmp .eq 6, 3) := by decide +kernel
theorem dX0_findInAbove_36 : decode cX0_findInAbove 36 = .ok (.iload 5, 2) := by decide +kernel
theorem dX0_findInAbove_38 : decode cX0_findInAbove 38 = .ok (.ireturn, 1) := by decide +kernel
theorem dX0_findInAbove_39 : decode cX0_findInAbove 39 = .ok (.aload_n 0, 1) := by decide +kernel
theorem dX0_findInAbove_40 : decode cX0_findInAbove 40 = .ok (.getfield 12, 3) := by decide +kernel
theorem dX0_findInAbove_43 : decode cX0_findInAbove 43 = .ok (.iload_n 3, 1) := by decide +kernel
theorem dX0_findInAbove_44 : decode cX0_findInAbove 44 = .ok (.invokevirtual 124, 3) := by decide +kernel
theorem dX0_findInAbove_47 : decode cX0_findInAbove 47 = .ok (.istore_n 3, 1) := by decide +kernel
theorem dX0_findInAbove_48 : decode cX0_findInAbove 48 = .ok (.iinc 4 1, 3) := by decide +kernel
theorem dX0_findInAbove_51 : decode cX0_findInAbove 51 = .ok (.goto (-46), 3) := by decide +kernel
theorem dX0_findInAbove_54 : decode cX0_findInAbove 54 = .ok (.bipush (-2), 2) := by decide +kernel
theorem dX0_findInAbove_56 : decode cX0_findInAbove 56 = .ok (.ireturn, 1) := by decide +kernel
theorem dX0_findBest_0 : decode cX0_findBest 0 = .ok (.aload_n 0, 1) := by decide +kernel
theorem dX0_findBest_1 : decode cX0_findBest 1 = .ok (.getfield 12, 3) := by decide +kernel
theorem dX0_findBest_4 : decode cX0_findBest 4 = .ok (.iload_n 1, 1) := by decide +kernel
theorem dX0_findBest_5 : decode cX0_findBest 5 = .ok (.invokevirtual 142, 3) := by decide +kernel
theorem dX0_findBest_8 : decode cX0_findBest 8 = .ok (.aload_n 0, 1) := by decide +kernel
theorem dX0_findBest_9 : decode cX0_findBest 9 = .ok (.getfield 21, 3) := by decide +kernel
theorem dX0_findBest_12 : decode cX0_findBest 12 = .ok (.iload_n 2, 1) := by decide +kernel
theorem dX0_findBest_13 : decode cX0_findBest 13 = .ok (.invokevirtual 145, 3) := by decide +kernel
theorem dX0_findBest_16 : decode cX0_findBest 16 = .ok (.iand, 1) := by decide +kernel
theorem dX0_findBest_17 : decode cX0_findBest 17 = .ok (.istore_n 3, 1) := by decide +kernel
theorem dX0_findBest_18 : decode cX0_findBest 18 = .ok (.aload_n 0, 1) := by decide +kernel
theorem dX0_findBest_19 : decode cX0_findBest 19 = .ok (.aload_n 0, 1) := by decide +kernel
theorem dX0_findBest_20 : decode cX0_findBest 20 = .ok (.getfield 12, 3) := by decide +kernel
theorem dX0_findBest_23 : decode cX0_findBest 23 = .ok (.iload_n 3, 1) := by decide +kernel
theorem dX0_findBest_24 : decode cX0_findBest 24 = .ok (.invokevirtual 148, 3) := by decide +kernel
theorem dX0_findBest_27 : decode cX0_findBest 27 = .ok (.iload_n 2, 1) := by decide +kernel
theorem dX0_findBest_28 : decode cX0_findBest 28 = .ok (.invokevirtual 151, 3) := by decide +kernel
theorem dX0_findBest_31 : decode cX0_findBest 31 = .ok (.istore 4, 2) := by decide +kernel
theorem dX0_findBest_33 : decode cX0_findBest 33 = .ok (.iload 4, 2) := by decide +kernel
theorem dX0_findBest_35 : decode cX0_findBest 35 = .ok (.ifCond .lt 8, 3) := by decide +kernel
theorem dX0_findBest_38 : decode cX0_findBest 38 = .ok (.iload 4, 2) := by decide +kernel
theorem dX0_findBest_40 : decode cX0_findBest 40 = .ok (.goto 9, 3) := by decide +kernel
theorem dX0_findBest_43 : decode cX0_findBest 43 = .ok (.aload_n 0, 1) := by decide +kernel
theorem dX0_findBest_44 : decode cX0_findBest 44 = .ok (.iload_n 3, 1) := by decide +kernel
theorem dX0_findBest_45 : decode cX0_findBest 45 = .ok (.iload_n 2, 1) := by decide +kernel
theorem dX0_findBest_46 : decode cX0_findBest 46 = .ok (.invokevirtual 154, 3) := by decide +kernel
theorem dX0_findBest_49 : decode cX0_findBest 49 = .ok (.ireturn, 1) := by decide +kernel
theorem dX0_findLeast_0 : decode cX0_findLeast 0 = .ok (.bipush (-2), 2) := by decide +kernel
theorem dX0_findLeast_2 : decode cX0_findLeast 2 = .ok (.istore_n 3, 1) := by decide +kernel
theorem dX0_findLeast_3 : decode cX0_findLeast 3 = .ok (.iconst 0, 1) := by decide +kernel
theorem dX0_findLeast_4 : decode cX0_findLeast 4 = .ok (.istore 4, 2) := by decide +kernel
theorem dX0_findLeast_6 : decode cX0_findLeast 6 = .ok (.iload 4, 2) := by decide +kernel
theorem dX0_findLeast_8 : decode cX0_findLeast 8 = .ok (.bipush 12, 2) := by decide +kernel
theorem dX0_findLeast_10 : decode cX0_findLeast 10 = .ok (.if_icmp .ge 49, 3) := by decide +kernel
theorem dX0_findLeast_13 : decode cX0_findLeast 13 = .ok (.iload_n 1, 1) := by decide +kernel
theorem dX0_findLeast_14 : decode cX0_findLeast 14 = .ok (.iload 4, 2) := by decide +kernel
theorem dX0_findLeast_16 : decode cX0_findLeast 16 = .ok (.invokestatic 115, 3) := by decide +kernel
theorem dX0_findLeast_19 : decode cX0_findLeast 19 = .ok (.ifCond .eq 34, 3) := by decide +kernel
theorem dX0_findLeast_22 : decode cX0_findLeast 22 = .ok (.aload_n 0, 1) := by decide +kernel
theorem dX0_findLeast_23 : decode cX0_findLeast 23 = .ok (.getfield 21, 3) := by decide +kernel
theorem dX0_findLeast_26 : decode cX0_findLeast 26 = .ok (.iload 4, 2) := by decide +kernel
theorem dX0_findLeast_28 : decode cX0_findLeast 28 = .ok (.iconst 1, 1) := by decide +kernel
theorem dX0_findLeast_29 : decode cX0_findLeast 29 = .ok (.iload_n 2, 1) := by decide +kernel
theorem dX0_findLeast_30 : decode cX0_findLeast 30 = .ok (.invokevirtual 36, 3) := by decide +kernel
theorem dX0_findLeast_33 : decode cX0_findLeast 33 = .ok (.istore 5, 2) := by decide +kernel
theorem dX0_findLeast_35 : decode cX0_findLeast 35 = .ok (.iload_n 3, 1) := by decide +kernel
theorem dX0_findLeast_36 : decode cX0_findLeast 36 = .ok (.bipush (-2), 2) := by decide +kernel
theorem dX0_findLeast_38 : decode cX0_findLeast 38 = .ok (.if_icmp .ne 8, 3) := by decide +kernel
theorem dX0_findLeast_41 : decode cX0_findLeast 41 = .ok (.iload 5, 2) := by decide +kernel
theorem dX0_findLeast_43 : decode cX0_findLeast 43 = .ok (.goto 9, 3) := by decide +kernel
theorem dX0_findLeast_46 : decode cX0_findLeast 46 = .ok (.iload_n 3, 1) := by decide +kernel
theorem dX0_findLeast_47 : decode cX0_findLeast 47 = .ok (.iload 5, 2) := by decide +kernel
theorem dX0_findLeast_49 : decode cX0_findLeast 49 = .ok (.invokestatic 157, 3) := by decide +kernel
theorem dX0_findLeast_52 : decode cX0_findLeast 52 = .ok (.istore_n 3, 1) := by decide +kernel
theorem dX0_findLeast_53 : decode cX0_findLeast 53 = .ok (.iinc 4 1, 3) := by decide +kernel
theorem dX0_findLeast_56 : decode cX0_findLeast 56 = .ok (.goto (-50), 3) := by decide +kernel
theorem dX0_findLeast_59 : decode cX0_findLeast 59 = .ok (.iload_n 3, 1) := by decide +kernel
theorem dX0_findLeast_60 : decode cX0_findLeast 60 = .ok (.ireturn, 1) := by decide +kernel
theorem dX0_findOnlyWithBody_0 : decode cX0_findOnlyWithBody 0 = .ok (.bipush (-2), 2) := by decide +kernel
theorem dX0_findOnlyWithBody_2 : decode cX0_findOnlyWithBody 2 = .ok (.istore_n 3, 1) := by decide +kernel
theorem dX0_findOnlyWithBody_3 : decode cX0_findOnlyWithBody 3 = .ok (.iconst 0, 1) := by decide +kernel
theorem dX0_findOnlyWithBody_4 : decode cX0_findOnlyWithBody 4 = .ok (.istore 4, 2) := by decide +kernel
theorem dX0_findOnlyWithBody_6 : decode cX0_findOnlyWithBody 6 = .ok (.iload 4, 2) := by decide +kernel
theorem dX0_findOnlyWithBody_8 : decode cX0_findOnlyWithBody 8 = .ok (.bipush 12, 2) := by decide +kernel
theorem dX0_findOnlyWithBody_10 : decode cX0_findOnlyWithBody 10 = .ok (.if_icmp .ge 64, 3) := by decide +kernel
theorem dX0_findOnlyWithBody_13 : decode cX0_findOnlyWithBody 13 = .ok (.iload_n 1, 1) := by decide +kernel
theorem dX0_findOnlyWithBody_14 : decode cX0_findOnlyWithBody 14 = .ok (.iload 4, 2) := by decide +kernel
theorem dX0_findOnlyWithBody_16 : decode cX0_findOnlyWithBody 16 = .ok (.invokestatic 115, 3) := by decide +kernel
theorem dX0_findOnlyWithBody_19 : decode cX0_findOnlyWithBody 19 = .ok (.ifCond .eq 49, 3) := by decide +kernel
theorem dX0_findOnlyWithBody_22 : decode cX0_findOnlyWithBody 22 = .ok (.aload_n 0, 1) := by decide +kernel
theorem dX0_findOnlyWithBody_23 : decode cX0_findOnlyWithBody 23 = .ok (.getfield 21, 3) := by decide +kernel
theorem dX0_findOnlyWithBody_26 : decode cX0_findOnlyWithBody 26 = .ok (.iload 4, 2) := by decide +kernel
theorem dX0_findOnlyWithBody_28 : decode cX0_findOnlyWithBody 28 = .ok (.iconst 1, 1) := by decide +kernel
theorem dX0_findOnlyWithBody_29 : decode cX0_findOnlyWithBody 29 = .ok (.iload_n 2, 1) := by decide +kernel
theorem dX0_findOnlyWithBody_30 : decode cX0_findOnlyWithBody 30 = .ok (.invokevirtual 36, 3) := by decide +kernel
theorem dX0_findOnlyWithBody_33 : decode cX0_findOnlyWithBody 33 = .ok (.istore 5, 2) := by decide +kernel
theorem dX0_findOnlyWithBody_35 : decode cX0_findOnlyWithBody 35 = .ok (.iload 5, 2) := by decide +kernel
theorem dX0_findOnlyWithBody_37 : decode cX0_findOnlyWithBody 37 = .ok (.bipush (-2), 2) := by decide +kernel
theorem dX0_findOnlyWithBody_39 : decode cX0_findOnlyWithBody 39 = .ok (.if_icmp .eq 29, 3) := by decide +kernel
theorem dX0_findOnlyWithBody_42 : decode cX0_findOnlyWithBody 42 = .ok (.aload_n 0, 1) := by decide +kernel
theorem dX0_findOnlyWithBody_43 : decode cX0_findOnlyWithBody 43 = .ok (.getfield 21, 3) := by decide +kernel
theorem dX0_findOnlyWithBody_46 : decode cX0_findOnlyWithBody 46 = .ok (.iload 5, 2) := by decide +kernel
theorem dX0_findOnlyWithBody_48 : decode cX0_findOnlyWithBody 48 = .ok (.invokevirtual 162, 3) := by decide +kernel
theorem dX0_findOnlyWithBody_51 : decode cX0_findOnlyWithBody 51 = .ok (.ifCond .ne 17, 3) := by decide +kernel
theorem dX0_findOnlyWithBody_54 : decode cX0_findOnlyWithBody 54 = .ok (.iload_n 3, 1) := by decide +kernel
theorem dX0_findOnlyWithBody_55 : decode cX0_findOnlyWithBody 55 = .ok (.bipush (-2), 2) := by decide +kernel
theorem dX0_findOnlyWithBody_57 : decode cX0_findOnlyWithBody 57 = .ok (.if_icmp .ne 8, 3) := by decide +kernel
theorem dX0_findOnlyWithBody_60 : decode cX0_findOnlyWithBody 60 = .ok (.iload 5, 2) := by decide +kernel
theorem dX0_findOnlyWithBody_62 : decode cX0_findOnlyWithBody 62 = .ok (.goto 5, 3) := by decide +kernel
theorem dX0_findOnlyWithBody_65 : decode cX0_findOnlyWithBody 65 = .ok (.bipush (-4), 2) := by decide +kernel
theorem dX0_findOnlyWithBody_67 : decode cX0_findOnlyWithBody 67 = .ok (.istore_n 3, 1) := by decide +kernel
theorem dX0_findOnlyWithBody_68 : decode cX0_findOnlyWithBody 68 = .ok (.iinc 4 1, 3) := by decide +kernel
theorem dX0_findOnlyWithBody_71 : decode cX0_findOnlyWithBody 71 = .ok (.goto (-65), 3) := by decide +kernel
theorem dX0_findOnlyWithBody_74 : decode cX0_findOnlyWithBody 74 = .ok (.iload_n 3, 1) := by decide +kernel
theorem dX0_findOnlyWithBody_75 : decode cX0_findOnlyWithBody 75 = .ok (.ireturn, 1) := by decide +kernel
theorem dX0_checkMember_0 : decode cX0_checkMember 0 = .ok (.aload_n 0, 1) := by decide +kernel
theorem dX0_checkMember_1 : decode cX0_checkMember 1 = .ok (.iload_n 2, 1) := by decide +kernel
theorem dX0_checkMember_2 : decode cX0_checkMember 2 = .ok (.aload_n 1, 1) := by decide +kernel
theorem dX0_checkMember_3 : decode cX0_checkMember 3 = .ok (.getfield 64, 3) := by decide +kernel
theorem dX0_checkMember_6 : decode cX0_checkMember 6 = .ok (.aload_n 1, 1) := by decide +kernel
theorem dX0_checkMember_7 : decode cX0_checkMember 7 = .ok (.getfield 51, 3) := by decide +kernel
theorem dX0_checkMember_10 : decode cX0_checkMember 10 = .ok (.invokevirtual 165, 3) := by decide +kernel
theorem dX0_checkMember_13 : decode cX0_checkMember 13 = .ok (.ifCond .ne 9, 3) := by decide +kernel
theorem dX0_checkMember_16 : decode cX0_checkMember 16 = .ok (.sipush 272, 3) := by decide +kernel
theorem dX0_checkMember_19 : decode cX0_checkMember 19 = .ok (.iload_n 2, 1) := by decide +kernel
theorem dX0_checkMember_20 : decode cX0_checkMember 20 = .ok (.iadd, 1) := by decide +kernel
theorem dX0_checkMember_21 : decode cX0_checkMember 21 = .ok (.ireturn, 1) := by decide +kernel
theorem dX0_checkMember_22 : decode cX0_checkMember 22 = .ok (.aload_n 0, 1) := by decide +kernel
theorem dX0_checkMember_23 : decode cX0_checkMember 23 = .ok (.getfield 21, 3) := by decide +kernel
theorem dX0_checkMember_26 : decode cX0_checkMember 26 = .ok (.iload_n 2, 1) := by decide +kernel
theorem dX0_checkMember_27 : decode cX0_checkMember 27 = .ok (.invokevirtual 139, 3) := by decide +kernel
theorem dX0_checkMember_30 : decode cX0_checkMember 30 = .ok (.aload_n 1, 1) := by decide +kernel
theorem dX0_checkMember_31 : decode cX0_checkMember 31 = .ok (.invokevirtual 169, 3) := by decide +kernel
theorem dX0_checkMember_34 : decode cX0_checkMember 34 = .ok (.if_icmp .eq 9, 3) := by decide +kernel
theorem dX0_checkMember_37 : decode cX0_checkMember 37 = .ok (.sipush 208, 3) := by decide +kernel
theorem dX0_checkMember_40 : decode cX0_checkMember 40 = .ok (.iload_n 2, 1) := by decide +kernel
theorem dX0_checkMember_41 : decode cX0_checkMember 41 = .ok (.iadd, 1) := by decide +kernel
theorem dX0_checkMember_42 : decode cX0_checkMember 42 = .ok (.ireturn, 1) := by decide +kernel
theorem dX0_checkMember_43 : decode cX0_checkMember 43 = .ok (.aload_n 1, 1) := by decide +kernel
theorem dX0_checkMember_44 : decode cX0_checkMember 44 = .ok (.invokevirtual 172, 3) := by decide +kernel
theorem dX0_checkMember_47 : decode cX0_checkMember 47 = .ok (.ifCond .eq 35, 3) := by decide +kernel
theorem dX0_checkMember_50 : decode cX0_checkMember 50 = .ok (.aload_n 0, 1) := by decide +kernel
theorem dX0_checkMember_51 : decode cX0_checkMember 51 = .ok (.getfield 21, 3) := by decide +kernel
theorem dX0_checkMember_54 : decode cX0_checkMember 54 = .ok (.iload_n 2, 1) := by decide +kernel
theorem dX0_checkMember_55 : decode cX0_checkMember 55 = .ok (.invokevirtual 175, 3) := by decide +kernel
theorem dX0_checkMember_58 : decode cX0_checkMember 58 = .ok (.ifCond .eq 24, 3) := by decide +kernel
theorem dX0_checkMember_61 : decode cX0_checkMember 61 = .ok (.aload_n 0, 1) := by decide +kernel
theorem dX0_checkMember_62 : decode cX0_checkMember 62 = .ok (.getfield 21, 3) := by decide +kernel
theorem dX0_checkMember_65 : decode cX0_checkMember 65 = .ok (.iload_n 2, 1) := by decide +kernel
theorem dX0_checkMember_66 : decode cX0_checkMember 66 = .ok (.invokevirtual 178, 3) := by decide +kernel
theorem dX0_checkMember_69 : decode cX0_checkMember 69 = .ok (.aload_n 1, 1) := by decide +kernel
theorem dX0_checkMember_70 : decode cX0_checkMember 70 = .ok (.getfield 51, 3) := by decide +kernel
theorem dX0_checkMember_73 : decode cX0_checkMember 73 = .ok (.if_icmp .eq 9, 3) := by decide +kernel
theorem dX0_checkMember_76 : decode cX0_checkMember 76 = .ok (.sipush 272, 3) := by decide +kernel
theorem dX0_checkMember_79 : decode cX0_checkMember 79 = .ok (.iload_n 2, 1) := by decide +kernel
theorem dX0_checkMember_80 : decode cX0_checkMember 80 = .ok (.iadd, 1) := by decide +kernel
theorem dX0_checkMember_81 : decode cX0_checkMember 81 = .ok (.ireturn, 1) := by decide +kernel
theorem dX0_checkMember_82 : decode cX0_checkMember 82 = .ok (.aload_n 1, 1) := by decide +kernel
theorem dX0_checkMember_83 : decode cX0_checkMember 83 = .ok (.getfield 71, 3) := by decide +kernel
theorem dX0_checkMember_86 : decode cX0_checkMember 86 = .ok (.iconst 5, 1) := by decide +kernel
theorem dX0_checkMember_87 : decode cX0_checkMember 87 = .ok (.if_icmp .ne 30, 3) := by decide +kernel
theorem dX0_checkMember_90 : decode cX0_checkMember 90 = .ok (.aload_n 0, 1) := by decide +kernel
theorem dX0_checkMember_91 : decode cX0_checkMember 91 = .ok (.getfield 12, 3) := by decide +kernel
theorem dX0_checkMember_94 : decode cX0_checkMember 94 = .ok (.aload_n 1, 1) := by decide +kernel
theorem dX0_checkMember_95 : decode cX0_checkMember 95 = .ok (.getfield 51, 3) := by decide +kernel
theorem dX0_checkMember_98 : decode cX0_checkMember 98 = .ok (.aload_n 1, 1) := by decide +kernel
theorem dX0_checkMember_99 : decode cX0_checkMember 99 = .ok (.getfield 64, 3) := by decide +kernel
theorem dX0_checkMember_102 : decode cX0_checkMember 102 = .ok (.invokevirtual 181, 3) := by decide +kernel
theorem dX0_checkMember_105 : decode cX0_checkMember 105 = .ok (.ifCond .ne 12, 3) := by decide +kernel
theorem dX0_checkMember_108 : decode cX0_checkMember 108 = .ok (.sipush 192, 3) := by decide +kernel
theorem dX0_checkMember_111 : decode cX0_checkMember 111 = .ok (.aload_n 1, 1) := by decide +kernel
theorem dX0_checkMember_112 : decode cX0_checkMember 112 = .ok (.getfield 64, 3) := by decide +kernel
theorem dX0_checkMember_115 : decode cX0_checkMember 115 = .ok (.iadd, 1) := by decide +kernel
theorem dX0_checkMember_116 : decode cX0_checkMember 116 = .ok (.ireturn, 1) := by decide +kernel
theorem dX0_checkMember_117 : decode cX0_checkMember 117 = .ok (.aload_n 1, 1) := by decide +kernel
theorem dX0_checkMember_118 : decode cX0_checkMember 118 = .ok (.getfield 71, 3) := by decide +kernel
theorem dX0_checkMember_121 : decode cX0_checkMember 121 = .ok (.iconst 5, 1) := by decide +kernel
theorem dX0_checkMember_122 : decode cX0_checkMember 122 = .ok (.if_icmp .ne 20, 3) := by decide +kernel
theorem dX0_checkMember_125 : decode cX0_checkMember 125 = .ok (.aload_n 0, 1) := by decide +kernel
theorem dX0_checkMember_126 : decode cX0_checkMember 126 = .ok (.getfield 21, 3) := by decide +kernel
theorem dX0_checkMember_129 : decode cX0_checkMember 129 = .ok (.iload_n 2, 1) := by decide +kernel
theorem dX0_checkMember_130 : decode cX0_checkMember 130 = .ok (.invokevirtual 162, 3) := by decide +kernel
theorem dX0_checkMember_133 : decode cX0_checkMember 133 = .ok (.ifCond .eq 9, 3) := by decide +kernel
theorem dX0_checkMember_136 : decode cX0_checkMember 136 = .ok (.sipush 464, 3) := by decide +kernel
theorem dX0_checkMember_139 : decode cX0_checkMember 139 = .ok (.iload_n 2, 1) := by decide +kernel
theorem dX0_checkMember_140 : decode cX0_checkMember 140 = .ok (.iadd, 1) := by decide +kernel
theorem dX0_checkMember_141 : decode cX0_checkMember 141 = .ok (.ireturn, 1) := by decide +kernel
theorem dX0_checkMember_142 : decode cX0_checkMember 142 = .ok (.bipush 16, 2) := by decide +kernel
theorem dX0_checkMember_144 : decode cX0_checkMember 144 = .ok (.iload_n 2, 1) := by decide +kernel
theorem dX0_checkMember_145 : decode cX0_checkMember 145 = .ok (.iadd, 1) := by decide +kernel
theorem dX0_checkMember_146 : decode cX0_checkMember 146 = .ok (.ireturn, 1) := by decide +kernel
theorem dX0_isAccessible_0 : decode cX0_isAccessible 0 = .ok (.aload_n 0, 1) := by decide +kernel
theorem dX0_isAccessible_1 : decode cX0_isAccessible 1 = .ok (.getfield 21, 3) := by decide +kernel
theorem dX0_isAccessible_4 : decode cX0_isAccessible 4 = .ok (.iload_n 1, 1) := by decide +kernel
theorem dX0_isAccessible_5 : decode cX0_isAccessible 5 = .ok (.invokevirtual 178, 3) := by decide +kernel
theorem dX0_isAccessible_8 : decode cX0_isAccessible 8 = .ok (.istore 4, 2) := by decide +kernel
theorem dX0_isAccessible_10 : decode cX0_isAccessible 10 = .ok (.aload_n 0, 1) := by decide +kernel
theorem dX0_isAccessible_11 : decode cX0_isAccessible 11 = .ok (.getfield 21, 3) := by decide +kernel
theorem dX0_isAccessible_14 : decode cX0_isAccessible 14 = .ok (.iload_n 1, 1) := by decide +kernel
theorem dX0_isAccessible_15 : decode cX0_isAccessible 15 = .ok (.invokevirtual 96, 3) := by decide +kernel
theorem dX0_isAccessible_18 : decode cX0_isAccessible 18 = .ok (.tableswitch 68 1 3 #[57, 28, 26], 26) := by decide +kernel
theorem dX0_isAccessible_44 : decode cX0_isAccessible 44 = .ok (.iconst 1, 1) := by decide +kernel
theorem dX0_isAccessible_45 : decode cX0_isAccessible 45 = .ok (.ireturn, 1) := by decide +kernel
theorem dX0_isAccessible_46 : decode cX0_isAccessible 46 = .ok (.aload_n 0, 1) := by decide +kernel
theorem dX0_isAccessible_47 : decode cX0_isAccessible 47 = .ok (.getfield 12, 3) := by decide +kernel
theorem dX0_isAccessible_50 : decode cX0_isAccessible 50 = .ok (.iload 4, 2) := by decide +kernel
theorem dX0_isAccessible_52 : decode cX0_isAccessible 52 = .ok (.iload_n 3, 1) := by decide +kernel
theorem dX0_isAccessible_53 : decode cX0_isAccessible 53 = .ok (.invokevirtual 184, 3) := by decide +kernel
theorem dX0_isAccessible_56 : decode cX0_isAccessible 56 = .ok (.ifCond .ne 13, 3) := by decide +kernel
theorem dX0_isAccessible_59 : decode cX0_isAccessible 59 = .ok (.aload_n 0, 1) := by decide +kernel
theorem dX0_isAccessible_60 : decode cX0_isAccessible 60 = .ok (.iload_n 1, 1) := by decide +kernel
theorem dX0_isAccessible_61 : decode cX0_isAccessible 61 = .ok (.iload_n 2, 1) := by decide +kernel
theorem dX0_isAccessible_62 : decode cX0_isAccessible 62 = .ok (.iload_n 3, 1) := by decide +kernel
theorem dX0_isAccessible_63 : decode cX0_isAccessible 63 = .ok (.invokevirtual 187, 3) := by decide +kernel
theorem dX0_isAccessible_66 : decode cX0_isAccessible 66 = .ok (.ifCond .eq 7, 3) := by decide +kernel
theorem dX0_isAccessible_69 : decode cX0_isAccessible 69 = .ok (.iconst 1, 1) := by decide +kernel
theorem dX0_isAccessible_70 : decode cX0_isAccessible 70 = .ok (.goto 4, 3) := by decide +kernel
theorem dX0_isAccessible_73 : decode cX0_isAccessible 73 = .ok (.iconst 0, 1) := by decide +kernel
theorem dX0_isAccessible_74 : decode cX0_isAccessible 74 = .ok (.ireturn, 1) := by decide +kernel
theorem dX0_isAccessible_75 : decode cX0_isAccessible 75 = .ok (.aload_n 0, 1) := by decide +kernel
theorem dX0_isAccessible_76 : decode cX0_isAccessible 76 = .ok (.getfield 12, 3) := by decide +kernel
theorem dX0_isAccessible_79 : decode cX0_isAccessible 79 = .ok (.iload 4, 2) := by decide +kernel
theorem dX0_isAccessible_81 : decode cX0_isAccessible 81 = .ok (.iload_n 3, 1) := by decide +kernel
theorem dX0_isAccessible_82 : decode cX0_isAccessible 82 = .ok (.invokevirtual 184, 3) := by decide +kernel
theorem dX0_isAccessible_85 : decode cX0_isAccessible 85 = .ok (.ireturn, 1) := by decide +kernel
theorem dX0_isAccessible_86 : decode cX0_isAccessible 86 = .ok (.aload_n 0, 1) := by decide +kernel
theorem dX0_isAccessible_87 : decode cX0_isAccessible 87 = .ok (.getfield 12, 3) := by decide +kernel
theorem dX0_isAccessible_90 : decode cX0_isAccessible 90 = .ok (.iload 4, 2) := by decide +kernel
theorem dX0_isAccessible_92 : decode cX0_isAccessible 92 = .ok (.invokevirtual 190, 3) := by decide +kernel
theorem dX0_isAccessible_95 : decode cX0_isAccessible 95 = .ok (.aload_n 0, 1) := by decide +kernel
theorem dX0_isAccessible_96 : decode cX0_isAccessible 96 = .ok (.getfield 12, 3) := by decide +kernel
theorem dX0_isAccessible_99 : decode cX0_isAccessible 99 = .ok (.iload_n 3, 1) := by decide +kernel
theorem dX0_isAccessible_100 : decode cX0_isAccessible 100 = .ok (.invokevirtual 190, 3) := by decide +kernel
theorem dX0_isAccessible_103 : decode cX0_isAccessible 103 = .ok (.if_icmp .ne 7, 3) := by decide +kernel
theorem dX0_isAccessible_106 : decode cX0_isAccessible 106 = .ok (.iconst 1, 1) := by decide +kernel
theorem dX0_isAccessible_107 : decode cX0_isAccessible 107 = .ok (.goto 4, 3) := by decide +kernel
theorem dX0_isAccessible_110 : decode cX0_isAccessible 110 = .ok (.iconst 0, 1) := by decide +kernel
theorem dX0_isAccessible_111 : decode cX0_isAccessible 111 = .ok (.ireturn, 1) := by decide +kernel
theorem dX0_isInherited_0 : decode cX0_isInherited 0 = .ok (.aload_n 0, 1) := by decide +kernel
theorem dX0_isInherited_1 : decode cX0_isInherited 1 = .ok (.getfield 12, 3) := by decide +kernel
theorem dX0_isInherited_4 : decode cX0_isInherited 4 = .ok (.iload_n 3, 1) := by decide +kernel
theorem dX0_isInherited_5 : decode cX0_isInherited 5 = .ok (.aload_n 0, 1) := by decide +kernel
theorem dX0_isInherited_6 : decode cX0_isInherited 6 = .ok (.getfield 21, 3) := by decide +kernel
theorem dX0_isInherited_9 : decode cX0_isInherited 9 = .ok (.iload_n 1, 1) := by decide +kernel
theorem dX0_isInherited_10 : decode cX0_isInherited 10 = .ok (.invokevirtual 178, 3) := by decide +kernel
theorem dX0_isInherited_13 : decode cX0_isInherited 13 = .ok (.invokevirtual 193, 3) := by decide +kernel
theorem dX0_isInherited_16 : decode cX0_isInherited 16 = .ok (.ifCond .eq 42, 3) := by decide +kernel
theorem dX0_isInherited_19 : decode cX0_isInherited 19 = .ok (.aload_n 0, 1) := by decide +kernel
theorem dX0_isInherited_20 : decode cX0_isInherited 20 = .ok (.getfield 21, 3) := by decide +kernel
theorem dX0_isInherited_23 : decode cX0_isInherited 23 = .ok (.iload_n 1, 1) := by decide +kernel
theorem dX0_isInherited_24 : decode cX0_isInherited 24 = .ok (.invokevirtual 139, 3) := by decide +kernel
theorem dX0_isInherited_27 : decode cX0_isInherited 27 = .ok (.ifCond .ne 27, 3) := by decide +kernel
theorem dX0_isInherited_30 : decode cX0_isInherited 30 = .ok (.aload_n 0, 1) := by decide +kernel
theorem dX0_isInherited_31 : decode cX0_isInherited 31 = .ok (.getfield 12, 3) := by decide +kernel
theorem dX0_isInherited_34 : decode cX0_isInherited 34 = .ok (.iload_n 2, 1) := by decide +kernel
theorem dX0_isInherited_35 : decode cX0_isInherited 35 = .ok (.iload_n 3, 1) := by decide +kernel
theorem dX0_isInherited_36 : decode cX0_isInherited 36 = .ok (.invokevirtual 181, 3) := by decide +kernel
theorem dX0_isInherited_39 : decode cX0_isInherited 39 = .ok (.ifCond .ne 15, 3) := by decide +kernel
theorem dX0_isInherited_42 : decode cX0_isInherited 42 = .ok (.aload_n 0, 1) := by decide +kernel
theorem dX0_isInherited_43 : decode cX0_isInherited 43 = .ok (.getfield 12, 3) := by decide +kernel
theorem dX0_isInherited_46 : decode cX0_isInherited 46 = .ok (.iload_n 3, 1) := by decide +kernel
theorem dX0_isInherited_47 : decode cX0_isInherited 47 = .ok (.iload_n 2, 1) := by decide +kernel
theorem dX0_isInherited_48 : decode cX0_isInherited 48 = .ok (.invokevirtual 181, 3) := by decide +kernel
theorem dX0_isInherited_51 : decode cX0_isInherited 51 = .ok (.ifCond .eq 7, 3) := by decide +kernel
theorem dX0_isInherited_54 : decode cX0_isInherited 54 = .ok (.iconst 1, 1) := by decide +kernel
theorem dX0_isInherited_55 : decode cX0_isInherited 55 = .ok (.goto 4, 3) := by decide +kernel
theorem dX0_isInherited_58 : decode cX0_isInherited 58 = .ok (.iconst 0, 1) := by decide +kernel
theorem dX0_isInherited_59 : decode cX0_isInherited 59 = .ok (.ireturn, 1) := by decide +kernel
theorem dX0_isFit_0 : decode cX0_isFit 0 = .ok (.aload_n 0, 1) := by decide +kernel
theorem dX0_isFit_1 : decode cX0_isFit 1 = .ok (.getfield 12, 3) := by decide +kernel
theorem dX0_isFit_4 : decode cX0_isFit 4 = .ok (.iload_n 1, 1) := by decide +kernel
theorem dX0_isFit_5 : decode cX0_isFit 5 = .ok (.invokevirtual 57, 3) := by decide +kernel
theorem dX0_isFit_8 : decode cX0_isFit 8 = .ok (.invokestatic 61, 3) := by decide +kernel
theorem dX0_isFit_11 : decode cX0_isFit 11 = .ok (.ifCond .eq 30, 3) := by decide +kernel
theorem dX0_isFit_14 : decode cX0_isFit 14 = .ok (.aload_n 0, 1) := by decide +kernel
theorem dX0_isFit_15 : decode cX0_isFit 15 = .ok (.getfield 12, 3) := by decide +kernel
theorem dX0_isFit_18 : decode cX0_isFit 18 = .ok (.iload_n 1, 1) := by decide +kernel
theorem dX0_isFit_19 : decode cX0_isFit 19 = .ok (.invokevirtual 196, 3) := by decide +kernel
theorem dX0_isFit_22 : decode cX0_isFit 22 = .ok (.ifCond .eq 19, 3) := by decide +kernel
theorem dX0_isFit_25 : decode cX0_isFit 25 = .ok (.aload_n 0, 1) := by decide +kernel
theorem dX0_isFit_26 : decode cX0_isFit 26 = .ok (.getfield 12, 3) := by decide +kernel
theorem dX0_isFit_29 : decode cX0_isFit 29 = .ok (.iload_n 1, 1) := by decide +kernel
theorem dX0_isFit_30 : decode cX0_isFit 30 = .ok (.iload_n 2, 1) := by decide +kernel
theorem dX0_isFit_31 : decode cX0_isFit 31 = .ok (.invokevirtual 181, 3) := by decide +kernel
theorem dX0_isFit_34 : decode cX0_isFit 34 = .ok (.ifCond .eq 7, 3) := by decide +kernel
theorem dX0_isFit_37 : decode cX0_isFit 37 = .ok (.iconst 1, 1) := by decide +kernel
theorem dX0_isFit_38 : decode cX0_isFit 38 = .ok (.goto 4, 3) := by decide +kernel
theorem dX0_isFit_41 : decode cX0_isFit 41 = .ok (.iconst 0, 1) := by decide +kernel
theorem dX0_isFit_42 : decode cX0_isFit 42 = .ok (.ireturn, 1) := by decide +kernel
theorem dX0_selectFor_0 : decode cX0_selectFor 0 = .ok (.iload_n 1, 1) := by decide +kernel
theorem dX0_selectFor_1 : decode cX0_selectFor 1 = .ok (.istore 4, 2) := by decide +kernel
theorem dX0_selectFor_3 : decode cX0_selectFor 3 = .ok (.iconst 0, 1) := by decide +kernel
theorem dX0_selectFor_4 : decode cX0_selectFor 4 = .ok (.istore 5, 2) := by decide +kernel
theorem dX0_selectFor_6 : decode cX0_selectFor 6 = .ok (.iload 5, 2) := by decide +kernel
theorem dX0_selectFor_8 : decode cX0_selectFor 8 = .ok (.bipush 12, 2) := by decide +kernel
theorem dX0_selectFor_10 : decode cX0_selectFor 10 = .ok (.if_icmp .ge 62, 3) := by decide +kernel
theorem dX0_selectFor_13 : decode cX0_selectFor 13 = .ok (.iload 4, 2) := by decide +kernel
theorem dX0_selectFor_15 : decode cX0_selectFor 15 = .ok (.iconst (-1), 1) := by decide +kernel
theorem dX0_selectFor_16 : decode cX0_selectFor 16 = .ok (.if_icmp .eq 56, 3) := by decide +kernel
theorem dX0_selectFor_19 : decode cX0_selectFor 19 = .ok (.aload_n 0, 1) := by decide +kernel
theorem dX0_selectFor_20 : decode cX0_selectFor 20 = .ok (.getfield 21, 3) := by decide +kernel
theorem dX0_selectFor_23 : decode cX0_selectFor 23 = .ok (.iload 4, 2) := by decide +kernel
theorem dX0_selectFor_25 : decode cX0_selectFor 25 = .ok (.iconst 1, 1) := by decide +kernel
theorem dX0_selectFor_26 : decode cX0_selectFor 26 = .ok (.iload_n 3, 1) := by decide +kernel
theorem dX0_selectFor_27 : decode cX0_selectFor 27 = .ok (.invokevirtual 36, 3) := by decide +kernel
theorem dX0_selectFor_30 : decode cX0_selectFor 30 = .ok (.istore 6, 2) := by decide +kernel
theorem dX0_selectFor_32 : decode cX0_selectFor 32 = .ok (.iload 6, 2) := by decide +kernel
theorem dX0_selectFor_34 : decode cX0_selectFor 34 = .ok (.bipush (-2), 2) := by decide +kernel
theorem dX0_selectFor_36 : decode cX0_selectFor 36 = .ok (.if_icmp .eq 19, 3) := by decide +kernel
theorem dX0_selectFor_39 : decode cX0_selectFor 39 = .ok (.aload_n 0, 1) := by decide +kernel
theorem dX0_selectFor_40 : decode cX0_selectFor 40 = .ok (.iload 6, 2) := by decide +kernel
theorem dX0_selectFor_42 : decode cX0_selectFor 42 = .ok (.iload_n 2, 1) := by decide +kernel
theorem dX0_selectFor_43 : decode cX0_selectFor 43 = .ok (.invokevirtual 199, 3) := by decide +kernel
theorem dX0_selectFor_46 : decode cX0_selectFor 46 = .ok (.ifCond .eq 9, 3) := by decide +kernel
theorem dX0_selectFor_49 : decode cX0_selectFor 49 = .ok (.bipush 16, 2) := by decide +kernel
theorem dX0_selectFor_51 : decode cX0_selectFor 51 = .ok (.iload 6, 2) := by decide +kernel
theorem dX0_selectFor_53 : decode cX0_selectFor 53 = .ok (.iadd, 1) := by decide +kernel
theorem dX0_selectFor_54 : decode cX0_selectFor 54 = .ok (.ireturn, 1) := by decide +kernel
theorem dX0_selectFor_55 : decode cX0_selectFor 55 = .ok (.aload_n 0, 1) := by decide +kernel
theorem dX0_selectFor_56 : decode cX0_selectFor 56 = .ok (.getfield 12, 3) := by decide +kernel
theorem dX0_selectFor_59 : decode cX0_selectFor 59 = .ok (.iload 4, 2) := by decide +kernel
theorem dX0_selectFor_61 : decode cX0_selectFor 61 = .ok (.invokevirtual 124, 3) := by decide +kernel
theorem dX0_selectFor_64 : decode cX0_selectFor 64 = .ok (.istore 4, 2) := by decide +kernel
theorem dX0_selectFor_66 : decode cX0_selectFor 66 = .ok (.iinc 5 1, 3) := by decide +kernel
theorem dX0_selectFor_69 : decode cX0_selectFor 69 = .ok (.goto (-63), 3) := by decide +kernel
theorem dX0_selectFor_72 : decode cX0_selectFor 72 = .ok (.aload_n 0, 1) := by decide +kernel
theorem dX0_selectFor_73 : decode cX0_selectFor 73 = .ok (.iload_n 1, 1) := by decide +kernel
theorem dX0_selectFor_74 : decode cX0_selectFor 74 = .ok (.iload_n 3, 1) := by decide +kernel
theorem dX0_selectFor_75 : decode cX0_selectFor 75 = .ok (.invokevirtual 202, 3) := by decide +kernel
theorem dX0_selectFor_78 : decode cX0_selectFor 78 = .ok (.ireturn, 1) := by decide +kernel
theorem dX0_selectFromFaces_0 : decode cX0_selectFromFaces 0 = .ok (.aload_n 0, 1) := by decide +kernel
theorem dX0_selectFromFaces_1 : decode cX0_selectFromFaces 1 = .ok (.getfield 12, 3) := by decide +kernel
theorem dX0_selectFromFaces_4 : decode cX0_selectFromFaces 4 = .ok (.iload_n 1, 1) := by decide +kernel
theorem dX0_selectFromFaces_5 : decode cX0_selectFromFaces 5 = .ok (.invokevirtual 142, 3) := by decide +kernel
theorem dX0_selectFromFaces_8 : decode cX0_selectFromFaces 8 = .ok (.aload_n 0, 1) := by decide +kernel
theorem dX0_selectFromFaces_9 : decode cX0_selectFromFaces 9 = .ok (.getfield 21, 3) := by decide +kernel
theorem dX0_selectFromFaces_12 : decode cX0_selectFromFaces 12 = .ok (.iload_n 2, 1) := by decide +kernel
theorem dX0_selectFromFaces_13 : decode cX0_selectFromFaces 13 = .ok (.invokevirtual 145, 3) := by decide +kernel
theorem dX0_selectFromFaces_16 : decode cX0_selectFromFaces 16 = .ok (.iand, 1) := by decide +kernel
theorem dX0_selectFromFaces_17 : decode cX0_selectFromFaces 17 = .ok (.istore_n 3, 1) := by decide +kernel
theorem dX0_selectFromFaces_18 : decode cX0_selectFromFaces 18 = .ok (.aload_n 0, 1) := by decide +kernel
theorem dX0_selectFromFaces_19 : decode cX0_selectFromFaces 19 = .ok (.aload_n 0, 1) := by decide +kernel
theorem dX0_selectFromFaces_20 : decode cX0_selectFromFaces 20 = .ok (.getfield 12, 3) := by decide +kernel
theorem dX0_selectFromFaces_23 : decode cX0_selectFromFaces 23 = .ok (.iload_n 3, 1) := by decide +kernel
theorem dX0_selectFromFaces_24 : decode cX0_selectFromFaces 24 = .ok (.invokevirtual 148, 3) := by decide +kernel
theorem dX0_selectFromFaces_27 : decode cX0_selectFromFaces 27 = .ok (.iload_n 2, 1) := by decide +kernel
theorem dX0_selectFromFaces_28 : decode cX0_selectFromFaces 28 = .ok (.invokevirtual 151, 3) := by decide +kernel
theorem dX0_selectFromFaces_31 : decode cX0_selectFromFaces 31 = .ok (.istore 4, 2) := by decide +kernel
theorem dX0_selectFromFaces_33 : decode cX0_selectFromFaces 33 = .ok (.iload 4, 2) := by decide +kernel
theorem dX0_selectFromFaces_35 : decode cX0_selectFromFaces 35 = .ok (.bipush (-4), 2) := by decide +kernel
theorem dX0_selectFromFaces_37 : decode cX0_selectFromFaces 37 = .ok (.if_icmp .ne 9, 3) := by decide +kernel
theorem dX0_selectFromFaces_40 : decode cX0_selectFromFaces 40 = .ok (.sipush 192, 3) := by decide +kernel
theorem dX0_selectFromFaces_43 : decode cX0_selectFromFaces 43 = .ok (.iload_n 1, 1) := by decide +kernel
theorem dX0_selectFromFaces_44 : decode cX0_selectFromFaces 44 = .ok (.iadd, 1) := by decide +kernel
theorem dX0_selectFromFaces_45 : decode cX0_selectFromFaces 45 = .ok (.ireturn, 1) := by decide +kernel
theorem dX0_selectFromFaces_46 : decode cX0_selectFromFaces 46 = .ok (.iload 4, 2) := by decide +kernel
theorem dX0_selectFromFaces_48 : decode cX0_selectFromFaces 48 = .ok (.bipush (-2), 2) := by decide +kernel
theorem dX0_selectFromFaces_50 : decode cX0_selectFromFaces 50 = .ok (.if_icmp .ne 11, 3) := by decide +kernel
theorem dX0_selectFromFaces_53 : decode cX0_selectFromFaces 53 = .ok (.sipush 448, 3) := by decide +kernel
theorem dX0_selectFromFaces_56 : decode cX0_selectFromFaces 56 = .ok (.iload_n 1, 1) := by decide +kernel
theorem dX0_selectFromFaces_57 : decode cX0_selectFromFaces 57 = .ok (.iadd, 1) := by decide +kernel
theorem dX0_selectFromFaces_58 : decode cX0_selectFromFaces 58 = .ok (.goto 8, 3) := by decide +kernel
theorem dX0_selectFromFaces_61 : decode cX0_selectFromFaces 61 = .ok (.bipush 16, 2) := by decide +kernel
theorem dX0_selectFromFaces_63 : decode cX0_selectFromFaces 63 = .ok (.iload 4, 2) := by decide +kernel
theorem dX0_selectFromFaces_65 : decode cX0_selectFromFaces 65 = .ok (.iadd, 1) := by decide +kernel
theorem dX0_selectFromFaces_66 : decode cX0_selectFromFaces 66 = .ok (.ireturn, 1) := by decide +kernel
theorem dX0_overrides_0 : decode cX0_overrides 0 = .ok (.aload_n 0, 1) := by decide +kernel
theorem dX0_overrides_1 : decode cX0_overrides 1 = .ok (.getfield 21, 3) := by decide +kernel
theorem dX0_overrides_4 : decode cX0_overrides 4 = .ok (.iload_n 1, 1) := by decide +kernel
theorem dX0_overrides_5 : decode cX0_overrides 5 = .ok (.invokevirtual 205, 3) := by decide +kernel
theorem dX0_overrides_8 : decode cX0_overrides 8 = .ok (.ifCond .ne 5, 3) := by decide +kernel
theorem dX0_overrides_11 : decode cX0_overrides 11 = .ok (.iconst 0, 1) := by decide +kernel
theorem dX0_overrides_12 : decode cX0_overrides 12 = .ok (.ireturn, 1) := by decide +kernel
theorem dX0_overrides_13 : decode cX0_overrides 13 = .ok (.iload_n 1, 1) := by decide +kernel
theorem dX0_overrides_14 : decode cX0_overrides 14 = .ok (.iload_n 2, 1) := by decide +kernel
theorem dX0_overrides_15 : decode cX0_overrides 15 = .ok (.if_icmp .eq 41, 3) := by decide +kernel
theorem dX0_overrides_18 : decode cX0_overrides 18 = .ok (.aload_n 0, 1) := by decide +kernel
theorem dX0_overrides_19 : decode cX0_overrides 19 = .ok (.getfield 21, 3) := by decide +kernel
theorem dX0_overrides_22 : decode cX0_overrides 22 = .ok (.iload_n 2, 1) := by decide +kernel
theorem dX0_overrides_23 : decode cX0_overrides 23 = .ok (.invokevirtual 96, 3) := by decide +kernel
theorem dX0_overrides_26 : decode cX0_overrides 26 = .ok (.iconst 1, 1) := by decide +kernel
theorem dX0_overrides_27 : decode cX0_overrides 27 = .ok (.if_icmp .ne 29, 3) := by decide +kernel
theorem dX0_overrides_30 : decode cX0_overrides 30 = .ok (.aload_n 0, 1) := by decide +kernel
theorem dX0_overrides_31 : decode cX0_overrides 31 = .ok (.getfield 12, 3) := by decide +kernel
theorem dX0_overrides_34 : decode cX0_overrides 34 = .ok (.aload_n 0, 1) := by decide +kernel
theorem dX0_overrides_35 : decode cX0_overrides 35 = .ok (.getfield 21, 3) := by decide +kernel
theorem dX0_overrides_38 : decode cX0_overrides 38 = .ok (.iload_n 1, 1) := by decide +kernel
theorem dX0_overrides_39 : decode cX0_overrides 39 = .ok (.invokevirtual 178, 3) := by decide +kernel
theorem dX0_overrides_42 : decode cX0_overrides 42 = .ok (.aload_n 0, 1) := by decide +kernel
theorem dX0_overrides_43 : decode cX0_overrides 43 = .ok (.getfield 21, 3) := by decide +kernel
theorem dX0_overrides_46 : decode cX0_overrides 46 = .ok (.iload_n 2, 1) := by decide +kernel
theorem dX0_overrides_47 : decode cX0_overrides 47 = .ok (.invokevirtual 178, 3) := by decide +kernel
theorem dX0_overrides_50 : decode cX0_overrides 50 = .ok (.invokevirtual 184, 3) := by decide +kernel
theorem dX0_overrides_53 : decode cX0_overrides 53 = .ok (.ifCond .eq 7, 3) := by decide +kernel
theorem dX0_overrides_56 : decode cX0_overrides 56 = .ok (.iconst 1, 1) := by decide +kernel
theorem dX0_overrides_57 : decode cX0_overrides 57 = .ok (.goto 4, 3) := by decide +kernel
theorem dX0_overrides_60 : decode cX0_overrides 60 = .ok (.iconst 0, 1) := by decide +kernel
theorem dX0_overrides_61 : decode cX0_overrides 61 = .ok (.ireturn, 1) := by decide +kernel
theorem dX0_checkSelected_0 : decode cX0_checkSelected 0 = .ok (.aload_n 0, 1) := by decide +kernel
theorem dX0_checkSelected_1 : decode cX0_checkSelected 1 = .ok (.getfield 21, 3) := by decide +kernel
theorem dX0_checkSelected_4 : decode cX0_checkSelected 4 = .ok (.iload_n 2, 1) := by decide +kernel
theorem dX0_checkSelected_5 : decode cX0_checkSelected 5 = .ok (.invokevirtual 162, 3) := by decide +kernel
theorem dX0_checkSelected_8 : decode cX0_checkSelected 8 = .ok (.ifCond .eq 9, 3) := by decide +kernel
theorem dX0_checkSelected_11 : decode cX0_checkSelected 11 = .ok (.sipush 464, 3) := by decide +kernel
theorem dX0_checkSelected_14 : decode cX0_checkSelected 14 = .ok (.iload_n 2, 1) := by decide +kernel
theorem dX0_checkSelected_15 : decode cX0_checkSelected 15 = .ok (.iadd, 1) := by decide +kernel
theorem dX0_checkSelected_16 : decode cX0_checkSelected 16 = .ok (.ireturn, 1) := by decide +kernel
theorem dX0_checkSelected_17 : decode cX0_checkSelected 17 = .ok (.aload_n 0, 1) := by decide +kernel
theorem dX0_checkSelected_18 : decode cX0_checkSelected 18 = .ok (.getfield 21, 3) := by decide +kernel
theorem dX0_checkSelected_21 : decode cX0_checkSelected 21 = .ok (.iload_n 2, 1) := by decide +kernel
theorem dX0_checkSelected_22 : decode cX0_checkSelected 22 = .ok (.invokevirtual 96, 3) := by decide +kernel
theorem dX0_checkSelected_25 : decode cX0_checkSelected 25 = .ok (.istore_n 3, 1) := by decide +kernel
theorem dX0_checkSelected_26 : decode cX0_checkSelected 26 = .ok (.aload_n 1, 1) := by decide +kernel
theorem dX0_checkSelected_27 : decode cX0_checkSelected 27 = .ok (.getfield 71, 3) := by decide +kernel
theorem dX0_checkSelected_30 : decode cX0_checkSelected 30 = .ok (.bipush 7, 2) := by decide +kernel
theorem dX0_checkSelected_32 : decode cX0_checkSelected 32 = .ok (.if_icmp .ne 18, 3) := by decide +kernel
theorem dX0_checkSelected_35 : decode cX0_checkSelected 35 = .ok (.iload_n 3, 1) := by decide +kernel
theorem dX0_checkSelected_36 : decode cX0_checkSelected 36 = .ok (.iconst 3, 1) := by decide +kernel
theorem dX0_checkSelected_37 : decode cX0_checkSelected 37 = .ok (.if_icmp .eq 13, 3) := by decide +kernel
theorem dX0_checkSelected_40 : decode cX0_checkSelected 40 = .ok (.iload_n 3, 1) := by decide +kernel
theorem dX0_checkSelected_41 : decode cX0_checkSelected 41 = .ok (.ifCond .eq 9, 3) := by decide +kernel
theorem dX0_checkSelected_44 : decode cX0_checkSelected 44 = .ok (.sipush 272, 3) := by decide +kernel
theorem dX0_checkSelected_47 : decode cX0_checkSelected 47 = .ok (.iload_n 2, 1) := by decide +kernel
theorem dX0_checkSelected_48 : decode cX0_checkSelected 48 = .ok (.iadd, 1) := by decide +kernel
theorem dX0_checkSelected_49 : decode cX0_checkSelected 49 = .ok (.ireturn, 1) := by decide +kernel
theorem dX0_checkSelected_50 : decode cX0_checkSelected 50 = .ok (.bipush 16, 2) := by decide +kernel
theorem dX0_checkSelected_52 : decode cX0_checkSelected 52 = .ok (.iload_n 2, 1) := by decide +kernel
theorem dX0_checkSelected_53 : decode cX0_checkSelected 53 = .ok (.iadd, 1) := by decide +kernel
theorem dX0_checkSelected_54 : decode cX0_checkSelected 54 = .ok (.ireturn, 1) := by decide +kernel
theorem dX1_init_0 : decode cX1_init 0 = .ok (.aload_n 0, 1) := by decide +kernel
theorem dX1_init_1 : decode cX1_init 1 = .ok (.invokespecial 3, 3) := by decide +kernel
theorem dX1_init_4 : decode cX1_init 4 = .ok (.aload_n 0, 1) := by decide +kernel
theorem dX1_init_5 : decode cX1_init 5 = .ok (.bipush 12, 2) := by decide +kernel
theorem dX1_init_7 : decode cX1_init 7 = .ok (.newarray .int, 2) := by decide +kernel
theorem dX1_init_9 : decode cX1_init 9 = .ok (.putfield 9, 3) := by decide +kernel
theorem dX1_init_12 : decode cX1_init 12 = .ok (.aload_n 0, 1) := by decide +kernel
theorem dX1_init_13 : decode cX1_init 13 = .ok (.bipush 12, 2) := by decide +kernel
theorem dX1_init_15 : decode cX1_init 15 = .ok (.newarray .int, 2) := by decide +kernel
theorem dX1_init_17 : decode cX1_init 17 = .ok (.putfield 15, 3) := by decide +kernel
theorem dX1_init_20 : decode cX1_init 20 = .ok (.aload_n 0, 1) := by decide +kernel
theorem dX1_init_21 : decode cX1_init 21 = .ok (.bipush 12, 2) := by decide +kernel
theorem dX1_init_23 : decode cX1_init 23 = .ok (.newarray .int, 2) := by decide +kernel
theorem dX1_init_25 : decode cX1_init 25 = .ok (.putfield 18, 3) := by decide +kernel
theorem dX1_init_28 : decode cX1_init 28 = .ok (.aload_n 0, 1) := by decide +kernel
theorem dX1_init_29 : decode cX1_init 29 = .ok (.bipush 12, 2) := by decide +kernel
theorem dX1_init_31 : decode cX1_init 31 = .ok (.newarray .int, 2) := by decide +kernel
theorem dX1_init_33 : decode cX1_init 33 = .ok (.putfield 21, 3) := by decide +kernel
theorem dX1_init_36 : decode cX1_init 36 = .ok (.aload_n 0, 1) := by decide +kernel
theorem dX1_init_37 : decode cX1_init 37 = .ok (.bipush 12, 2) := by decide +kernel
theorem dX1_init_39 : decode cX1_init 39 = .ok (.newarray .int, 2) := by decide +kernel
theorem dX1_init_41 : decode cX1_init 41 = .ok (.putfield 24, 3) := by decide +kernel
theorem dX1_init_44 : decode cX1_init 44 = .ok (.aload_n 0, 1) := by decide +kernel
theorem dX1_init_45 : decode cX1_init 45 = .ok (.bipush 12, 2) := by decide +kernel
theorem dX1_init_47 : decode cX1_init 47 = .ok (.newarray .int, 2) := by decide +kernel
theorem dX1_init_49 : decode cX1_init 49 = .ok (.putfield 27, 3) := by decide +kernel
theorem dX1_init_52 : decode cX1_init 52 = .ok (.aload_n 0, 1) := by decide +kernel
theorem dX1_init_53 : decode cX1_init 53 = .ok (.bipush 12, 2) := by decide +kernel
theorem dX1_init_55 : decode cX1_init 55 = .ok (.newarray .int, 2) := by decide +kernel
theorem dX1_init_57 : decode cX1_init 57 = .ok (.putfield 30, 3) := by decide +kernel
theorem dX1_init_60 : decode cX1_init 60 = .ok (.aload_n 0, 1) := by decide +kernel
theorem dX1_init_61 : decode cX1_init 61 = .ok (.bipush 12, 2) := by decide +kernel
theorem dX1_init_63 : decode cX1_init 63 = .ok (.newarray .int, 2) := by decide +kernel
theorem dX1_init_65 : decode cX1_init 65 = .ok (.putfield 33, 3) := by decide +kernel
theorem dX1_init_68 : decode cX1_init 68 = .ok (.aload_n 0, 1) := by decide +kernel
theorem dX1_init_69 : decode cX1_init 69 = .ok (.iconst 0, 1) := by decide +kernel
theorem dX1_init_70 : decode cX1_init 70 = .ok (.invokestatic 36, 3) := by decide +kernel
theorem dX1_init_73 : decode cX1_init 73 = .ok (.putfield 40, 3) := by decide +kernel
theorem dX1_init_76 : decode cX1_init 76 = .ok (.aload_n 0, 1) := by decide +kernel
theorem dX1_init_77 : decode cX1_init 77 = .ok (.getfield 9, 3) := by decide +kernel
theorem dX1_init_80 : decode cX1_init 80 = .ok (.iconst 0, 1) := by decide +kernel
theorem dX1_init_81 : decode cX1_init 81 = .ok (.iconst 1, 1) := by decide +kernel
theorem dX1_init_82 : decode cX1_init 82 = .ok (.iastore, 1) := by decide +kernel
theorem dX1_init_83 : decode cX1_init 83 = .ok (.aload_n 0, 1) := by decide +kernel
theorem dX1_init_84 : decode cX1_init 84 = .ok (.getfield 18, 3) := by decide +kernel
theorem dX1_init_87 : decode cX1_init 87 = .ok (.iconst 0, 1) := by decide +kernel
theorem dX1_init_88 : decode cX1_init 88 = .ok (.iconst (-1), 1) := by decide +kernel
theorem dX1_init_89 : decode cX1_init 89 = .ok (.iastore, 1) := by decide +kernel
theorem dX1_init_90 : decode cX1_init 90 = .ok (.aload_n 0, 1) := by decide +kernel
theorem dX1_init_91 : decode cX1_init 91 = .ok (.invokevirtual 44, 3) := by decide +kernel
theorem dX1_init_94 : decode cX1_init 94 = .ok (.return_, 1) := by decide +kernel
theorem dX1_define_0 : decode cX1_define 0 = .ok (.aload_n 0, 1) := by decide +kernel
theorem dX1_define_1 : decode cX1_define 1 = .ok (.dup, 1) := by decide +kernel
theorem dX1_define_2 : decode cX1_define 2 = .ok (.getfield 40, 3) := by decide +kernel
theorem dX1_define_5 : decode cX1_define 5 = .ok (.iload_n 1, 1) := by decide +kernel
theorem dX1_define_6 : decode cX1_define 6 = .ok (.invokestatic 36, 3) := by decide +kernel
theorem dX1_define_9 : decode cX1_define 9 = .ok (.ior, 1) := by decide +kernel
theorem dX1_define_10 : decode cX1_define 10 = .ok (.putfield 40, 3) := by decide +kernel
theorem dX1_define_13 : decode cX1_define 13 = .ok (.aload_n 0, 1) := by decide +kernel
theorem dX1_define_14 : decode cX1_define 14 = .ok (.getfield 9, 3) := by decide +kernel
theorem dX1_define_17 : decode cX1_define 17 = .ok (.iload_n 1, 1) := by decide +kernel
theorem dX1_define_18 : decode cX1_define 18 = .ok (.iload_n 2, 1) := by decide +kernel
theorem dX1_define_19 : decode cX1_define 19 = .ok (.iastore, 1) := by decide +kernel
theorem dX1_define_20 : decode cX1_define 20 = .ok (.aload_n 0, 1) := by decide +kernel
theorem dX1_define_21 : decode cX1_define 21 = .ok (.getfield 15, 3) := by decide +kernel
theorem dX1_define_24 : decode cX1_define 24 = .ok (.iload_n 1, 1) := by decide +kernel
theorem dX1_define_25 : decode cX1_define 25 = .ok (.iload_n 3, 1) := by decide +kernel
theorem dX1_define_26 : decode cX1_define 26 = .ok (.iastore, 1) := by decide +kernel
theorem dX1_define_27 : decode cX1_define 27 = .ok (.aload_n 0, 1) := by decide +kernel
theorem dX1_define_28 : decode cX1_define 28 = .ok (.getfield 18, 3) := by decide +kernel
theorem dX1_define_31 : decode cX1_define 31 = .ok (.iload_n 1, 1) := by decide +kernel
theorem dX1_define_32 : decode cX1_define 32 = .ok (.iload 4, 2) := by decide +kernel
theorem dX1_define_34 : decode cX1_define 34 = .ok (.iastore, 1) := by decide +kernel
theorem dX1_define_35 : decode cX1_define 35 = .ok (.aload_n 0, 1) := by decide +kernel
theorem dX1_define_36 : decode cX1_define 36 = .ok (.getfield 21, 3) := by decide +kernel
theorem dX1_define_39 : decode cX1_define 39 = .ok (.iload_n 1, 1) := by decide +kernel
theorem dX1_define_40 : decode cX1_define 40 = .ok (.iload 5, 2) := by decide +kernel
theorem dX1_define_42 : decode cX1_define 42 = .ok (.iastore, 1) := by decide +kernel
theorem dX1_define_43 : decode cX1_define 43 = .ok (.aload_n 0, 1) := by decide +kernel
theorem dX1_define_44 : decode cX1_define 44 = .ok (.getfield 24, 3) := by decide +kernel
theorem dX1_define_47 : decode cX1_define 47 = .ok (.iload_n 1, 1) := by decide +kernel
theorem dX1_define_48 : decode cX1_define 48 = .ok (.iload_n 1, 1) := by decide +kernel
theorem dX1_define_49 : decode cX1_define 49 = .ok (.iastore, 1) := by decide +kernel
theorem dX1_define_50 : decode cX1_define 50 = .ok (.aload_n 0, 1) := by decide +kernel
theorem dX1_define_51 : decode cX1_define 51 = .ok (.invokevirtual 44, 3) := by decide +kernel
theorem dX1_define_54 : decode cX1_define 54 = .ok (.return_, 1) := by decide +kernel
theorem dX1_putHost_0 : decode cX1_putHost 0 = .ok (.aload_n 0, 1) := by decide +kernel
theorem dX1_putHost_1 : decode cX1_putHost 1 = .ok (.iload_n 1, 1) := by decide +kernel
theorem dX1_putHost_2 : decode cX1_putHost 2 = .ok (.invokevirtual 47, 3) := by decide +kernel
theorem dX1_putHost_5 : decode cX1_putHost 5 = .ok (.ifCond .ne 5, 3) := by decide +kernel
theorem dX1_putHost_8 : decode cX1_putHost 8 = .ok (.iconst 0, 1) := by decide +kernel
theorem dX1_putHost_9 : decode cX1_putHost 9 = .ok (.ireturn, 1) := by decide +kernel
theorem dX1_putHost_10 : decode cX1_putHost 10 = .ok (.aload_n 0, 1) := by decide +kernel
theorem dX1_putHost_11 : decode cX1_putHost 11 = .ok (.getfield 24, 3) := by decide +kernel
theorem dX1_putHost_14 : decode cX1_putHost 14 = .ok (.iload_n 1, 1) := by decide +kernel
theorem dX1_putHost_15 : decode cX1_putHost 15 = .ok (.iload_n 2, 1) := by decide +kernel
theorem dX1_putHost_16 : decode cX1_putHost 16 = .ok (.iastore, 1) := by decide +kernel
theorem dX1_putHost_17 : decode cX1_putHost 17 = .ok (.iconst 1, 1) := by decide +kernel
theorem dX1_putHost_18 : decode cX1_putHost 18 = .ok (.ireturn, 1) := by decide +kernel
theorem dX1_takeAway_0 : decode cX1_takeAway 0 = .ok (.aload_n 0, 1) := by decide +kernel
theorem dX1_takeAway_1 : decode cX1_takeAway 1 = .ok (.iload_n 1, 1) := by decide +kernel
theorem dX1_takeAway_2 : decode cX1_takeAway 2 = .ok (.invokevirtual 47, 3) := by decide +kernel
theorem dX1_takeAway_5 : decode cX1_takeAway 5 = .ok (.ifCond .ne 5, 3) := by decide +kernel
theorem dX1_takeAway_8 : decode cX1_takeAway 8 = .ok (.iconst 0, 1) := by decide +kernel
theorem dX1_takeAway_9 : decode cX1_takeAway 9 = .ok (.ireturn, 1) := by decide +kernel
theorem dX1_takeAway_10 : decode cX1_takeAway 10 = .ok (.aload_n 0, 1) := by decide +kernel
theorem dX1_takeAway_11 : decode cX1_takeAway 11 = .ok (.dup, 1) := by decide +kernel
theorem dX1_takeAway_12 : decode cX1_takeAway 12 = .ok (.getfield 40, 3) := by decide +kernel
theorem dX1_takeAway_15 : decode cX1_takeAway 15 = .ok (.iload_n 1, 1) := by decide +kernel
theorem dX1_takeAway_16 : decode cX1_takeAway 16 = .ok (.invokestatic 36, 3) := by decide +kernel
theorem dX1_takeAway_19 : decode cX1_takeAway 19 = .ok (.iconst (-1), 1) := by decide +kernel
theorem dX1_takeAway_20 : decode cX1_takeAway 20 = .ok (.ixor, 1) := by decide +kernel
theorem dX1_takeAway_21 : decode cX1_takeAway 21 = .ok (.iand, 1) := by decide +kernel
theorem dX1_takeAway_22 : decode cX1_takeAway 22 = .ok (.putfield 40, 3) := by decide +kernel
theorem dX1_takeAway_25 : decode cX1_takeAway 25 = .ok (.aload_n 0, 1) := by decide +kernel
theorem dX1_takeAway_26 : decode cX1_takeAway 26 = .ok (.invokevirtual 44, 3) := by decide +kernel
theorem dX1_takeAway_29 : decode cX1_takeAway 29 = .ok (.iconst 1, 1) := by decide +kernel
theorem dX1_takeAway_30 : decode cX1_takeAway 30 = .ok (.ireturn, 1) := by decide +kernel
theorem dX1_becomeAs_0 : decode cX1_becomeAs 0 = .ok (.aload_n 0, 1) := by decide +kernel
theorem dX1_becomeAs_1 : decode cX1_becomeAs 1 = .ok (.aload_n 1, 1) := by decide +kernel
theorem dX1_becomeAs_2 : decode cX1_becomeAs 2 = .ok (.getfield 40, 3) := by decide +kernel
theorem dX1_becomeAs_5 : decode cX1_becomeAs 5 = .ok (.putfield 40, 3) := by decide +kernel
theorem dX1_becomeAs_8 : decode cX1_becomeAs 8 = .ok (.aload_n 1, 1) := by decide +kernel
theorem dX1_becomeAs_9 : decode cX1_becomeAs 9 = .ok (.getfield 9, 3) := by decide +kernel
theorem dX1_becomeAs_12 : decode cX1_becomeAs 12 = .ok (.iconst 0, 1) := by decide +kernel
theorem dX1_becomeAs_13 : decode cX1_becomeAs 13 = .ok (.aload_n 0, 1) := by decide +kernel
theorem dX1_becomeAs_14 : decode cX1_becomeAs 14 = .ok (.getfield 9, 3) := by decide +kernel
theorem dX1_becomeAs_17 : decode cX1_becomeAs 17 = .ok (.iconst 0, 1) := by decide +kernel
theorem dX1_becomeAs_18 : decode cX1_becomeAs 18 = .ok (.bipush 12, 2) := by decide +kernel
theorem dX1_becomeAs_20 : decode cX1_becomeAs 20 = .ok (.invokestatic 51, 3) := by decide +kernel
theorem dX1_becomeAs_23 : decode cX1_becomeAs 23 = .ok (.aload_n 1, 1) := by decide +kernel
theorem dX1_becomeAs_24 : decode cX1_becomeAs 24 = .ok (.getfield 15, 3) := by decide +kernel
theorem dX1_becomeAs_27 : decode cX1_becomeAs 27 = .ok (.iconst 0, 1) := by decide +kernel
theorem dX1_becomeAs_28 : decode cX1_becomeAs 28 = .ok (.aload_n 0, 1) := by decide +kernel
theorem dX1_becomeAs_29 : decode cX1_becomeAs 29 = .ok (.getfield 15, 3) := by decide +kernel
theorem dX1_becomeAs_32 : decode cX1_becomeAs 32 = .ok (.iconst 0, 1) := by decide +kernel
theorem dX1_becomeAs_33 : decode cX1_becomeAs 33 = .ok (.bipush 12, 2) := by decide +kernel
theorem dX1_becomeAs_35 : decode cX1_becomeAs 35 = .ok (.invokestatic 51, 3) := by decide +kernel
theorem dX1_becomeAs_38 : decode cX1_becomeAs 38 = .ok (.aload_n 1, 1) := by decide +kernel
theorem dX1_becomeAs_39 : decode cX1_becomeAs 39 = .ok (.getfield 18, 3) := by decide +kernel
theorem dX1_becomeAs_42 : decode cX1_becomeAs 42 = .ok (.iconst 0, 1) := by decide +kernel
theorem dX1_becomeAs_43 : decode cX1_becomeAs 43 = .ok (.aload_n 0, 1) := by decide +kernel
theorem dX1_becomeAs_44 : decode cX1_becomeAs 44 = .ok (.getfield 18, 3) := by decide +kernel
theorem dX1_becomeAs_47 : decode cX1_becomeAs 47 = .ok (.iconst 0, 1) := by decide +kernel
theorem dX1_becomeAs_48 : decode cX1_becomeAs 48 = .ok (.bipush 12, 2) := by decide +kernel
theorem dX1_becomeAs_50 : decode cX1_becomeAs 50 = .ok (.invokestatic 51, 3) := by decide +kernel
theorem dX1_becomeAs_53 : decode cX1_becomeAs 53 = .ok (.aload_n 1, 1) := by decide +kernel
theorem dX1_becomeAs_54 : decode cX1_becomeAs 54 = .ok (.getfield 21, 3) := by decide +kernel
theorem dX1_becomeAs_57 : decode cX1_becomeAs 57 = .ok (.iconst 0, 1) := by decide +kernel
theorem dX1_becomeAs_58 : decode cX1_becomeAs 58 = .ok (.aload_n 0, 1) := by decide +kernel
theorem dX1_becomeAs_59 : decode cX1_becomeAs 59 = .ok (.getfield 21, 3) := by decide +kernel
theorem dX1_becomeAs_62 : decode cX1_becomeAs 62 = .ok (.iconst 0, 1) := by decide +kernel
theorem dX1_becomeAs_63 : decode cX1_becomeAs 63 = .ok (.bipush 12, 2) := by decide +kernel
theorem dX1_becomeAs_65 : decode cX1_becomeAs 65 = .ok (.invokestatic 51, 3) := by decide +kernel
theorem dX1_becomeAs_68 : decode cX1_becomeAs 68 = .ok (.aload_n 1, 1) := by decide +kernel
theorem dX1_becomeAs_69 : decode cX1_becomeAs 69 = .ok (.getfield 24, 3) := by decide +kernel
theorem dX1_becomeAs_72 : decode cX1_becomeAs 72 = .ok (.iconst 0, 1) := by decide +kernel
theorem dX1_becomeAs_73 : decode cX1_becomeAs 73 = .ok (.aload_n 0, 1) := by decide +kernel
theorem dX1_becomeAs_74 : decode cX1_becomeAs 74 = .ok (.getfield 24, 3) := by decide +kernel
theorem dX1_becomeAs_77 : decode cX1_becomeAs 77 = .ok (.iconst 0, 1) := by decide +kernel
theorem dX1_becomeAs_78 : decode cX1_becomeAs 78 = .ok (.bipush 12, 2) := by decide +kernel
theorem dX1_becomeAs_80 : decode cX1_becomeAs 80 = .ok (.invokestatic 51, 3) := by decide +kernel
theorem dX1_becomeAs_83 : decode cX1_becomeAs 83 = .ok (.aload_n 0, 1) := by decide +kernel
theorem dX1_becomeAs_84 : decode cX1_becomeAs 84 = .ok (.invokevirtual 44, 3) := by decide +kernel
theorem dX1_becomeAs_87 : decode cX1_becomeAs 87 = .ok (.return_, 1) := by decide +kernel
theorem dX1_isThere_0 : decode cX1_isThere 0 = .ok (.aload_n 0, 1) := by decide +kernel
theorem dX1_isThere_1 : decode cX1_isThere 1 = .ok (.getfield 40, 3) := by decide +kernel
theorem dX1_isThere_4 : decode cX1_isThere 4 = .ok (.iload_n 1, 1) := by decide +kernel
theorem dX1_isThere_5 : decode cX1_isThere 5 = .ok (.invokestatic 57, 3) := by decide +kernel
theorem dX1_isThere_8 : decode cX1_isThere 8 = .ok (.ireturn, 1) := by decide +kernel
theorem dX1_isInterface_0 : decode cX1_isInterface 0 = .ok (.aload_n 0, 1) := by decide +kernel
theorem dX1_isInterface_1 : decode cX1_isInterface 1 = .ok (.getfield 9, 3) := by decide +kernel
theorem dX1_isInterface_4 : decode cX1_isInterface 4 = .ok (.iload_n 1, 1) := by decide +kernel
theorem dX1_isInterface_5 : decode cX1_isInterface 5 = .ok (.iaload, 1) := by decide +kernel
theorem dX1_isInterface_6 : decode cX1_isInterface 6 = .ok (.iconst 2, 1) := by decide +kernel
theorem dX1_isInterface_7 : decode cX1_isInterface 7 = .ok (.iand, 1) := by decide +kernel
theorem dX1_isInterface_8 : decode cX1_isInterface 8 = .ok (.ifCond .eq 7, 3) := by decide +kernel
theorem dX1_isInterface_11 : decode cX1_isInterface 11 = .ok (.iconst 1, 1) := by decide +kernel
theorem dX1_isInterface_12 : decode cX1_isInterface 12 = .ok (.goto 4, 3) := by decide +kernel
theorem dX1_isInterface_15 : decode cX1_isInterface 15 = .ok (.iconst 0, 1) := by decide +kernel
theorem dX1_isInterface_16 : decode cX1_isInterface 16 = .ok (.ireturn, 1) := by decide +kernel
theorem dX1_canBeMade_0 : decode cX1_canBeMade 0 = .ok (.aload_n 0, 1) := by decide +kernel
theorem dX1_canBeMade_1 : decode cX1_canBeMade 1 = .ok (.getfield 9, 3) := by decide +kernel
theorem dX1_canBeMade_4 : decode cX1_canBeMade 4 = .ok (.iload_n 1, 1) := by decide +kernel
theorem dX1_canBeMade_5 : decode cX1_canBeMade 5 = .ok (.iaload, 1) := by decide +kernel
theorem dX1_canBeMade_6 : decode cX1_canBeMade 6 = .ok (.bipush 6, 2) := by decide +kernel
theorem dX1_canBeMade_8 : decode cX1_canBeMade 8 = .ok (.iand, 1) := by decide +kernel
theorem dX1_canBeMade_9 : decode cX1_canBeMade 9 = .ok (.ifCond .ne 7, 3) := by decide +kernel
theorem dX1_canBeMade_12 : decode cX1_canBeMade 12 = .ok (.iconst 1, 1) := by decide +kernel
theorem dX1_canBeMade_13 : decode cX1_canBeMade 13 = .ok (.goto 4, 3) := by decide +kernel
theorem dX1_canBeMade_16 : decode cX1_canBeMade 16 = .ok (.iconst 0, 1) := by decide +kernel
theorem dX1_canBeMade_17 : decode cX1_canBeMade 17 = .ok (.ireturn, 1) := by decide +kernel
theorem dX1_superOf_0 : decode cX1_superOf 0 = .ok (.aload_n 0, 1) := by decide +kernel
theorem dX1_superOf_1 : decode cX1_superOf 1 = .ok (.getfield 18, 3) := by decide +kernel
theorem dX1_superOf_4 : decode cX1_superOf 4 = .ok (.iload_n 1, 1) := by decide +kernel
theorem dX1_superOf_5 : decode cX1_superOf 5 = .ok (.iaload, 1) := by decide +kernel
theorem dX1_superOf_6 : decode cX1_superOf 6 = .ok (.ireturn, 1) := by decide +kernel
theorem dX1_directFacesOf_0 : decode cX1_directFacesOf 0 = .ok (.aload_n 0, 1) := by decide +kernel
theorem dX1_directFacesOf_1 : decode cX1_directFacesOf 1 = .ok (.getfield 21, 3) := by decide +kernel
theorem dX1_directFacesOf_4 : decode cX1_directFacesOf 4 = .ok (.iload_n 1, 1) := by decide +kernel
theorem dX1_directFacesOf_5 : decode cX1_directFacesOf 5 = .ok (.iaload, 1) := by decide +kernel
theorem dX1_directFacesOf_6 : decode cX1_directFacesOf 6 = .ok (.ireturn, 1) := by decide +kernel
theorem dX1_facesOf_0 : decode cX1_facesOf 0 = .ok (.aload_n 0, 1) := by decide +kernel
theorem dX1_facesOf_1 : decode cX1_facesOf 1 = .ok (.getfield 33, 3) := by decide +kernel
theorem dX1_facesOf_4 : decode cX1_facesOf 4 = .ok (.iload_n 1, 1) := by decide +kernel
theorem dX1_facesOf_5 : decode cX1_facesOf 5 = .ok (.iaload, 1) := by decide +kernel
theorem dX1_facesOf_6 : decode cX1_facesOf 6 = .ok (.ireturn, 1) := by decide +kernel
theorem dX1_loading_0 : decode cX1_loading 0 = .ok (.aload_n 0, 1) := by decide +kernel
theorem dX1_loading_1 : decode cX1_loading 1 = .ok (.getfield 27, 3) := by decide +kernel
theorem dX1_loading_4 : decode cX1_loading 4 = .ok (.iload_n 1, 1) := by decide +kernel
theorem dX1_loading_5 : decode cX1_loading 5 = .ok (.iaload, 1) := by decide +kernel
theorem dX1_loading_6 : decode cX1_loading 6 = .ok (.ireturn, 1) := by decide +kernel
theorem dX1_reaching_0 : decode cX1_reaching 0 = .ok (.aload_n 0, 1) := by decide +kernel
theorem dX1_reaching_1 : decode cX1_reaching 1 = .ok (.getfield 27, 3) := by decide +kernel
theorem dX1_reaching_4 : decode cX1_reaching 4 = .ok (.iload_n 1, 1) := by decide +kernel
theorem dX1_reaching_5 : decode cX1_reaching 5 = .ok (.iaload, 1) := by decide +kernel
theorem dX1_reaching_6 : decode cX1_reaching 6 = .ok (.invokestatic 61, 3) := by decide +kernel
theorem dX1_reaching_9 : decode cX1_reaching 9 = .ok (.ifCond .ne 10, 3) := by decide +kernel
theorem dX1_reaching_12 : decode cX1_reaching 12 = .ok (.aload_n 0, 1) := by decide +kernel
theorem dX1_reaching_13 : decode cX1_reaching 13 = .ok (.getfield 27, 3) := by decide +kernel
theorem dX1_reaching_16 : decode cX1_reaching 16 = .ok (.iload_n 1, 1) := by decide +kernel
theorem dX1_reaching_17 : decode cX1_reaching 17 = .ok (.iaload, 1) := by decide +kernel
theorem dX1_reaching_18 : decode cX1_reaching 18 = .ok (.ireturn, 1) := by decide +kernel
theorem dX1_reaching_19 : decode cX1_reaching 19 = .ok (.aload_n 0, 1) := by decide +kernel
theorem dX1_reaching_20 : decode cX1_reaching 20 = .ok (.getfield 9, 3) := by decide +kernel
theorem dX1_reaching_23 : decode cX1_reaching 23 = .ok (.iload_n 1, 1) := by decide +kernel
theorem dX1_reaching_24 : decode cX1_reaching 24 = .ok (.iaload, 1) := by decide +kernel
theorem dX1_reaching_25 : decode cX1_reaching 25 = .ok (.iconst 1, 1) := by decide +kernel
theorem dX1_reaching_26 : decode cX1_reaching 26 = .ok (.iand, 1) := by decide +kernel
theorem dX1_reaching_27 : decode cX1_reaching 27 = .ok (.ifCond .ne 12, 3) := by decide +kernel
theorem dX1_reaching_30 : decode cX1_reaching 30 = .ok (.aload_n 0, 1) := by decide +kernel
theorem dX1_reaching_31 : decode cX1_reaching 31 = .ok (.iload_n 1, 1) := by decide +kernel
theorem dX1_reaching_32 : decode cX1_reaching 32 = .ok (.iload_n 2, 1) := by decide +kernel
theorem dX1_reaching_33 : decode cX1_reaching 33 = .ok (.invokevirtual 64, 3) := by decide +kernel
theorem dX1_reaching_36 : decode cX1_reaching 36 = .ok (.ifCond .eq 7, 3) := by decide +kernel
theorem dX1_reaching_39 : decode cX1_reaching 39 = .ok (.iconst 1, 1) := by decide +kernel
theorem dX1_reaching_40 : decode cX1_reaching 40 = .ok (.goto 4, 3) := by decide +kernel
theorem dX1_reaching_43 : decode cX1_reaching 43 = .ok (.iconst 0, 1) := by decide +kernel
theorem dX1_reaching_44 : decode cX1_reaching 44 = .ok (.istore_n 3, 1) := by decide +kernel
theorem dX1_reaching_45 : decode cX1_reaching 45 = .ok (.iload_n 3, 1) := by decide +kernel
theorem dX1_reaching_46 : decode cX1_reaching 46 = .ok (.ifCond .eq 7, 3) := by decide +kernel
theorem dX1_reaching_49 : decode cX1_reaching 49 = .ok (.iload_n 1, 1) := by decide +kernel
theorem dX1_reaching_50 : decode cX1_reaching 50 = .ok (.goto 8, 3) := by decide +kernel
theorem dX1_reaching_53 : decode cX1_reaching 53 = .ok (.sipush 256, 3) := by decide +kernel
theorem dX1_reaching_56 : decode cX1_reaching 56 = .ok (.iload_n 1, 1) := by decide +kernel
theorem dX1_reaching_57 : decode cX1_reaching 57 = .ok (.iadd, 1) := by decide +kernel
theorem dX1_reaching_58 : decode cX1_reaching 58 = .ok (.ireturn, 1) := by decide +kernel
theorem dX1_isSamePackage_0 : decode cX1_isSamePackage 0 = .ok (.aload_n 0, 1) := by decide +kernel
theorem dX1_isSamePackage_1 : decode cX1_isSamePackage 1 = .ok (.getfield 15, 3) := by decide +kernel
theorem dX1_isSamePackage_4 : decode cX1_isSamePackage 4 = .ok (.iload_n 1, 1) := by decide +kernel
theorem dX1_isSamePackage_5 : decode cX1_isSamePackage 5 = .ok (.iaload, 1) := by decide +kernel
theorem dX1_isSamePackage_6 : decode cX1_isSamePackage 6 = .ok (.aload_n 0, 1) := by decide +kernel
theorem dX1_isSamePackage_7 : decode cX1_isSamePackage 7 = .ok (.getfield 15, 3) := by decide +kernel
theorem dX1_isSamePackage_10 : decode cX1_isSamePackage 10 = .ok (.iload_n 2, 1) := by decide +kernel
theorem dX1_isSamePackage_11 : decode cX1_isSamePackage 11 = .ok (.iaload, 1) := by decide +kernel
theorem dX1_isSamePackage_12 : decode cX1_isSamePackage 12 = .ok (.if_icmp .ne 7, 3) := by decide +kernel
theorem dX1_isSamePackage_15 : decode cX1_isSamePackage 15 = .ok (.iconst 1, 1) := by decide +kernel
theorem dX1_isSamePackage_16 : decode cX1_isSamePackage 16 = .ok (.goto 4, 3) := by decide +kernel
theorem dX1_isSamePackage_19 : decode cX1_isSamePackage 19 = .ok (.iconst 0, 1) := by decide +kernel
theorem dX1_isSamePackage_20 : decode cX1_isSamePackage 20 = .ok (.ireturn, 1) := by decide +kernel
theorem dX1_hasAbove_0 : decode cX1_hasAbove 0 = .ok (.aload_n 0, 1) := by decide +kernel
theorem dX1_hasAbove_1 : decode cX1_hasAbove 1 = .ok (.getfield 30, 3) := by decide +kernel
theorem dX1_hasAbove_4 : decode cX1_hasAbove 4 = .ok (.iload_n 1, 1) := by decide +kernel
theorem dX1_hasAbove_5 : decode cX1_hasAbove 5 = .ok (.iaload, 1) := by decide +kernel
theorem dX1_hasAbove_6 : decode cX1_hasAbove 6 = .ok (.iload_n 2, 1) := by decide +kernel
theorem dX1_hasAbove_7 : decode cX1_hasAbove 7 = .ok (.invokestatic 57, 3) := by decide +kernel
theorem dX1_hasAbove_10 : decode cX1_hasAbove 10 = .ok (.ireturn, 1) := by decide +kernel
theorem dX1_liesUnder_0 : decode cX1_liesUnder 0 = .ok (.aload_n 0, 1) := by decide +kernel
theorem dX1_liesUnder_1 : decode cX1_liesUnder 1 = .ok (.getfield 30, 3) := by decide +kernel
theorem dX1_liesUnder_4 : decode cX1_liesUnder 4 = .ok (.iload_n 1, 1) := by decide +kernel
theorem dX1_liesUnder_5 : decode cX1_liesUnder 5 = .ok (.iaload, 1) := by decide +kernel
theorem dX1_liesUnder_6 : decode cX1_liesUnder 6 = .ok (.aload_n 0, 1) := by decide +kernel
theorem dX1_liesUnder_7 : decode cX1_liesUnder 7 = .ok (.getfield 33, 3) := by decide +kernel
theorem dX1_liesUnder_10 : decode cX1_liesUnder 10 = .ok (.iload_n 1, 1) := by decide +kernel
theorem dX1_liesUnder_11 : decode cX1_liesUnder 11 = .ok (.iaload, 1) := by decide +kernel
theorem dX1_liesUnder_12 : decode cX1_liesUnder 12 = .ok (.ior, 1) := by decide +kernel
theorem dX1_liesUnder_13 : decode cX1_liesUnder 13 = .ok (.iload_n 2, 1) := by decide +kernel
theorem dX1_liesUnder_14 : decode cX1_liesUnder 14 = .ok (.invokestatic 57, 3) := by decide +kernel
theorem dX1_liesUnder_17 : decode cX1_liesUnder 17 = .ok (.ireturn, 1) := by decide +kernel
theorem dX1_mostSpecificOf_0 : decode cX1_mostSpecificOf 0 = .ok (.iconst 0, 1) := by decide +kernel
theorem dX1_mostSpecificOf_1 : decode cX1_mostSpecificOf 1 = .ok (.istore_n 2, 1) := by decide +kernel
theorem dX1_mostSpecificOf_2 : decode cX1_mostSpecificOf 2 = .ok (.iconst 0, 1) := by decide +kernel
theorem dX1_mostSpecificOf_3 : decode cX1_mostSpecificOf 3 = .ok (.istore_n 3, 1) := by decide +kernel
theorem dX1_mostSpecificOf_4 : decode cX1_mostSpecificOf 4 = .ok (.iload_n 3, 1) := by decide +kernel
theorem dX1_mostSpecificOf_5 : decode cX1_mostSpecificOf 5 = .ok (.bipush 12, 2) := by decide +kernel
theorem dX1_mostSpecificOf_7 : decode cX1_mostSpecificOf 7 = .ok (.if_icmp .ge 30, 3) := by decide +kernel
theorem dX1_mostSpecificOf_10 : decode cX1_mostSpecificOf 10 = .ok (.iload_n 2, 1) := by decide +kernel
theorem dX1_mostSpecificOf_11 : decode cX1_mostSpecificOf 11 = .ok (.iload_n 1, 1) := by decide +kernel
theorem dX1_mostSpecificOf_12 : decode cX1_mostSpecificOf 12 = .ok (.iload_n 3, 1) := by decide +kernel
theorem dX1_mostSpecificOf_13 : decode cX1_mostSpecificOf 13 = .ok (.invokestatic 57, 3) := by decide +kernel
theorem dX1_mostSpecificOf_16 : decode cX1_mostSpecificOf 16 = .ok (.ifCond .eq 12, 3) := by decide +kernel
theorem dX1_mostSpecificOf_19 : decode cX1_mostSpecificOf 19 = .ok (.aload_n 0, 1) := by decide +kernel
theorem dX1_mostSpecificOf_20 : decode cX1_mostSpecificOf 20 = .ok (.getfield 33, 3) := by decide +kernel
theorem dX1_mostSpecificOf_23 : decode cX1_mostSpecificOf 23 = .ok (.iload_n 3, 1) := by decide +kernel
theorem dX1_mostSpecificOf_24 : decode cX1_mostSpecificOf 24 = .ok (.iaload, 1) := by decide +kernel
theorem dX1_mostSpecificOf_25 : decode cX1_mostSpecificOf 25 = .ok (.goto 4, 3) := by decide +kernel
theorem dX1_mostSpecificOf_28 : decode cX1_mostSpecificOf 28 = .ok (.iconst 0, 1) := by decide +kernel
theorem dX1_mostSpecificOf_29 : decode cX1_mostSpecificOf 29 = .ok (.ior, 1) := by decide +kernel
theorem dX1_mostSpecificOf_30 : decode cX1_mostSpecificOf 30 = .ok (.istore_n 2, 1) := by decide +kernel
theorem dX1_mostSpecificOf_31 : decode cX1_mostSpecificOf 31 = .ok (.iinc 3 1, 3) := by decide +kernel
theorem dX1_mostSpecificOf_34 : decode cX1_mostSpecificOf 34 = .ok (.goto (-30), 3) := by decide +kernel
theorem dX1_mostSpecificOf_37 : decode cX1_mostSpecificOf 37 = .ok (.iload_n 1, 1) := by decide +kernel
theorem dX1_mostSpecificOf_38 : decode cX1_mostSpecificOf 38 = .ok (.iload_n 2, 1) := by decide +kernel
theorem dX1_mostSpecificOf_39 : decode cX1_mostSpecificOf 39 = .ok (.iconst (-1), 1) := by decide +kernel
theorem dX1_mostSpecificOf_40 : decode cX1_mostSpecificOf 40 = .ok (.ixor, 1) := by decide +kernel
theorem dX1_mostSpecificOf_41 : decode cX1_mostSpecificOf 41 = .ok (.iand, 1) := by decide +kernel
theorem dX1_mostSpecificOf_42 : decode cX1_mostSpecificOf 42 = .ok (.ireturn, 1) := by decide +kernel
theorem dX1_nestOf_0 : decode cX1_nestOf 0 = .ok (.aload_n 0, 1) := by decide +kernel
theorem dX1_nestOf_1 : decode cX1_nestOf 1 = .ok (.getfield 24, 3) := by decide +kernel
theorem dX1_nestOf_4 : decode cX1_nestOf 4 = .ok (.iload_n 1, 1) := by decide +kernel
theorem dX1_nestOf_5 : decode cX1_nestOf 5 = .ok (.iaload, 1) := by decide +kernel
theorem dX1_nestOf_6 : decode cX1_nestOf 6 = .ok (.istore_n 2, 1) := by decide +kernel
theorem dX1_nestOf_7 : decode cX1_nestOf 7 = .ok (.aload_n 0, 1) := by decide +kernel
theorem dX1_nestOf_8 : decode cX1_nestOf 8 = .ok (.iload_n 2, 1) := by decide +kernel
theorem dX1_nestOf_9 : decode cX1_nestOf 9 = .ok (.invokevirtual 47, 3) := by decide +kernel
theorem dX1_nestOf_12 : decode cX1_nestOf 12 = .ok (.ifCond .eq 26, 3) := by decide +kernel
theorem dX1_nestOf_15 : decode cX1_nestOf 15 = .ok (.aload_n 0, 1) := by decide +kernel
theorem dX1_nestOf_16 : decode cX1_nestOf 16 = .ok (.iload_n 2, 1) := by decide +kernel
theorem dX1_nestOf_17 : decode cX1_nestOf 17 = .ok (.iload_n 1, 1) := by decide +kernel
theorem dX1_nestOf_18 : decode cX1_nestOf 18 = .ok (.invokevirtual 64, 3) := by decide +kernel
theorem dX1_nestOf_21 : decode cX1_nestOf 21 = .ok (.ifCond .eq 17, 3) := by decide +kernel
theorem dX1_nestOf_24 : decode cX1_nestOf 24 = .ok (.aload_n 0, 1) := by decide +kernel
theorem dX1_nestOf_25 : decode cX1_nestOf 25 = .ok (.getfield 24, 3) := by decide +kernel
theorem dX1_nestOf_28 : decode cX1_nestOf 28 = .ok (.iload_n 2, 1) := by decide +kernel
theorem dX1_nestOf_29 : decode cX1_nestOf 29 = .ok (.iaload, 1) := by decide +kernel
theorem dX1_nestOf_30 : decode cX1_nestOf 30 = .ok (.iload_n 2, 1) := by decide +kernel
theorem dX1_nestOf_31 : decode cX1_nestOf 31 = .ok (.if_icmp .ne 7, 3) := by decide +kernel
theorem dX1_nestOf_34 : decode cX1_nestOf 34 = .ok (.iload_n 2, 1) := by decide +kernel
theorem dX1_nestOf_35 : decode cX1_nestOf 35 = .ok (.goto 4, 3) := by decide +kernel
theorem dX1_nestOf_38 : decode cX1_nestOf 38 = .ok (.iload_n 1, 1) := by decide +kernel
theorem dX1_nestOf_39 : decode cX1_nestOf 39 = .ok (.ireturn, 1) := by decide +kernel
theorem dX1_countThere_0 : decode cX1_countThere 0 = .ok (.aload_n 0, 1) := by decide +kernel
theorem dX1_countThere_1 : decode cX1_countThere 1 = .ok (.getfield 40, 3) := by decide +kernel
theorem dX1_countThere_4 : decode cX1_countThere 4 = .ok (.invokestatic 67, 3) := by decide +kernel
theorem dX1_countThere_7 : decode cX1_countThere 7 = .ok (.ireturn, 1) := by decide +kernel
theorem dX1_countLoaded_0 : decode cX1_countLoaded 0 = .ok (.aload_n 0, 1) := by decide +kernel
theorem dX1_countLoaded_1 : decode cX1_countLoaded 1 = .ok (.getfield 72, 3) := by decide +kernel
theorem dX1_countLoaded_4 : decode cX1_countLoaded 4 = .ok (.invokestatic 67, 3) := by decide +kernel
theorem dX1_countLoaded_7 : decode cX1_countLoaded 7 = .ok (.ireturn, 1) := by decide +kernel
theorem dX1_nestSharers_0 : decode cX1_nestSharers 0 = .ok (.iconst 0, 1) := by decide +kernel
theorem dX1_nestSharers_1 : decode cX1_nestSharers 1 = .ok (.istore_n 1, 1) := by decide +kernel
theorem dX1_nestSharers_2 : decode cX1_nestSharers 2 = .ok (.iconst 0, 1) := by decide +kernel
theorem dX1_nestSharers_3 : decode cX1_nestSharers 3 = .ok (.istore_n 2, 1) := by decide +kernel
theorem dX1_nestSharers_4 : decode cX1_nestSharers 4 = .ok (.iload_n 2, 1) := by decide +kernel
theorem dX1_nestSharers_5 : decode cX1_nestSharers 5 = .ok (.bipush 12, 2) := by decide +kernel
theorem dX1_nestSharers_7 : decode cX1_nestSharers 7 = .ok (.if_icmp .ge 63, 3) := by decide +kernel
theorem dX1_nestSharers_10 : decode cX1_nestSharers 10 = .ok (.iconst 0, 1) := by decide +kernel
theorem dX1_nestSharers_11 : decode cX1_nestSharers 11 = .ok (.istore_n 3, 1) := by decide +kernel
theorem dX1_nestSharers_12 : decode cX1_nestSharers 12 = .ok (.iload_n 3, 1) := by decide +kernel
theorem dX1_nestSharers_13 : decode cX1_nestSharers 13 = .ok (.iload_n 2, 1) := by decide +kernel
theorem dX1_nestSharers_14 : decode cX1_nestSharers 14 = .ok (.if_icmp .ge 50, 3) := by decide +kernel
theorem dX1_nestSharers_17 : decode cX1_nestSharers 17 = .ok (.aload_n 0, 1) := by decide +kernel
theorem dX1_nestSharers_18 : decode cX1_nestSharers 18 = .ok (.iload_n 2, 1) := by decide +kernel
theorem dX1_nestSharers_19 : decode cX1_nestSharers 19 = .ok (.invokevirtual 47, 3) := by decide +kernel
theorem dX1_nestSharers_22 : decode cX1_nestSharers 22 = .ok (.ifCond .eq 36, 3) := by decide +kernel
theorem dX1_nestSharers_25 : decode cX1_nestSharers 25 = .ok (.aload_n 0, 1) := by decide +kernel
theorem dX1_nestSharers_26 : decode cX1_nestSharers 26 = .ok (.iload_n 3, 1) := by decide +kernel
theorem dX1_nestSharers_27 : decode cX1_nestSharers 27 = .ok (.invokevirtual 47, 3) := by decide +kernel
theorem dX1_nestSharers_30 : decode cX1_nestSharers 30 = .ok (.ifCond .eq 28, 3) := by decide +kernel
theorem dX1_nestSharers_33 : decode cX1_nestSharers 33 = .ok (.aload_n 0, 1) := by decide +kernel
theorem dX1_nestSharers_34 : decode cX1_nestSharers 34 = .ok (.iload_n 2, 1) := by decide +kernel
theorem dX1_nestSharers_35 : decode cX1_nestSharers 35 = .ok (.invokevirtual 75, 3) := by decide +kernel
theorem dX1_nestSharers_38 : decode cX1_nestSharers 38 = .ok (.aload_n 0, 1) := by decide +kernel
theorem dX1_nestSharers_39 : decode cX1_nestSharers 39 = .ok (.iload_n 3, 1) := by decide +kernel
theorem dX1_nestSharers_40 : decode cX1_nestSharers 40 = .ok (.invokevirtual 75, 3) := by decide +kernel
theorem dX1_nestSharers_43 : decode cX1_nestSharers 43 = .ok (.if_icmp .ne 15, 3) := by decide +kernel
theorem dX1_nestSharers_46 : decode cX1_nestSharers 46 = .ok (.iload_n 1, 1) := by decide +kernel
theorem dX1_nestSharers_47 : decode cX1_nestSharers 47 = .ok (.iload_n 2, 1) := by decide +kernel
theorem dX1_nestSharers_48 : decode cX1_nestSharers 48 = .ok (.invokestatic 36, 3) := by decide +kernel
theorem dX1_nestSharers_51 : decode cX1_nestSharers 51 = .ok (.iload_n 3, 1) := by decide +kernel
theorem dX1_nestSharers_52 : decode cX1_nestSharers 52 = .ok (.invokestatic 36, 3) := by decide +kernel
theorem dX1_nestSharers_55 : decode cX1_nestSharers 55 = .ok (.ior, 1) := by decide +kernel
theorem dX1_nestSharers_56 : decode cX1_nestSharers 56 = .ok (.ior, 1) := by decide +kernel
theorem dX1_nestSharers_57 : decode cX1_nestSharers 57 = .ok (.istore_n 1, 1) := by decide +kernel
theorem dX1_nestSharers_58 : decode cX1_nestSharers 58 = .ok (.iinc 3 1, 3) := by decide +kernel
theorem dX1_nestSharers_61 : decode cX1_nestSharers 61 = .ok (.goto (-49), 3) := by decide +kernel
theorem dX1_nestSharers_64 : decode cX1_nestSharers 64 = .ok (.iinc 2 1, 3) := by decide +kernel
theorem dX1_nestSharers_67 : decode cX1_nestSharers 67 = .ok (.goto (-63), 3) := by decide +kernel
theorem dX1_nestSharers_70 : decode cX1_nestSharers 70 = .ok (.iload_n 1, 1) := by decide +kernel
theorem dX1_nestSharers_71 : decode cX1_nestSharers 71 = .ok (.ireturn, 1) := by decide +kernel
theorem dX1_settle_0 : decode cX1_settle 0 = .ok (.aload_n 0, 1) := by decide +kernel
theorem dX1_settle_1 : decode cX1_settle 1 = .ok (.iconst 0, 1) := by decide +kernel
theorem dX1_settle_2 : decode cX1_settle 2 = .ok (.putfield 72, 3) := by decide +kernel
theorem dX1_settle_5 : decode cX1_settle 5 = .ok (.iconst 0, 1) := by decide +kernel
theorem dX1_settle_6 : decode cX1_settle 6 = .ok (.istore_n 1, 1) := by decide +kernel
theorem dX1_settle_7 : decode cX1_settle 7 = .ok (.iload_n 1, 1) := by decide +kernel
theorem dX1_settle_8 : decode cX1_settle 8 = .ok (.bipush 12, 2) := by decide +kernel
theorem dX1_settle_10 : decode cX1_settle 10 = .ok (.if_icmp .ge 21, 3) := by decide +kernel
theorem dX1_settle_13 : decode cX1_settle 13 = .ok (.aload_n 0, 1) := by decide +kernel
theorem dX1_settle_14 : decode cX1_settle 14 = .ok (.getfield 27, 3) := by decide +kernel
theorem dX1_settle_17 : decode cX1_settle 17 = .ok (.iload_n 1, 1) := by decide +kernel
theorem dX1_settle_18 : decode cX1_settle 18 = .ok (.aload_n 0, 1) := by decide +kernel
theorem dX1_settle_19 : decode cX1_settle 19 = .ok (.iload_n 1, 1) := by decide +kernel
theorem dX1_settle_20 : decode cX1_settle 20 = .ok (.iconst 0, 1) := by decide +kernel
theorem dX1_settle_21 : decode cX1_settle 21 = .ok (.invokevirtual 78, 3) := by decide +kernel
theorem dX1_settle_24 : decode cX1_settle 24 = .ok (.iastore, 1) := by decide +kernel
theorem dX1_settle_25 : decode cX1_settle 25 = .ok (.iinc 1 1, 3) := by decide +kernel
theorem dX1_settle_28 : decode cX1_settle 28 = .ok (.goto (-21), 3) := by decide +kernel
theorem dX1_settle_31 : decode cX1_settle 31 = .ok (.return_, 1) := by decide +kernel
theorem dX1_loadInside_0 : decode cX1_loadInside 0 = .ok (.aload_n 0, 1) := by decide +kernel
theorem dX1_loadInside_1 : decode cX1_loadInside 1 = .ok (.iload_n 1, 1) := by decide +kernel
theorem dX1_loadInside_2 : decode cX1_loadInside 2 = .ok (.invokevirtual 47, 3) := by decide +kernel
theorem dX1_loadInside_5 : decode cX1_loadInside 5 = .ok (.ifCond .ne 8, 3) := by decide +kernel
theorem dX1_loadInside_8 : decode cX1_loadInside 8 = .ok (.bipush 64, 2) := by decide +kernel
theorem dX1_loadInside_10 : decode cX1_loadInside 10 = .ok (.iload_n 1, 1) := by decide +kernel
theorem dX1_loadInside_11 : decode cX1_loadInside 11 = .ok (.iadd, 1) := by decide +kernel
theorem dX1_loadInside_12 : decode cX1_loadInside 12 = .ok (.ireturn, 1) := by decide +kernel
theorem dX1_loadInside_13 : decode cX1_loadInside 13 = .ok (.iload_n 2, 1) := by decide +kernel
theorem dX1_loadInside_14 : decode cX1_loadInside 14 = .ok (.iload_n 1, 1) := by decide +kernel
theorem dX1_loadInside_15 : decode cX1_loadInside 15 = .ok (.invokestatic 57, 3) := by decide +kernel
theorem dX1_loadInside_18 : decode cX1_loadInside 18 = .ok (.ifCond .eq 9, 3) := by decide +kernel
theorem dX1_loadInside_21 : decode cX1_loadInside 21 = .ok (.sipush 128, 3) := by decide +kernel
theorem dX1_loadInside_24 : decode cX1_loadInside 24 = .ok (.iload_n 1, 1) := by decide +kernel
theorem dX1_loadInside_25 : decode cX1_loadInside 25 = .ok (.iadd, 1) := by decide +kernel
theorem dX1_loadInside_26 : decode cX1_loadInside 26 = .ok (.ireturn, 1) := by decide +kernel
theorem dX1_loadInside_27 : decode cX1_loadInside 27 = .ok (.aload_n 0, 1) := by decide +kernel
theorem dX1_loadInside_28 : decode cX1_loadInside 28 = .ok (.getfield 72, 3) := by decide +kernel
theorem dX1_loadInside_31 : decode cX1_loadInside 31 = .ok (.iload_n 1, 1) := by decide +kernel
theorem dX1_loadInside_32 : decode cX1_loadInside 32 = .ok (.invokestatic 57, 3) := by decide +kernel
theorem dX1_loadInside_35 : decode cX1_loadInside 35 = .ok (.ifCond .eq 5, 3) := by decide +kernel
theorem dX1_loadInside_38 : decode cX1_loadInside 38 = .ok (.iload_n 1, 1) := by decide +kernel
theorem dX1_loadInside_39 : decode cX1_loadInside 39 = .ok (.ireturn, 1) := by decide +kernel
theorem dX1_loadInside_40 : decode cX1_loadInside 40 = .ok (.aload_n 0, 1) := by decide +kernel
theorem dX1_loadInside_41 : decode cX1_loadInside 41 = .ok (.iload_n 1, 1) := by decide +kernel
theorem dX1_loadInside_42 : decode cX1_loadInside 42 = .ok (.iload_n 2, 1) := by decide +kernel
theorem dX1_loadInside_43 : decode cX1_loadInside 43 = .ok (.iload_n 1, 1) := by decide +kernel
theorem dX1_loadInside_44 : decode cX1_loadInside 44 = .ok (.invokestatic 36, 3) := by decide +kernel
theorem dX1_loadInside_47 : decode cX1_loadInside 47 = .ok (.ior, 1) := by decide +kernel
theorem dX1_loadInside_48 : decode cX1_loadInside 48 = .ok (.invokevirtual 82, 3) := by decide +kernel
theorem dX1_loadInside_51 : decode cX1_loadInside 51 = .ok (.istore_n 3, 1) := by decide +kernel
theorem dX1_loadInside_52 : decode cX1_loadInside 52 = .ok (.iload_n 3, 1) := by decide +kernel
theorem dX1_loadInside_53 : decode cX1_loadInside 53 = .ok (.invokestatic 61, 3) := by decide +kernel
theorem dX1_loadInside_56 : decode cX1_loadInside 56 = .ok (.ifCond .ne 5, 3) := by decide +kernel
theorem dX1_loadInside_59 : decode cX1_loadInside 59 = .ok (.iload_n 3, 1) := by decide +kernel
theorem dX1_loadInside_60 : decode cX1_loadInside 60 = .ok (.ireturn, 1) := by decide +kernel
theorem dX1_loadInside_61 : decode cX1_loadInside 61 = .ok (.aload_n 0, 1) := by decide +kernel
theorem dX1_loadInside_62 : decode cX1_loadInside 62 = .ok (.iload_n 1, 1) := by decide +kernel
theorem dX1_loadInside_63 : decode cX1_loadInside 63 = .ok (.invokevirtual 85, 3) := by decide +kernel
theorem dX1_loadInside_66 : decode cX1_loadInside 66 = .ok (.ifCond .eq 9, 3) := by decide +kernel
theorem dX1_loadInside_69 : decode cX1_loadInside 69 = .ok (.sipush 192, 3) := by decide +kernel
theorem dX1_loadInside_72 : decode cX1_loadInside 72 = .ok (.iload_n 1, 1) := by decide +kernel
theorem dX1_loadInside_73 : decode cX1_loadInside 73 = .ok (.iadd, 1) := by decide +kernel
theorem dX1_loadInside_74 : decode cX1_loadInside 74 = .ok (.ireturn, 1) := by decide +kernel
theorem dX1_loadInside_75 : decode cX1_loadInside 75 = .ok (.aload_n 0, 1) := by decide +kernel
theorem dX1_loadInside_76 : decode cX1_loadInside 76 = .ok (.iload_n 1, 1) := by decide +kernel
theorem dX1_loadInside_77 : decode cX1_loadInside 77 = .ok (.invokevirtual 88, 3) := by decide +kernel
theorem dX1_loadInside_80 : decode cX1_loadInside 80 = .ok (.aload_n 0, 1) := by decide +kernel
theorem dX1_loadInside_81 : decode cX1_loadInside 81 = .ok (.dup, 1) := by decide +kernel
theorem dX1_loadInside_82 : decode cX1_loadInside 82 = .ok (.getfield 72, 3) := by decide +kernel
theorem dX1_loadInside_85 : decode cX1_loadInside 85 = .ok (.iload_n 1, 1) := by decide +kernel
theorem dX1_loadInside_86 : decode cX1_loadInside 86 = .ok (.invokestatic 36, 3) := by decide +kernel
theorem dX1_loadInside_89 : decode cX1_loadInside 89 = .ok (.ior, 1) := by decide +kernel
theorem dX1_loadInside_90 : decode cX1_loadInside 90 = .ok (.putfield 72, 3) := by decide +kernel
theorem dX1_loadInside_93 : decode cX1_loadInside 93 = .ok (.iload_n 1, 1) := by decide +kernel
theorem dX1_loadInside_94 : decode cX1_loadInside 94 = .ok (.ireturn, 1) := by decide +kernel
theorem dX1_loadParents_0 : decode cX1_loadParents 0 = .ok (.aload_n 0, 1) := by decide +kernel
theorem dX1_loadParents_1 : decode cX1_loadParents 1 = .ok (.getfield 18, 3) := by decide +kernel
theorem dX1_loadParents_4 : decode cX1_loadParents 4 = .ok (.iload_n 1, 1) := by decide +kernel
theorem dX1_loadParents_5 : decode cX1_loadParents 5 = .ok (.iaload, 1) := by decide +kernel
theorem dX1_loadParents_6 : decode cX1_loadParents 6 = .ok (.iconst (-1), 1) := by decide +kernel
theorem dX1_loadParents_7 : decode cX1_loadParents 7 = .ok (.if_icmp .eq 24, 3) := by decide +kernel
theorem dX1_loadParents_10 : decode cX1_loadParents 10 = .ok (.aload_n 0, 1) := by decide +kernel
theorem dX1_loadParents_11 : decode cX1_loadParents 11 = .ok (.aload_n 0, 1) := by decide +kernel
theorem dX1_loadParents_12 : decode cX1_loadParents 12 = .ok (.getfield 18, 3) := by decide +kernel
theorem dX1_loadParents_15 : decode cX1_loadParents 15 = .ok (.iload_n 1, 1) := by decide +kernel
theorem dX1_loadParents_16 : decode cX1_loadParents 16 = .ok (.iaload, 1) := by decide +kernel
theorem dX1_loadParents_17 : decode cX1_loadParents 17 = .ok (.iload_n 2, 1) := by decide +kernel
theorem dX1_loadParents_18 : decode cX1_loadParents 18 = .ok (.invokevirtual 78, 3) := by decide +kernel
theorem dX1_loadParents_21 : decode cX1_loadParents 21 = .ok (.istore_n 3, 1) := by decide +kernel
theorem dX1_loadParents_22 : decode cX1_loadParents 22 = .ok (.iload_n 3, 1) := by decide +kernel
theorem dX1_loadParents_23 : decode cX1_loadParents 23 = .ok (.invokestatic 61, 3) := by decide +kernel
theorem dX1_loadParents_26 : decode cX1_loadParents 26 = .ok (.ifCond .ne 5, 3) := by decide +kernel
theorem dX1_loadParents_29 : decode cX1_loadParents 29 = .ok (.iload_n 3, 1) := by decide +kernel
theorem dX1_loadParents_30 : decode cX1_loadParents 30 = .ok (.ireturn, 1) := by decide +kernel
theorem dX1_loadParents_31 : decode cX1_loadParents 31 = .ok (.iconst 0, 1) := by decide +kernel
theorem dX1_loadParents_32 : decode cX1_loadParents 32 = .ok (.istore_n 3, 1) := by decide +kernel
theorem dX1_loadParents_33 : decode cX1_loadParents 33 = .ok (.iload_n 3, 1) := by decide +kernel
theorem dX1_loadParents_34 : decode cX1_loadParents 34 = .ok (.bipush 12, 2) := by decide +kernel
theorem dX1_loadParents_36 : decode cX1_loadParents 36 = .ok (.if_icmp .ge 41, 3) := by decide +kernel
theorem dX1_loadParents_39 : decode cX1_loadParents 39 = .ok (.aload_n 0, 1) := by decide +kernel
theorem dX1_loadParents_40 : decode cX1_loadParents 40 = .ok (.getfield 21, 3) := by decide +kernel
theorem dX1_loadParents_43 : decode cX1_loadParents 43 = .ok (.iload_n 1, 1) := by decide +kernel
theorem dX1_loadParents_44 : decode cX1_loadParents 44 = .ok (.iaload, 1) := by decide +kernel
theorem dX1_loadParents_45 : decode cX1_loadParents 45 = .ok (.iload_n 3, 1) := by decide +kernel
theorem dX1_loadParents_46 : decode cX1_loadParents 46 = .ok (.invokestatic 57, 3) := by decide +kernel
theorem dX1_loadParents_49 : decode cX1_loadParents 49 = .ok (.ifCond .eq 22, 3) := by decide +kernel
theorem dX1_loadParents_52 : decode cX1_loadParents 52 = .ok (.aload_n 0, 1) := by decide +kernel
theorem dX1_loadParents_53 : decode cX1_loadParents 53 = .ok (.iload_n 3, 1) := by decide +kernel
theorem dX1_loadParents_54 : decode cX1_loadParents 54 = .ok (.iload_n 2, 1) := by decide +kernel
theorem dX1_loadParents_55 : decode cX1_loadParents 55 = .ok (.invokevirtual 78, 3) := by decide +kernel
theorem dX1_loadParents_58 : decode cX1_loadParents 58 = .ok (.istore 4, 2) := by decide +kernel
theorem dX1_loadParents_60 : decode cX1_loadParents 60 = .ok (.iload 4, 2) := by decide +kernel
theorem dX1_loadParents_62 : decode cX1_loadParents 62 = .ok (.invokestatic 61, 3) := by decide +kernel
theorem dX1_loadParents_65 : decode cX1_loadParents 65 = .ok (.ifCond .ne 6, 3) := by decide +kernel
theorem dX1_loadParents_68 : decode cX1_loadParents 68 = .ok (.iload 4, 2) := by decide +kernel
theorem dX1_loadParents_70 : decode cX1_loadParents 70 = .ok (.ireturn, 1) := by decide +kernel
theorem dX1_loadParents_71 : decode cX1_loadParents 71 = .ok (.iinc 3 1, 3) := by decide +kernel
theorem dX1_loadParents_74 : decode cX1_loadParents 74 = .ok (.goto (-41), 3) := by decide +kernel
theorem dX1_loadParents_77 : decode cX1_loadParents 77 = .ok (.iload_n 1, 1) := by decide +kernel
theorem dX1_loadParents_78 : decode cX1_loadParents 78 = .ok (.ireturn, 1) := by decide +kernel
theorem dX1_hasWrongParents_0 : decode cX1_hasWrongParents 0 = .ok (.aload_n 0, 1) := by decide +kernel
theorem dX1_hasWrongParents_1 : decode cX1_hasWrongParents 1 = .ok (.getfield 18, 3) := by decide +kernel
theorem dX1_hasWrongParents_4 : decode cX1_hasWrongParents 4 = .ok (.iload_n 1, 1) := by decide +kernel
theorem dX1_hasWrongParents_5 : decode cX1_hasWrongParents 5 = .ok (.iaload, 1) := by decide +kernel
theorem dX1_hasWrongParents_6 : decode cX1_hasWrongParents 6 = .ok (.istore_n 2, 1) := by decide +kernel
theorem dX1_hasWrongParents_7 : decode cX1_hasWrongParents 7 = .ok (.iload_n 2, 1) := by decide +kernel
theorem dX1_hasWrongParents_8 : decode cX1_hasWrongParents 8 = .ok (.iconst (-1), 1) := by decide +kernel
theorem dX1_hasWrongParents_9 : decode cX1_hasWrongParents 9 = .ok (.if_icmp .eq 17, 3) := by decide +kernel
theorem dX1_hasWrongParents_12 : decode cX1_hasWrongParents 12 = .ok (.aload_n 0, 1) := by decide +kernel
theorem dX1_hasWrongParents_13 : decode cX1_hasWrongParents 13 = .ok (.getfield 9, 3) := by decide +kernel
theorem dX1_hasWrongParents_16 : decode cX1_hasWrongParents 16 = .ok (.iload_n 2, 1) := by decide +kernel
theorem dX1_hasWrongParents_17 : decode cX1_hasWrongParents 17 = .ok (.iaload, 1) := by decide +kernel
theorem dX1_hasWrongParents_18 : decode cX1_hasWrongParents 18 = .ok (.bipush 10, 2) := by decide +kernel
theorem dX1_hasWrongParents_20 : decode cX1_hasWrongParents 20 = .ok (.iand, 1) := by decide +kernel
theorem dX1_hasWrongParents_21 : decode cX1_hasWrongParents 21 = .ok (.ifCond .eq 5, 3) := by decide +kernel
theorem dX1_hasWrongParents_24 : decode cX1_hasWrongParents 24 = .ok (.iconst 1, 1) := by decide +kernel
theorem dX1_hasWrongParents_25 : decode cX1_hasWrongParents 25 = .ok (.ireturn, 1) := by decide +kernel
theorem dX1_hasWrongParents_26 : decode cX1_hasWrongParents 26 = .ok (.aload_n 0, 1) := by decide +kernel
theorem dX1_hasWrongParents_27 : decode cX1_hasWrongParents 27 = .ok (.iload_n 1, 1) := by decide +kernel
theorem dX1_hasWrongParents_28 : decode cX1_hasWrongParents 28 = .ok (.invokevirtual 92, 3) := by decide +kernel
theorem dX1_hasWrongParents_31 : decode cX1_hasWrongParents 31 = .ok (.ifCond .eq 9, 3) := by decide +kernel
theorem dX1_hasWrongParents_34 : decode cX1_hasWrongParents 34 = .ok (.iload_n 2, 1) := by decide +kernel
theorem dX1_hasWrongParents_35 : decode cX1_hasWrongParents 35 = .ok (.ifCond .eq 5, 3) := by decide +kernel
theorem dX1_hasWrongParents_38 : decode cX1_hasWrongParents 38 = .ok (.iconst 1, 1) := by decide +kernel
theorem dX1_hasWrongParents_39 : decode cX1_hasWrongParents 39 = .ok (.ireturn, 1) := by decide +kernel
theorem dX1_hasWrongParents_40 : decode cX1_hasWrongParents 40 = .ok (.iconst 0, 1) := by decide +kernel
theorem dX1_hasWrongParents_41 : decode cX1_hasWrongParents 41 = .ok (.istore_n 3, 1) := by decide +kernel
theorem dX1_hasWrongParents_42 : decode cX1_hasWrongParents 42 = .ok (.iload_n 3, 1) := by decide +kernel
theorem dX1_hasWrongParents_43 : decode cX1_hasWrongParents 43 = .ok (.bipush 12, 2) := by decide +kernel
theorem dX1_hasWrongParents_45 : decode cX1_hasWrongParents 45 = .ok (.if_icmp .ge 32, 3) := by decide +kernel
theorem dX1_hasWrongParents_48 : decode cX1_hasWrongParents 48 = .ok (.aload_n 0, 1) := by decide +kernel
theorem dX1_hasWrongParents_49 : decode cX1_hasWrongParents 49 = .ok (.getfield 21, 3) := by decide +kernel
theorem dX1_hasWrongParents_52 : decode cX1_hasWrongParents 52 = .ok (.iload_n 1, 1) := by decide +kernel
theorem dX1_hasWrongParents_53 : decode cX1_hasWrongParents 53 = .ok (.iaload, 1) := by decide +kernel
theorem dX1_hasWrongParents_54 : decode cX1_hasWrongParents 54 = .ok (.iload_n 3, 1) := by decide +kernel
theorem dX1_hasWrongParents_55 : decode cX1_hasWrongParents 55 = .ok (.invokestatic 57, 3) := by decide +kernel
theorem dX1_hasWrongParents_58 : decode cX1_hasWrongParents 58 = .ok (.ifCond .eq 13, 3) := by decide +kernel
theorem dX1_hasWrongParents_61 : decode cX1_hasWrongParents 61 = .ok (.aload_n 0, 1) := by decide +kernel
theorem dX1_hasWrongParents_62 : decode cX1_hasWrongParents 62 = .ok (.iload_n 3, 1) := by decide +kernel
theorem dX1_hasWrongParents_63 : decode cX1_hasWrongParents 63 = .ok (.invokevirtual 92, 3) := by decide +kernel
theorem dX1_hasWrongParents_66 : decode cX1_hasWrongParents 66 = .ok (.ifCond .ne 5, 3) := by decide +kernel
theorem dX1_hasWrongParents_69 : decode cX1_hasWrongParents 69 = .ok (.iconst 1, 1) := by decide +kernel
theorem dX1_hasWrongParents_70 : decode cX1_hasWrongParents 70 = .ok (.ireturn, 1) := by decide +kernel
theorem dX1_hasWrongParents_71 : decode cX1_hasWrongParents 71 = .ok (.iinc 3 1, 3) := by decide +kernel
theorem dX1_hasWrongParents_74 : decode cX1_hasWrongParents 74 = .ok (.goto (-32), 3) := by decide +kernel
theorem dX1_hasWrongParents_77 : decode cX1_hasWrongParents 77 = .ok (.iconst 0, 1) := by decide +kernel
theorem dX1_hasWrongParents_78 : decode cX1_hasWrongParents 78 = .ok (.ireturn, 1) := by decide +kernel
theorem dX1_gatherSets_0 : decode cX1_gatherSets 0 = .ok (.aload_n 0, 1) := by decide +kernel
theorem dX1_gatherSets_1 : decode cX1_gatherSets 1 = .ok (.getfield 18, 3) := by decide +kernel
theorem dX1_gatherSets_4 : decode cX1_gatherSets 4 = .ok (.iload_n 1, 1) := by decide +kernel
theorem dX1_gatherSets_5 : decode cX1_gatherSets 5 = .ok (.iaload, 1) := by decide +kernel
theorem dX1_gatherSets_6 : decode cX1_gatherSets 6 = .ok (.istore_n 2, 1) := by decide +kernel
theorem dX1_gatherSets_7 : decode cX1_gatherSets 7 = .ok (.aload_n 0, 1) := by decide +kernel
theorem dX1_gatherSets_8 : decode cX1_gatherSets 8 = .ok (.getfield 30, 3) := by decide +kernel
theorem dX1_gatherSets_11 : decode cX1_gatherSets 11 = .ok (.iload_n 1, 1) := by decide +kernel
theorem dX1_gatherSets_12 : decode cX1_gatherSets 12 = .ok (.iload_n 2, 1) := by decide +kernel
theorem dX1_gatherSets_13 : decode cX1_gatherSets 13 = .ok (.iconst (-1), 1) := by decide +kernel
theorem dX1_gatherSets_14 : decode cX1_gatherSets 14 = .ok (.if_icmp .ne 10, 3) := by decide +kernel
theorem dX1_gatherSets_17 : decode cX1_gatherSets 17 = .ok (.iload_n 1, 1) := by decide +kernel
theorem dX1_gatherSets_18 : decode cX1_gatherSets 18 = .ok (.invokestatic 36, 3) := by decide +kernel
theorem dX1_gatherSets_21 : decode cX1_gatherSets 21 = .ok (.goto 14, 3) := by decide +kernel
theorem dX1_gatherSets_24 : decode cX1_gatherSets 24 = .ok (.iload_n 1, 1) := by decide +kernel
theorem dX1_gatherSets_25 : decode cX1_gatherSets 25 = .ok (.invokestatic 36, 3) := by decide +kernel
theorem dX1_gatherSets_28 : decode cX1_gatherSets 28 = .ok (.aload_n 0, 1) := by decide +kernel
theorem dX1_gatherSets_29 : decode cX1_gatherSets 29 = .ok (.getfield 30, 3) := by decide +kernel
theorem dX1_gatherSets_32 : decode cX1_gatherSets 32 = .ok (.iload_n 2, 1) := by decide +kernel
theorem dX1_gatherSets_33 : decode cX1_gatherSets 33 = .ok (.iaload, 1) := by decide +kernel
theorem dX1_gatherSets_34 : decode cX1_gatherSets 34 = .ok (.ior, 1) := by decide +kernel
theorem dX1_gatherSets_35 : decode cX1_gatherSets 35 = .ok (.iastore, 1) := by decide +kernel
theorem dX1_gatherSets_36 : decode cX1_gatherSets 36 = .ok (.iload_n 2, 1) := by decide +kernel
theorem dX1_gatherSets_37 : decode cX1_gatherSets 37 = .ok (.iconst (-1), 1) := by decide +kernel
theorem dX1_gatherSets_38 : decode cX1_gatherSets 38 = .ok (.if_icmp .ne 12, 3) := by decide +kernel
theorem dX1_gatherSets_41 : decode cX1_gatherSets 41 = .ok (.aload_n 0, 1) := by decide +kernel
theorem dX1_gatherSets_42 : decode cX1_gatherSets 42 = .ok (.getfield 21, 3) := by decide +kernel
theorem dX1_gatherSets_45 : decode cX1_gatherSets 45 = .ok (.iload_n 1, 1) := by decide +kernel
theorem dX1_gatherSets_46 : decode cX1_gatherSets 46 = .ok (.iaload, 1) := by decide +kernel
theorem dX1_gatherSets_47 : decode cX1_gatherSets 47 = .ok (.goto 16, 3) := by decide +kernel
theorem dX1_gatherSets_50 : decode cX1_gatherSets 50 = .ok (.aload_n 0, 1) := by decide +kernel
theorem dX1_gatherSets_51 : decode cX1_gatherSets 51 = .ok (.getfield 21, 3) := by decide +kernel
theorem dX1_gatherSets_54 : decode cX1_gatherSets 54 = .ok (.iload_n 1, 1) := by decide +kernel
theorem dX1_gatherSets_55 : decode cX1_gatherSets 55 = .ok (.iaload, 1) := by decide +kernel
theorem dX1_gatherSets_56 : decode cX1_gatherSets 56 = .ok (.aload_n 0, 1) := by decide +kernel
theorem dX1_gatherSets_57 : decode cX1_gatherSets 57 = .ok (.getfield 33, 3) := by decide +kernel
theorem dX1_gatherSets_60 : decode cX1_gatherSets 60 = .ok (.iload_n 2, 1) := by decide +kernel
theorem dX1_gatherSets_61 : decode cX1_gatherSets 61 = .ok (.iaload, 1) := by decide +kernel
theorem dX1_gatherSets_62 : decode cX1_gatherSets 62 = .ok (.ior, 1) := by decide +kernel
theorem dX1_gatherSets_63 : decode cX1_gatherSets 63 = .ok (.istore_n 3, 1) := by decide +kernel
theorem dX1_gatherSets_64 : decode cX1_gatherSets 64 = .ok (.iconst 0, 1) := by decide +kernel
theorem dX1_gatherSets_65 : decode cX1_gatherSets 65 = .ok (.istore 4, 2) := by decide +kernel
theorem dX1_gatherSets_67 : decode cX1_gatherSets 67 = .ok (.iload 4, 2) := by decide +kernel
theorem dX1_gatherSets_69 : decode cX1_gatherSets 69 = .ok (.bipush 12, 2) := by decide +kernel
theorem dX1_gatherSets_71 : decode cX1_gatherSets 71 = .ok (.if_icmp .ge 33, 3) := by decide +kernel
theorem dX1_gatherSets_74 : decode cX1_gatherSets 74 = .ok (.aload_n 0, 1) := by decide +kernel
theorem dX1_gatherSets_75 : decode cX1_gatherSets 75 = .ok (.getfield 21, 3) := by decide +kernel
theorem dX1_gatherSets_78 : decode cX1_gatherSets 78 = .ok (.iload_n 1, 1) := by decide +kernel
theorem dX1_gatherSets_79 : decode cX1_gatherSets 79 = .ok (.iaload, 1) := by decide +kernel
theorem dX1_gatherSets_80 : decode cX1_gatherSets 80 = .ok (.iload 4, 2) := by decide +kernel
theorem dX1_gatherSets_82 : decode cX1_gatherSets 82 = .ok (.invokestatic 57, 3) := by decide +kernel
theorem dX1_gatherSets_85 : decode cX1_gatherSets 85 = .ok (.ifCond .eq 13, 3) := by decide +kernel
theorem dX1_gatherSets_88 : decode cX1_gatherSets 88 = .ok (.iload_n 3, 1) := by decide +kernel
theorem dX1_gatherSets_89 : decode cX1_gatherSets 89 = .ok (.aload_n 0, 1) := by decide +kernel
theorem dX1_gatherSets_90 : decode cX1_gatherSets 90 = .ok (.getfield 33, 3) := by decide +kernel
theorem dX1_gatherSets_93 : decode cX1_gatherSets 93 = .ok (.iload 4, 2) := by decide +kernel
theorem dX1_gatherSets_95 : decode cX1_gatherSets 95 = .ok (.iaload, 1) := by decide +kernel
theorem dX1_gatherSets_96 : decode cX1_gatherSets 96 = .ok (.ior, 1) := by decide +kernel
theorem dX1_gatherSets_97 : decode cX1_gatherSets 97 = .ok (.istore_n 3, 1) := by decide +kernel
theorem dX1_gatherSets_98 : decode cX1_gatherSets 98 = .ok (.iinc 4 1, 3) := by decide +kernel
theorem dX1_gatherSets_101 : decode cX1_gatherSets 101 = .ok (.goto (-34), 3) := by decide +kernel
theorem dX1_gatherSets_104 : decode cX1_gatherSets 104 = .ok (.aload_n 0, 1) := by decide +kernel
theorem dX1_gatherSets_105 : decode cX1_gatherSets 105 = .ok (.getfield 33, 3) := by decide +kernel
theorem dX1_gatherSets_108 : decode cX1_gatherSets 108 = .ok (.iload_n 1, 1) := by decide +kernel
theorem dX1_gatherSets_109 : decode cX1_gatherSets 109 = .ok (.iload_n 3, 1) := by decide +kernel
theorem dX1_gatherSets_110 : decode cX1_gatherSets 110 = .ok (.iastore, 1) := by decide +kernel
theorem dX1_gatherSets_111 : decode cX1_gatherSets 111 = .ok (.return_, 1) := by decide +kernel
theorem dX2_init_0 : decode cX2_init 0 = .ok (.aload_n 0, 1) := by decide +kernel
theorem dX2_init_1 : decode cX2_init 1 = .ok (.invokespecial 3, 3) := by decide +kernel
theorem dX2_init_4 : decode cX2_init 4 = .ok (.aload_n 0, 1) := by decide +kernel
theorem dX2_init_5 : decode cX2_init 5 = .ok (.bipush 30, 2) := by decide +kernel
theorem dX2_init_7 : decode cX2_init 7 = .ok (.newarray .int, 2) := by decide +kernel
theorem dX2_init_9 : decode cX2_init 9 = .ok (.putfield 9, 3) := by decide +kernel
theorem dX2_init_12 : decode cX2_init 12 = .ok (.aload_n 0, 1) := by decide +kernel
theorem dX2_init_13 : decode cX2_init 13 = .ok (.bipush 30, 2) := by decide +kernel
theorem dX2_init_15 : decode cX2_init 15 = .ok (.newarray .int, 2) := by decide +kernel
theorem dX2_init_17 : decode cX2_init 17 = .ok (.putfield 15, 3) := by decide +kernel
theorem dX2_init_20 : decode cX2_init 20 = .ok (.aload_n 0, 1) := by decide +kernel
theorem dX2_init_21 : decode cX2_init 21 = .ok (.bipush 30, 2) := by decide +kernel
theorem dX2_init_23 : decode cX2_init 23 = .ok (.newarray .int, 2) := by decide +kernel
theorem dX2_init_25 : decode cX2_init 25 = .ok (.putfield 18, 3) := by decide +kernel
theorem dX2_init_28 : decode cX2_init 28 = .ok (.aload_n 0, 1) := by decide +kernel
theorem dX2_init_29 : decode cX2_init 29 = .ok (.bipush 30, 2) := by decide +kernel
theorem dX2_init_31 : decode cX2_init 31 = .ok (.newarray .int, 2) := by decide +kernel
theorem dX2_init_33 : decode cX2_init 33 = .ok (.putfield 21, 3) := by decide +kernel
theorem dX2_init_36 : decode cX2_init 36 = .ok (.return_, 1) := by decide +kernel
theorem dX2_append_0 : decode cX2_append 0 = .ok (.aload_n 0, 1) := by decide +kernel
theorem dX2_append_1 : decode cX2_append 1 = .ok (.getfield 24, 3) := by decide +kernel
theorem dX2_append_4 : decode cX2_append 4 = .ok (.bipush 30, 2) := by decide +kernel
theorem dX2_append_6 : decode cX2_append 6 = .ok (.if_icmp .lt 6, 3) := by decide +kernel
theorem dX2_append_9 : decode cX2_append 9 = .ok (.bipush (-3), 2) := by decide +kernel
theorem dX2_append_11 : decode cX2_append 11 = .ok (.ireturn, 1) := by decide +kernel
theorem dX2_append_12 : decode cX2_append 12 = .ok (.aload_n 0, 1) := by decide +kernel
theorem dX2_append_13 : decode cX2_append 13 = .ok (.getfield 24, 3) := by decide +kernel
theorem dX2_append_16 : decode cX2_append 16 = .ok (.istore 6, 2) := by decide +kernel
theorem dX2_append_18 : decode cX2_append 18 = .ok (.aload_n 0, 1) := by decide +kernel
theorem dX2_append_19 : decode cX2_append 19 = .ok (.dup, 1) := by decide +kernel
theorem dX2_append_20 : decode cX2_append 20 = .ok (.getfield 24, 3) := by decide +kernel
theorem dX2_append_23 : decode cX2_append 23 = .ok (.iconst 1, 1) := by decide +kernel
theorem dX2_append_24 : decode cX2_append 24 = .ok (.iadd, 1) := by decide +kernel
theorem dX2_append_25 : decode cX2_append 25 = .ok (.putfield 24, 3) := by decide +kernel
theorem dX2_append_28 : decode cX2_append 28 = .ok (.aload_n 0, 1) := by decide +kernel
theorem dX2_append_29 : decode cX2_append 29 = .ok (.getfield 9, 3) := by decide +kernel
theorem dX2_append_32 : decode cX2_append 32 = .ok (.iload 6, 2) := by decide +kernel
theorem dX2_append_34 : decode cX2_append 34 = .ok (.iload_n 1, 1) := by decide +kernel
theorem dX2_append_35 : decode cX2_append 35 = .ok (.iastore, 1) := by decide +kernel
theorem dX2_append_36 : decode cX2_append 36 = .ok (.aload_n 0, 1) := by decide +kernel
theorem dX2_append_37 : decode cX2_append 37 = .ok (.getfield 15, 3) := by decide +kernel
theorem dX2_append_40 : decode cX2_append 40 = .ok (.iload 6, 2) := by decide +kernel
theorem dX2_append_42 : decode cX2_append 42 = .ok (.iload_n 2, 1) := by decide +kernel
theorem dX2_append_43 : decode cX2_append 43 = .ok (.iload_n 3, 1) := by decide +kernel
theorem dX2_append_44 : decode cX2_append 44 = .ok (.invokestatic 28, 3) := by decide +kernel
theorem dX2_append_47 : decode cX2_append 47 = .ok (.iastore, 1) := by decide +kernel
theorem dX2_append_48 : decode cX2_append 48 = .ok (.aload_n 0, 1) := by decide +kernel
theorem dX2_append_49 : decode cX2_append 49 = .ok (.getfield 18, 3) := by decide +kernel
theorem dX2_append_52 : decode cX2_append 52 = .ok (.iload 6, 2) := by decide +kernel
theorem dX2_append_54 : decode cX2_append 54 = .ok (.iload 4, 2) := by decide +kernel
theorem dX2_append_56 : decode cX2_append 56 = .ok (.iastore, 1) := by decide +kernel
theorem dX2_append_57 : decode cX2_append 57 = .ok (.aload_n 0, 1) := by decide +kernel
theorem dX2_append_58 : decode cX2_append 58 = .ok (.getfield 21, 3) := by decide +kernel
theorem dX2_append_61 : decode cX2_append 61 = .ok (.iload 6, 2) := by decide +kernel
theorem dX2_append_63 : decode cX2_append 63 = .ok (.iload 5, 2) := by decide +kernel
theorem dX2_append_65 : decode cX2_append 65 = .ok (.iastore, 1) := by decide +kernel
theorem dX2_append_66 : decode cX2_append 66 = .ok (.iload 6, 2) := by decide +kernel
theorem dX2_append_68 : decode cX2_append 68 = .ok (.ireturn, 1) := by decide +kernel
theorem dX2_change_0 : decode cX2_change 0 = .ok (.aload_n 0, 1) := by decide +kernel
theorem dX2_change_1 : decode cX2_change 1 = .ok (.iload_n 1, 1) := by decide +kernel
theorem dX2_change_2 : decode cX2_change 2 = .ok (.invokevirtual 32, 3) := by decide +kernel
theorem dX2_change_5 : decode cX2_change 5 = .ok (.ifCond .ne 5, 3) := by decide +kernel
theorem dX2_change_8 : decode cX2_change 8 = .ok (.iconst 0, 1) := by decide +kernel
theorem dX2_change_9 : decode cX2_change 9 = .ok (.ireturn, 1) := by decide +kernel
theorem dX2_change_10 : decode cX2_change 10 = .ok (.aload_n 0, 1) := by decide +kernel
theorem dX2_change_11 : decode cX2_change 11 = .ok (.getfield 18, 3) := by decide +kernel
theorem dX2_change_14 : decode cX2_change 14 = .ok (.iload_n 1, 1) := by decide +kernel
theorem dX2_change_15 : decode cX2_change 15 = .ok (.iload_n 2, 1) := by decide +kernel
theorem dX2_change_16 : decode cX2_change 16 = .ok (.iastore, 1) := by decide +kernel
theorem dX2_change_17 : decode cX2_change 17 = .ok (.aload_n 0, 1) := by decide +kernel
theorem dX2_change_18 : decode cX2_change 18 = .ok (.getfield 21, 3) := by decide +kernel
theorem dX2_change_21 : decode cX2_change 21 = .ok (.iload_n 1, 1) := by decide +kernel
theorem dX2_change_22 : decode cX2_change 22 = .ok (.iload_n 3, 1) := by decide +kernel
theorem dX2_change_23 : decode cX2_change 23 = .ok (.iastore, 1) := by decide +kernel
theorem dX2_change_24 : decode cX2_change 24 = .ok (.iconst 1, 1) := by decide +kernel
theorem dX2_change_25 : decode cX2_change 25 = .ok (.ireturn, 1) := by decide +kernel
theorem dX2_discard_0 : decode cX2_discard 0 = .ok (.aload_n 0, 1) := by decide +kernel
theorem dX2_discard_1 : decode cX2_discard 1 = .ok (.iload_n 1, 1) := by decide +kernel
theorem dX2_discard_2 : decode cX2_discard 2 = .ok (.invokevirtual 32, 3) := by decide +kernel
theorem dX2_discard_5 : decode cX2_discard 5 = .ok (.ifCond .ne 5, 3) := by decide +kernel
theorem dX2_discard_8 : decode cX2_discard 8 = .ok (.iconst 0, 1) := by decide +kernel
theorem dX2_discard_9 : decode cX2_discard 9 = .ok (.ireturn, 1) := by decide +kernel
theorem dX2_discard_10 : decode cX2_discard 10 = .ok (.aload_n 0, 1) := by decide +kernel
theorem dX2_discard_11 : decode cX2_discard 11 = .ok (.dup, 1) := by decide +kernel
theorem dX2_discard_12 : decode cX2_discard 12 = .ok (.getfield 36, 3) := by decide +kernel
theorem dX2_discard_15 : decode cX2_discard 15 = .ok (.iload_n 1, 1) := by decide +kernel
theorem dX2_discard_16 : decode cX2_discard 16 = .ok (.invokestatic 39, 3) := by decide +kernel
theorem dX2_discard_19 : decode cX2_discard 19 = .ok (.ior, 1) := by decide +kernel
theorem dX2_discard_20 : decode cX2_discard 20 = .ok (.putfield 36, 3) := by decide +kernel
theorem dX2_discard_23 : decode cX2_discard 23 = .ok (.iconst 1, 1) := by decide +kernel
theorem dX2_discard_24 : decode cX2_discard 24 = .ok (.ireturn, 1) := by decide +kernel
theorem dX2_discardAllOf_0 : decode cX2_discardAllOf 0 = .ok (.iconst 0, 1) := by decide +kernel
theorem dX2_discardAllOf_1 : decode cX2_discardAllOf 1 = .ok (.istore_n 2, 1) := by decide +kernel
theorem dX2_discardAllOf_2 : decode cX2_discardAllOf 2 = .ok (.iload_n 2, 1) := by decide +kernel
theorem dX2_discardAllOf_3 : decode cX2_discardAllOf 3 = .ok (.aload_n 0, 1) := by decide +kernel
theorem dX2_discardAllOf_4 : decode cX2_discardAllOf 4 = .ok (.getfield 24, 3) := by decide +kernel
theorem dX2_discardAllOf_7 : decode cX2_discardAllOf 7 = .ok (.if_icmp .ge 32, 3) := by decide +kernel
theorem dX2_discardAllOf_10 : decode cX2_discardAllOf 10 = .ok (.aload_n 0, 1) := by decide +kernel
theorem dX2_discardAllOf_11 : decode cX2_discardAllOf 11 = .ok (.getfield 9, 3) := by decide +kernel
theorem dX2_discardAllOf_14 : decode cX2_discardAllOf 14 = .ok (.iload_n 2, 1) := by decide +kernel
theorem dX2_discardAllOf_15 : decode cX2_discardAllOf 15 = .ok (.iaload, 1) := by decide +kernel
theorem dX2_discardAllOf_16 : decode cX2_discardAllOf 16 = .ok (.iload_n 1, 1) := by decide +kernel
theorem dX2_discardAllOf_17 : decode cX2_discardAllOf 17 = .ok (.if_icmp .ne 16, 3) := by decide +kernel
theorem dX2_discardAllOf_20 : decode cX2_discardAllOf 20 = .ok (.aload_n 0, 1) := by decide +kernel
theorem dX2_discardAllOf_21 : decode cX2_discardAllOf 21 = .ok (.dup, 1) := by decide +kernel
theorem dX2_discardAllOf_22 : decode cX2_discardAllOf 22 = .ok (.getfield 36, 3) := by decide +kernel
theorem dX2_discardAllOf_25 : decode cX2_discardAllOf 25 = .ok (.iload_n 2, 1) := by decide +kernel
theorem dX2_discardAllOf_26 : decode cX2_discardAllOf 26 = .ok (.invokestatic 39, 3) := by decide +kernel
theorem dX2_discardAllOf_29 : decode cX2_discardAllOf 29 = .ok (.ior, 1) := by decide +kernel
theorem dX2_discardAllOf_30 : decode cX2_discardAllOf 30 = .ok (.putfield 36, 3) := by decide +kernel
theorem dX2_discardAllOf_33 : decode cX2_discardAllOf 33 = .ok (.iinc 2 1, 3) := by decide +kernel
theorem dX2_discardAllOf_36 : decode cX2_discardAllOf 36 = .ok (.goto (-34), 3) := by decide +kernel
theorem dX2_discardAllOf_39 : decode cX2_discardAllOf 39 = .ok (.return_, 1) := by decide +kernel
theorem dX2_becomeAs_0 : decode cX2_becomeAs 0 = .ok (.aload_n 0, 1) := by decide +kernel
theorem dX2_becomeAs_1 : decode cX2_becomeAs 1 = .ok (.aload_n 1, 1) := by decide +kernel
theorem dX2_becomeAs_2 : decode cX2_becomeAs 2 = .ok (.getfield 24, 3) := by decide +kernel
theorem dX2_becomeAs_5 : decode cX2_becomeAs 5 = .ok (.putfield 24, 3) := by decide +kernel
theorem dX2_becomeAs_8 : decode cX2_becomeAs 8 = .ok (.aload_n 0, 1) := by decide +kernel
theorem dX2_becomeAs_9 : decode cX2_becomeAs 9 = .ok (.aload_n 1, 1) := by decide +kernel
theorem dX2_becomeAs_10 : decode cX2_becomeAs 10 = .ok (.getfield 36, 3) := by decide +kernel
theorem dX2_becomeAs_13 : decode cX2_becomeAs 13 = .ok (.putfield 36, 3) := by decide +kernel
theorem dX2_becomeAs_16 : decode cX2_becomeAs 16 = .ok (.aload_n 1, 1) := by decide +kernel
theorem dX2_becomeAs_17 : decode cX2_becomeAs 17 = .ok (.getfield 9, 3) := by decide +kernel
theorem dX2_becomeAs_20 : decode cX2_becomeAs 20 = .ok (.iconst 0, 1) := by decide +kernel
theorem dX2_becomeAs_21 : decode cX2_becomeAs 21 = .ok (.aload_n 0, 1) := by decide +kernel
theorem dX2_becomeAs_22 : decode cX2_becomeAs 22 = .ok (.getfield 9, 3) := by decide +kernel
theorem dX2_becomeAs_25 : decode cX2_becomeAs 25 = .ok (.iconst 0, 1) := by decide +kernel
theorem dX2_becomeAs_26 : decode cX2_becomeAs 26 = .ok (.bipush 30, 2) := by decide +kernel
theorem dX2_becomeAs_28 : decode cX2_becomeAs 28 = .ok (.invokestatic 43, 3) := by decide +kernel
theorem dX2_becomeAs_31 : decode cX2_becomeAs 31 = .ok (.aload_n 1, 1) := by decide +kernel
theorem dX2_becomeAs_32 : decode cX2_becomeAs 32 = .ok (.getfield 15, 3) := by decide +kernel
theorem dX2_becomeAs_35 : decode cX2_becomeAs 35 = .ok (.iconst 0, 1) := by decide +kernel
theorem dX2_becomeAs_36 : decode cX2_becomeAs 36 = .ok (.aload_n 0, 1) := by decide +kernel
theorem dX2_becomeAs_37 : decode cX2_becomeAs 37 = .ok (.getfield 15, 3) := by decide +kernel
theorem dX2_becomeAs_40 : decode cX2_becomeAs 40 = .ok (.iconst 0, 1) := by decide +kernel
theorem dX2_becomeAs_41 : decode cX2_becomeAs 41 = .ok (.bipush 30, 2) := by decide +kernel
theorem dX2_becomeAs_43 : decode cX2_becomeAs 43 = .ok (.invokestatic 43, 3) := by decide +kernel
theorem dX2_becomeAs_46 : decode cX2_becomeAs 46 = .ok (.aload_n 1, 1) := by decide +kernel
theorem dX2_becomeAs_47 : decode cX2_becomeAs 47 = .ok (.getfield 18, 3) := by decide +kernel
theorem dX2_becomeAs_50 : decode cX2_becomeAs 50 = .ok (.iconst 0, 1) := by decide +kernel
theorem dX2_becomeAs_51 : decode cX2_becomeAs 51 = .ok (.aload_n 0, 1) := by decide +kernel
theorem dX2_becomeAs_52 : decode cX2_becomeAs 52 = .ok (.getfield 18, 3) := by decide +kernel
theorem dX2_becomeAs_55 : decode cX2_becomeAs 55 = .ok (.iconst 0, 1) := by decide +kernel
theorem dX2_becomeAs_56 : decode cX2_becomeAs 56 = .ok (.bipush 30, 2) := by decide +kernel
theorem dX2_becomeAs_58 : decode cX2_becomeAs 58 = .ok (.invokestatic 43, 3) := by decide +kernel
theorem dX2_becomeAs_61 : decode cX2_becomeAs 61 = .ok (.aload_n 1, 1) := by decide +kernel
theorem dX2_becomeAs_62 : decode cX2_becomeAs 62 = .ok (.getfield 21, 3) := by decide +kernel
theorem dX2_becomeAs_65 : decode cX2_becomeAs 65 = .ok (.iconst 0, 1) := by decide +kernel
theorem dX2_becomeAs_66 : decode cX2_becomeAs 66 = .ok (.aload_n 0, 1) := by decide +kernel
theorem dX2_becomeAs_67 : decode cX2_becomeAs 67 = .ok (.getfield 21, 3) := by decide +kernel
theorem dX2_becomeAs_70 : decode cX2_becomeAs 70 = .ok (.iconst 0, 1) := by decide +kernel
theorem dX2_becomeAs_71 : decode cX2_becomeAs 71 = .ok (.bipush 30, 2) := by decide +kernel
theorem dX2_becomeAs_73 : decode cX2_becomeAs 73 = .ok (.invokestatic 43, 3) := by decide +kernel
theorem dX2_becomeAs_76 : decode cX2_becomeAs 76 = .ok (.return_, 1) := by decide +kernel
theorem dX2_find_0 : decode cX2_find 0 = .ok (.iload_n 2, 1) := by decide +kernel
theorem dX2_find_1 : decode cX2_find 1 = .ok (.iload_n 3, 1) := by decide +kernel
theorem dX2_find_2 : decode cX2_find 2 = .ok (.invokestatic 28, 3) := by decide +kernel
theorem dX2_find_5 : decode cX2_find 5 = .ok (.istore 4, 2) := by decide +kernel
theorem dX2_find_7 : decode cX2_find 7 = .ok (.iconst 0, 1) := by decide +kernel
theorem dX2_find_8 : decode cX2_find 8 = .ok (.istore 5, 2) := by decide +kernel
theorem dX2_find_10 : decode cX2_find 10 = .ok (.iload 5, 2) := by decide +kernel
theorem dX2_find_12 : decode cX2_find 12 = .ok (.aload_n 0, 1) := by decide +kernel
theorem dX2_find_13 : decode cX2_find 13 = .ok (.getfield 24, 3) := by decide +kernel
theorem dX2_find_16 : decode cX2_find 16 = .ok (.if_icmp .ge 47, 3) := by decide +kernel
theorem dX2_find_19 : decode cX2_find 19 = .ok (.aload_n 0, 1) := by decide +kernel
theorem dX2_find_20 : decode cX2_find 20 = .ok (.getfield 15, 3) := by decide +kernel
theorem dX2_find_23 : decode cX2_find 23 = .ok (.iload 5, 2) := by decide +kernel
theorem dX2_find_25 : decode cX2_find 25 = .ok (.iaload, 1) := by decide +kernel
theorem dX2_find_26 : decode cX2_find 26 = .ok (.iload 4, 2) := by decide +kernel
theorem dX2_find_28 : decode cX2_find 28 = .ok (.if_icmp .ne 29, 3) := by decide +kernel
theorem dX2_find_31 : decode cX2_find 31 = .ok (.aload_n 0, 1) := by decide +kernel
theorem dX2_find_32 : decode cX2_find 32 = .ok (.getfield 9, 3) := by decide +kernel
theorem dX2_find_35 : decode cX2_find 35 = .ok (.iload 5, 2) := by decide +kernel
theorem dX2_find_37 : decode cX2_find 37 = .ok (.iaload, 1) := by decide +kernel
theorem dX2_find_38 : decode cX2_find 38 = .ok (.iload_n 1, 1) := by decide +kernel
theorem dX2_find_39 : decode cX2_find 39 = .ok (.if_icmp .ne 18, 3) := by decide +kernel
theorem dX2_find_42 : decode cX2_find 42 = .ok (.aload_n 0, 1) := by decide +kernel
theorem dX2_find_43 : decode cX2_find 43 = .ok (.getfield 36, 3) := by decide +kernel
theorem dX2_find_46 : decode cX2_find 46 = .ok (.iload 5, 2) := by decide +kernel
theorem dX2_find_48 : decode cX2_find 48 = .ok (.invokestatic 49, 3) := by decide +kernel
theorem dX2_find_51 : decode cX2_find 51 = .ok (.ifCond .ne 6, 3) := by decide +kernel
theorem dX2_find_54 : decode cX2_find 54 = .ok (.iload 5, 2) := by decide +kernel
theorem dX2_find_56 : decode cX2_find 56 = .ok (.ireturn, 1) := by decide +kernel
theorem dX2_find_57 : decode cX2_find 57 = .ok (.iinc 5 1, 3) := by decide +kernel
theorem dX2_find_60 : decode cX2_find 60 = .ok (.goto (-50), 3) := by decide +kernel
theorem dX2_find_63 : decode cX2_find 63 = .ok (.bipush (-2), 2) := by decide +kernel
theorem dX2_find_65 : decode cX2_find 65 = .ok (.ireturn, 1) := by decide +kernel
theorem dX2_ownersOfInheritable_0 : decode cX2_ownersOfInheritable 0 = .ok (.iconst 1, 1) := by decide +kernel
theorem dX2_ownersOfInheritable_1 : decode cX2_ownersOfInheritable 1 = .ok (.iload_n 1, 1) := by decide +kernel
theorem dX2_ownersOfInheritable_2 : decode cX2_ownersOfInheritable 2 = .ok (.invokestatic 28, 3) := by decide +kernel
theorem dX2_ownersOfInheritable_5 : decode cX2_ownersOfInheritable 5 = .ok (.istore_n 2, 1) := by decide +kernel
theorem dX2_ownersOfInheritable_6 : decode cX2_ownersOfInheritable 6 = .ok (.iconst 0, 1) := by decide +kernel
theorem dX2_ownersOfInheritable_7 : decode cX2_ownersOfInheritable 7 = .ok (.istore_n 3, 1) := by decide +kernel
theorem dX2_ownersOfInheritable_8 : decode cX2_ownersOfInheritable 8 = .ok (.iconst 0, 1) := by decide +kernel
theorem dX2_ownersOfInheritable_9 : decode cX2_ownersOfInheritable 9 = .ok (.istore 4, 2) := by decide +kernel
theorem dX2_ownersOfInheritable_11 : decode cX2_ownersOfInheritable 11 = .ok (.iload 4, 2) := by decide +kernel
theorem dX2_ownersOfInheritable_13 : decode cX2_ownersOfInheritable 13 = .ok (.aload_n 0, 1) := by decide +kernel
theorem dX2_ownersOfInheritable_14 : decode cX2_ownersOfInheritable 14 = .ok (.getfield 24, 3) := by decide +kernel
theorem dX2_ownersOfInheritable_17 : decode cX2_ownersOfInheritable 17 = .ok (.if_icmp .ge 54, 3) := by decide +kernel
theorem dX2_ownersOfInheritable_20 : decode cX2_ownersOfInheritable 20 = .ok (.aload_n 0, 1) := by decide +kernel
theorem dX2_ownersOfInheritable_21 : decode cX2_ownersOfInheritable 21 = .ok (.getfield 15, 3) := by decide +kernel
theorem dX2_ownersOfInheritable_24 : decode cX2_ownersOfInheritable 24 = .ok (.iload 4, 2) := by decide +kernel
theorem dX2_ownersOfInheritable_26 : decode cX2_ownersOfInheritable 26 = .ok (.iaload, 1) := by decide +kernel
theorem dX2_ownersOfInheritable_27 : decode cX2_ownersOfInheritable 27 = .ok (.iload_n 2, 1) := by decide +kernel
theorem dX2_ownersOfInheritable_28 : decode cX2_ownersOfInheritable 28 = .ok (.if_icmp .ne 37, 3) := by decide +kernel
theorem dX2_ownersOfInheritable_31 : decode cX2_ownersOfInheritable 31 = .ok (.aload_n 0, 1) := by decide +kernel
theorem dX2_ownersOfInheritable_32 : decode cX2_ownersOfInheritable 32 = .ok (.getfield 36, 3) := by decide +kernel
theorem dX2_ownersOfInheritable_35 : decode cX2_ownersOfInheritable 35 = .ok (.iload 4, 2) := by decide +kernel
theorem dX2_ownersOfInheritable_37 : decode cX2_ownersOfInheritable 37 = .ok (.invokestatic 49, 3) := by decide +kernel
theorem dX2_ownersOfInheritable_40 : decode cX2_ownersOfInheritable 40 = .ok (.ifCond .ne 25, 3) := by decide +kernel
theorem dX2_ownersOfInheritable_43 : decode cX2_ownersOfInheritable 43 = .ok (.aload_n 0, 1) := by decide +kernel
theorem dX2_ownersOfInheritable_44 : decode cX2_ownersOfInheritable 44 = .ok (.iload 4, 2) := by decide +kernel
theorem dX2_ownersOfInheritable_46 : decode cX2_ownersOfInheritable 46 = .ok (.invokevirtual 53, 3) := by decide +kernel
theorem dX2_ownersOfInheritable_49 : decode cX2_ownersOfInheritable 49 = .ok (.ifCond .eq 16, 3) := by decide +kernel
theorem dX2_ownersOfInheritable_52 : decode cX2_ownersOfInheritable 52 = .ok (.iload_n 3, 1) := by decide +kernel
theorem dX2_ownersOfInheritable_53 : decode cX2_ownersOfInheritable 53 = .ok (.aload_n 0, 1) := by decide +kernel
theorem dX2_ownersOfInheritable_54 : decode cX2_ownersOfInheritable 54 = .ok (.getfield 9, 3) := by decide +kernel
theorem dX2_ownersOfInheritable_57 : decode cX2_ownersOfInheritable 57 = .ok (.iload 4, 2) := by decide +kernel
theorem dX2_ownersOfInheritable_59 : decode cX2_ownersOfInheritable 59 = .ok (.iaload, 1) := by decide +kernel
theorem dX2_ownersOfInheritable_60 : decode cX2_ownersOfInheritable 60 = .ok (.invokestatic 39, 3) := by decide +kernel
theorem dX2_ownersOfInheritable_63 : decode cX2_ownersOfInheritable 63 = .ok (.ior, 1) := by decide +kernel
theorem dX2_ownersOfInheritable_64 : decode cX2_ownersOfInheritable 64 = .ok (.istore_n 3, 1) := by decide +kernel
theorem dX2_ownersOfInheritable_65 : decode cX2_ownersOfInheritable 65 = .ok (.iinc 4 1, 3) := by decide +kernel
theorem dX2_ownersOfInheritable_68 : decode cX2_ownersOfInheritable 68 = .ok (.goto (-57), 3) := by decide +kernel
theorem dX2_ownersOfInheritable_71 : decode cX2_ownersOfInheritable 71 = .ok (.iload_n 3, 1) := by decide +kernel
theorem dX2_ownersOfInheritable_72 : decode cX2_ownersOfInheritable 72 = .ok (.ireturn, 1) := by decide +kernel
theorem dX2_isInheritable_0 : decode cX2_isInheritable 0 = .ok (.aload_n 0, 1) := by decide +kernel
theorem dX2_isInheritable_1 : decode cX2_isInheritable 1 = .ok (.getfield 18, 3) := by decide +kernel
theorem dX2_isInheritable_4 : decode cX2_isInheritable 4 = .ok (.iload_n 1, 1) := by decide +kernel
theorem dX2_isInheritable_5 : decode cX2_isInheritable 5 = .ok (.iaload, 1) := by decide +kernel
theorem dX2_isInheritable_6 : decode cX2_isInheritable 6 = .ok (.ifCond .eq 18, 3) := by decide +kernel
theorem dX2_isInheritable_9 : decode cX2_isInheritable 9 = .ok (.aload_n 0, 1) := by decide +kernel
theorem dX2_isInheritable_10 : decode cX2_isInheritable 10 = .ok (.getfield 21, 3) := by decide +kernel
theorem dX2_isInheritable_13 : decode cX2_isInheritable 13 = .ok (.iload_n 1, 1) := by decide +kernel
theorem dX2_isInheritable_14 : decode cX2_isInheritable 14 = .ok (.iaload, 1) := by decide +kernel
theorem dX2_isInheritable_15 : decode cX2_isInheritable 15 = .ok (.iconst 1, 1) := by decide +kernel
theorem dX2_isInheritable_16 : decode cX2_isInheritable 16 = .ok (.iand, 1) := by decide +kernel
theorem dX2_isInheritable_17 : decode cX2_isInheritable 17 = .ok (.ifCond .ne 7, 3) := by decide +kernel
theorem dX2_isInheritable_20 : decode cX2_isInheritable 20 = .ok (.iconst 1, 1) := by decide +kernel
theorem dX2_isInheritable_21 : decode cX2_isInheritable 21 = .ok (.goto 4, 3) := by decide +kernel
theorem dX2_isInheritable_24 : decode cX2_isInheritable 24 = .ok (.iconst 0, 1) := by decide +kernel
theorem dX2_isInheritable_25 : decode cX2_isInheritable 25 = .ok (.ireturn, 1) := by decide +kernel
theorem dX2_isSameThing_0 : decode cX2_isSameThing 0 = .ok (.aload_n 0, 1) := by decide +kernel
theorem dX2_isSameThing_1 : decode cX2_isSameThing 1 = .ok (.getfield 9, 3) := by decide +kernel
theorem dX2_isSameThing_4 : decode cX2_isSameThing 4 = .ok (.iload_n 1, 1) := by decide +kernel
theorem dX2_isSameThing_5 : decode cX2_isSameThing 5 = .ok (.iaload, 1) := by decide +kernel
theorem dX2_isSameThing_6 : decode cX2_isSameThing 6 = .ok (.aload_n 2, 1) := by decide +kernel
theorem dX2_isSameThing_7 : decode cX2_isSameThing 7 = .ok (.getfield 9, 3) := by decide +kernel
theorem dX2_isSameThing_10 : decode cX2_isSameThing 10 = .ok (.iload_n 3, 1) := by decide +kernel
theorem dX2_isSameThing_11 : decode cX2_isSameThing 11 = .ok (.iaload, 1) := by decide +kernel
theorem dX2_isSameThing_12 : decode cX2_isSameThing 12 = .ok (.if_icmp .ne 22, 3) := by decide +kernel
theorem dX2_isSameThing_15 : decode cX2_isSameThing 15 = .ok (.aload_n 0, 1) := by decide +kernel
theorem dX2_isSameThing_16 : decode cX2_isSameThing 16 = .ok (.getfield 15, 3) := by decide +kernel
theorem dX2_isSameThing_19 : decode cX2_isSameThing 19 = .ok (.iload_n 1, 1) := by decide +kernel
theorem dX2_isSameThing_20 : decode cX2_isSameThing 20 = .ok (.iaload, 1) := by decide +kernel
theorem dX2_isSameThing_21 : decode cX2_isSameThing 21 = .ok (.aload_n 2, 1) := by decide +kernel
theorem dX2_isSameThing_22 : decode cX2_isSameThing 22 = .ok (.getfield 15, 3) := by decide +kernel
theorem dX2_isSameThing_25 : decode cX2_isSameThing 25 = .ok (.iload_n 3, 1) := by decide +kernel
theorem dX2_isSameThing_26 : decode cX2_isSameThing 26 = .ok (.iaload, 1) := by decide +kernel
theorem dX2_isSameThing_27 : decode cX2_isSameThing 27 = .ok (.if_icmp .ne 7, 3) := by decide +kernel
theorem dX2_isSameThing_30 : decode cX2_isSameThing 30 = .ok (.iconst 1, 1) := by decide +kernel
theorem dX2_isSameThing_31 : decode cX2_isSameThing 31 = .ok (.goto 4, 3) := by decide +kernel
theorem dX2_isSameThing_34 : decode cX2_isSameThing 34 = .ok (.iconst 0, 1) := by decide +kernel
theorem dX2_isSameThing_35 : decode cX2_isSameThing 35 = .ok (.ireturn, 1) := by decide +kernel
theorem dX2_isStatic_0 : decode cX2_isStatic 0 = .ok (.aload_n 0, 1) := by decide +kernel
theorem dX2_isStatic_1 : decode cX2_isStatic 1 = .ok (.getfield 21, 3) := by decide +kernel
theorem dX2_isStatic_4 : decode cX2_isStatic 4 = .ok (.iload_n 1, 1) := by decide +kernel
theorem dX2_isStatic_5 : decode cX2_isStatic 5 = .ok (.iaload, 1) := by decide +kernel
theorem dX2_isStatic_6 : decode cX2_isStatic 6 = .ok (.iconst 1, 1) := by decide +kernel
theorem dX2_isStatic_7 : decode cX2_isStatic 7 = .ok (.iand, 1) := by decide +kernel
theorem dX2_isStatic_8 : decode cX2_isStatic 8 = .ok (.ifCond .eq 7, 3) := by decide +kernel
theorem dX2_isStatic_11 : decode cX2_isStatic 11 = .ok (.iconst 1, 1) := by decide +kernel
theorem dX2_isStatic_12 : decode cX2_isStatic 12 = .ok (.goto 4, 3) := by decide +kernel
theorem dX2_isStatic_15 : decode cX2_isStatic 15 = .ok (.iconst 0, 1) := by decide +kernel
theorem dX2_isStatic_16 : decode cX2_isStatic 16 = .ok (.ireturn, 1) := by decide +kernel
theorem dX2_isAbstract_0 : decode cX2_isAbstract 0 = .ok (.aload_n 0, 1) := by decide +kernel
theorem dX2_isAbstract_1 : decode cX2_isAbstract 1 = .ok (.getfield 21, 3) := by decide +kernel
theorem dX2_isAbstract_4 : decode cX2_isAbstract 4 = .ok (.iload_n 1, 1) := by decide +kernel
theorem dX2_isAbstract_5 : decode cX2_isAbstract 5 = .ok (.iaload, 1) := by decide +kernel
theorem dX2_isAbstract_6 : decode cX2_isAbstract 6 = .ok (.iconst 2, 1) := by decide +kernel
theorem dX2_isAbstract_7 : decode cX2_isAbstract 7 = .ok (.iand, 1) := by decide +kernel
theorem dX2_isAbstract_8 : decode cX2_isAbstract 8 = .ok (.ifCond .eq 7, 3) := by decide +kernel
theorem dX2_isAbstract_11 : decode cX2_isAbstract 11 = .ok (.iconst 1, 1) := by decide +kernel
theorem dX2_isAbstract_12 : decode cX2_isAbstract 12 = .ok (.goto 4, 3) := by decide +kernel
theorem dX2_isAbstract_15 : decode cX2_isAbstract 15 = .ok (.iconst 0, 1) := by decide +kernel
theorem dX2_isAbstract_16 : decode cX2_isAbstract 16 = .ok (.ireturn, 1) := by decide +kernel
theorem dX2_isFinal_0 : decode cX2_isFinal 0 = .ok (.aload_n 0, 1) := by decide +kernel
theorem dX2_isFinal_1 : decode cX2_isFinal 1 = .ok (.getfield 21, 3) := by decide +kernel
theorem dX2_isFinal_4 : decode cX2_isFinal 4 = .ok (.iload_n 1, 1) := by decide +kernel
theorem dX2_isFinal_5 : decode cX2_isFinal 5 = .ok (.iaload, 1) := by decide +kernel
theorem dX2_isFinal_6 : decode cX2_isFinal 6 = .ok (.iconst 4, 1) := by decide +kernel
theorem dX2_isFinal_7 : decode cX2_isFinal 7 = .ok (.iand, 1) := by decide +kernel
theorem dX2_isFinal_8 : decode cX2_isFinal 8 = .ok (.ifCond .eq 7, 3) := by decide +kernel
theorem dX2_isFinal_11 : decode cX2_isFinal 11 = .ok (.iconst 1, 1) := by decide +kernel
theorem dX2_isFinal_12 : decode cX2_isFinal 12 = .ok (.goto 4, 3) := by decide +kernel
theorem dX2_isFinal_15 : decode cX2_isFinal 15 = .ok (.iconst 0, 1) := by decide +kernel
theorem dX2_isFinal_16 : decode cX2_isFinal 16 = .ok (.ireturn, 1) := by decide +kernel
theorem dX2_ownerOf_0 : decode cX2_ownerOf 0 = .ok (.aload_n 0, 1) := by decide +kernel
theorem dX2_ownerOf_1 : decode cX2_ownerOf 1 = .ok (.getfield 9, 3) := by decide +kernel
theorem dX2_ownerOf_4 : decode cX2_ownerOf 4 = .ok (.iload_n 1, 1) := by decide +kernel
theorem dX2_ownerOf_5 : decode cX2_ownerOf 5 = .ok (.iaload, 1) := by decide +kernel
theorem dX2_ownerOf_6 : decode cX2_ownerOf 6 = .ok (.ireturn, 1) := by decide +kernel
theorem dX2_accessOf_0 : decode cX2_accessOf 0 = .ok (.aload_n 0, 1) := by decide +kernel
theorem dX2_accessOf_1 : decode cX2_accessOf 1 = .ok (.getfield 18, 3) := by decide +kernel
theorem dX2_accessOf_4 : decode cX2_accessOf 4 = .ok (.iload_n 1, 1) := by decide +kernel
theorem dX2_accessOf_5 : decode cX2_accessOf 5 = .ok (.iaload, 1) := by decide +kernel
theorem dX2_accessOf_6 : decode cX2_accessOf 6 = .ok (.ireturn, 1) := by decide +kernel
theorem dX2_countAll_0 : decode cX2_countAll 0 = .ok (.aload_n 0, 1) := by decide +kernel
theorem dX2_countAll_1 : decode cX2_countAll 1 = .ok (.getfield 24, 3) := by decide +kernel
theorem dX2_countAll_4 : decode cX2_countAll 4 = .ok (.ireturn, 1) := by decide +kernel
theorem dX2_countPresent_0 : decode cX2_countPresent 0 = .ok (.aload_n 0, 1) := by decide +kernel
theorem dX2_countPresent_1 : decode cX2_countPresent 1 = .ok (.getfield 24, 3) := by decide +kernel
theorem dX2_countPresent_4 : decode cX2_countPresent 4 = .ok (.aload_n 0, 1) := by decide +kernel
theorem dX2_countPresent_5 : decode cX2_countPresent 5 = .ok (.getfield 36, 3) := by decide +kernel
theorem dX2_countPresent_8 : decode cX2_countPresent 8 = .ok (.invokestatic 56, 3) := by decide +kernel
theorem dX2_countPresent_11 : decode cX2_countPresent 11 = .ok (.isub, 1) := by decide +kernel
theorem dX2_countPresent_12 : decode cX2_countPresent 12 = .ok (.ireturn, 1) := by decide +kernel
theorem dX2_countAbstractMethods_0 : decode cX2_countAbstractMethods 0 = .ok (.iconst 0, 1) := by decide +kernel
theorem dX2_countAbstractMethods_1 : decode cX2_countAbstractMethods 1 = .ok (.istore_n 1, 1) := by decide +kernel
theorem dX2_countAbstractMethods_2 : decode cX2_countAbstractMethods 2 = .ok (.iconst 0, 1) := by decide +kernel
theorem dX2_countAbstractMethods_3 : decode cX2_countAbstractMethods 3 = .ok (.istore_n 2, 1) := by decide +kernel
theorem dX2_countAbstractMethods_4 : decode cX2_countAbstractMethods 4 = .ok (.iload_n 2, 1) := by decide +kernel
theorem dX2_countAbstractMethods_5 : decode cX2_countAbstractMethods 5 = .ok (.aload_n 0, 1) := by decide +kernel
theorem dX2_countAbstractMethods_6 : decode cX2_countAbstractMethods 6 = .ok (.getfield 24, 3) := by decide +kernel
theorem dX2_countAbstractMethods_9 : decode cX2_countAbstractMethods 9 = .ok (.if_icmp .ge 47, 3) := by decide +kernel
theorem dX2_countAbstractMethods_12 : decode cX2_countAbstractMethods 12 = .ok (.iload_n 1, 1) := by decide +kernel
theorem dX2_countAbstractMethods_13 : decode cX2_countAbstractMethods 13 = .ok (.aload_n 0, 1) := by decide +kernel
theorem dX2_countAbstractMethods_14 : decode cX2_countAbstractMethods 14 = .ok (.getfield 15, 3) := by decide +kernel
theorem dX2_countAbstractMethods_17 : decode cX2_countAbstractMethods 17 = .ok (.iload_n 2, 1) := by decide +kernel
theorem dX2_countAbstractMethods_18 : decode cX2_countAbstractMethods 18 = .ok (.iaload, 1) := by decide +kernel
theorem dX2_countAbstractMethods_19 : decode cX2_countAbstractMethods 19 = .ok (.bipush 15, 2) := by decide +kernel
theorem dX2_countAbstractMethods_21 : decode cX2_countAbstractMethods 21 = .ok (.if_icmp .lt 26, 3) := by decide +kernel
theorem dX2_countAbstractMethods_24 : decode cX2_countAbstractMethods 24 = .ok (.aload_n 0, 1) := by decide +kernel
theorem dX2_countAbstractMethods_25 : decode cX2_countAbstractMethods 25 = .ok (.iload_n 2, 1) := by decide +kernel
theorem dX2_countAbstractMethods_26 : decode cX2_countAbstractMethods 26 = .ok (.invokevirtual 61, 3) := by decide +kernel
theorem dX2_countAbstractMethods_29 : decode cX2_countAbstractMethods 29 = .ok (.ifCond .eq 18, 3) := by decide +kernel
theorem dX2_countAbstractMethods_32 : decode cX2_countAbstractMethods 32 = .ok (.aload_n 0, 1) := by decide +kernel
theorem dX2_countAbstractMethods_33 : decode cX2_countAbstractMethods 33 = .ok (.getfield 36, 3) := by decide +kernel
theorem dX2_countAbstractMethods_36 : decode cX2_countAbstractMethods 36 = .ok (.iload_n 2, 1) := by decide +kernel
theorem dX2_countAbstractMethods_37 : decode cX2_countAbstractMethods 37 = .ok (.invokestatic 49, 3) := by decide +kernel
theorem dX2_countAbstractMethods_40 : decode cX2_countAbstractMethods 40 = .ok (.ifCond .ne 7, 3) := by decide +kernel
theorem dX2_countAbstractMethods_43 : decode cX2_countAbstractMethods 43 = .ok (.iconst 1, 1) := by decide +kernel
theorem dX2_countAbstractMethods_44 : decode cX2_countAbstractMethods 44 = .ok (.goto 4, 3) := by decide +kernel
theorem dX2_countAbstractMethods_47 : decode cX2_countAbstractMethods 47 = .ok (.iconst 0, 1) := by decide +kernel
theorem dX2_countAbstractMethods_48 : decode cX2_countAbstractMethods 48 = .ok (.iadd, 1) := by decide +kernel
theorem dX2_countAbstractMethods_49 : decode cX2_countAbstractMethods 49 = .ok (.istore_n 1, 1) := by decide +kernel
theorem dX2_countAbstractMethods_50 : decode cX2_countAbstractMethods 50 = .ok (.iinc 2 1, 3) := by decide +kernel
theorem dX2_countAbstractMethods_53 : decode cX2_countAbstractMethods 53 = .ok (.goto (-49), 3) := by decide +kernel
theorem dX2_countAbstractMethods_56 : decode cX2_countAbstractMethods 56 = .ok (.iload_n 1, 1) := by decide +kernel
theorem dX2_countAbstractMethods_57 : decode cX2_countAbstractMethods 57 = .ok (.ireturn, 1) := by decide +kernel
theorem dX2_isPresent_0 : decode cX2_isPresent 0 = .ok (.iload_n 1, 1) := by decide +kernel
theorem dX2_isPresent_1 : decode cX2_isPresent 1 = .ok (.aload_n 0, 1) := by decide +kernel
theorem dX2_isPresent_2 : decode cX2_isPresent 2 = .ok (.getfield 24, 3) := by decide +kernel
theorem dX2_isPresent_5 : decode cX2_isPresent 5 = .ok (.invokestatic 64, 3) := by decide +kernel
theorem dX2_isPresent_8 : decode cX2_isPresent 8 = .ok (.ifCond .eq 18, 3) := by decide +kernel
theorem dX2_isPresent_11 : decode cX2_isPresent 11 = .ok (.aload_n 0, 1) := by decide +kernel
theorem dX2_isPresent_12 : decode cX2_isPresent 12 = .ok (.getfield 36, 3) := by decide +kernel
theorem dX2_isPresent_15 : decode cX2_isPresent 15 = .ok (.iload_n 1, 1) := by decide +kernel
theorem dX2_isPresent_16 : decode cX2_isPresent 16 = .ok (.invokestatic 49, 3) := by decide +kernel
theorem dX2_isPresent_19 : decode cX2_isPresent 19 = .ok (.ifCond .ne 7, 3) := by decide +kernel
theorem dX2_isPresent_22 : decode cX2_isPresent 22 = .ok (.iconst 1, 1) := by decide +kernel
theorem dX2_isPresent_23 : decode cX2_isPresent 23 = .ok (.goto 4, 3) := by decide +kernel
theorem dX2_isPresent_26 : decode cX2_isPresent 26 = .ok (.iconst 0, 1) := by decide +kernel
theorem dX2_isPresent_27 : decode cX2_isPresent 27 = .ok (.ireturn, 1) := by decide +kernel
theorem dX2_keyOf_0 : decode cX2_keyOf 0 = .ok (.iload_n 0, 1) := by decide +kernel
theorem dX2_keyOf_1 : decode cX2_keyOf 1 = .ok (.ifCond .eq 10, 3) := by decide +kernel
theorem dX2_keyOf_4 : decode cX2_keyOf 4 = .ok (.bipush 15, 2) := by decide +kernel
theorem dX2_keyOf_6 : decode cX2_keyOf 6 = .ok (.iload_n 1, 1) := by decide +kernel
theorem dX2_keyOf_7 : decode cX2_keyOf 7 = .ok (.iadd, 1) := by decide +kernel
theorem dX2_keyOf_8 : decode cX2_keyOf 8 = .ok (.goto 4, 3) := by decide +kernel
theorem dX2_keyOf_11 : decode cX2_keyOf 11 = .ok (.iload_n 1, 1) := by decide +kernel
theorem dX2_keyOf_12 : decode cX2_keyOf 12 = .ok (.ireturn, 1) := by decide +kernel
theorem dX3_init_0 : decode cX3_init 0 = .ok (.aload_n 0, 1) := by decide +kernel
theorem dX3_init_1 : decode cX3_init 1 = .ok (.invokespecial 3, 3) := by decide +kernel
theorem dX3_init_4 : decode cX3_init 4 = .ok (.return_, 1) := by decide +kernel
theorem dX3_put_0 : decode cX3_put 0 = .ok (.aload_n 0, 1) := by decide +kernel
theorem dX3_put_1 : decode cX3_put 1 = .ok (.iload_n 1, 1) := by decide +kernel
theorem dX3_put_2 : decode cX3_put 2 = .ok (.putfield 9, 3) := by decide +kernel
theorem dX3_put_5 : decode cX3_put 5 = .ok (.aload_n 0, 1) := by decide +kernel
theorem dX3_put_6 : decode cX3_put 6 = .ok (.iload_n 2, 1) := by decide +kernel
theorem dX3_put_7 : decode cX3_put 7 = .ok (.putfield 15, 3) := by decide +kernel
theorem dX3_put_10 : decode cX3_put 10 = .ok (.aload_n 0, 1) := by decide +kernel
theorem dX3_put_11 : decode cX3_put 11 = .ok (.iload_n 3, 1) := by decide +kernel
theorem dX3_put_12 : decode cX3_put 12 = .ok (.putfield 18, 3) := by decide +kernel
theorem dX3_put_15 : decode cX3_put 15 = .ok (.aload_n 0, 1) := by decide +kernel
theorem dX3_put_16 : decode cX3_put 16 = .ok (.iload 4, 2) := by decide +kernel
theorem dX3_put_18 : decode cX3_put 18 = .ok (.putfield 21, 3) := by decide +kernel
theorem dX3_put_21 : decode cX3_put 21 = .ok (.return_, 1) := by decide +kernel
theorem dX3_isOfField_0 : decode cX3_isOfField 0 = .ok (.aload_n 0, 1) := by decide +kernel
theorem dX3_isOfField_1 : decode cX3_isOfField 1 = .ok (.getfield 9, 3) := by decide +kernel
theorem dX3_isOfField_4 : decode cX3_isOfField 4 = .ok (.iconst 3, 1) := by decide +kernel
theorem dX3_isOfField_5 : decode cX3_isOfField 5 = .ok (.if_icmp .gt 7, 3) := by decide +kernel
theorem dX3_isOfField_8 : decode cX3_isOfField 8 = .ok (.iconst 1, 1) := by decide +kernel
theorem dX3_isOfField_9 : decode cX3_isOfField 9 = .ok (.goto 4, 3) := by decide +kernel
theorem dX3_isOfField_12 : decode cX3_isOfField 12 = .ok (.iconst 0, 1) := by decide +kernel
theorem dX3_isOfField_13 : decode cX3_isOfField 13 = .ok (.ireturn, 1) := by decide +kernel
theorem dX3_isPut_0 : decode cX3_isPut 0 = .ok (.aload_n 0, 1) := by decide +kernel
theorem dX3_isPut_1 : decode cX3_isPut 1 = .ok (.getfield 9, 3) := by decide +kernel
theorem dX3_isPut_4 : decode cX3_isPut 4 = .ok (.iconst 1, 1) := by decide +kernel
theorem dX3_isPut_5 : decode cX3_isPut 5 = .ok (.if_icmp .eq 11, 3) := by decide +kernel
theorem dX3_isPut_8 : decode cX3_isPut 8 = .ok (.aload_n 0, 1) := by decide +kernel
theorem dX3_isPut_9 : decode cX3_isPut 9 = .ok (.getfield 9, 3) := by decide +kernel
theorem dX3_isPut_12 : decode cX3_isPut 12 = .ok (.iconst 3, 1) := by decide +kernel
theorem dX3_isPut_13 : decode cX3_isPut 13 = .ok (.if_icmp .ne 7, 3) := by decide +kernel
theorem dX3_isPut_16 : decode cX3_isPut 16 = .ok (.iconst 1, 1) := by decide +kernel
theorem dX3_isPut_17 : decode cX3_isPut 17 = .ok (.goto 4, 3) := by decide +kernel
theorem dX3_isPut_20 : decode cX3_isPut 20 = .ok (.iconst 0, 1) := by decide +kernel
theorem dX3_isPut_21 : decode cX3_isPut 21 = .ok (.ireturn, 1) := by decide +kernel
theorem dX3_needsStatic_0 : decode cX3_needsStatic 0 = .ok (.aload_n 0, 1) := by decide +kernel
theorem dX3_needsStatic_1 : decode cX3_needsStatic 1 = .ok (.getfield 9, 3) := by decide +kernel
theorem dX3_needsStatic_4 : decode cX3_needsStatic 4 = .ok (.iconst 2, 1) := by decide +kernel
theorem dX3_needsStatic_5 : decode cX3_needsStatic 5 = .ok (.if_icmp .eq 20, 3) := by decide +kernel
theorem dX3_needsStatic_8 : decode cX3_needsStatic 8 = .ok (.aload_n 0, 1) := by decide +kernel
theorem dX3_needsStatic_9 : decode cX3_needsStatic 9 = .ok (.getfield 9, 3) := by decide +kernel
theorem dX3_needsStatic_12 : decode cX3_needsStatic 12 = .ok (.iconst 3, 1) := by decide +kernel
theorem dX3_needsStatic_13 : decode cX3_needsStatic 13 = .ok (.if_icmp .eq 12, 3) := by decide +kernel
theorem dX3_needsStatic_16 : decode cX3_needsStatic 16 = .ok (.aload_n 0, 1) := by decide +kernel
theorem dX3_needsStatic_17 : decode cX3_needsStatic 17 = .ok (.getfield 9, 3) := by decide +kernel
theorem dX3_needsStatic_20 : decode cX3_needsStatic 20 = .ok (.bipush 6, 2) := by decide +kernel
theorem dX3_needsStatic_22 : decode cX3_needsStatic 22 = .ok (.if_icmp .ne 7, 3) := by decide +kernel
theorem dX3_needsStatic_25 : decode cX3_needsStatic 25 = .ok (.iconst 1, 1) := by decide +kernel
theorem dX3_needsStatic_26 : decode cX3_needsStatic 26 = .ok (.goto 4, 3) := by decide +kernel
theorem dX3_needsStatic_29 : decode cX3_needsStatic 29 = .ok (.iconst 0, 1) := by decide +kernel
theorem dX3_needsStatic_30 : decode cX3_needsStatic 30 = .ok (.ireturn, 1) := by decide +kernel
theorem dX3_hasReceiver_0 : decode cX3_hasReceiver 0 = .ok (.aload_n 0, 1) := by decide +kernel
theorem dX3_hasReceiver_1 : decode cX3_hasReceiver 1 = .ok (.getfield 9, 3) := by decide +kernel
theorem dX3_hasReceiver_4 : decode cX3_hasReceiver 4 = .ok (.iconst 4, 1) := by decide +kernel
theorem dX3_hasReceiver_5 : decode cX3_hasReceiver 5 = .ok (.if_icmp .eq 12, 3) := by decide +kernel
theorem dX3_hasReceiver_8 : decode cX3_hasReceiver 8 = .ok (.aload_n 0, 1) := by decide +kernel
theorem dX3_hasReceiver_9 : decode cX3_hasReceiver 9 = .ok (.getfield 9, 3) := by decide +kernel
theorem dX3_hasReceiver_12 : decode cX3_hasReceiver 12 = .ok (.bipush 7, 2) := by decide +kernel
theorem dX3_hasReceiver_14 : decode cX3_hasReceiver 14 = .ok (.if_icmp .ne 7, 3) := by decide +kernel
theorem dX3_hasReceiver_17 : decode cX3_hasReceiver 17 = .ok (.iconst 1, 1) := by decide +kernel
theorem dX3_hasReceiver_18 : decode cX3_hasReceiver 18 = .ok (.goto 4, 3) := by decide +kernel
theorem dX3_hasReceiver_21 : decode cX3_hasReceiver 21 = .ok (.iconst 0, 1) := by decide +kernel
theorem dX3_hasReceiver_22 : decode cX3_hasReceiver 22 = .ok (.ireturn, 1) := by decide +kernel
theorem dX4_init_0 : decode cX4_init 0 = .ok (.aload_n 0, 1) := by decide +kernel
theorem dX4_init_1 : decode cX4_init 1 = .ok (.invokespecial 3, 3) := by decide +kernel
theorem dX4_init_4 : decode cX4_init 4 = .ok (.aload_n 0, 1) := by decide +kernel
theorem dX4_init_5 : decode cX4_init 5 = .ok (.iconst 2, 1) := by decide +kernel
theorem dX4_init_6 : decode cX4_init 6 = .ok (.anewarray 9, 3) := by decide +kernel
theorem dX4_init_9 : decode cX4_init 9 = .ok (.dup, 1) := by decide +kernel
theorem dX4_init_10 : decode cX4_init 10 = .ok (.iconst 0, 1) := by decide +kernel
theorem dX4_init_11 : decode cX4_init 11 = .ok (.new 9, 3) := by decide +kernel
theorem dX4_init_14 : decode cX4_init 14 = .ok (.dup, 1) := by decide +kernel
theorem dX4_init_15 : decode cX4_init 15 = .ok (.invokespecial 11, 3) := by decide +kernel
theorem dX4_init_18 : decode cX4_init 18 = .ok (.aastore, 1) := by decide +kernel
theorem dX4_init_19 : decode cX4_init 19 = .ok (.dup, 1) := by decide +kernel
theorem dX4_init_20 : decode cX4_init 20 = .ok (.iconst 1, 1) := by decide +kernel
theorem dX4_init_21 : decode cX4_init 21 = .ok (.new 9, 3) := by decide +kernel
theorem dX4_init_24 : decode cX4_init 24 = .ok (.dup, 1) := by decide +kernel
theorem dX4_init_25 : decode cX4_init 25 = .ok (.invokespecial 11, 3) := by decide +kernel
theorem dX4_init_28 : decode cX4_init 28 = .ok (.aastore, 1) := by decide +kernel
theorem dX4_init_29 : decode cX4_init 29 = .ok (.putfield 12, 3) := by decide +kernel
theorem dX4_init_32 : decode cX4_init 32 = .ok (.aload_n 0, 1) := by decide +kernel
theorem dX4_init_33 : decode cX4_init 33 = .ok (.bipush 16, 2) := by decide +kernel
theorem dX4_init_35 : decode cX4_init 35 = .ok (.anewarray 16, 3) := by decide +kernel
theorem dX4_init_38 : decode cX4_init 38 = .ok (.putfield 18, 3) := by decide +kernel
theorem dX4_init_41 : decode cX4_init 41 = .ok (.iconst 0, 1) := by decide +kernel
theorem dX4_init_42 : decode cX4_init 42 = .ok (.istore_n 1, 1) := by decide +kernel
theorem dX4_init_43 : decode cX4_init 43 = .ok (.iload_n 1, 1) := by decide +kernel
theorem dX4_init_44 : decode cX4_init 44 = .ok (.bipush 16, 2) := by decide +kernel
theorem dX4_init_46 : decode cX4_init 46 = .ok (.if_icmp .ge 22, 3) := by decide +kernel
theorem dX4_init_49 : decode cX4_init 49 = .ok (.aload_n 0, 1) := by decide +kernel
theorem dX4_init_50 : decode cX4_init 50 = .ok (.getfield 18, 3) := by decide +kernel
theorem dX4_init_53 : decode cX4_init 53 = .ok (.iload_n 1, 1) := by decide +kernel
theorem dX4_init_54 : decode cX4_init 54 = .ok (.new 16, 3) := by decide +kernel
theorem dX4_init_57 : decode cX4_init 57 = .ok (.dup, 1) := by decide +kernel
theorem dX4_init_58 : decode cX4_init 58 = .ok (.invokespecial 22, 3) := by decide +kernel
theorem dX4_init_61 : decode cX4_init 61 = .ok (.aastore, 1) := by decide +kernel
theorem dX4_init_62 : decode cX4_init 62 = .ok (.iinc 1 1, 3) := by decide +kernel
theorem dX4_init_65 : decode cX4_init 65 = .ok (.goto (-22), 3) := by decide +kernel
theorem dX4_init_68 : decode cX4_init 68 = .ok (.aload_n 0, 1) := by decide +kernel
theorem dX4_init_69 : decode cX4_init 69 = .ok (.iconst 0, 1) := by decide +kernel
theorem dX4_init_70 : decode cX4_init 70 = .ok (.putfield 23, 3) := by decide +kernel
theorem dX4_init_73 : decode cX4_init 73 = .ok (.aload_n 0, 1) := by decide +kernel
theorem dX4_init_74 : decode cX4_init 74 = .ok (.iconst 0, 1) := by decide +kernel
theorem dX4_init_75 : decode cX4_init 75 = .ok (.putfield 27, 3) := by decide +kernel
theorem dX4_init_78 : decode cX4_init 78 = .ok (.return_, 1) := by decide +kernel
theorem dX4_type_0 : decode cX4_type 0 = .ok (.iload_n 1, 1) := by decide +kernel
theorem dX4_type_1 : decode cX4_type 1 = .ok (.invokestatic 30, 3) := by decide +kernel
theorem dX4_type_4 : decode cX4_type 4 = .ok (.ifCond .eq 41, 3) := by decide +kernel
theorem dX4_type_7 : decode cX4_type 7 = .ok (.iload_n 2, 1) := by decide +kernel
theorem dX4_type_8 : decode cX4_type 8 = .ok (.bipush 16, 2) := by decide +kernel
theorem dX4_type_10 : decode cX4_type 10 = .ok (.invokestatic 34, 3) := by decide +kernel
theorem dX4_type_13 : decode cX4_type 13 = .ok (.ifCond .eq 32, 3) := by decide +kernel
theorem dX4_type_16 : decode cX4_type 16 = .ok (.iload_n 3, 1) := by decide +kernel
theorem dX4_type_17 : decode cX4_type 17 = .ok (.iconst 4, 1) := by decide +kernel
theorem dX4_type_18 : decode cX4_type 18 = .ok (.invokestatic 34, 3) := by decide +kernel
theorem dX4_type_21 : decode cX4_type 21 = .ok (.ifCond .eq 24, 3) := by decide +kernel
theorem dX4_type_24 : decode cX4_type 24 = .ok (.iload 4, 2) := by decide +kernel
theorem dX4_type_26 : decode cX4_type 26 = .ok (.bipush 12, 2) := by decide +kernel
theorem dX4_type_28 : decode cX4_type 28 = .ok (.invokestatic 34, 3) := by decide +kernel
theorem dX4_type_31 : decode cX4_type 31 = .ok (.ifCond .eq 14, 3) := by decide +kernel
theorem dX4_type_34 : decode cX4_type 34 = .ok (.iload 5, 2) := by decide +kernel
theorem dX4_type_36 : decode cX4_type 36 = .ok (.sipush 4096, 3) := by decide +kernel
theorem dX4_type_39 : decode cX4_type 39 = .ok (.invokestatic 34, 3) := by decide +kernel
theorem dX4_type_42 : decode cX4_type 42 = .ok (.ifCond .ne 5, 3) := by decide +kernel
theorem dX4_type_45 : decode cX4_type 45 = .ok (.iconst 0, 1) := by decide +kernel
theorem dX4_type_46 : decode cX4_type 46 = .ok (.ireturn, 1) := by decide +kernel
theorem dX4_type_47 : decode cX4_type 47 = .ok (.aload_n 0, 1) := by decide +kernel
theorem dX4_type_48 : decode cX4_type 48 = .ok (.getfield 12, 3) := by decide +kernel
theorem dX4_type_51 : decode cX4_type 51 = .ok (.aload_n 0, 1) := by decide +kernel
theorem dX4_type_52 : decode cX4_type 52 = .ok (.getfield 27, 3) := by decide +kernel
theorem dX4_type_55 : decode cX4_type 55 = .ok (.aaload, 1) := by decide +kernel
theorem dX4_type_56 : decode cX4_type 56 = .ok (.getfield 38, 3) := by decide +kernel
theorem dX4_type_59 : decode cX4_type 59 = .ok (.iload_n 1, 1) := by decide +kernel
theorem dX4_type_60 : decode cX4_type 60 = .ok (.iload_n 2, 1) := by decide +kernel
theorem dX4_type_61 : decode cX4_type 61 = .ok (.iload_n 3, 1) := by decide +kernel
theorem dX4_type_62 : decode cX4_type 62 = .ok (.iload 4, 2) := by decide +kernel
theorem dX4_type_64 : decode cX4_type 64 = .ok (.iload 5, 2) := by decide +kernel
theorem dX4_type_66 : decode cX4_type 66 = .ok (.invokevirtual 42, 3) := by decide +kernel
theorem dX4_type_69 : decode cX4_type 69 = .ok (.iconst 1, 1) := by decide +kernel
theorem dX4_type_70 : decode cX4_type 70 = .ok (.ireturn, 1) := by decide +kernel
theorem dX4_nest_0 : decode cX4_nest 0 = .ok (.iload_n 1, 1) := by decide +kernel
theorem dX4_nest_1 : decode cX4_nest 1 = .ok (.invokestatic 30, 3) := by decide +kernel
theorem dX4_nest_4 : decode cX4_nest 4 = .ok (.ifCond .eq 12, 3) := by decide +kernel
theorem dX4_nest_7 : decode cX4_nest 7 = .ok (.iload_n 2, 1) := by decide +kernel
theorem dX4_nest_8 : decode cX4_nest 8 = .ok (.bipush 12, 2) := by decide +kernel
theorem dX4_nest_10 : decode cX4_nest 10 = .ok (.invokestatic 34, 3) := by decide +kernel
theorem dX4_nest_13 : decode cX4_nest 13 = .ok (.ifCond .ne 5, 3) := by decide +kernel
theorem dX4_nest_16 : decode cX4_nest 16 = .ok (.iconst 0, 1) := by decide +kernel
theorem dX4_nest_17 : decode cX4_nest 17 = .ok (.ireturn, 1) := by decide +kernel
theorem dX4_nest_18 : decode cX4_nest 18 = .ok (.aload_n 0, 1) := by decide +kernel
theorem dX4_nest_19 : decode cX4_nest 19 = .ok (.getfield 12, 3) := by decide +kernel
theorem dX4_nest_22 : decode cX4_nest 22 = .ok (.aload_n 0, 1) := by decide +kernel
theorem dX4_nest_23 : decode cX4_nest 23 = .ok (.getfield 27, 3) := by decide +kernel
theorem dX4_nest_26 : decode cX4_nest 26 = .ok (.aaload, 1) := by decide +kernel
theorem dX4_nest_27 : decode cX4_nest 27 = .ok (.getfield 38, 3) := by decide +kernel
theorem dX4_nest_30 : decode cX4_nest 30 = .ok (.iload_n 1, 1) := by decide +kernel
theorem dX4_nest_31 : decode cX4_nest 31 = .ok (.iload_n 2, 1) := by decide +kernel
theorem dX4_nest_32 : decode cX4_nest 32 = .ok (.invokevirtual 48, 3) := by decide +kernel
theorem dX4_nest_35 : decode cX4_nest 35 = .ok (.ireturn, 1) := by decide +kernel
theorem dX4_drop_0 : decode cX4_drop 0 = .ok (.iload_n 1, 1) := by decide +kernel
theorem dX4_drop_1 : decode cX4_drop 1 = .ok (.invokestatic 30, 3) := by decide +kernel
theorem dX4_drop_4 : decode cX4_drop 4 = .ok (.ifCond .ne 5, 3) := by decide +kernel
theorem dX4_drop_7 : decode cX4_drop 7 = .ok (.iconst 0, 1) := by decide +kernel
theorem dX4_drop_8 : decode cX4_drop 8 = .ok (.ireturn, 1) := by decide +kernel
theorem dX4_drop_9 : decode cX4_drop 9 = .ok (.aload_n 0, 1) := by decide +kernel
theorem dX4_drop_10 : decode cX4_drop 10 = .ok (.getfield 12, 3) := by decide +kernel
theorem dX4_drop_13 : decode cX4_drop 13 = .ok (.aload_n 0, 1) := by decide +kernel
theorem dX4_drop_14 : decode cX4_drop 14 = .ok (.getfield 27, 3) := by decide +kernel
theorem dX4_drop_17 : decode cX4_drop 17 = .ok (.aaload, 1) := by decide +kernel
theorem dX4_drop_18 : decode cX4_drop 18 = .ok (.iload_n 1, 1) := by decide +kernel
theorem dX4_drop_19 : decode cX4_drop 19 = .ok (.invokevirtual 51, 3) := by decide +kernel
theorem dX4_drop_22 : decode cX4_drop 22 = .ok (.ireturn, 1) := by decide +kernel
theorem dX4_member_0 : decode cX4_member 0 = .ok (.iload_n 1, 1) := by decide +kernel
theorem dX4_member_1 : decode cX4_member 1 = .ok (.bipush 12, 2) := by decide +kernel
theorem dX4_member_3 : decode cX4_member 3 = .ok (.invokestatic 34, 3) := by decide +kernel
theorem dX4_member_6 : decode cX4_member 6 = .ok (.ifCond .eq 31, 3) := by decide +kernel
theorem dX4_member_9 : decode cX4_member 9 = .ok (.iload_n 3, 1) := by decide +kernel
theorem dX4_member_10 : decode cX4_member 10 = .ok (.bipush 15, 2) := by decide +kernel
theorem dX4_member_12 : decode cX4_member 12 = .ok (.invokestatic 34, 3) := by decide +kernel
theorem dX4_member_15 : decode cX4_member 15 = .ok (.ifCond .eq 22, 3) := by decide +kernel
theorem dX4_member_18 : decode cX4_member 18 = .ok (.iload 4, 2) := by decide +kernel
theorem dX4_member_20 : decode cX4_member 20 = .ok (.iconst 4, 1) := by decide +kernel
theorem dX4_member_21 : decode cX4_member 21 = .ok (.invokestatic 34, 3) := by decide +kernel
theorem dX4_member_24 : decode cX4_member 24 = .ok (.ifCond .eq 13, 3) := by decide +kernel
theorem dX4_member_27 : decode cX4_member 27 = .ok (.iload 5, 2) := by decide +kernel
theorem dX4_member_29 : decode cX4_member 29 = .ok (.bipush 8, 2) := by decide +kernel
theorem dX4_member_31 : decode cX4_member 31 = .ok (.invokestatic 34, 3) := by decide +kernel
theorem dX4_member_34 : decode cX4_member 34 = .ok (.ifCond .ne 5, 3) := by decide +kernel
theorem dX4_member_37 : decode cX4_member 37 = .ok (.iconst (-1), 1) := by decide +kernel
theorem dX4_member_38 : decode cX4_member 38 = .ok (.ireturn, 1) := by decide +kernel
theorem dX4_member_39 : decode cX4_member 39 = .ok (.aload_n 0, 1) := by decide +kernel
theorem dX4_member_40 : decode cX4_member 40 = .ok (.getfield 12, 3) := by decide +kernel
theorem dX4_member_43 : decode cX4_member 43 = .ok (.aload_n 0, 1) := by decide +kernel
theorem dX4_member_44 : decode cX4_member 44 = .ok (.getfield 27, 3) := by decide +kernel
theorem dX4_member_47 : decode cX4_member 47 = .ok (.aaload, 1) := by decide +kernel
theorem dX4_member_48 : decode cX4_member 48 = .ok (.iload_n 1, 1) := by decide +kernel
theorem dX4_member_49 : decode cX4_member 49 = .ok (.iload_n 2, 1) := by decide +kernel
theorem dX4_member_50 : decode cX4_member 50 = .ok (.iload_n 3, 1) := by decide +kernel
theorem dX4_member_51 : decode cX4_member 51 = .ok (.iload 4, 2) := by decide +kernel
theorem dX4_member_53 : decode cX4_member 53 = .ok (.iload 5, 2) := by decide +kernel
theorem dX4_member_55 : decode cX4_member 55 = .ok (.invokevirtual 54, 3) := by decide +kernel
theorem dX4_member_58 : decode cX4_member 58 = .ok (.ireturn, 1) := by decide +kernel
theorem dX4_remake_0 : decode cX4_remake 0 = .ok (.iload_n 2, 1) := by decide +kernel
theorem dX4_remake_1 : decode cX4_remake 1 = .ok (.iconst 4, 1) := by decide +kernel
theorem dX4_remake_2 : decode cX4_remake 2 = .ok (.invokestatic 34, 3) := by decide +kernel
theorem dX4_remake_5 : decode cX4_remake 5 = .ok (.ifCond .eq 12, 3) := by decide +kernel
theorem dX4_remake_8 : decode cX4_remake 8 = .ok (.iload_n 3, 1) := by decide +kernel
theorem dX4_remake_9 : decode cX4_remake 9 = .ok (.bipush 8, 2) := by decide +kernel
theorem dX4_remake_11 : decode cX4_remake 11 = .ok (.invokestatic 34, 3) := by decide +kernel
theorem dX4_remake_14 : decode cX4_remake 14 = .ok (.ifCond .ne 5, 3) := by decide +kernel
theorem dX4_remake_17 : decode cX4_remake 17 = .ok (.iconst 0, 1) := by decide +kernel
theorem dX4_remake_18 : decode cX4_remake 18 = .ok (.ireturn, 1) := by decide +kernel
theorem dX4_remake_19 : decode cX4_remake 19 = .ok (.aload_n 0, 1) := by decide +kernel
theorem dX4_remake_20 : decode cX4_remake 20 = .ok (.getfield 12, 3) := by decide +kernel
theorem dX4_remake_23 : decode cX4_remake 23 = .ok (.aload_n 0, 1) := by decide +kernel
theorem dX4_remake_24 : decode cX4_remake 24 = .ok (.getfield 27, 3) := by decide +kernel
theorem dX4_remake_27 : decode cX4_remake 27 = .ok (.aaload, 1) := by decide +kernel
theorem dX4_remake_28 : decode cX4_remake 28 = .ok (.getfield 58, 3) := by decide +kernel
theorem dX4_remake_31 : decode cX4_remake 31 = .ok (.iload_n 1, 1) := by decide +kernel
theorem dX4_remake_32 : decode cX4_remake 32 = .ok (.iload_n 2, 1) := by decide +kernel
theorem dX4_remake_33 : decode cX4_remake 33 = .ok (.iload_n 3, 1) := by decide +kernel
theorem dX4_remake_34 : decode cX4_remake 34 = .ok (.invokevirtual 62, 3) := by decide +kernel
theorem dX4_remake_37 : decode cX4_remake 37 = .ok (.ireturn, 1) := by decide +kernel
theorem dX4_remove_0 : decode cX4_remove 0 = .ok (.aload_n 0, 1) := by decide +kernel
theorem dX4_remove_1 : decode cX4_remove 1 = .ok (.getfield 12, 3) := by decide +kernel
theorem dX4_remove_4 : decode cX4_remove 4 = .ok (.aload_n 0, 1) := by decide +kernel
theorem dX4_remove_5 : decode cX4_remove 5 = .ok (.getfield 27, 3) := by decide +kernel
theorem dX4_remove_8 : decode cX4_remove 8 = .ok (.aaload, 1) := by decide +kernel
theorem dX4_remove_9 : decode cX4_remove 9 = .ok (.getfield 58, 3) := by decide +kernel
theorem dX4_remove_12 : decode cX4_remove 12 = .ok (.iload_n 1, 1) := by decide +kernel
theorem dX4_remove_13 : decode cX4_remove 13 = .ok (.invokevirtual 68, 3) := by decide +kernel
theorem dX4_remove_16 : decode cX4_remove 16 = .ok (.ireturn, 1) := by decide +kernel
theorem dX4_branch_0 : decode cX4_branch 0 = .ok (.aload_n 0, 1) := by decide +kernel
theorem dX4_branch_1 : decode cX4_branch 1 = .ok (.getfield 12, 3) := by decide +kernel
theorem dX4_branch_4 : decode cX4_branch 4 = .ok (.iconst 1, 1) := by decide +kernel
theorem dX4_branch_5 : decode cX4_branch 5 = .ok (.aaload, 1) := by decide +kernel
theorem dX4_branch_6 : decode cX4_branch 6 = .ok (.aload_n 0, 1) := by decide +kernel
theorem dX4_branch_7 : decode cX4_branch 7 = .ok (.getfield 12, 3) := by decide +kernel
theorem dX4_branch_10 : decode cX4_branch 10 = .ok (.iconst 0, 1) := by decide +kernel
theorem dX4_branch_11 : decode cX4_branch 11 = .ok (.aaload, 1) := by decide +kernel
theorem dX4_branch_12 : decode cX4_branch 12 = .ok (.invokevirtual 71, 3) := by decide +kernel
theorem dX4_branch_15 : decode cX4_branch 15 = .ok (.aload_n 0, 1) := by decide +kernel
theorem dX4_branch_16 : decode cX4_branch 16 = .ok (.iconst 1, 1) := by decide +kernel
theorem dX4_branch_17 : decode cX4_branch 17 = .ok (.putfield 27, 3) := by decide +kernel
theorem dX4_branch_20 : decode cX4_branch 20 = .ok (.aload_n 0, 1) := by decide +kernel
theorem dX4_branch_21 : decode cX4_branch 21 = .ok (.getfield 12, 3) := by decide +kernel
theorem dX4_branch_24 : decode cX4_branch 24 = .ok (.iconst 1, 1) := by decide +kernel
theorem dX4_branch_25 : decode cX4_branch 25 = .ok (.aaload, 1) := by decide +kernel
theorem dX4_branch_26 : decode cX4_branch 26 = .ok (.getfield 38, 3) := by decide +kernel
theorem dX4_branch_29 : decode cX4_branch 29 = .ok (.invokevirtual 75, 3) := by decide +kernel
theorem dX4_branch_32 : decode cX4_branch 32 = .ok (.ireturn, 1) := by decide +kernel
theorem dX4_write_0 : decode cX4_write 0 = .ok (.iload_n 1, 1) := by decide +kernel
theorem dX4_write_1 : decode cX4_write 1 = .ok (.iconst 2, 1) := by decide +kernel
theorem dX4_write_2 : decode cX4_write 2 = .ok (.invokestatic 34, 3) := by decide +kernel
theorem dX4_write_5 : decode cX4_write 5 = .ok (.ifCond .ne 5, 3) := by decide +kernel
theorem dX4_write_8 : decode cX4_write 8 = .ok (.iconst 0, 1) := by decide +kernel
theorem dX4_write_9 : decode cX4_write 9 = .ok (.ireturn, 1) := by decide +kernel
theorem dX4_write_10 : decode cX4_write 10 = .ok (.aload_n 0, 1) := by decide +kernel
theorem dX4_write_11 : decode cX4_write 11 = .ok (.iload_n 1, 1) := by decide +kernel
theorem dX4_write_12 : decode cX4_write 12 = .ok (.putfield 27, 3) := by decide +kernel
theorem dX4_write_15 : decode cX4_write 15 = .ok (.iconst 1, 1) := by decide +kernel
theorem dX4_write_16 : decode cX4_write 16 = .ok (.ireturn, 1) := by decide +kernel
theorem dX4_refer_0 : decode cX4_refer 0 = .ok (.iload_n 1, 1) := by decide +kernel
theorem dX4_refer_1 : decode cX4_refer 1 = .ok (.bipush 9, 2) := by decide +kernel
theorem dX4_refer_3 : decode cX4_refer 3 = .ok (.invokestatic 34, 3) := by decide +kernel
theorem dX4_refer_6 : decode cX4_refer 6 = .ok (.ifCond .eq 31, 3) := by decide +kernel
theorem dX4_refer_9 : decode cX4_refer 9 = .ok (.iload_n 2, 1) := by decide +kernel
theorem dX4_refer_10 : decode cX4_refer 10 = .ok (.bipush 12, 2) := by decide +kernel
theorem dX4_refer_12 : decode cX4_refer 12 = .ok (.invokestatic 34, 3) := by decide +kernel
theorem dX4_refer_15 : decode cX4_refer 15 = .ok (.ifCond .eq 22, 3) := by decide +kernel
theorem dX4_refer_18 : decode cX4_refer 18 = .ok (.iload_n 3, 1) := by decide +kernel
theorem dX4_refer_19 : decode cX4_refer 19 = .ok (.bipush 12, 2) := by decide +kernel
theorem dX4_refer_21 : decode cX4_refer 21 = .ok (.invokestatic 34, 3) := by decide +kernel
theorem dX4_refer_24 : decode cX4_refer 24 = .ok (.ifCond .eq 13, 3) := by decide +kernel
theorem dX4_refer_27 : decode cX4_refer 27 = .ok (.iload 4, 2) := by decide +kernel
theorem dX4_refer_29 : decode cX4_refer 29 = .ok (.bipush 15, 2) := by decide +kernel
theorem dX4_refer_31 : decode cX4_refer 31 = .ok (.invokestatic 34, 3) := by decide +kernel
theorem dX4_refer_34 : decode cX4_refer 34 = .ok (.ifCond .ne 5, 3) := by decide +kernel
theorem dX4_refer_37 : decode cX4_refer 37 = .ok (.iconst (-1), 1) := by decide +kernel
theorem dX4_refer_38 : decode cX4_refer 38 = .ok (.ireturn, 1) := by decide +kernel
theorem dX4_refer_39 : decode cX4_refer 39 = .ok (.aload_n 0, 1) := by decide +kernel
theorem dX4_refer_40 : decode cX4_refer 40 = .ok (.getfield 23, 3) := by decide +kernel
theorem dX4_refer_43 : decode cX4_refer 43 = .ok (.bipush 16, 2) := by decide +kernel
theorem dX4_refer_45 : decode cX4_refer 45 = .ok (.if_icmp .lt 6, 3) := by decide +kernel
theorem dX4_refer_48 : decode cX4_refer 48 = .ok (.bipush (-3), 2) := by decide +kernel
theorem dX4_refer_50 : decode cX4_refer 50 = .ok (.ireturn, 1) := by decide +kernel
theorem dX4_refer_51 : decode cX4_refer 51 = .ok (.aload_n 0, 1) := by decide +kernel
theorem dX4_refer_52 : decode cX4_refer 52 = .ok (.getfield 18, 3) := by decide +kernel
theorem dX4_refer_55 : decode cX4_refer 55 = .ok (.aload_n 0, 1) := by decide +kernel
theorem dX4_refer_56 : decode cX4_refer 56 = .ok (.getfield 23, 3) := by decide +kernel
theorem dX4_refer_59 : decode cX4_refer 59 = .ok (.aaload, 1) := by decide +kernel
theorem dX4_refer_60 : decode cX4_refer 60 = .ok (.iload_n 1, 1) := by decide +kernel
theorem dX4_refer_61 : decode cX4_refer 61 = .ok (.iload_n 2, 1) := by decide +kernel
theorem dX4_refer_62 : decode cX4_refer 62 = .ok (.iload_n 3, 1) := by decide +kernel
theorem dX4_refer_63 : decode cX4_refer 63 = .ok (.iload 4, 2) := by decide +kernel
theorem dX4_refer_65 : decode cX4_refer 65 = .ok (.invokevirtual 79, 3) := by decide +kernel
theorem dX4_refer_68 : decode cX4_refer 68 = .ok (.aload_n 0, 1) := by decide +kernel
theorem dX4_refer_69 : decode cX4_refer 69 = .ok (.dup, 1) := by decide +kernel
theorem dX4_refer_70 : decode cX4_refer 70 = .ok (.getfield 23, 3) := by decide +kernel
theorem dX4_refer_73 : decode cX4_refer 73 = .ok (.iconst 1, 1) := by decide +kernel
theorem dX4_refer_74 : decode cX4_refer 74 = .ok (.iadd, 1) := by decide +kernel
theorem dX4_refer_75 : decode cX4_refer 75 = .ok (.putfield 23, 3) := by decide +kernel
theorem dX4_refer_78 : decode cX4_refer 78 = .ok (.aload_n 0, 1) := by decide +kernel
theorem dX4_refer_79 : decode cX4_refer 79 = .ok (.getfield 23, 3) := by decide +kernel
theorem dX4_refer_82 : decode cX4_refer 82 = .ok (.iconst 1, 1) := by decide +kernel
theorem dX4_refer_83 : decode cX4_refer 83 = .ok (.isub, 1) := by decide +kernel
theorem dX4_refer_84 : decode cX4_refer 84 = .ok (.ireturn, 1) := by decide +kernel
theorem dX4_forget_0 : decode cX4_forget 0 = .ok (.aload_n 0, 1) := by decide +kernel
theorem dX4_forget_1 : decode cX4_forget 1 = .ok (.getfield 23, 3) := by decide +kernel
theorem dX4_forget_4 : decode cX4_forget 4 = .ok (.istore_n 1, 1) := by decide +kernel
theorem dX4_forget_5 : decode cX4_forget 5 = .ok (.aload_n 0, 1) := by decide +kernel
theorem dX4_forget_6 : decode cX4_forget 6 = .ok (.iconst 0, 1) := by decide +kernel
theorem dX4_forget_7 : decode cX4_forget 7 = .ok (.putfield 23, 3) := by decide +kernel
theorem dX4_forget_10 : decode cX4_forget 10 = .ok (.iload_n 1, 1) := by decide +kernel
theorem dX4_forget_11 : decode cX4_forget 11 = .ok (.ireturn, 1) := by decide +kernel
theorem dX4_load_0 : decode cX4_load 0 = .ok (.iload_n 1, 1) := by decide +kernel
theorem dX4_load_1 : decode cX4_load 1 = .ok (.iconst 2, 1) := by decide +kernel
theorem dX4_load_2 : decode cX4_load 2 = .ok (.invokestatic 34, 3) := by decide +kernel
theorem dX4_load_5 : decode cX4_load 5 = .ok (.ifCond .eq 12, 3) := by decide +kernel
theorem dX4_load_8 : decode cX4_load 8 = .ok (.iload_n 2, 1) := by decide +kernel
theorem dX4_load_9 : decode cX4_load 9 = .ok (.bipush 12, 2) := by decide +kernel
theorem dX4_load_11 : decode cX4_load 11 = .ok (.invokestatic 34, 3) := by decide +kernel
theorem dX4_load_14 : decode cX4_load 14 = .ok (.ifCond .ne 5, 3) := by decide +kernel
theorem dX4_load_17 : decode cX4_load 17 = .ok (.iconst (-1), 1) := by decide +kernel
theorem dX4_load_18 : decode cX4_load 18 = .ok (.ireturn, 1) := by decide +kernel
theorem dX4_load_19 : decode cX4_load 19 = .ok (.aload_n 0, 1) := by decide +kernel
theorem dX4_load_20 : decode cX4_load 20 = .ok (.getfield 12, 3) := by decide +kernel
theorem dX4_load_23 : decode cX4_load 23 = .ok (.iload_n 1, 1) := by decide +kernel
theorem dX4_load_24 : decode cX4_load 24 = .ok (.aaload, 1) := by decide +kernel
theorem dX4_load_25 : decode cX4_load 25 = .ok (.getfield 38, 3) := by decide +kernel
theorem dX4_load_28 : decode cX4_load 28 = .ok (.iload_n 2, 1) := by decide +kernel
theorem dX4_load_29 : decode cX4_load 29 = .ok (.invokevirtual 83, 3) := by decide +kernel
theorem dX4_load_32 : decode cX4_load 32 = .ok (.ireturn, 1) := by decide +kernel
theorem dX4_resolve_0 : decode cX4_resolve 0 = .ok (.iload_n 1, 1) := by decide +kernel
theorem dX4_resolve_1 : decode cX4_resolve 1 = .ok (.iconst 2, 1) := by decide +kernel
theorem dX4_resolve_2 : decode cX4_resolve 2 = .ok (.invokestatic 34, 3) := by decide +kernel
theorem dX4_resolve_5 : decode cX4_resolve 5 = .ok (.ifCond .eq 14, 3) := by decide +kernel
theorem dX4_resolve_8 : decode cX4_resolve 8 = .ok (.iload_n 2, 1) := by decide +kernel
theorem dX4_resolve_9 : decode cX4_resolve 9 = .ok (.aload_n 0, 1) := by decide +kernel
theorem dX4_resolve_10 : decode cX4_resolve 10 = .ok (.getfield 23, 3) := by decide +kernel
theorem dX4_resolve_13 : decode cX4_resolve 13 = .ok (.invokestatic 34, 3) := by decide +kernel
theorem dX4_resolve_16 : decode cX4_resolve 16 = .ok (.ifCond .ne 5, 3) := by decide +kernel
theorem dX4_resolve_19 : decode cX4_resolve 19 = .ok (.iconst (-1), 1) := by decide +kernel
theorem dX4_resolve_20 : decode cX4_resolve 20 = .ok (.ireturn, 1) := by decide +kernel
theorem dX4_resolve_21 : decode cX4_resolve 21 = .ok (.aload_n 0, 1) := by decide +kernel
theorem dX4_resolve_22 : decode cX4_resolve 22 = .ok (.getfield 12, 3) := by decide +kernel
theorem dX4_resolve_25 : decode cX4_resolve 25 = .ok (.iload_n 1, 1) := by decide +kernel
theorem dX4_resolve_26 : decode cX4_resolve 26 = .ok (.aaload, 1) := by decide +kernel
theorem dX4_resolve_27 : decode cX4_resolve 27 = .ok (.aload_n 0, 1) := by decide +kernel
theorem dX4_resolve_28 : decode cX4_resolve 28 = .ok (.getfield 18, 3) := by decide +kernel
theorem dX4_resolve_31 : decode cX4_resolve 31 = .ok (.iload_n 2, 1) := by decide +kernel
theorem dX4_resolve_32 : decode cX4_resolve 32 = .ok (.aaload, 1) := by decide +kernel
theorem dX4_resolve_33 : decode cX4_resolve 33 = .ok (.invokevirtual 87, 3) := by decide +kernel
theorem dX4_resolve_36 : decode cX4_resolve 36 = .ok (.ireturn, 1) := by decide +kernel
theorem dX4_select_0 : decode cX4_select 0 = .ok (.iload_n 1, 1) := by decide +kernel
theorem dX4_select_1 : decode cX4_select 1 = .ok (.iconst 2, 1) := by decide +kernel
theorem dX4_select_2 : decode cX4_select 2 = .ok (.invokestatic 34, 3) := by decide +kernel
theorem dX4_select_5 : decode cX4_select 5 = .ok (.ifCond .eq 23, 3) := by decide +kernel
theorem dX4_select_8 : decode cX4_select 8 = .ok (.iload_n 2, 1) := by decide +kernel
theorem dX4_select_9 : decode cX4_select 9 = .ok (.aload_n 0, 1) := by decide +kernel
theorem dX4_select_10 : decode cX4_select 10 = .ok (.getfield 23, 3) := by decide +kernel
theorem dX4_select_13 : decode cX4_select 13 = .ok (.invokestatic 34, 3) := by decide +kernel
theorem dX4_select_16 : decode cX4_select 16 = .ok (.ifCond .eq 12, 3) := by decide +kernel
theorem dX4_select_19 : decode cX4_select 19 = .ok (.iload_n 3, 1) := by decide +kernel
theorem dX4_select_20 : decode cX4_select 20 = .ok (.bipush 12, 2) := by decide +kernel
theorem dX4_select_22 : decode cX4_select 22 = .ok (.invokestatic 34, 3) := by decide +kernel
theorem dX4_select_25 : decode cX4_select 25 = .ok (.ifCond .ne 5, 3) := by decide +kernel
theorem dX4_select_28 : decode cX4_select 28 = .ok (.iconst (-1), 1) := by decide +kernel
theorem dX4_select_29 : decode cX4_select 29 = .ok (.ireturn, 1) := by decide +kernel
theorem dX4_select_30 : decode cX4_select 30 = .ok (.aload_n 0, 1) := by decide +kernel
theorem dX4_select_31 : decode cX4_select 31 = .ok (.getfield 18, 3) := by decide +kernel
theorem dX4_select_34 : decode cX4_select 34 = .ok (.iload_n 2, 1) := by decide +kernel
theorem dX4_select_35 : decode cX4_select 35 = .ok (.aaload, 1) := by decide +kernel
theorem dX4_select_36 : decode cX4_select 36 = .ok (.astore 4, 2) := by decide +kernel
theorem dX4_select_38 : decode cX4_select 38 = .ok (.aload_n 0, 1) := by decide +kernel
theorem dX4_select_39 : decode cX4_select 39 = .ok (.getfield 12, 3) := by decide +kernel
theorem dX4_select_42 : decode cX4_select 42 = .ok (.iload_n 1, 1) := by decide +kernel
theorem dX4_select_43 : decode cX4_select 43 = .ok (.aaload, 1) := by decide +kernel
theorem dX4_select_44 : decode cX4_select 44 = .ok (.aload 4, 2) := by decide +kernel
theorem dX4_select_46 : decode cX4_select 46 = .ok (.aload_n 0, 1) := by decide +kernel
theorem dX4_select_47 : decode cX4_select 47 = .ok (.getfield 12, 3) := by decide +kernel
theorem dX4_select_50 : decode cX4_select 50 = .ok (.iload_n 1, 1) := by decide +kernel
theorem dX4_select_51 : decode cX4_select 51 = .ok (.aaload, 1) := by decide +kernel
theorem dX4_select_52 : decode cX4_select 52 = .ok (.aload 4, 2) := by decide +kernel
theorem dX4_select_54 : decode cX4_select 54 = .ok (.invokevirtual 87, 3) := by decide +kernel
theorem dX4_select_57 : decode cX4_select 57 = .ok (.iload_n 3, 1) := by decide +kernel
theorem dX4_select_58 : decode cX4_select 58 = .ok (.invokevirtual 91, 3) := by decide +kernel
theorem dX4_select_61 : decode cX4_select 61 = .ok (.ireturn, 1) := by decide +kernel
theorem dX4_compare_0 : decode cX4_compare 0 = .ok (.iload_n 1, 1) := by decide +kernel
theorem dX4_compare_1 : decode cX4_compare 1 = .ok (.aload_n 0, 1) := by decide +kernel
theorem dX4_compare_2 : decode cX4_compare 2 = .ok (.getfield 23, 3) := by decide +kernel
theorem dX4_compare_5 : decode cX4_compare 5 = .ok (.invokestatic 34, 3) := by decide +kernel
theorem dX4_compare_8 : decode cX4_compare 8 = .ok (.ifCond .ne 5, 3) := by decide +kernel
theorem dX4_compare_11 : decode cX4_compare 11 = .ok (.iconst (-1), 1) := by decide +kernel
theorem dX4_compare_12 : decode cX4_compare 12 = .ok (.ireturn, 1) := by decide +kernel
theorem dX4_compare_13 : decode cX4_compare 13 = .ok (.aload_n 0, 1) := by decide +kernel
theorem dX4_compare_14 : decode cX4_compare 14 = .ok (.getfield 12, 3) := by decide +kernel
theorem dX4_compare_17 : decode cX4_compare 17 = .ok (.iconst 0, 1) := by decide +kernel
theorem dX4_compare_18 : decode cX4_compare 18 = .ok (.aaload, 1) := by decide +kernel
theorem dX4_compare_19 : decode cX4_compare 19 = .ok (.aload_n 0, 1) := by decide +kernel
theorem dX4_compare_20 : decode cX4_compare 20 = .ok (.getfield 18, 3) := by decide +kernel
theorem dX4_compare_23 : decode cX4_compare 23 = .ok (.iload_n 1, 1) := by decide +kernel
theorem dX4_compare_24 : decode cX4_compare 24 = .ok (.aaload, 1) := by decide +kernel
theorem dX4_compare_25 : decode cX4_compare 25 = .ok (.invokevirtual 87, 3) := by decide +kernel
theorem dX4_compare_28 : decode cX4_compare 28 = .ok (.istore_n 2, 1) := by decide +kernel
theorem dX4_compare_29 : decode cX4_compare 29 = .ok (.aload_n 0, 1) := by decide +kernel
theorem dX4_compare_30 : decode cX4_compare 30 = .ok (.getfield 12, 3) := by decide +kernel
theorem dX4_compare_33 : decode cX4_compare 33 = .ok (.iconst 1, 1) := by decide +kernel
theorem dX4_compare_34 : decode cX4_compare 34 = .ok (.aaload, 1) := by decide +kernel
theorem dX4_compare_35 : decode cX4_compare 35 = .ok (.aload_n 0, 1) := by decide +kernel
theorem dX4_compare_36 : decode cX4_compare 36 = .ok (.getfield 18, 3) := by decide +kernel
theorem dX4_compare_39 : decode cX4_compare 39 = .ok (.iload_n 1, 1) := by decide +kernel
theorem dX4_compare_40 : decode cX4_compare 40 = .ok (.aaload, 1) := by decide +kernel
theorem dX4_compare_41 : decode cX4_compare 41 = .ok (.invokevirtual 87, 3) := by decide +kernel
theorem dX4_compare_44 : decode cX4_compare 44 = .ok (.istore_n 3, 1) := by decide +kernel
theorem dX4_compare_45 : decode cX4_compare 45 = .ok (.aload_n 0, 1) := by decide +kernel
theorem dX4_compare_46 : decode cX4_compare 46 = .ok (.iload_n 2, 1) := by decide +kernel
theorem dX4_compare_47 : decode cX4_compare 47 = .ok (.iload_n 3, 1) := by decide +kernel
theorem dX4_compare_48 : decode cX4_compare 48 = .ok (.invokevirtual 95, 3) := by decide +kernel
theorem dX4_compare_51 : decode cX4_compare 51 = .ok (.ifCond .eq 5, 3) := by decide +kernel
theorem dX4_compare_54 : decode cX4_compare 54 = .ok (.iconst 0, 1) := by decide +kernel
theorem dX4_compare_55 : decode cX4_compare 55 = .ok (.ireturn, 1) := by decide +kernel
theorem dX4_compare_56 : decode cX4_compare 56 = .ok (.iload_n 2, 1) := by decide +kernel
theorem dX4_compare_57 : decode cX4_compare 57 = .ok (.invokestatic 98, 3) := by decide +kernel
theorem dX4_compare_60 : decode cX4_compare 60 = .ok (.ifCond .eq 16, 3) := by decide +kernel
theorem dX4_compare_63 : decode cX4_compare 63 = .ok (.iload_n 3, 1) := by decide +kernel
theorem dX4_compare_64 : decode cX4_compare 64 = .ok (.invokestatic 98, 3) := by decide +kernel
theorem dX4_compare_67 : decode cX4_compare 67 = .ok (.ifCond .eq 7, 3) := by decide +kernel
theorem dX4_compare_70 : decode cX4_compare 70 = .ok (.iconst 3, 1) := by decide +kernel
theorem dX4_compare_71 : decode cX4_compare 71 = .ok (.goto 4, 3) := by decide +kernel
theorem dX4_compare_74 : decode cX4_compare 74 = .ok (.iconst 1, 1) := by decide +kernel
theorem dX4_compare_75 : decode cX4_compare 75 = .ok (.ireturn, 1) := by decide +kernel
theorem dX4_compare_76 : decode cX4_compare 76 = .ok (.iload_n 3, 1) := by decide +kernel
theorem dX4_compare_77 : decode cX4_compare 77 = .ok (.invokestatic 98, 3) := by decide +kernel
theorem dX4_compare_80 : decode cX4_compare 80 = .ok (.ifCond .eq 7, 3) := by decide +kernel
theorem dX4_compare_83 : decode cX4_compare 83 = .ok (.iconst 2, 1) := by decide +kernel
theorem dX4_compare_84 : decode cX4_compare 84 = .ok (.goto 4, 3) := by decide +kernel
theorem dX4_compare_87 : decode cX4_compare 87 = .ok (.iconst 4, 1) := by decide +kernel
theorem dX4_compare_88 : decode cX4_compare 88 = .ok (.ireturn, 1) := by decide +kernel
theorem dX4_receivers_0 : decode cX4_receivers 0 = .ok (.iload_n 1, 1) := by decide +kernel
theorem dX4_receivers_1 : decode cX4_receivers 1 = .ok (.aload_n 0, 1) := by decide +kernel
theorem dX4_receivers_2 : decode cX4_receivers 2 = .ok (.getfield 23, 3) := by decide +kernel
theorem dX4_receivers_5 : decode cX4_receivers 5 = .ok (.invokestatic 34, 3) := by decide +kernel
theorem dX4_receivers_8 : decode cX4_receivers 8 = .ok (.ifCond .eq 11, 3) := by decide +kernel
theorem dX4_receivers_11 : decode cX4_receivers 11 = .ok (.iload_n 2, 1) := by decide +kernel
theorem dX4_receivers_12 : decode cX4_receivers 12 = .ok (.iconst 4, 1) := by decide +kernel
theorem dX4_receivers_13 : decode cX4_receivers 13 = .ok (.invokestatic 34, 3) := by decide +kernel
theorem dX4_receivers_16 : decode cX4_receivers 16 = .ok (.ifCond .ne 5, 3) := by decide +kernel
theorem dX4_receivers_19 : decode cX4_receivers 19 = .ok (.iconst (-1), 1) := by decide +kernel
theorem dX4_receivers_20 : decode cX4_receivers 20 = .ok (.ireturn, 1) := by decide +kernel
theorem dX4_receivers_21 : decode cX4_receivers 21 = .ok (.aload_n 0, 1) := by decide +kernel
theorem dX4_receivers_22 : decode cX4_receivers 22 = .ok (.getfield 18, 3) := by decide +kernel
theorem dX4_receivers_25 : decode cX4_receivers 25 = .ok (.iload_n 1, 1) := by decide +kernel
theorem dX4_receivers_26 : decode cX4_receivers 26 = .ok (.aaload, 1) := by decide +kernel
theorem dX4_receivers_27 : decode cX4_receivers 27 = .ok (.astore_n 3, 1) := by decide +kernel
theorem dX4_receivers_28 : decode cX4_receivers 28 = .ok (.aload_n 0, 1) := by decide +kernel
theorem dX4_receivers_29 : decode cX4_receivers 29 = .ok (.getfield 12, 3) := by decide +kernel
theorem dX4_receivers_32 : decode cX4_receivers 32 = .ok (.iconst 0, 1) := by decide +kernel
theorem dX4_receivers_33 : decode cX4_receivers 33 = .ok (.aaload, 1) := by decide +kernel
theorem dX4_receivers_34 : decode cX4_receivers 34 = .ok (.aload_n 3, 1) := by decide +kernel
theorem dX4_receivers_35 : decode cX4_receivers 35 = .ok (.invokevirtual 87, 3) := by decide +kernel
theorem dX4_receivers_38 : decode cX4_receivers 38 = .ok (.istore 4, 2) := by decide +kernel
theorem dX4_receivers_40 : decode cX4_receivers 40 = .ok (.aload_n 0, 1) := by decide +kernel
theorem dX4_receivers_41 : decode cX4_receivers 41 = .ok (.getfield 12, 3) := by decide +kernel
theorem dX4_receivers_44 : decode cX4_receivers 44 = .ok (.iconst 1, 1) := by decide +kernel
theorem dX4_receivers_45 : decode cX4_receivers 45 = .ok (.aaload, 1) := by decide +kernel
theorem dX4_receivers_46 : decode cX4_receivers 46 = .ok (.aload_n 3, 1) := by decide +kernel
theorem dX4_receivers_47 : decode cX4_receivers 47 = .ok (.invokevirtual 87, 3) := by decide +kernel
theorem dX4_receivers_50 : decode cX4_receivers 50 = .ok (.istore 5, 2) := by decide +kernel
theorem dX4_receivers_52 : decode cX4_receivers 52 = .ok (.iconst 0, 1) := by decide +kernel
theorem dX4_receivers_53 : decode cX4_receivers 53 = .ok (.istore 6, 2) := by decide +kernel
theorem dX4_receivers_55 : decode cX4_receivers 55 = .ok (.iconst 0, 1) := by decide +kernel
theorem dX4_receivers_56 : decode cX4_receivers 56 = .ok (.istore 7, 2) := by decide +kernel
theorem dX4_receivers_58 : decode cX4_receivers 58 = .ok (.iload 7, 2) := by decide +kernel
theorem dX4_receivers_60 : decode cX4_receivers 60 = .ok (.bipush 12, 2) := by decide +kernel
theorem dX4_receivers_62 : decode cX4_receivers 62 = .ok (.if_icmp .ge 63, 3) := by decide +kernel
theorem dX4_receivers_65 : decode cX4_receivers 65 = .ok (.aload_n 0, 1) := by decide +kernel
theorem dX4_receivers_66 : decode cX4_receivers 66 = .ok (.getfield 12, 3) := by decide +kernel
theorem dX4_receivers_69 : decode cX4_receivers 69 = .ok (.iconst 0, 1) := by decide +kernel
theorem dX4_receivers_70 : decode cX4_receivers 70 = .ok (.aaload, 1) := by decide +kernel
theorem dX4_receivers_71 : decode cX4_receivers 71 = .ok (.aload_n 3, 1) := by decide +kernel
theorem dX4_receivers_72 : decode cX4_receivers 72 = .ok (.iload 4, 2) := by decide +kernel
theorem dX4_receivers_74 : decode cX4_receivers 74 = .ok (.iload 7, 2) := by decide +kernel
theorem dX4_receivers_76 : decode cX4_receivers 76 = .ok (.invokevirtual 91, 3) := by decide +kernel
theorem dX4_receivers_79 : decode cX4_receivers 79 = .ok (.istore 8, 2) := by decide +kernel
theorem dX4_receivers_81 : decode cX4_receivers 81 = .ok (.aload_n 0, 1) := by decide +kernel
theorem dX4_receivers_82 : decode cX4_receivers 82 = .ok (.getfield 12, 3) := by decide +kernel
theorem dX4_receivers_85 : decode cX4_receivers 85 = .ok (.iconst 1, 1) := by decide +kernel
theorem dX4_receivers_86 : decode cX4_receivers 86 = .ok (.aaload, 1) := by decide +kernel
theorem dX4_receivers_87 : decode cX4_receivers 87 = .ok (.aload_n 3, 1) := by decide +kernel
theorem dX4_receivers_88 : decode cX4_receivers 88 = .ok (.iload 5, 2) := by decide +kernel
theorem dX4_receivers_90 : decode cX4_receivers 90 = .ok (.iload 7, 2) := by decide +kernel
theorem dX4_receivers_92 : decode cX4_receivers 92 = .ok (.invokevirtual 91, 3) := by decide +kernel
theorem dX4_receivers_95 : decode cX4_receivers 95 = .ok (.istore 9, 2) := by decide +kernel
theorem dX4_receivers_97 : decode cX4_receivers 97 = .ok (.iload 6, 2) := by decide +kernel
theorem dX4_receivers_99 : decode cX4_receivers 99 = .ok (.aload_n 0, 1) := by decide +kernel
theorem dX4_receivers_100 : decode cX4_receivers 100 = .ok (.iload_n 2, 1) := by decide +kernel
theorem dX4_receivers_101 : decode cX4_receivers 101 = .ok (.iload 8, 2) := by decide +kernel
theorem dX4_receivers_103 : decode cX4_receivers 103 = .ok (.iload 9, 2) := by decide +kernel
theorem dX4_receivers_105 : decode cX4_receivers 105 = .ok (.invokevirtual 101, 3) := by decide +kernel
theorem dX4_receivers_108 : decode cX4_receivers 108 = .ok (.ifCond .eq 7, 3) := by decide +kernel
theorem dX4_receivers_111 : decode cX4_receivers 111 = .ok (.iconst 1, 1) := by decide +kernel
theorem dX4_receivers_112 : decode cX4_receivers 112 = .ok (.goto 4, 3) := by decide +kernel
theorem dX4_receivers_115 : decode cX4_receivers 115 = .ok (.iconst 0, 1) := by decide +kernel
theorem dX4_receivers_116 : decode cX4_receivers 116 = .ok (.iadd, 1) := by decide +kernel
theorem dX4_receivers_117 : decode cX4_receivers 117 = .ok (.istore 6, 2) := by decide +kernel
theorem dX4_receivers_119 : decode cX4_receivers 119 = .ok (.iinc 7 1, 3) := by decide +kernel
theorem dX4_receivers_122 : decode cX4_receivers 122 = .ok (.goto (-64), 3) := by decide +kernel
theorem dX4_receivers_125 : decode cX4_receivers 125 = .ok (.iload 6, 2) := by decide +kernel
theorem dX4_receivers_127 : decode cX4_receivers 127 = .ok (.ireturn, 1) := by decide +kernel
theorem dX4_isUnder_0 : decode cX4_isUnder 0 = .ok (.iload_n 1, 1) := by decide +kernel
theorem dX4_isUnder_1 : decode cX4_isUnder 1 = .ok (.iconst 2, 1) := by decide +kernel
theorem dX4_isUnder_2 : decode cX4_isUnder 2 = .ok (.invokestatic 34, 3) := by decide +kernel
theorem dX4_isUnder_5 : decode cX4_isUnder 5 = .ok (.ifCond .eq 21, 3) := by decide +kernel
theorem dX4_isUnder_8 : decode cX4_isUnder 8 = .ok (.iload_n 2, 1) := by decide +kernel
theorem dX4_isUnder_9 : decode cX4_isUnder 9 = .ok (.bipush 12, 2) := by decide +kernel
theorem dX4_isUnder_11 : decode cX4_isUnder 11 = .ok (.invokestatic 34, 3) := by decide +kernel
theorem dX4_isUnder_14 : decode cX4_isUnder 14 = .ok (.ifCond .eq 12, 3) := by decide +kernel
theorem dX4_isUnder_17 : decode cX4_isUnder 17 = .ok (.iload_n 3, 1) := by decide +kernel
theorem dX4_isUnder_18 : decode cX4_isUnder 18 = .ok (.bipush 12, 2) := by decide +kernel
theorem dX4_isUnder_20 : decode cX4_isUnder 20 = .ok (.invokestatic 34, 3) := by decide +kernel
theorem dX4_isUnder_23 : decode cX4_isUnder 23 = .ok (.ifCond .ne 5, 3) := by decide +kernel
theorem dX4_isUnder_26 : decode cX4_isUnder 26 = .ok (.iconst 0, 1) := by decide +kernel
theorem dX4_isUnder_27 : decode cX4_isUnder 27 = .ok (.ireturn, 1) := by decide +kernel
theorem dX4_isUnder_28 : decode cX4_isUnder 28 = .ok (.aload_n 0, 1) := by decide +kernel
theorem dX4_isUnder_29 : decode cX4_isUnder 29 = .ok (.getfield 12, 3) := by decide +kernel
theorem dX4_isUnder_32 : decode cX4_isUnder 32 = .ok (.iload_n 1, 1) := by decide +kernel
theorem dX4_isUnder_33 : decode cX4_isUnder 33 = .ok (.aaload, 1) := by decide +kernel
theorem dX4_isUnder_34 : decode cX4_isUnder 34 = .ok (.getfield 38, 3) := by decide +kernel
theorem dX4_isUnder_37 : decode cX4_isUnder 37 = .ok (.astore 4, 2) := by decide +kernel
theorem dX4_isUnder_39 : decode cX4_isUnder 39 = .ok (.aload 4, 2) := by decide +kernel
theorem dX4_isUnder_41 : decode cX4_isUnder 41 = .ok (.iload_n 2, 1) := by decide +kernel
theorem dX4_isUnder_42 : decode cX4_isUnder 42 = .ok (.invokevirtual 83, 3) := by decide +kernel
theorem dX4_isUnder_45 : decode cX4_isUnder 45 = .ok (.invokestatic 98, 3) := by decide +kernel
theorem dX4_isUnder_48 : decode cX4_isUnder 48 = .ok (.ifCond .eq 29, 3) := by decide +kernel
theorem dX4_isUnder_51 : decode cX4_isUnder 51 = .ok (.aload 4, 2) := by decide +kernel
theorem dX4_isUnder_53 : decode cX4_isUnder 53 = .ok (.iload_n 3, 1) := by decide +kernel
theorem dX4_isUnder_54 : decode cX4_isUnder 54 = .ok (.invokevirtual 83, 3) := by decide +kernel
theorem dX4_isUnder_57 : decode cX4_isUnder 57 = .ok (.invokestatic 98, 3) := by decide +kernel
theorem dX4_isUnder_60 : decode cX4_isUnder 60 = .ok (.ifCond .eq 17, 3) := by decide +kernel
theorem dX4_isUnder_63 : decode cX4_isUnder 63 = .ok (.aload 4, 2) := by decide +kernel
theorem dX4_isUnder_65 : decode cX4_isUnder 65 = .ok (.iload_n 2, 1) := by decide +kernel
theorem dX4_isUnder_66 : decode cX4_isUnder 66 = .ok (.iload_n 3, 1) := by decide +kernel
theorem dX4_isUnder_67 : decode cX4_isUnder 67 = .ok (.invokevirtual 104, 3) := by decide +kernel
theorem dX4_isUnder_70 : decode cX4_isUnder 70 = .ok (.ifCond .eq 7, 3) := by decide +kernel
theorem dX4_isUnder_73 : decode cX4_isUnder 73 = .ok (.iconst 1, 1) := by decide +kernel
theorem dX4_isUnder_74 : decode cX4_isUnder 74 = .ok (.goto 4, 3) := by decide +kernel
theorem dX4_isUnder_77 : decode cX4_isUnder 77 = .ok (.iconst 0, 1) := by decide +kernel
theorem dX4_isUnder_78 : decode cX4_isUnder 78 = .ok (.ireturn, 1) := by decide +kernel
theorem dX4_count_0 : decode cX4_count 0 = .ok (.iload_n 1, 1) := by decide +kernel
theorem dX4_count_1 : decode cX4_count 1 = .ok (.iconst 2, 1) := by decide +kernel
theorem dX4_count_2 : decode cX4_count 2 = .ok (.invokestatic 34, 3) := by decide +kernel
theorem dX4_count_5 : decode cX4_count 5 = .ok (.ifCond .ne 5, 3) := by decide +kernel
theorem dX4_count_8 : decode cX4_count 8 = .ok (.iconst (-1), 1) := by decide +kernel
theorem dX4_count_9 : decode cX4_count 9 = .ok (.ireturn, 1) := by decide +kernel
theorem dX4_count_10 : decode cX4_count 10 = .ok (.aload_n 0, 1) := by decide +kernel
theorem dX4_count_11 : decode cX4_count 11 = .ok (.getfield 12, 3) := by decide +kernel
theorem dX4_count_14 : decode cX4_count 14 = .ok (.iload_n 1, 1) := by decide +kernel
theorem dX4_count_15 : decode cX4_count 15 = .ok (.aaload, 1) := by decide +kernel
theorem dX4_count_16 : decode cX4_count 16 = .ok (.astore_n 3, 1) := by decide +kernel
theorem dX4_count_17 : decode cX4_count 17 = .ok (.iload_n 2, 1) := by decide +kernel
theorem dX4_count_18 : decode cX4_count 18 = .ok (.tableswitch 96 0 6 #[42, 50, 58, 66, 72, 80, 88], 42) := by decide +kernel
theorem dX4_count_60 : decode cX4_count 60 = .ok (.aload_n 3, 1) := by decide +kernel
theorem dX4_count_61 : decode cX4_count 61 = .ok (.getfield 38, 3) := by decide +kernel
theorem dX4_count_64 : decode cX4_count 64 = .ok (.invokevirtual 75, 3) := by decide +kernel
theorem dX4_count_67 : decode cX4_count 67 = .ok (.ireturn, 1) := by decide +kernel
theorem dX4_count_68 : decode cX4_count 68 = .ok (.aload_n 3, 1) := by decide +kernel
theorem dX4_count_69 : decode cX4_count 69 = .ok (.getfield 58, 3) := by decide +kernel
theorem dX4_count_72 : decode cX4_count 72 = .ok (.invokevirtual 107, 3) := by decide +kernel
theorem dX4_count_75 : decode cX4_count 75 = .ok (.ireturn, 1) := by decide +kernel
theorem dX4_count_76 : decode cX4_count 76 = .ok (.aload_n 3, 1) := by decide +kernel
theorem dX4_count_77 : decode cX4_count 77 = .ok (.getfield 58, 3) := by decide +kernel
theorem dX4_count_80 : decode cX4_count 80 = .ok (.invokevirtual 110, 3) := by decide +kernel
theorem dX4_count_83 : decode cX4_count 83 = .ok (.ireturn, 1) := by decide +kernel
theorem dX4_count_84 : decode cX4_count 84 = .ok (.aload_n 0, 1) := by decide +kernel
theorem dX4_count_85 : decode cX4_count 85 = .ok (.aload_n 3, 1) := by decide +kernel
theorem dX4_count_86 : decode cX4_count 86 = .ok (.invokevirtual 113, 3) := by decide +kernel
theorem dX4_count_89 : decode cX4_count 89 = .ok (.ireturn, 1) := by decide +kernel
theorem dX4_count_90 : decode cX4_count 90 = .ok (.aload_n 3, 1) := by decide +kernel
theorem dX4_count_91 : decode cX4_count 91 = .ok (.getfield 38, 3) := by decide +kernel
theorem dX4_count_94 : decode cX4_count 94 = .ok (.invokevirtual 117, 3) := by decide +kernel
theorem dX4_count_97 : decode cX4_count 97 = .ok (.ireturn, 1) := by decide +kernel
theorem dX4_count_98 : decode cX4_count 98 = .ok (.aload_n 3, 1) := by decide +kernel
theorem dX4_count_99 : decode cX4_count 99 = .ok (.getfield 58, 3) := by decide +kernel
theorem dX4_count_102 : decode cX4_count 102 = .ok (.invokevirtual 120, 3) := by decide +kernel
theorem dX4_count_105 : decode cX4_count 105 = .ok (.ireturn, 1) := by decide +kernel
theorem dX4_count_106 : decode cX4_count 106 = .ok (.aload_n 3, 1) := by decide +kernel
theorem dX4_count_107 : decode cX4_count 107 = .ok (.getfield 38, 3) := by decide +kernel
theorem dX4_count_110 : decode cX4_count 110 = .ok (.invokevirtual 123, 3) := by decide +kernel
theorem dX4_count_113 : decode cX4_count 113 = .ok (.ireturn, 1) := by decide +kernel
theorem dX4_count_114 : decode cX4_count 114 = .ok (.iconst (-1), 1) := by decide +kernel
theorem dX4_count_115 : decode cX4_count 115 = .ok (.ireturn, 1) := by decide +kernel
theorem dX4_countGoodReferences_0 : decode cX4_countGoodReferences 0 = .ok (.iconst 0, 1) := by decide +kernel
theorem dX4_countGoodReferences_1 : decode cX4_countGoodReferences 1 = .ok (.istore_n 2, 1) := by decide +kernel
theorem dX4_countGoodReferences_2 : decode cX4_countGoodReferences 2 = .ok (.iconst 0, 1) := by decide +kernel
theorem dX4_countGoodReferences_3 : decode cX4_countGoodReferences 3 = .ok (.istore_n 3, 1) := by decide +kernel
theorem dX4_countGoodReferences_4 : decode cX4_countGoodReferences 4 = .ok (.iload_n 3, 1) := by decide +kernel
theorem dX4_countGoodReferences_5 : decode cX4_countGoodReferences 5 = .ok (.aload_n 0, 1) := by decide +kernel
theorem dX4_countGoodReferences_6 : decode cX4_countGoodReferences 6 = .ok (.getfield 23, 3) := by decide +kernel
theorem dX4_countGoodReferences_9 : decode cX4_countGoodReferences 9 = .ok (.if_icmp .ge 33, 3) := by decide +kernel
theorem dX4_countGoodReferences_12 : decode cX4_countGoodReferences 12 = .ok (.iload_n 2, 1) := by decide +kernel
theorem dX4_countGoodReferences_13 : decode cX4_countGoodReferences 13 = .ok (.aload_n 1, 1) := by decide +kernel
theorem dX4_countGoodReferences_14 : decode cX4_countGoodReferences 14 = .ok (.aload_n 0, 1) := by decide +kernel
theorem dX4_countGoodReferences_15 : decode cX4_countGoodReferences 15 = .ok (.getfield 18, 3) := by decide +kernel
theorem dX4_countGoodReferences_18 : decode cX4_countGoodReferences 18 = .ok (.iload_n 3, 1) := by decide +kernel
theorem dX4_countGoodReferences_19 : decode cX4_countGoodReferences 19 = .ok (.aaload, 1) := by decide +kernel
theorem dX4_countGoodReferences_20 : decode cX4_countGoodReferences 20 = .ok (.invokevirtual 87, 3) := by decide +kernel
theorem dX4_countGoodReferences_23 : decode cX4_countGoodReferences 23 = .ok (.invokestatic 98, 3) := by decide +kernel
theorem dX4_countGoodReferences_26 : decode cX4_countGoodReferences 26 = .ok (.ifCond .eq 7, 3) := by decide +kernel
theorem dX4_countGoodReferences_29 : decode cX4_countGoodReferences 29 = .ok (.iconst 1, 1) := by decide +kernel
theorem dX4_countGoodReferences_30 : decode cX4_countGoodReferences 30 = .ok (.goto 4, 3) := by decide +kernel
theorem dX4_countGoodReferences_33 : decode cX4_countGoodReferences 33 = .ok (.iconst 0, 1) := by decide +kernel
theorem dX4_countGoodReferences_34 : decode cX4_countGoodReferences 34 = .ok (.iadd, 1) := by decide +kernel
theorem dX4_countGoodReferences_35 : decode cX4_countGoodReferences 35 = .ok (.istore_n 2, 1) := by decide +kernel
theorem dX4_countGoodReferences_36 : decode cX4_countGoodReferences 36 = .ok (.iinc 3 1, 3) := by decide +kernel
theorem dX4_countGoodReferences_39 : decode cX4_countGoodReferences 39 = .ok (.goto (-35), 3) := by decide +kernel
theorem dX4_countGoodReferences_42 : decode cX4_countGoodReferences 42 = .ok (.iload_n 2, 1) := by decide +kernel
theorem dX4_countGoodReferences_43 : decode cX4_countGoodReferences 43 = .ok (.ireturn, 1) := by decide +kernel
theorem dX4_isSuchReceiver_0 : decode cX4_isSuchReceiver 0 = .ok (.iload_n 1, 1) := by decide +kernel
theorem dX4_isSuchReceiver_1 : decode cX4_isSuchReceiver 1 = .ok (.tableswitch 57 0 2 #[27, 32, 37], 27) := by decide +kernel
theorem dX4_isSuchReceiver_28 : decode cX4_isSuchReceiver 28 = .ok (.iload_n 2, 1) := by decide +kernel
theorem dX4_isSuchReceiver_29 : decode cX4_isSuchReceiver 29 = .ok (.invokestatic 98, 3) := by decide +kernel
theorem dX4_isSuchReceiver_32 : decode cX4_isSuchReceiver 32 = .ok (.ireturn, 1) := by decide +kernel
theorem dX4_isSuchReceiver_33 : decode cX4_isSuchReceiver 33 = .ok (.iload_n 3, 1) := by decide +kernel
theorem dX4_isSuchReceiver_34 : decode cX4_isSuchReceiver 34 = .ok (.invokestatic 98, 3) := by decide +kernel
theorem dX4_isSuchReceiver_37 : decode cX4_isSuchReceiver 37 = .ok (.ireturn, 1) := by decide +kernel
theorem dX4_isSuchReceiver_38 : decode cX4_isSuchReceiver 38 = .ok (.iload_n 2, 1) := by decide +kernel
theorem dX4_isSuchReceiver_39 : decode cX4_isSuchReceiver 39 = .ok (.invokestatic 98, 3) := by decide +kernel
theorem dX4_isSuchReceiver_42 : decode cX4_isSuchReceiver 42 = .ok (.ifCond .eq 14, 3) := by decide +kernel
theorem dX4_isSuchReceiver_45 : decode cX4_isSuchReceiver 45 = .ok (.iload_n 3, 1) := by decide +kernel
theorem dX4_isSuchReceiver_46 : decode cX4_isSuchReceiver 46 = .ok (.invokestatic 98, 3) := by decide +kernel
theorem dX4_isSuchReceiver_49 : decode cX4_isSuchReceiver 49 = .ok (.ifCond .ne 7, 3) := by decide +kernel
theorem dX4_isSuchReceiver_52 : decode cX4_isSuchReceiver 52 = .ok (.iconst 1, 1) := by decide +kernel
theorem dX4_isSuchReceiver_53 : decode cX4_isSuchReceiver 53 = .ok (.goto 4, 3) := by decide +kernel
theorem dX4_isSuchReceiver_56 : decode cX4_isSuchReceiver 56 = .ok (.iconst 0, 1) := by decide +kernel
theorem dX4_isSuchReceiver_57 : decode cX4_isSuchReceiver 57 = .ok (.ireturn, 1) := by decide +kernel
theorem dX4_isSuchReceiver_58 : decode cX4_isSuchReceiver 58 = .ok (.iload_n 2, 1) := by decide +kernel
theorem dX4_isSuchReceiver_59 : decode cX4_isSuchReceiver 59 = .ok (.invokestatic 98, 3) := by decide +kernel
theorem dX4_isSuchReceiver_62 : decode cX4_isSuchReceiver 62 = .ok (.ifCond .eq 23, 3) := by decide +kernel
theorem dX4_isSuchReceiver_65 : decode cX4_isSuchReceiver 65 = .ok (.iload_n 3, 1) := by decide +kernel
theorem dX4_isSuchReceiver_66 : decode cX4_isSuchReceiver 66 = .ok (.invokestatic 98, 3) := by decide +kernel
theorem dX4_isSuchReceiver_69 : decode cX4_isSuchReceiver 69 = .ok (.ifCond .eq 16, 3) := by decide +kernel
theorem dX4_isSuchReceiver_72 : decode cX4_isSuchReceiver 72 = .ok (.aload_n 0, 1) := by decide +kernel
theorem dX4_isSuchReceiver_73 : decode cX4_isSuchReceiver 73 = .ok (.iload_n 2, 1) := by decide +kernel
theorem dX4_isSuchReceiver_74 : decode cX4_isSuchReceiver 74 = .ok (.iload_n 3, 1) := by decide +kernel
theorem dX4_isSuchReceiver_75 : decode cX4_isSuchReceiver 75 = .ok (.invokevirtual 95, 3) := by decide +kernel
theorem dX4_isSuchReceiver_78 : decode cX4_isSuchReceiver 78 = .ok (.ifCond .ne 7, 3) := by decide +kernel
theorem dX4_isSuchReceiver_81 : decode cX4_isSuchReceiver 81 = .ok (.iconst 1, 1) := by decide +kernel
theorem dX4_isSuchReceiver_82 : decode cX4_isSuchReceiver 82 = .ok (.goto 4, 3) := by decide +kernel
theorem dX4_isSuchReceiver_85 : decode cX4_isSuchReceiver 85 = .ok (.iconst 0, 1) := by decide +kernel
theorem dX4_isSuchReceiver_86 : decode cX4_isSuchReceiver 86 = .ok (.ireturn, 1) := by decide +kernel
theorem dX4_areAlike_0 : decode cX4_areAlike 0 = .ok (.iload_n 1, 1) := by decide +kernel
theorem dX4_areAlike_1 : decode cX4_areAlike 1 = .ok (.bipush 64, 2) := by decide +kernel
theorem dX4_areAlike_3 : decode cX4_areAlike 3 = .ok (.idiv, 1) := by decide +kernel
theorem dX4_areAlike_4 : decode cX4_areAlike 4 = .ok (.iload_n 2, 1) := by decide +kernel
theorem dX4_areAlike_5 : decode cX4_areAlike 5 = .ok (.bipush 64, 2) := by decide +kernel
theorem dX4_areAlike_7 : decode cX4_areAlike 7 = .ok (.idiv, 1) := by decide +kernel
theorem dX4_areAlike_8 : decode cX4_areAlike 8 = .ok (.if_icmp .eq 5, 3) := by decide +kernel
theorem dX4_areAlike_11 : decode cX4_areAlike 11 = .ok (.iconst 0, 1) := by decide +kernel
theorem dX4_areAlike_12 : decode cX4_areAlike 12 = .ok (.ireturn, 1) := by decide +kernel
theorem dX4_areAlike_13 : decode cX4_areAlike 13 = .ok (.iload_n 1, 1) := by decide +kernel
theorem dX4_areAlike_14 : decode cX4_areAlike 14 = .ok (.bipush 64, 2) := by decide +kernel
theorem dX4_areAlike_16 : decode cX4_areAlike 16 = .ok (.irem, 1) := by decide +kernel
theorem dX4_areAlike_17 : decode cX4_areAlike 17 = .ok (.istore_n 3, 1) := by decide +kernel
theorem dX4_areAlike_18 : decode cX4_areAlike 18 = .ok (.iload_n 2, 1) := by decide +kernel
theorem dX4_areAlike_19 : decode cX4_areAlike 19 = .ok (.bipush 64, 2) := by decide +kernel
theorem dX4_areAlike_21 : decode cX4_areAlike 21 = .ok (.irem, 1) := by decide +kernel
theorem dX4_areAlike_22 : decode cX4_areAlike 22 = .ok (.istore 4, 2) := by decide +kernel
theorem dX4_areAlike_24 : decode cX4_areAlike 24 = .ok (.iload_n 3, 1) := by decide +kernel
theorem dX4_areAlike_25 : decode cX4_areAlike 25 = .ok (.bipush 16, 2) := by decide +kernel
theorem dX4_areAlike_27 : decode cX4_areAlike 27 = .ok (.if_icmp .lt 10, 3) := by decide +kernel
theorem dX4_areAlike_30 : decode cX4_areAlike 30 = .ok (.iload 4, 2) := by decide +kernel
theorem dX4_areAlike_32 : decode cX4_areAlike 32 = .ok (.bipush 16, 2) := by decide +kernel
theorem dX4_areAlike_34 : decode cX4_areAlike 34 = .ok (.if_icmp .ge 15, 3) := by decide +kernel
theorem dX4_areAlike_37 : decode cX4_areAlike 37 = .ok (.iload_n 3, 1) := by decide +kernel
theorem dX4_areAlike_38 : decode cX4_areAlike 38 = .ok (.iload 4, 2) := by decide +kernel
theorem dX4_areAlike_40 : decode cX4_areAlike 40 = .ok (.if_icmp .ne 7, 3) := by decide +kernel
theorem dX4_areAlike_43 : decode cX4_areAlike 43 = .ok (.iconst 1, 1) := by decide +kernel
theorem dX4_areAlike_44 : decode cX4_areAlike 44 = .ok (.goto 4, 3) := by decide +kernel
theorem dX4_areAlike_47 : decode cX4_areAlike 47 = .ok (.iconst 0, 1) := by decide +kernel
theorem dX4_areAlike_48 : decode cX4_areAlike 48 = .ok (.ireturn, 1) := by decide +kernel
theorem dX4_areAlike_49 : decode cX4_areAlike 49 = .ok (.aload_n 0, 1) := by decide +kernel
theorem dX4_areAlike_50 : decode cX4_areAlike 50 = .ok (.getfield 12, 3) := by decide +kernel
theorem dX4_areAlike_53 : decode cX4_areAlike 53 = .ok (.iconst 0, 1) := by decide +kernel
theorem dX4_areAlike_54 : decode cX4_areAlike 54 = .ok (.aaload, 1) := by decide +kernel
theorem dX4_areAlike_55 : decode cX4_areAlike 55 = .ok (.getfield 58, 3) := by decide +kernel
theorem dX4_areAlike_58 : decode cX4_areAlike 58 = .ok (.iload_n 3, 1) := by decide +kernel
theorem dX4_areAlike_59 : decode cX4_areAlike 59 = .ok (.bipush 16, 2) := by decide +kernel
theorem dX4_areAlike_61 : decode cX4_areAlike 61 = .ok (.isub, 1) := by decide +kernel
theorem dX4_areAlike_62 : decode cX4_areAlike 62 = .ok (.aload_n 0, 1) := by decide +kernel
theorem dX4_areAlike_63 : decode cX4_areAlike 63 = .ok (.getfield 12, 3) := by decide +kernel
theorem dX4_areAlike_66 : decode cX4_areAlike 66 = .ok (.iconst 1, 1) := by decide +kernel
theorem dX4_areAlike_67 : decode cX4_areAlike 67 = .ok (.aaload, 1) := by decide +kernel
theorem dX4_areAlike_68 : decode cX4_areAlike 68 = .ok (.getfield 58, 3) := by decide +kernel
theorem dX4_areAlike_71 : decode cX4_areAlike 71 = .ok (.iload 4, 2) := by decide +kernel
theorem dX4_areAlike_73 : decode cX4_areAlike 73 = .ok (.bipush 16, 2) := by decide +kernel
theorem dX4_areAlike_75 : decode cX4_areAlike 75 = .ok (.isub, 1) := by decide +kernel
theorem dX4_areAlike_76 : decode cX4_areAlike 76 = .ok (.invokevirtual 126, 3) := by decide +kernel
theorem dX4_areAlike_79 : decode cX4_areAlike 79 = .ok (.ireturn, 1) := by decide +kernel
theorem dX4_isWithin_0 : decode cX4_isWithin 0 = .ok (.iload_n 0, 1) := by decide +kernel
theorem dX4_isWithin_1 : decode cX4_isWithin 1 = .ok (.ifCond .lt 12, 3) := by decide +kernel
theorem dX4_isWithin_4 : decode cX4_isWithin 4 = .ok (.iload_n 0, 1) := by decide +kernel
theorem dX4_isWithin_5 : decode cX4_isWithin 5 = .ok (.iload_n 1, 1) := by decide +kernel
theorem dX4_isWithin_6 : decode cX4_isWithin 6 = .ok (.if_icmp .ge 7, 3) := by decide +kernel
theorem dX4_isWithin_9 : decode cX4_isWithin 9 = .ok (.iconst 1, 1) := by decide +kernel
theorem dX4_isWithin_10 : decode cX4_isWithin 10 = .ok (.goto 4, 3) := by decide +kernel
theorem dX4_isWithin_13 : decode cX4_isWithin 13 = .ok (.iconst 0, 1) := by decide +kernel
theorem dX4_isWithin_14 : decode cX4_isWithin 14 = .ok (.ireturn, 1) := by decide +kernel
theorem dX4_isOrdinaryType_0 : decode cX4_isOrdinaryType 0 = .ok (.iload_n 0, 1) := by decide +kernel
theorem dX4_isOrdinaryType_1 : decode cX4_isOrdinaryType 1 = .ok (.ifCond .eq 16, 3) := by decide +kernel
theorem dX4_isOrdinaryType_4 : decode cX4_isOrdinaryType 4 = .ok (.iload_n 0, 1) := by decide +kernel
theorem dX4_isOrdinaryType_5 : decode cX4_isOrdinaryType 5 = .ok (.bipush 12, 2) := by decide +kernel
theorem dX4_isOrdinaryType_7 : decode cX4_isOrdinaryType 7 = .ok (.invokestatic 34, 3) := by decide +kernel
theorem dX4_isOrdinaryType_10 : decode cX4_isOrdinaryType 10 = .ok (.ifCond .eq 7, 3) := by decide +kernel
theorem dX4_isOrdinaryType_13 : decode cX4_isOrdinaryType 13 = .ok (.iconst 1, 1) := by decide +kernel
theorem dX4_isOrdinaryType_14 : decode cX4_isOrdinaryType 14 = .ok (.goto 4, 3) := by decide +kernel
theorem dX4_isOrdinaryType_17 : decode cX4_isOrdinaryType 17 = .ok (.iconst 0, 1) := by decide +kernel
theorem dX4_isOrdinaryType_18 : decode cX4_isOrdinaryType 18 = .ok (.ireturn, 1) := by decide +kernel
theorem dX4_isGood_0 : decode cX4_isGood 0 = .ok (.iload_n 0, 1) := by decide +kernel
theorem dX4_isGood_1 : decode cX4_isGood 1 = .ok (.bipush 64, 2) := by decide +kernel
theorem dX4_isGood_3 : decode cX4_isGood 3 = .ok (.invokestatic 34, 3) := by decide +kernel
theorem dX4_isGood_6 : decode cX4_isGood 6 = .ok (.ireturn, 1) := by decide +kernel
theorem dX4_bit_0 : decode cX4_bit 0 = .ok (.iconst 1, 1) := by decide +kernel
theorem dX4_bit_1 : decode cX4_bit 1 = .ok (.iload_n 0, 1) := by decide +kernel
theorem dX4_bit_2 : decode cX4_bit 2 = .ok (.ishl, 1) := by decide +kernel
theorem dX4_bit_3 : decode cX4_bit 3 = .ok (.ireturn, 1) := by decide +kernel
theorem dX4_contains_0 : decode cX4_contains 0 = .ok (.iload_n 0, 1) := by decide +kernel
theorem dX4_contains_1 : decode cX4_contains 1 = .ok (.iconst 1, 1) := by decide +kernel
theorem dX4_contains_2 : decode cX4_contains 2 = .ok (.iload_n 1, 1) := by decide +kernel
theorem dX4_contains_3 : decode cX4_contains 3 = .ok (.ishl, 1) := by decide +kernel
theorem dX4_contains_4 : decode cX4_contains 4 = .ok (.iand, 1) := by decide +kernel
theorem dX4_contains_5 : decode cX4_contains 5 = .ok (.ifCond .eq 7, 3) := by decide +kernel
theorem dX4_contains_8 : decode cX4_contains 8 = .ok (.iconst 1, 1) := by decide +kernel
theorem dX4_contains_9 : decode cX4_contains 9 = .ok (.goto 4, 3) := by decide +kernel
theorem dX4_contains_12 : decode cX4_contains 12 = .ok (.iconst 0, 1) := by decide +kernel
theorem dX4_contains_13 : decode cX4_contains 13 = .ok (.ireturn, 1) := by decide +kernel
theorem dX5_init_0 : decode cX5_init 0 = .ok (.aload_n 0, 1) := by decide +kernel
theorem dX5_init_1 : decode cX5_init 1 = .ok (.invokespecial 1, 3) := by decide +kernel
theorem dX5_init_4 : decode cX5_init 4 = .ok (.aload_n 0, 1) := by decide +kernel
theorem dX5_init_5 : decode cX5_init 5 = .ok (.bipush 24, 2) := by decide +kernel
theorem dX5_init_7 : decode cX5_init 7 = .ok (.newarray .boolean, 2) := by decide +kernel
theorem dX5_init_9 : decode cX5_init 9 = .ok (.putfield 7, 3) := by decide +kernel
theorem dX5_init_12 : decode cX5_init 12 = .ok (.aload_n 0, 1) := by decide +kernel
theorem dX5_init_13 : decode cX5_init 13 = .ok (.bipush 24, 2) := by decide +kernel
theorem dX5_init_15 : decode cX5_init 15 = .ok (.newarray .int, 2) := by decide +kernel
theorem dX5_init_17 : decode cX5_init 17 = .ok (.putfield 13, 3) := by decide +kernel
theorem dX5_init_20 : decode cX5_init 20 = .ok (.aload_n 0, 1) := by decide +kernel
theorem dX5_init_21 : decode cX5_init 21 = .ok (.bipush 24, 2) := by decide +kernel
theorem dX5_init_23 : decode cX5_init 23 = .ok (.newarray .int, 2) := by decide +kernel
theorem dX5_init_25 : decode cX5_init 25 = .ok (.putfield 17, 3) := by decide +kernel
theorem dX5_init_28 : decode cX5_init 28 = .ok (.aload_n 0, 1) := by decide +kernel
theorem dX5_init_29 : decode cX5_init 29 = .ok (.bipush 24, 2) := by decide +kernel
theorem dX5_init_31 : decode cX5_init 31 = .ok (.newarray .int, 2) := by decide +kernel
theorem dX5_init_33 : decode cX5_init 33 = .ok (.putfield 20, 3) := by decide +kernel
theorem dX5_init_36 : decode cX5_init 36 = .ok (.aload_n 0, 1) := by decide +kernel
theorem dX5_init_37 : decode cX5_init 37 = .ok (.bipush 24, 2) := by decide +kernel
theorem dX5_init_39 : decode cX5_init 39 = .ok (.newarray .int, 2) := by decide +kernel
theorem dX5_init_41 : decode cX5_init 41 = .ok (.putfield 23, 3) := by decide +kernel
theorem dX5_init_44 : decode cX5_init 44 = .ok (.aload_n 0, 1) := by decide +kernel
theorem dX5_init_45 : decode cX5_init 45 = .ok (.bipush 24, 2) := by decide +kernel
theorem dX5_init_47 : decode cX5_init 47 = .ok (.newarray .int, 2) := by decide +kernel
theorem dX5_init_49 : decode cX5_init 49 = .ok (.putfield 26, 3) := by decide +kernel
theorem dX5_init_52 : decode cX5_init 52 = .ok (.aload_n 0, 1) := by decide +kernel
theorem dX5_init_53 : decode cX5_init 53 = .ok (.bipush 60, 2) := by decide +kernel
theorem dX5_init_55 : decode cX5_init 55 = .ok (.newarray .boolean, 2) := by decide +kernel
theorem dX5_init_57 : decode cX5_init 57 = .ok (.putfield 29, 3) := by decide +kernel
theorem dX5_init_60 : decode cX5_init 60 = .ok (.aload_n 0, 1) := by decide +kernel
theorem dX5_init_61 : decode cX5_init 61 = .ok (.bipush 60, 2) := by decide +kernel
theorem dX5_init_63 : decode cX5_init 63 = .ok (.newarray .boolean, 2) := by decide +kernel
theorem dX5_init_65 : decode cX5_init 65 = .ok (.putfield 32, 3) := by decide +kernel
theorem dX5_init_68 : decode cX5_init 68 = .ok (.aload_n 0, 1) := by decide +kernel
theorem dX5_init_69 : decode cX5_init 69 = .ok (.iconst 2, 1) := by decide +kernel
theorem dX5_init_70 : decode cX5_init 70 = .ok (.newarray .int, 2) := by decide +kernel
theorem dX5_init_72 : decode cX5_init 72 = .ok (.putfield 35, 3) := by decide +kernel
theorem dX5_init_75 : decode cX5_init 75 = .ok (.aload_n 0, 1) := by decide +kernel
theorem dX5_init_76 : decode cX5_init 76 = .ok (.bipush 60, 2) := by decide +kernel
theorem dX5_init_78 : decode cX5_init 78 = .ok (.newarray .int, 2) := by decide +kernel
theorem dX5_init_80 : decode cX5_init 80 = .ok (.putfield 38, 3) := by decide +kernel
theorem dX5_init_83 : decode cX5_init 83 = .ok (.aload_n 0, 1) := by decide +kernel
theorem dX5_init_84 : decode cX5_init 84 = .ok (.bipush 60, 2) := by decide +kernel
theorem dX5_init_86 : decode cX5_init 86 = .ok (.newarray .int, 2) := by decide +kernel
theorem dX5_init_88 : decode cX5_init 88 = .ok (.putfield 41, 3) := by decide +kernel
theorem dX5_init_91 : decode cX5_init 91 = .ok (.aload_n 0, 1) := by decide +kernel
theorem dX5_init_92 : decode cX5_init 92 = .ok (.bipush 60, 2) := by decide +kernel
theorem dX5_init_94 : decode cX5_init 94 = .ok (.newarray .int, 2) := by decide +kernel
theorem dX5_init_96 : decode cX5_init 96 = .ok (.putfield 44, 3) := by decide +kernel
theorem dX5_init_99 : decode cX5_init 99 = .ok (.aload_n 0, 1) := by decide +kernel
theorem dX5_init_100 : decode cX5_init 100 = .ok (.bipush 60, 2) := by decide +kernel
theorem dX5_init_102 : decode cX5_init 102 = .ok (.newarray .int, 2) := by decide +kernel
theorem dX5_init_104 : decode cX5_init 104 = .ok (.putfield 47, 3) := by decide +kernel
theorem dX5_init_107 : decode cX5_init 107 = .ok (.aload_n 0, 1) := by decide +kernel
theorem dX5_init_108 : decode cX5_init 108 = .ok (.bipush 16, 2) := by decide +kernel
theorem dX5_init_110 : decode cX5_init 110 = .ok (.newarray .int, 2) := by decide +kernel
theorem dX5_init_112 : decode cX5_init 112 = .ok (.putfield 50, 3) := by decide +kernel
theorem dX5_init_115 : decode cX5_init 115 = .ok (.aload_n 0, 1) := by decide +kernel
theorem dX5_init_116 : decode cX5_init 116 = .ok (.bipush 16, 2) := by decide +kernel
theorem dX5_init_118 : decode cX5_init 118 = .ok (.newarray .int, 2) := by decide +kernel
theorem dX5_init_120 : decode cX5_init 120 = .ok (.putfield 53, 3) := by decide +kernel
theorem dX5_init_123 : decode cX5_init 123 = .ok (.aload_n 0, 1) := by decide +kernel
theorem dX5_init_124 : decode cX5_init 124 = .ok (.bipush 16, 2) := by decide +kernel
theorem dX5_init_126 : decode cX5_init 126 = .ok (.newarray .int, 2) := by decide +kernel
theorem dX5_init_128 : decode cX5_init 128 = .ok (.putfield 56, 3) := by decide +kernel
theorem dX5_init_131 : decode cX5_init 131 = .ok (.aload_n 0, 1) := by decide +kernel
theorem dX5_init_132 : decode cX5_init 132 = .ok (.bipush 16, 2) := by decide +kernel
theorem dX5_init_134 : decode cX5_init 134 = .ok (.newarray .int, 2) := by decide +kernel
theorem dX5_init_136 : decode cX5_init 136 = .ok (.putfield 59, 3) := by decide +kernel
theorem dX5_init_139 : decode cX5_init 139 = .ok (.aload_n 0, 1) := by decide +kernel
theorem dX5_init_140 : decode cX5_init 140 = .ok (.bipush 40, 2) := by decide +kernel
theorem dX5_init_142 : decode cX5_init 142 = .ok (.newarray .int, 2) := by decide +kernel
theorem dX5_init_144 : decode cX5_init 144 = .ok (.putfield 62, 3) := by decide +kernel
theorem dX5_init_147 : decode cX5_init 147 = .ok (.aload_n 0, 1) := by decide +kernel
theorem dX5_init_148 : decode cX5_init 148 = .ok (.bipush 14, 2) := by decide +kernel
theorem dX5_init_150 : decode cX5_init 150 = .ok (.newarray .int, 2) := by decide +kernel
theorem dX5_init_152 : decode cX5_init 152 = .ok (.putfield 65, 3) := by decide +kernel
theorem dX5_init_155 : decode cX5_init 155 = .ok (.iconst 0, 1) := by decide +kernel
theorem dX5_init_156 : decode cX5_init 156 = .ok (.istore_n 1, 1) := by decide +kernel
theorem dX5_init_157 : decode cX5_init 157 = .ok (.iload_n 1, 1) := by decide +kernel
theorem dX5_init_158 : decode cX5_init 158 = .ok (.iconst 2, 1) := by decide +kernel
theorem dX5_init_159 : decode cX5_init 159 = .ok (.if_icmp .ge 65, 3) := by decide +kernel
theorem dX5_init_162 : decode cX5_init 162 = .ok (.iconst 0, 1) := by decide +kernel
theorem dX5_init_163 : decode cX5_init 163 = .ok (.istore_n 2, 1) := by decide +kernel
theorem dX5_init_164 : decode cX5_init 164 = .ok (.iload_n 2, 1) := by decide +kernel
theorem dX5_init_165 : decode cX5_init 165 = .ok (.bipush 12, 2) := by decide +kernel
theorem dX5_init_167 : decode cX5_init 167 = .ok (.if_icmp .ge 21, 3) := by decide +kernel
theorem dX5_init_170 : decode cX5_init 170 = .ok (.aload_n 0, 1) := by decide +kernel
theorem dX5_init_171 : decode cX5_init 171 = .ok (.getfield 26, 3) := by decide +kernel
theorem dX5_init_174 : decode cX5_init 174 = .ok (.bipush 12, 2) := by decide +kernel
theorem dX5_init_176 : decode cX5_init 176 = .ok (.iload_n 1, 1) := by decide +kernel
theorem dX5_init_177 : decode cX5_init 177 = .ok (.imul, 1) := by decide +kernel
theorem dX5_init_178 : decode cX5_init 178 = .ok (.iload_n 2, 1) := by decide +kernel
theorem dX5_init_179 : decode cX5_init 179 = .ok (.iadd, 1) := by decide +kernel
theorem dX5_init_180 : decode cX5_init 180 = .ok (.iload_n 2, 1) := by decide +kernel
theorem dX5_init_181 : decode cX5_init 181 = .ok (.iastore, 1) := by decide +kernel
theorem dX5_init_182 : decode cX5_init 182 = .ok (.iinc 2 1, 3) := by decide +kernel
theorem dX5_init_185 : decode cX5_init 185 = .ok (.goto (-21), 3) := by decide +kernel
theorem dX5_init_188 : decode cX5_init 188 = .ok (.aload_n 0, 1) := by decide +kernel
theorem dX5_init_189 : decode cX5_init 189 = .ok (.getfield 7, 3) := by decide +kernel
theorem dX5_init_192 : decode cX5_init 192 = .ok (.bipush 12, 2) := by decide +kernel
theorem dX5_init_194 : decode cX5_init 194 = .ok (.iload_n 1, 1) := by decide +kernel
theorem dX5_init_195 : decode cX5_init 195 = .ok (.imul, 1) := by decide +kernel
theorem dX5_init_196 : decode cX5_init 196 = .ok (.iconst 1, 1) := by decide +kernel
theorem dX5_init_197 : decode cX5_init 197 = .ok (.bastore, 1) := by decide +kernel
theorem dX5_init_198 : decode cX5_init 198 = .ok (.aload_n 0, 1) := by decide +kernel
theorem dX5_init_199 : decode cX5_init 199 = .ok (.getfield 13, 3) := by decide +kernel
theorem dX5_init_202 : decode cX5_init 202 = .ok (.bipush 12, 2) := by decide +kernel
theorem dX5_init_204 : decode cX5_init 204 = .ok (.iload_n 1, 1) := by decide +kernel
theorem dX5_init_205 : decode cX5_init 205 = .ok (.imul, 1) := by decide +kernel
theorem dX5_init_206 : decode cX5_init 206 = .ok (.iconst 1, 1) := by decide +kernel
theorem dX5_init_207 : decode cX5_init 207 = .ok (.iastore, 1) := by decide +kernel
theorem dX5_init_208 : decode cX5_init 208 = .ok (.aload_n 0, 1) := by decide +kernel
theorem dX5_init_209 : decode cX5_init 209 = .ok (.getfield 20, 3) := by decide +kernel
theorem dX5_init_212 : decode cX5_init 212 = .ok (.bipush 12, 2) := by decide +kernel
theorem dX5_init_214 : decode cX5_init 214 = .ok (.iload_n 1, 1) := by decide +kernel
theorem dX5_init_215 : decode cX5_init 215 = .ok (.imul, 1) := by decide +kernel
theorem dX5_init_216 : decode cX5_init 216 = .ok (.iconst (-1), 1) := by decide +kernel
theorem dX5_init_217 : decode cX5_init 217 = .ok (.iastore, 1) := by decide +kernel
theorem dX5_init_218 : decode cX5_init 218 = .ok (.iinc 1 1, 3) := by decide +kernel
theorem dX5_init_221 : decode cX5_init 221 = .ok (.goto (-64), 3) := by decide +kernel
theorem dX5_init_224 : decode cX5_init 224 = .ok (.return_, 1) := by decide +kernel
theorem dX5_in_0 : decode cX5_in 0 = .ok (.iload_n 0, 1) := by decide +kernel
theorem dX5_in_1 : decode cX5_in 1 = .ok (.ifCond .lt 12, 3) := by decide +kernel
theorem dX5_in_4 : decode cX5_in 4 = .ok (.iload_n 0, 1) := by decide +kernel
theorem dX5_in_5 : decode cX5_in 5 = .ok (.iload_n 1, 1) := by decide +kernel
theorem dX5_in_6 : decode cX5_in 6 = .ok (.if_icmp .ge 7, 3) := by decide +kernel
theorem dX5_in_9 : decode cX5_in 9 = .ok (.iconst 1, 1) := by decide +kernel
theorem dX5_in_10 : decode cX5_in 10 = .ok (.goto 4, 3) := by decide +kernel
theorem dX5_in_13 : decode cX5_in 13 = .ok (.iconst 0, 1) := by decide +kernel
theorem dX5_in_14 : decode cX5_in 14 = .ok (.ireturn, 1) := by decide +kernel
theorem dX5_has_0 : decode cX5_has 0 = .ok (.iload_n 0, 1) := by decide +kernel
theorem dX5_has_1 : decode cX5_has 1 = .ok (.iload_n 1, 1) := by decide +kernel
theorem dX5_has_2 : decode cX5_has 2 = .ok (.ishr, 1) := by decide +kernel
theorem dX5_has_3 : decode cX5_has 3 = .ok (.iconst 1, 1) := by decide +kernel
theorem dX5_has_4 : decode cX5_has 4 = .ok (.iand, 1) := by decide +kernel
theorem dX5_has_5 : decode cX5_has 5 = .ok (.iconst 1, 1) := by decide +kernel
theorem dX5_has_6 : decode cX5_has 6 = .ok (.if_icmp .ne 7, 3) := by decide +kernel
theorem dX5_has_9 : decode cX5_has 9 = .ok (.iconst 1, 1) := by decide +kernel
theorem dX5_has_10 : decode cX5_has 10 = .ok (.goto 4, 3) := by decide +kernel
theorem dX5_has_13 : decode cX5_has 13 = .ok (.iconst 0, 1) := by decide +kernel
theorem dX5_has_14 : decode cX5_has 14 = .ok (.ireturn, 1) := by decide +kernel
theorem dX5_at_0 : decode cX5_at 0 = .ok (.bipush 12, 2) := by decide +kernel
theorem dX5_at_2 : decode cX5_at 2 = .ok (.aload_n 0, 1) := by decide +kernel
theorem dX5_at_3 : decode cX5_at 3 = .ok (.getfield 68, 3) := by decide +kernel
theorem dX5_at_6 : decode cX5_at 6 = .ok (.imul, 1) := by decide +kernel
theorem dX5_at_7 : decode cX5_at 7 = .ok (.iload_n 1, 1) := by decide +kernel
theorem dX5_at_8 : decode cX5_at 8 = .ok (.iadd, 1) := by decide +kernel
theorem dX5_at_9 : decode cX5_at 9 = .ok (.ireturn, 1) := by decide +kernel
theorem dX5_isThere_0 : decode cX5_isThere 0 = .ok (.iload_n 1, 1) := by decide +kernel
theorem dX5_isThere_1 : decode cX5_isThere 1 = .ok (.bipush 12, 2) := by decide +kernel
theorem dX5_isThere_3 : decode cX5_isThere 3 = .ok (.invokestatic 72, 3) := by decide +kernel
theorem dX5_isThere_6 : decode cX5_isThere 6 = .ok (.ifCond .eq 20, 3) := by decide +kernel
theorem dX5_isThere_9 : decode cX5_isThere 9 = .ok (.aload_n 0, 1) := by decide +kernel
theorem dX5_isThere_10 : decode cX5_isThere 10 = .ok (.getfield 7, 3) := by decide +kernel
theorem dX5_isThere_13 : decode cX5_isThere 13 = .ok (.aload_n 0, 1) := by decide +kernel
theorem dX5_isThere_14 : decode cX5_isThere 14 = .ok (.iload_n 1, 1) := by decide +kernel
theorem dX5_isThere_15 : decode cX5_isThere 15 = .ok (.invokevirtual 76, 3) := by decide +kernel
theorem dX5_isThere_18 : decode cX5_isThere 18 = .ok (.baload, 1) := by decide +kernel
theorem dX5_isThere_19 : decode cX5_isThere 19 = .ok (.ifCond .eq 7, 3) := by decide +kernel
theorem dX5_isThere_22 : decode cX5_isThere 22 = .ok (.iconst 1, 1) := by decide +kernel
theorem dX5_isThere_23 : decode cX5_isThere 23 = .ok (.goto 4, 3) := by decide +kernel
theorem dX5_isThere_26 : decode cX5_isThere 26 = .ok (.iconst 0, 1) := by decide +kernel
theorem dX5_isThere_27 : decode cX5_isThere 27 = .ok (.ireturn, 1) := by decide +kernel
theorem dX5_type_0 : decode cX5_type 0 = .ok (.iload_n 1, 1) := by decide +kernel
theorem dX5_type_1 : decode cX5_type 1 = .ok (.ifCond .eq 50, 3) := by decide +kernel
theorem dX5_type_4 : decode cX5_type 4 = .ok (.iload_n 1, 1) := by decide +kernel
theorem dX5_type_5 : decode cX5_type 5 = .ok (.bipush 12, 2) := by decide +kernel
theorem dX5_type_7 : decode cX5_type 7 = .ok (.invokestatic 72, 3) := by decide +kernel
theorem dX5_type_10 : decode cX5_type 10 = .ok (.ifCond .eq 41, 3) := by decide +kernel
theorem dX5_type_13 : decode cX5_type 13 = .ok (.iload_n 2, 1) := by decide +kernel
theorem dX5_type_14 : decode cX5_type 14 = .ok (.bipush 16, 2) := by decide +kernel
theorem dX5_type_16 : decode cX5_type 16 = .ok (.invokestatic 72, 3) := by decide +kernel
theorem dX5_type_19 : decode cX5_type 19 = .ok (.ifCond .eq 32, 3) := by decide +kernel
theorem dX5_type_22 : decode cX5_type 22 = .ok (.iload_n 3, 1) := by decide +kernel
theorem dX5_type_23 : decode cX5_type 23 = .ok (.iconst 4, 1) := by decide +kernel
theorem dX5_type_24 : decode cX5_type 24 = .ok (.invokestatic 72, 3) := by decide +kernel
theorem dX5_type_27 : decode cX5_type 27 = .ok (.ifCond .eq 24, 3) := by decide +kernel
theorem dX5_type_30 : decode cX5_type 30 = .ok (.iload 4, 2) := by decide +kernel
theorem dX5_type_32 : decode cX5_type 32 = .ok (.bipush 12, 2) := by decide +kernel
theorem dX5_type_34 : decode cX5_type 34 = .ok (.invokestatic 72, 3) := by decide +kernel
theorem dX5_type_37 : decode cX5_type 37 = .ok (.ifCond .eq 14, 3) := by decide +kernel
theorem dX5_type_40 : decode cX5_type 40 = .ok (.iload 5, 2) := by decide +kernel
theorem dX5_type_42 : decode cX5_type 42 = .ok (.sipush 4096, 3) := by decide +kernel
theorem dX5_type_45 : decode cX5_type 45 = .ok (.invokestatic 72, 3) := by decide +kernel
theorem dX5_type_48 : decode cX5_type 48 = .ok (.ifCond .ne 5, 3) := by decide +kernel
theorem dX5_type_51 : decode cX5_type 51 = .ok (.iconst 0, 1) := by decide +kernel
theorem dX5_type_52 : decode cX5_type 52 = .ok (.ireturn, 1) := by decide +kernel
theorem dX5_type_53 : decode cX5_type 53 = .ok (.aload_n 0, 1) := by decide +kernel
theorem dX5_type_54 : decode cX5_type 54 = .ok (.iload_n 1, 1) := by decide +kernel
theorem dX5_type_55 : decode cX5_type 55 = .ok (.invokevirtual 76, 3) := by decide +kernel
theorem dX5_type_58 : decode cX5_type 58 = .ok (.istore 6, 2) := by decide +kernel
theorem dX5_type_60 : decode cX5_type 60 = .ok (.aload_n 0, 1) := by decide +kernel
theorem dX5_type_61 : decode cX5_type 61 = .ok (.getfield 7, 3) := by decide +kernel
theorem dX5_type_64 : decode cX5_type 64 = .ok (.iload 6, 2) := by decide +kernel
theorem dX5_type_66 : decode cX5_type 66 = .ok (.iconst 1, 1) := by decide +kernel
theorem dX5_type_67 : decode cX5_type 67 = .ok (.bastore, 1) := by decide +kernel
theorem dX5_type_68 : decode cX5_type 68 = .ok (.aload_n 0, 1) := by decide +kernel
theorem dX5_type_69 : decode cX5_type 69 = .ok (.getfield 13, 3) := by decide +kernel
theorem dX5_type_72 : decode cX5_type 72 = .ok (.iload 6, 2) := by decide +kernel
theorem dX5_type_74 : decode cX5_type 74 = .ok (.iload_n 2, 1) := by decide +kernel
theorem dX5_type_75 : decode cX5_type 75 = .ok (.iastore, 1) := by decide +kernel
theorem dX5_type_76 : decode cX5_type 76 = .ok (.aload_n 0, 1) := by decide +kernel
theorem dX5_type_77 : decode cX5_type 77 = .ok (.getfield 17, 3) := by decide +kernel
theorem dX5_type_80 : decode cX5_type 80 = .ok (.iload 6, 2) := by decide +kernel
theorem dX5_type_82 : decode cX5_type 82 = .ok (.iload_n 3, 1) := by decide +kernel
theorem dX5_type_83 : decode cX5_type 83 = .ok (.iastore, 1) := by decide +kernel
theorem dX5_type_84 : decode cX5_type 84 = .ok (.aload_n 0, 1) := by decide +kernel
theorem dX5_type_85 : decode cX5_type 85 = .ok (.getfield 20, 3) := by decide +kernel
theorem dX5_type_88 : decode cX5_type 88 = .ok (.iload 6, 2) := by decide +kernel
theorem dX5_type_90 : decode cX5_type 90 = .ok (.iload 4, 2) := by decide +kernel
theorem dX5_type_92 : decode cX5_type 92 = .ok (.iastore, 1) := by decide +kernel
theorem dX5_type_93 : decode cX5_type 93 = .ok (.aload_n 0, 1) := by decide +kernel
theorem dX5_type_94 : decode cX5_type 94 = .ok (.getfield 23, 3) := by decide +kernel
theorem dX5_type_97 : decode cX5_type 97 = .ok (.iload 6, 2) := by decide +kernel
theorem dX5_type_99 : decode cX5_type 99 = .ok (.iload 5, 2) := by decide +kernel
theorem dX5_type_101 : decode cX5_type 101 = .ok (.iastore, 1) := by decide +kernel
theorem dX5_type_102 : decode cX5_type 102 = .ok (.aload_n 0, 1) := by decide +kernel
theorem dX5_type_103 : decode cX5_type 103 = .ok (.getfield 26, 3) := by decide +kernel
theorem dX5_type_106 : decode cX5_type 106 = .ok (.iload 6, 2) := by decide +kernel
theorem dX5_type_108 : decode cX5_type 108 = .ok (.iload_n 1, 1) := by decide +kernel
theorem dX5_type_109 : decode cX5_type 109 = .ok (.iastore, 1) := by decide +kernel
theorem dX5_type_110 : decode cX5_type 110 = .ok (.iconst 1, 1) := by decide +kernel
theorem dX5_type_111 : decode cX5_type 111 = .ok (.ireturn, 1) := by decide +kernel
theorem dX5_nest_0 : decode cX5_nest 0 = .ok (.iload_n 1, 1) := by decide +kernel
theorem dX5_nest_1 : decode cX5_nest 1 = .ok (.ifCond .eq 20, 3) := by decide +kernel
theorem dX5_nest_4 : decode cX5_nest 4 = .ok (.aload_n 0, 1) := by decide +kernel
theorem dX5_nest_5 : decode cX5_nest 5 = .ok (.iload_n 1, 1) := by decide +kernel
theorem dX5_nest_6 : decode cX5_nest 6 = .ok (.invokevirtual 80, 3) := by decide +kernel
theorem dX5_nest_9 : decode cX5_nest 9 = .ok (.ifCond .eq 12, 3) := by decide +kernel
theorem dX5_nest_12 : decode cX5_nest 12 = .ok (.iload_n 2, 1) := by decide +kernel
theorem dX5_nest_13 : decode cX5_nest 13 = .ok (.bipush 12, 2) := by decide +kernel
theorem dX5_nest_15 : decode cX5_nest 15 = .ok (.invokestatic 72, 3) := by decide +kernel
theorem dX5_nest_18 : decode cX5_nest 18 = .ok (.ifCond .ne 5, 3) := by decide +kernel
theorem dX5_nest_21 : decode cX5_nest 21 = .ok (.iconst 0, 1) := by decide +kernel
theorem dX5_nest_22 : decode cX5_nest 22 = .ok (.ireturn, 1) := by decide +kernel
theorem dX5_nest_23 : decode cX5_nest 23 = .ok (.aload_n 0, 1) := by decide +kernel
theorem dX5_nest_24 : decode cX5_nest 24 = .ok (.getfield 26, 3) := by decide +kernel
theorem dX5_nest_27 : decode cX5_nest 27 = .ok (.aload_n 0, 1) := by decide +kernel
theorem dX5_nest_28 : decode cX5_nest 28 = .ok (.iload_n 1, 1) := by decide +kernel
theorem dX5_nest_29 : decode cX5_nest 29 = .ok (.invokevirtual 76, 3) := by decide +kernel
theorem dX5_nest_32 : decode cX5_nest 32 = .ok (.iload_n 2, 1) := by decide +kernel
theorem dX5_nest_33 : decode cX5_nest 33 = .ok (.iastore, 1) := by decide +kernel
theorem dX5_nest_34 : decode cX5_nest 34 = .ok (.iconst 1, 1) := by decide +kernel
theorem dX5_nest_35 : decode cX5_nest 35 = .ok (.ireturn, 1) := by decide +kernel
theorem dX5_drop_0 : decode cX5_drop 0 = .ok (.iload_n 1, 1) := by decide +kernel
theorem dX5_drop_1 : decode cX5_drop 1 = .ok (.ifCond .eq 11, 3) := by decide +kernel
theorem dX5_drop_4 : decode cX5_drop 4 = .ok (.aload_n 0, 1) := by decide +kernel
theorem dX5_drop_5 : decode cX5_drop 5 = .ok (.iload_n 1, 1) := by decide +kernel
theorem dX5_drop_6 : decode cX5_drop 6 = .ok (.invokevirtual 80, 3) := by decide +kernel
theorem dX5_drop_9 : decode cX5_drop 9 = .ok (.ifCond .ne 5, 3) := by decide +kernel
theorem dX5_drop_12 : decode cX5_drop 12 = .ok (.iconst 0, 1) := by decide +kernel
theorem dX5_drop_13 : decode cX5_drop 13 = .ok (.ireturn, 1) := by decide +kernel
theorem dX5_drop_14 : decode cX5_drop 14 = .ok (.aload_n 0, 1) := by decide +kernel
theorem dX5_drop_15 : decode cX5_drop 15 = .ok (.getfield 7, 3) := by decide +kernel
theorem dX5_drop_18 : decode cX5_drop 18 = .ok (.aload_n 0, 1) := by decide +kernel
theorem dX5_drop_19 : decode cX5_drop 19 = .ok (.iload_n 1, 1) := by decide +kernel
theorem dX5_drop_20 : decode cX5_drop 20 = .ok (.invokevirtual 76, 3) := by decide +kernel
theorem dX5_drop_23 : decode cX5_drop 23 = .ok (.iconst 0, 1) := by decide +kernel
theorem dX5_drop_24 : decode cX5_drop 24 = .ok (.bastore, 1) := by decide +kernel
theorem dX5_drop_25 : decode cX5_drop 25 = .ok (.bipush 30, 2) := by decide +kernel
theorem dX5_drop_27 : decode cX5_drop 27 = .ok (.aload_n 0, 1) := by decide +kernel
theorem dX5_drop_28 : decode cX5_drop 28 = .ok (.getfield 68, 3) := by decide +kernel
theorem dX5_drop_31 : decode cX5_drop 31 = .ok (.imul, 1) := by decide +kernel
theorem dX5_drop_32 : decode cX5_drop 32 = .ok (.istore_n 2, 1) := by decide +kernel
theorem dX5_drop_33 : decode cX5_drop 33 = .ok (.iload_n 2, 1) := by decide +kernel
theorem dX5_drop_34 : decode cX5_drop 34 = .ok (.bipush 30, 2) := by decide +kernel
theorem dX5_drop_36 : decode cX5_drop 36 = .ok (.aload_n 0, 1) := by decide +kernel
theorem dX5_drop_37 : decode cX5_drop 37 = .ok (.getfield 68, 3) := by decide +kernel
theorem dX5_drop_40 : decode cX5_drop 40 = .ok (.imul, 1) := by decide +kernel
theorem dX5_drop_41 : decode cX5_drop 41 = .ok (.aload_n 0, 1) := by decide +kernel
theorem dX5_drop_42 : decode cX5_drop 42 = .ok (.getfield 35, 3) := by decide +kernel
theorem dX5_drop_45 : decode cX5_drop 45 = .ok (.aload_n 0, 1) := by decide +kernel
theorem dX5_drop_46 : decode cX5_drop 46 = .ok (.getfield 68, 3) := by decide +kernel
theorem dX5_drop_49 : decode cX5_drop 49 = .ok (.iaload, 1) := by decide +kernel
theorem dX5_drop_50 : decode cX5_drop 50 = .ok (.iadd, 1) := by decide +kernel
theorem dX5_drop_51 : decode cX5_drop 51 = .ok (.if_icmp .ge 26, 3) := by decide +kernel
theorem dX5_drop_54 : decode cX5_drop 54 = .ok (.aload_n 0, 1) := by decide +kernel
theorem dX5_drop_55 : decode cX5_drop 55 = .ok (.getfield 38, 3) := by decide +kernel
theorem dX5_drop_58 : decode cX5_drop 58 = .ok (.iload_n 2, 1) := by decide +kernel
theorem dX5_drop_59 : decode cX5_drop 59 = .ok (.iaload, 1) := by decide +kernel
theorem dX5_drop_60 : decode cX5_drop 60 = .ok (.iload_n 1, 1) := by decide +kernel
theorem dX5_drop_61 : decode cX5_drop 61 = .ok (.if_icmp .ne 10, 3) := by decide +kernel
theorem dX5_drop_64 : decode cX5_drop 64 = .ok (.aload_n 0, 1) := by decide +kernel
theorem dX5_drop_65 : decode cX5_drop 65 = .ok (.getfield 32, 3) := by decide +kernel
theorem dX5_drop_68 : decode cX5_drop 68 = .ok (.iload_n 2, 1) := by decide +kernel
theorem dX5_drop_69 : decode cX5_drop 69 = .ok (.iconst 1, 1) := by decide +kernel
theorem dX5_drop_70 : decode cX5_drop 70 = .ok (.bastore, 1) := by decide +kernel
theorem dX5_drop_71 : decode cX5_drop 71 = .ok (.iinc 2 1, 3) := by decide +kernel
theorem dX5_drop_74 : decode cX5_drop 74 = .ok (.goto (-41), 3) := by decide +kernel
theorem dX5_drop_77 : decode cX5_drop 77 = .ok (.iconst 1, 1) := by decide +kernel
theorem dX5_drop_78 : decode cX5_drop 78 = .ok (.ireturn, 1) := by decide +kernel
theorem dX5_own_0 : decode cX5_own 0 = .ok (.iconst 0, 1) := by decide +kernel
theorem dX5_own_1 : decode cX5_own 1 = .ok (.istore 5, 2) := by decide +kernel
theorem dX5_own_3 : decode cX5_own 3 = .ok (.iload 5, 2) := by decide +kernel
theorem dX5_own_5 : decode cX5_own 5 = .ok (.aload_n 0, 1) := by decide +kernel
theorem dX5_own_6 : decode cX5_own 6 = .ok (.getfield 35, 3) := by decide +kernel
theorem dX5_own_9 : decode cX5_own 9 = .ok (.iload_n 1, 1) := by decide +kernel
theorem dX5_own_10 : decode cX5_own 10 = .ok (.iaload, 1) := by decide +kernel
theorem dX5_own_11 : decode cX5_own 11 = .ok (.if_icmp .ge 65, 3) := by decide +kernel
theorem dX5_own_14 : decode cX5_own 14 = .ok (.bipush 30, 2) := by decide +kernel
theorem dX5_own_16 : decode cX5_own 16 = .ok (.iload_n 1, 1) := by decide +kernel
theorem dX5_own_17 : decode cX5_own 17 = .ok (.imul, 1) := by decide +kernel
theorem dX5_own_18 : decode cX5_own 18 = .ok (.iload 5, 2) := by decide +kernel
theorem dX5_own_20 : decode cX5_own 20 = .ok (.iadd, 1) := by decide +kernel
theorem dX5_own_21 : decode cX5_own 21 = .ok (.istore 6, 2) := by decide +kernel
theorem dX5_own_23 : decode cX5_own 23 = .ok (.aload_n 0, 1) := by decide +kernel
theorem dX5_own_24 : decode cX5_own 24 = .ok (.getfield 32, 3) := by decide +kernel
theorem dX5_own_27 : decode cX5_own 27 = .ok (.iload 6, 2) := by decide +kernel
theorem dX5_own_29 : decode cX5_own 29 = .ok (.baload, 1) := by decide +kernel
theorem dX5_own_30 : decode cX5_own 30 = .ok (.ifCond .ne 40, 3) := by decide +kernel
theorem dX5_own_33 : decode cX5_own 33 = .ok (.aload_n 0, 1) := by decide +kernel
theorem dX5_own_34 : decode cX5_own 34 = .ok (.getfield 38, 3) := by decide +kernel
theorem dX5_own_37 : decode cX5_own 37 = .ok (.iload 6, 2) := by decide +kernel
theorem dX5_own_39 : decode cX5_own 39 = .ok (.iaload, 1) := by decide +kernel
theorem dX5_own_40 : decode cX5_own 40 = .ok (.iload_n 2, 1) := by decide +kernel
theorem dX5_own_41 : decode cX5_own 41 = .ok (.if_icmp .ne 29, 3) := by decide +kernel
theorem dX5_own_44 : decode cX5_own 44 = .ok (.aload_n 0, 1) := by decide +kernel
theorem dX5_own_45 : decode cX5_own 45 = .ok (.getfield 29, 3) := by decide +kernel
theorem dX5_own_48 : decode cX5_own 48 = .ok (.iload 6, 2) := by decide +kernel
theorem dX5_own_50 : decode cX5_own 50 = .ok (.baload, 1) := by decide +kernel
theorem dX5_own_51 : decode cX5_own 51 = .ok (.iload_n 3, 1) := by decide +kernel
theorem dX5_own_52 : decode cX5_own 52 = .ok (.if_icmp .ne 18, 3) := by decide +kernel
theorem dX5_own_55 : decode cX5_own 55 = .ok (.aload_n 0, 1) := by decide +kernel
theorem dX5_own_56 : decode cX5_own 56 = .ok (.getfield 41, 3) := by decide +kernel
theorem dX5_own_59 : decode cX5_own 59 = .ok (.iload 6, 2) := by decide +kernel
theorem dX5_own_61 : decode cX5_own 61 = .ok (.iaload, 1) := by decide +kernel
theorem dX5_own_62 : decode cX5_own 62 = .ok (.iload 4, 2) := by decide +kernel
theorem dX5_own_64 : decode cX5_own 64 = .ok (.if_icmp .ne 6, 3) := by decide +kernel
theorem dX5_own_67 : decode cX5_own 67 = .ok (.iload 5, 2) := by decide +kernel
theorem dX5_own_69 : decode cX5_own 69 = .ok (.ireturn, 1) := by decide +kernel
theorem dX5_own_70 : decode cX5_own 70 = .ok (.iinc 5 1, 3) := by decide +kernel
theorem dX5_own_73 : decode cX5_own 73 = .ok (.goto (-70), 3) := by decide +kernel
theorem dX5_own_76 : decode cX5_own 76 = .ok (.iconst (-1), 1) := by decide +kernel
theorem dX5_own_77 : decode cX5_own 77 = .ok (.ireturn, 1) := by decide +kernel
theorem dX5_member_0 : decode cX5_member 0 = .ok (.aload_n 0, 1) := by decide +kernel
theorem dX5_member_1 : decode cX5_member 1 = .ok (.iload_n 1, 1) := by decide +kernel
theorem dX5_member_2 : decode cX5_member 2 = .ok (.invokevirtual 80, 3) := by decide +kernel
theorem dX5_member_5 : decode cX5_member 5 = .ok (.ifCond .eq 45, 3) := by decide +kernel
theorem dX5_member_8 : decode cX5_member 8 = .ok (.iload_n 3, 1) := by decide +kernel
theorem dX5_member_9 : decode cX5_member 9 = .ok (.bipush 15, 2) := by decide +kernel
theorem dX5_member_11 : decode cX5_member 11 = .ok (.invokestatic 72, 3) := by decide +kernel
theorem dX5_member_14 : decode cX5_member 14 = .ok (.ifCond .eq 36, 3) := by decide +kernel
theorem dX5_member_17 : decode cX5_member 17 = .ok (.iload 4, 2) := by decide +kernel
theorem dX5_member_19 : decode cX5_member 19 = .ok (.iconst 4, 1) := by decide +kernel
theorem dX5_member_20 : decode cX5_member 20 = .ok (.invokestatic 72, 3) := by decide +kernel
theorem dX5_member_23 : decode cX5_member 23 = .ok (.ifCond .eq 27, 3) := by decide +kernel
theorem dX5_member_26 : decode cX5_member 26 = .ok (.iload 5, 2) := by decide +kernel
theorem dX5_member_28 : decode cX5_member 28 = .ok (.bipush 8, 2) := by decide +kernel
theorem dX5_member_30 : decode cX5_member 30 = .ok (.invokestatic 72, 3) := by decide +kernel
theorem dX5_member_33 : decode cX5_member 33 = .ok (.ifCond .eq 17, 3) := by decide +kernel
theorem dX5_member_36 : decode cX5_member 36 = .ok (.aload_n 0, 1) := by decide +kernel
theorem dX5_member_37 : decode cX5_member 37 = .ok (.aload_n 0, 1) := by decide +kernel
theorem dX5_member_38 : decode cX5_member 38 = .ok (.getfield 68, 3) := by decide +kernel
theorem dX5_member_41 : decode cX5_member 41 = .ok (.iload_n 1, 1) := by decide +kernel
theorem dX5_member_42 : decode cX5_member 42 = .ok (.iload_n 2, 1) := by decide +kernel
theorem dX5_member_43 : decode cX5_member 43 = .ok (.iload_n 3, 1) := by decide +kernel
theorem dX5_member_44 : decode cX5_member 44 = .ok (.invokevirtual 84, 3) := by decide +kernel
theorem dX5_member_47 : decode cX5_member 47 = .ok (.ifCond .lt 5, 3) := by decide +kernel
theorem dX5_member_50 : decode cX5_member 50 = .ok (.iconst (-1), 1) := by decide +kernel
theorem dX5_member_51 : decode cX5_member 51 = .ok (.ireturn, 1) := by decide +kernel
theorem dX5_member_52 : decode cX5_member 52 = .ok (.aload_n 0, 1) := by decide +kernel
theorem dX5_member_53 : decode cX5_member 53 = .ok (.getfield 35, 3) := by decide +kernel
theorem dX5_member_56 : decode cX5_member 56 = .ok (.aload_n 0, 1) := by decide +kernel
theorem dX5_member_57 : decode cX5_member 57 = .ok (.getfield 68, 3) := by decide +kernel
theorem dX5_member_60 : decode cX5_member 60 = .ok (.iaload, 1) := by decide +kernel
theorem dX5_member_61 : decode cX5_member 61 = .ok (.bipush 30, 2) := by decide +kernel
theorem dX5_member_63 : decode cX5_member 63 = .ok (.if_icmp .ne 6, 3) := by decide +kernel
theorem dX5_member_66 : decode cX5_member 66 = .ok (.bipush (-3), 2) := by decide +kernel
theorem dX5_member_68 : decode cX5_member 68 = .ok (.ireturn, 1) := by decide +kernel
theorem dX5_member_69 : decode cX5_member 69 = .ok (.bipush 30, 2) := by decide +kernel
theorem dX5_member_71 : decode cX5_member 71 = .ok (.aload_n 0, 1) := by decide +kernel
theorem dX5_member_72 : decode cX5_member 72 = .ok (.getfield 68, 3) := by decide +kernel
theorem dX5_member_75 : decode cX5_member 75 = .ok (.imul, 1) := by decide +kernel
theorem dX5_member_76 : decode cX5_member 76 = .ok (.aload_n 0, 1) := by decide +kernel
theorem dX5_member_77 : decode cX5_member 77 = .ok (.getfield 35, 3) := by decide +kernel
theorem dX5_member_80 : decode cX5_member 80 = .ok (.aload_n 0, 1) := by decide +kernel
theorem dX5_member_81 : decode cX5_member 81 = .ok (.getfield 68, 3) := by decide +kernel
theorem dX5_member_84 : decode cX5_member 84 = .ok (.iaload, 1) := by decide +kernel
theorem dX5_member_85 : decode cX5_member 85 = .ok (.iadd, 1) := by decide +kernel
theorem dX5_member_86 : decode cX5_member 86 = .ok (.istore 6, 2) := by decide +kernel
theorem dX5_member_88 : decode cX5_member 88 = .ok (.aload_n 0, 1) := by decide +kernel
theorem dX5_member_89 : decode cX5_member 89 = .ok (.getfield 32, 3) := by decide +kernel
theorem dX5_member_92 : decode cX5_member 92 = .ok (.iload 6, 2) := by decide +kernel
theorem dX5_member_94 : decode cX5_member 94 = .ok (.iconst 0, 1) := by decide +kernel
theorem dX5_member_95 : decode cX5_member 95 = .ok (.bastore, 1) := by decide +kernel
theorem dX5_member_96 : decode cX5_member 96 = .ok (.aload_n 0, 1) := by decide +kernel
theorem dX5_member_97 : decode cX5_member 97 = .ok (.getfield 38, 3) := by decide +kernel
theorem dX5_member_100 : decode cX5_member 100 = .ok (.iload 6, 2) := by decide +kernel
theorem dX5_member_102 : decode cX5_member 102 = .ok (.iload_n 1, 1) := by decide +kernel
theorem dX5_member_103 : decode cX5_member 103 = .ok (.iastore, 1) := by decide +kernel
theorem dX5_member_104 : decode cX5_member 104 = .ok (.aload_n 0, 1) := by decide +kernel
theorem dX5_member_105 : decode cX5_member 105 = .ok (.getfield 29, 3) := by decide +kernel
theorem dX5_member_108 : decode cX5_member 108 = .ok (.iload 6, 2) := by decide +kernel
theorem dX5_member_110 : decode cX5_member 110 = .ok (.iload_n 2, 1) := by decide +kernel
theorem dX5_member_111 : decode cX5_member 111 = .ok (.bastore, 1) := by decide +kernel
theorem dX5_member_112 : decode cX5_member 112 = .ok (.aload_n 0, 1) := by decide +kernel
theorem dX5_member_113 : decode cX5_member 113 = .ok (.getfield 41, 3) := by decide +kernel
theorem dX5_member_116 : decode cX5_member 116 = .ok (.iload 6, 2) := by decide +kernel
theorem dX5_member_118 : decode cX5_member 118 = .ok (.iload_n 3, 1) := by decide +kernel
theorem dX5_member_119 : decode cX5_member 119 = .ok (.iastore, 1) := by decide +kernel
theorem dX5_member_120 : decode cX5_member 120 = .ok (.aload_n 0, 1) := by decide +kernel
theorem dX5_member_121 : decode cX5_member 121 = .ok (.getfield 44, 3) := by decide +kernel
theorem dX5_member_124 : decode cX5_member 124 = .ok (.iload 6, 2) := by decide +kernel
theorem dX5_member_126 : decode cX5_member 126 = .ok (.iload 4, 2) := by decide +kernel
theorem dX5_member_128 : decode cX5_member 128 = .ok (.iastore, 1) := by decide +kernel
theorem dX5_member_129 : decode cX5_member 129 = .ok (.aload_n 0, 1) := by decide +kernel
theorem dX5_member_130 : decode cX5_member 130 = .ok (.getfield 47, 3) := by decide +kernel
theorem dX5_member_133 : decode cX5_member 133 = .ok (.iload 6, 2) := by decide +kernel
theorem dX5_member_135 : decode cX5_member 135 = .ok (.iload 5, 2) := by decide +kernel
theorem dX5_member_137 : decode cX5_member 137 = .ok (.iastore, 1) := by decide +kernel
theorem dX5_member_138 : decode cX5_member 138 = .ok (.aload_n 0, 1) := by decide +kernel
theorem dX5_member_139 : decode cX5_member 139 = .ok (.getfield 35, 3) := by decide +kernel
theorem dX5_member_142 : decode cX5_member 142 = .ok (.aload_n 0, 1) := by decide +kernel
theorem dX5_member_143 : decode cX5_member 143 = .ok (.getfield 68, 3) := by decide +kernel
theorem dX5_member_146 : decode cX5_member 146 = .ok (.dup2, 1) := by decide +kernel
theorem dX5_member_147 : decode cX5_member 147 = .ok (.iaload, 1) := by decide +kernel
theorem dX5_member_148 : decode cX5_member 148 = .ok (.iconst 1, 1) := by decide +kernel
theorem dX5_member_149 : decode cX5_member 149 = .ok (.iadd, 1) := by decide +kernel
theorem dX5_member_150 : decode cX5_member 150 = .ok (.iastore, 1) := by decide +kernel
theorem dX5_member_151 : decode cX5_member 151 = .ok (.aload_n 0, 1) := by decide +kernel
theorem dX5_member_152 : decode cX5_member 152 = .ok (.getfield 35, 3) := by decide +kernel
theorem dX5_member_155 : decode cX5_member 155 = .ok (.aload_n 0, 1) := by decide +kernel
theorem dX5_member_156 : decode cX5_member 156 = .ok (.getfield 68, 3) := by decide +kernel
theorem dX5_member_159 : decode cX5_member 159 = .ok (.iaload, 1) := by decide +kernel
theorem dX5_member_160 : decode cX5_member 160 = .ok (.iconst 1, 1) := by decide +kernel
theorem dX5_member_161 : decode cX5_member 161 = .ok (.isub, 1) := by decide +kernel
theorem dX5_member_162 : decode cX5_member 162 = .ok (.ireturn, 1) := by decide +kernel
theorem dX5_isMember_0 : decode cX5_isMember 0 = .ok (.iload_n 1, 1) := by decide +kernel
theorem dX5_isMember_1 : decode cX5_isMember 1 = .ok (.aload_n 0, 1) := by decide +kernel
theorem dX5_isMember_2 : decode cX5_isMember 2 = .ok (.getfield 35, 3) := by decide +kernel
theorem dX5_isMember_5 : decode cX5_isMember 5 = .ok (.aload_n 0, 1) := by decide +kernel
theorem dX5_isMember_6 : decode cX5_isMember 6 = .ok (.getfield 68, 3) := by decide +kernel
theorem dX5_isMember_9 : decode cX5_isMember 9 = .ok (.iaload, 1) := by decide +kernel
theorem dX5_isMember_10 : decode cX5_isMember 10 = .ok (.invokestatic 72, 3) := by decide +kernel
theorem dX5_isMember_13 : decode cX5_isMember 13 = .ok (.ifCond .eq 24, 3) := by decide +kernel
theorem dX5_isMember_16 : decode cX5_isMember 16 = .ok (.aload_n 0, 1) := by decide +kernel
theorem dX5_isMember_17 : decode cX5_isMember 17 = .ok (.getfield 32, 3) := by decide +kernel
theorem dX5_isMember_20 : decode cX5_isMember 20 = .ok (.bipush 30, 2) := by decide +kernel
theorem dX5_isMember_22 : decode cX5_isMember 22 = .ok (.aload_n 0, 1) := by decide +kernel
theorem dX5_isMember_23 : decode cX5_isMember 23 = .ok (.getfield 68, 3) := by decide +kernel
theorem dX5_isMember_26 : decode cX5_isMember 26 = .ok (.imul, 1) := by decide +kernel
theorem dX5_isMember_27 : decode cX5_isMember 27 = .ok (.iload_n 1, 1) := by decide +kernel
theorem dX5_isMember_28 : decode cX5_isMember 28 = .ok (.iadd, 1) := by decide +kernel
theorem dX5_isMember_29 : decode cX5_isMember 29 = .ok (.baload, 1) := by decide +kernel
theorem dX5_isMember_30 : decode cX5_isMember 30 = .ok (.ifCond .ne 7, 3) := by decide +kernel
theorem dX5_isMember_33 : decode cX5_isMember 33 = .ok (.iconst 1, 1) := by decide +kernel
theorem dX5_isMember_34 : decode cX5_isMember 34 = .ok (.goto 4, 3) := by decide +kernel
theorem dX5_isMember_37 : decode cX5_isMember 37 = .ok (.iconst 0, 1) := by decide +kernel
theorem dX5_isMember_38 : decode cX5_isMember 38 = .ok (.ireturn, 1) := by decide +kernel
theorem dX5_remake_0 : decode cX5_remake 0 = .ok (.aload_n 0, 1) := by decide +kernel
theorem dX5_remake_1 : decode cX5_remake 1 = .ok (.iload_n 1, 1) := by decide +kernel
theorem dX5_remake_2 : decode cX5_remake 2 = .ok (.invokevirtual 88, 3) := by decide +kernel
theorem dX5_remake_5 : decode cX5_remake 5 = .ok (.ifCond .eq 20, 3) := by decide +kernel
theorem dX5_remake_8 : decode cX5_remake 8 = .ok (.iload_n 2, 1) := by decide +kernel
theorem dX5_remake_9 : decode cX5_remake 9 = .ok (.iconst 4, 1) := by decide +kernel
theorem dX5_remake_10 : decode cX5_remake 10 = .ok (.invokestatic 72, 3) := by decide +kernel
theorem dX5_remake_13 : decode cX5_remake 13 = .ok (.ifCond .eq 12, 3) := by decide +kernel
theorem dX5_remake_16 : decode cX5_remake 16 = .ok (.iload_n 3, 1) := by decide +kernel
theorem dX5_remake_17 : decode cX5_remake 17 = .ok (.bipush 8, 2) := by decide +kernel
theorem dX5_remake_19 : decode cX5_remake 19 = .ok (.invokestatic 72, 3) := by decide +kernel
theorem dX5_remake_22 : decode cX5_remake 22 = .ok (.ifCond .ne 5, 3) := by decide +kernel
theorem dX5_remake_25 : decode cX5_remake 25 = .ok (.iconst 0, 1) := by decide +kernel
theorem dX5_remake_26 : decode cX5_remake 26 = .ok (.ireturn, 1) := by decide +kernel
theorem dX5_remake_27 : decode cX5_remake 27 = .ok (.aload_n 0, 1) := by decide +kernel
theorem dX5_remake_28 : decode cX5_remake 28 = .ok (.getfield 44, 3) := by decide +kernel
theorem dX5_remake_31 : decode cX5_remake 31 = .ok (.bipush 30, 2) := by decide +kernel
theorem dX5_remake_33 : decode cX5_remake 33 = .ok (.aload_n 0, 1) := by decide +kernel
theorem dX5_remake_34 : decode cX5_remake 34 = .ok (.getfield 68, 3) := by decide +kernel
theorem dX5_remake_37 : decode cX5_remake 37 = .ok (.imul, 1) := by decide +kernel
theorem dX5_remake_38 : decode cX5_remake 38 = .ok (.iload_n 1, 1) := by decide +kernel
theorem dX5_remake_39 : decode cX5_remake 39 = .ok (.iadd, 1) := by decide +kernel
theorem dX5_remake_40 : decode cX5_remake 40 = .ok (.iload_n 2, 1) := by decide +kernel
theorem dX5_remake_41 : decode cX5_remake 41 = .ok (.iastore, 1) := by decide +kernel
theorem dX5_remake_42 : decode cX5_remake 42 = .ok (.aload_n 0, 1) := by decide +kernel
theorem dX5_remake_43 : decode cX5_remake 43 = .ok (.getfield 47, 3) := by decide +kernel
theorem dX5_remake_46 : decode cX5_remake 46 = .ok (.bipush 30, 2) := by decide +kernel
theorem dX5_remake_48 : decode cX5_remake 48 = .ok (.aload_n 0, 1) := by decide +kernel
theorem dX5_remake_49 : decode cX5_remake 49 = .ok (.getfield 68, 3) := by decide +kernel
theorem dX5_remake_52 : decode cX5_remake 52 = .ok (.imul, 1) := by decide +kernel
theorem dX5_remake_53 : decode cX5_remake 53 = .ok (.iload_n 1, 1) := by decide +kernel
theorem dX5_remake_54 : decode cX5_remake 54 = .ok (.iadd, 1) := by decide +kernel
theorem dX5_remake_55 : decode cX5_remake 55 = .ok (.iload_n 3, 1) := by decide +kernel
theorem dX5_remake_56 : decode cX5_remake 56 = .ok (.iastore, 1) := by decide +kernel
theorem dX5_remake_57 : decode cX5_remake 57 = .ok (.iconst 1, 1) := by decide +kernel
theorem dX5_remake_58 : decode cX5_remake 58 = .ok (.ireturn, 1) := by decide +kernel
theorem dX5_remove_0 : decode cX5_remove 0 = .ok (.aload_n 0, 1) := by decide +kernel
theorem dX5_remove_1 : decode cX5_remove 1 = .ok (.iload_n 1, 1) := by decide +kernel
theorem dX5_remove_2 : decode cX5_remove 2 = .ok (.invokevirtual 88, 3) := by decide +kernel
theorem dX5_remove_5 : decode cX5_remove 5 = .ok (.ifCond .ne 5, 3) := by decide +kernel
theorem dX5_remove_8 : decode cX5_remove 8 = .ok (.iconst 0, 1) := by decide +kernel
theorem dX5_remove_9 : decode cX5_remove 9 = .ok (.ireturn, 1) := by decide +kernel
theorem dX5_remove_10 : decode cX5_remove 10 = .ok (.aload_n 0, 1) := by decide +kernel
theorem dX5_remove_11 : decode cX5_remove 11 = .ok (.getfield 32, 3) := by decide +kernel
theorem dX5_remove_14 : decode cX5_remove 14 = .ok (.bipush 30, 2) := by decide +kernel
theorem dX5_remove_16 : decode cX5_remove 16 = .ok (.aload_n 0, 1) := by decide +kernel
theorem dX5_remove_17 : decode cX5_remove 17 = .ok (.getfield 68, 3) := by decide +kernel
theorem dX5_remove_20 : decode cX5_remove 20 = .ok (.imul, 1) := by decide +kernel
theorem dX5_remove_21 : decode cX5_remove 21 = .ok (.iload_n 1, 1) := by decide +kernel
theorem dX5_remove_22 : decode cX5_remove 22 = .ok (.iadd, 1) := by decide +kernel
theorem dX5_remove_23 : decode cX5_remove 23 = .ok (.iconst 1, 1) := by decide +kernel
theorem dX5_remove_24 : decode cX5_remove 24 = .ok (.bastore, 1) := by decide +kernel
theorem dX5_remove_25 : decode cX5_remove 25 = .ok (.iconst 1, 1) := by decide +kernel
theorem dX5_remove_26 : decode cX5_remove 26 = .ok (.ireturn, 1) := by decide +kernel
theorem dX5_branch_0 : decode cX5_branch 0 = .ok (.iconst 0, 1) := by decide +kernel
theorem dX5_branch_1 : decode cX5_branch 1 = .ok (.istore_n 1, 1) := by decide +kernel
theorem dX5_branch_2 : decode cX5_branch 2 = .ok (.iconst 0, 1) := by decide +kernel
theorem dX5_branch_3 : decode cX5_branch 3 = .ok (.istore_n 2, 1) := by decide +kernel
theorem dX5_branch_4 : decode cX5_branch 4 = .ok (.iload_n 2, 1) := by decide +kernel
theorem dX5_branch_5 : decode cX5_branch 5 = .ok (.bipush 12, 2) := by decide +kernel
theorem dX5_branch_7 : decode cX5_branch 7 = .ok (.if_icmp .ge 111, 3) := by decide +kernel
theorem dX5_branch_10 : decode cX5_branch 10 = .ok (.aload_n 0, 1) := by decide +kernel
theorem dX5_branch_11 : decode cX5_branch 11 = .ok (.getfield 7, 3) := by decide +kernel
theorem dX5_branch_14 : decode cX5_branch 14 = .ok (.bipush 12, 2) := by decide +kernel
theorem dX5_branch_16 : decode cX5_branch 16 = .ok (.iload_n 2, 1) := by decide +kernel
theorem dX5_branch_17 : decode cX5_branch 17 = .ok (.iadd, 1) := by decide +kernel
theorem dX5_branch_18 : decode cX5_branch 18 = .ok (.aload_n 0, 1) := by decide +kernel
theorem dX5_branch_19 : decode cX5_branch 19 = .ok (.getfield 7, 3) := by decide +kernel
theorem dX5_branch_22 : decode cX5_branch 22 = .ok (.iload_n 2, 1) := by decide +kernel
theorem dX5_branch_23 : decode cX5_branch 23 = .ok (.baload, 1) := by decide +kernel
theorem dX5_branch_24 : decode cX5_branch 24 = .ok (.bastore, 1) := by decide +kernel
theorem dX5_branch_25 : decode cX5_branch 25 = .ok (.aload_n 0, 1) := by decide +kernel
theorem dX5_branch_26 : decode cX5_branch 26 = .ok (.getfield 13, 3) := by decide +kernel
theorem dX5_branch_29 : decode cX5_branch 29 = .ok (.bipush 12, 2) := by decide +kernel
theorem dX5_branch_31 : decode cX5_branch 31 = .ok (.iload_n 2, 1) := by decide +kernel
theorem dX5_branch_32 : decode cX5_branch 32 = .ok (.iadd, 1) := by decide +kernel
theorem dX5_branch_33 : decode cX5_branch 33 = .ok (.aload_n 0, 1) := by decide +kernel
theorem dX5_branch_34 : decode cX5_branch 34 = .ok (.getfield 13, 3) := by decide +kernel
theorem dX5_branch_37 : decode cX5_branch 37 = .ok (.iload_n 2, 1) := by decide +kernel
theorem dX5_branch_38 : decode cX5_branch 38 = .ok (.iaload, 1) := by decide +kernel
theorem dX5_branch_39 : decode cX5_branch 39 = .ok (.iastore, 1) := by decide +kernel
theorem dX5_branch_40 : decode cX5_branch 40 = .ok (.aload_n 0, 1) := by decide +kernel
theorem dX5_branch_41 : decode cX5_branch 41 = .ok (.getfield 17, 3) := by decide +kernel
theorem dX5_branch_44 : decode cX5_branch 44 = .ok (.bipush 12, 2) := by decide +kernel
theorem dX5_branch_46 : decode cX5_branch 46 = .ok (.iload_n 2, 1) := by decide +kernel
theorem dX5_branch_47 : decode cX5_branch 47 = .ok (.iadd, 1) := by decide +kernel
theorem dX5_branch_48 : decode cX5_branch 48 = .ok (.aload_n 0, 1) := by decide +kernel
theorem dX5_branch_49 : decode cX5_branch 49 = .ok (.getfield 17, 3) := by decide +kernel
theorem dX5_branch_52 : decode cX5_branch 52 = .ok (.iload_n 2, 1) := by decide +kernel
theorem dX5_branch_53 : decode cX5_branch 53 = .ok (.iaload, 1) := by decide +kernel
theorem dX5_branch_54 : decode cX5_branch 54 = .ok (.iastore, 1) := by decide +kernel
theorem dX5_branch_55 : decode cX5_branch 55 = .ok (.aload_n 0, 1) := by decide +kernel
theorem dX5_branch_56 : decode cX5_branch 56 = .ok (.getfield 20, 3) := by decide +kernel
theorem dX5_branch_59 : decode cX5_branch 59 = .ok (.bipush 12, 2) := by decide +kernel
theorem dX5_branch_61 : decode cX5_branch 61 = .ok (.iload_n 2, 1) := by decide +kernel
theorem dX5_branch_62 : decode cX5_branch 62 = .ok (.iadd, 1) := by decide +kernel
theorem dX5_branch_63 : decode cX5_branch 63 = .ok (.aload_n 0, 1) := by decide +kernel
theorem dX5_branch_64 : decode cX5_branch 64 = .ok (.getfield 20, 3) := by decide +kernel
theorem dX5_branch_67 : decode cX5_branch 67 = .ok (.iload_n 2, 1) := by decide +kernel
theorem dX5_branch_68 : decode cX5_branch 68 = .ok (.iaload, 1) := by decide +kernel
theorem dX5_branch_69 : decode cX5_branch 69 = .ok (.iastore, 1) := by decide +kernel
theorem dX5_branch_70 : decode cX5_branch 70 = .ok (.aload_n 0, 1) := by decide +kernel
theorem dX5_branch_71 : decode cX5_branch 71 = .ok (.getfield 23, 3) := by decide +kernel
theorem dX5_branch_74 : decode cX5_branch 74 = .ok (.bipush 12, 2) := by decide +kernel
theorem dX5_branch_76 : decode cX5_branch 76 = .ok (.iload_n 2, 1) := by decide +kernel
theorem dX5_branch_77 : decode cX5_branch 77 = .ok (.iadd, 1) := by decide +kernel
theorem dX5_branch_78 : decode cX5_branch 78 = .ok (.aload_n 0, 1) := by decide +kernel
theorem dX5_branch_79 : decode cX5_branch 79 = .ok (.getfield 23, 3) := by decide +kernel
theorem dX5_branch_82 : decode cX5_branch 82 = .ok (.iload_n 2, 1) := by decide +kernel
theorem dX5_branch_83 : decode cX5_branch 83 = .ok (.iaload, 1) := by decide +kernel
theorem dX5_branch_84 : decode cX5_branch 84 = .ok (.iastore, 1) := by decide +kernel
theorem dX5_branch_85 : decode cX5_branch 85 = .ok (.aload_n 0, 1) := by decide +kernel
theorem dX5_branch_86 : decode cX5_branch 86 = .ok (.getfield 26, 3) := by decide +kernel
theorem dX5_branch_89 : decode cX5_branch 89 = .ok (.bipush 12, 2) := by decide +kernel
theorem dX5_branch_91 : decode cX5_branch 91 = .ok (.iload_n 2, 1) := by decide +kernel
theorem dX5_branch_92 : decode cX5_branch 92 = .ok (.iadd, 1) := by decide +kernel
theorem dX5_branch_93 : decode cX5_branch 93 = .ok (.aload_n 0, 1) := by decide +kernel
theorem dX5_branch_94 : decode cX5_branch 94 = .ok (.getfield 26, 3) := by decide +kernel
theorem dX5_branch_97 : decode cX5_branch 97 = .ok (.iload_n 2, 1) := by decide +kernel
theorem dX5_branch_98 : decode cX5_branch 98 = .ok (.iaload, 1) := by decide +kernel
theorem dX5_branch_99 : decode cX5_branch 99 = .ok (.iastore, 1) := by decide +kernel
theorem dX5_branch_100 : decode cX5_branch 100 = .ok (.aload_n 0, 1) := by decide +kernel
theorem dX5_branch_101 : decode cX5_branch 101 = .ok (.getfield 7, 3) := by decide +kernel
theorem dX5_branch_104 : decode cX5_branch 104 = .ok (.iload_n 2, 1) := by decide +kernel
theorem dX5_branch_105 : decode cX5_branch 105 = .ok (.baload, 1) := by decide +kernel
theorem dX5_branch_106 : decode cX5_branch 106 = .ok (.ifCond .eq 6, 3) := by decide +kernel
theorem dX5_branch_109 : decode cX5_branch 109 = .ok (.iinc 1 1, 3) := by decide +kernel
theorem dX5_branch_112 : decode cX5_branch 112 = .ok (.iinc 2 1, 3) := by decide +kernel
theorem dX5_branch_115 : decode cX5_branch 115 = .ok (.goto (-111), 3) := by decide +kernel
theorem dX5_branch_118 : decode cX5_branch 118 = .ok (.iconst 0, 1) := by decide +kernel
theorem dX5_branch_119 : decode cX5_branch 119 = .ok (.istore_n 2, 1) := by decide +kernel
theorem dX5_branch_120 : decode cX5_branch 120 = .ok (.iload_n 2, 1) := by decide +kernel
theorem dX5_branch_121 : decode cX5_branch 121 = .ok (.aload_n 0, 1) := by decide +kernel
theorem dX5_branch_122 : decode cX5_branch 122 = .ok (.getfield 35, 3) := by decide +kernel
theorem dX5_branch_125 : decode cX5_branch 125 = .ok (.iconst 0, 1) := by decide +kernel
theorem dX5_branch_126 : decode cX5_branch 126 = .ok (.iaload, 1) := by decide +kernel
theorem dX5_branch_127 : decode cX5_branch 127 = .ok (.if_icmp .ge 99, 3) := by decide +kernel
theorem dX5_branch_130 : decode cX5_branch 130 = .ok (.aload_n 0, 1) := by decide +kernel
theorem dX5_branch_131 : decode cX5_branch 131 = .ok (.getfield 32, 3) := by decide +kernel
theorem dX5_branch_134 : decode cX5_branch 134 = .ok (.bipush 30, 2) := by decide +kernel
theorem dX5_branch_136 : decode cX5_branch 136 = .ok (.iload_n 2, 1) := by decide +kernel
theorem dX5_branch_137 : decode cX5_branch 137 = .ok (.iadd, 1) := by decide +kernel
theorem dX5_branch_138 : decode cX5_branch 138 = .ok (.aload_n 0, 1) := by decide +kernel
theorem dX5_branch_139 : decode cX5_branch 139 = .ok (.getfield 32, 3) := by decide +kernel
theorem dX5_branch_142 : decode cX5_branch 142 = .ok (.iload_n 2, 1) := by decide +kernel
theorem dX5_branch_143 : decode cX5_branch 143 = .ok (.baload, 1) := by decide +kernel
theorem dX5_branch_144 : decode cX5_branch 144 = .ok (.bastore, 1) := by decide +kernel
theorem dX5_branch_145 : decode cX5_branch 145 = .ok (.aload_n 0, 1) := by decide +kernel
theorem dX5_branch_146 : decode cX5_branch 146 = .ok (.getfield 38, 3) := by decide +kernel
theorem dX5_branch_149 : decode cX5_branch 149 = .ok (.bipush 30, 2) := by decide +kernel
theorem dX5_branch_151 : decode cX5_branch 151 = .ok (.iload_n 2, 1) := by decide +kernel
theorem dX5_branch_152 : decode cX5_branch 152 = .ok (.iadd, 1) := by decide +kernel
theorem dX5_branch_153 : decode cX5_branch 153 = .ok (.aload_n 0, 1) := by decide +kernel
theorem dX5_branch_154 : decode cX5_branch 154 = .ok (.getfield 38, 3) := by decide +kernel
theorem dX5_branch_157 : decode cX5_branch 157 = .ok (.iload_n 2, 1) := by decide +kernel
theorem dX5_branch_158 : decode cX5_branch 158 = .ok (.iaload, 1) := by decide +kernel
theorem dX5_branch_159 : decode cX5_branch 159 = .ok (.iastore, 1) := by decide +kernel
theorem dX5_branch_160 : decode cX5_branch 160 = .ok (.aload_n 0, 1) := by decide +kernel
theorem dX5_branch_161 : decode cX5_branch 161 = .ok (.getfield 29, 3) := by decide +kernel
theorem dX5_branch_164 : decode cX5_branch 164 = .ok (.bipush 30, 2) := by decide +kernel
theorem dX5_branch_166 : decode cX5_branch 166 = .ok (.iload_n 2, 1) := by decide +kernel
theorem dX5_branch_167 : decode cX5_branch 167 = .ok (.iadd, 1) := by decide +kernel
theorem dX5_branch_168 : decode cX5_branch 168 = .ok (.aload_n 0, 1) := by decide +kernel
theorem dX5_branch_169 : decode cX5_branch 169 = .ok (.getfield 29, 3) := by decide +kernel
theorem dX5_branch_172 : decode cX5_branch 172 = .ok (.iload_n 2, 1) := by decide +kernel
theorem dX5_branch_173 : decode cX5_branch 173 = .ok (.baload, 1) := by decide +kernel
theorem dX5_branch_174 : decode cX5_branch 174 = .ok (.bastore, 1) := by decide +kernel
theorem dX5_branch_175 : decode cX5_branch 175 = .ok (.aload_n 0, 1) := by decide +kernel
theorem dX5_branch_176 : decode cX5_branch 176 = .ok (.getfield 41, 3) := by decide +kernel
theorem dX5_branch_179 : decode cX5_branch 179 = .ok (.bipush 30, 2) := by decide +kernel
theorem dX5_branch_181 : decode cX5_branch 181 = .ok (.iload_n 2, 1) := by decide +kernel
theorem dX5_branch_182 : decode cX5_branch 182 = .ok (.iadd, 1) := by decide +kernel
theorem dX5_branch_183 : decode cX5_branch 183 = .ok (.aload_n 0, 1) := by decide +kernel
theorem dX5_branch_184 : decode cX5_branch 184 = .ok (.getfield 41, 3) := by decide +kernel
theorem dX5_branch_187 : decode cX5_branch 187 = .ok (.iload_n 2, 1) := by decide +kernel
theorem dX5_branch_188 : decode cX5_branch 188 = .ok (.iaload, 1) := by decide +kernel
theorem dX5_branch_189 : decode cX5_branch 189 = .ok (.iastore, 1) := by decide +kernel
theorem dX5_branch_190 : decode cX5_branch 190 = .ok (.aload_n 0, 1) := by decide +kernel
theorem dX5_branch_191 : decode cX5_branch 191 = .ok (.getfield 44, 3) := by decide +kernel
theorem dX5_branch_194 : decode cX5_branch 194 = .ok (.bipush 30, 2) := by decide +kernel
theorem dX5_branch_196 : decode cX5_branch 196 = .ok (.iload_n 2, 1) := by decide +kernel
theorem dX5_branch_197 : decode cX5_branch 197 = .ok (.iadd, 1) := by decide +kernel
theorem dX5_branch_198 : decode cX5_branch 198 = .ok (.aload_n 0, 1) := by decide +kernel
theorem dX5_branch_199 : decode cX5_branch 199 = .ok (.getfield 44, 3) := by decide +kernel
theorem dX5_branch_202 : decode cX5_branch 202 = .ok (.iload_n 2, 1) := by decide +kernel
theorem dX5_branch_203 : decode cX5_branch 203 = .ok (.iaload, 1) := by decide +kernel
theorem dX5_branch_204 : decode cX5_branch 204 = .ok (.iastore, 1) := by decide +kernel
theorem dX5_branch_205 : decode cX5_branch 205 = .ok (.aload_n 0, 1) := by decide +kernel
theorem dX5_branch_206 : decode cX5_branch 206 = .ok (.getfield 47, 3) := by decide +kernel
theorem dX5_branch_209 : decode cX5_branch 209 = .ok (.bipush 30, 2) := by decide +kernel
theorem dX5_branch_211 : decode cX5_branch 211 = .ok (.iload_n 2, 1) := by decide +kernel
theorem dX5_branch_212 : decode cX5_branch 212 = .ok (.iadd, 1) := by decide +kernel
theorem dX5_branch_213 : decode cX5_branch 213 = .ok (.aload_n 0, 1) := by decide +kernel
theorem dX5_branch_214 : decode cX5_branch 214 = .ok (.getfield 47, 3) := by decide +kernel
theorem dX5_branch_217 : decode cX5_branch 217 = .ok (.iload_n 2, 1) := by decide +kernel
theorem dX5_branch_218 : decode cX5_branch 218 = .ok (.iaload, 1) := by decide +kernel
theorem dX5_branch_219 : decode cX5_branch 219 = .ok (.iastore, 1) := by decide +kernel
theorem dX5_branch_220 : decode cX5_branch 220 = .ok (.iinc 2 1, 3) := by decide +kernel
theorem dX5_branch_223 : decode cX5_branch 223 = .ok (.goto (-103), 3) := by decide +kernel
theorem dX5_branch_226 : decode cX5_branch 226 = .ok (.aload_n 0, 1) := by decide +kernel
theorem dX5_branch_227 : decode cX5_branch 227 = .ok (.getfield 35, 3) := by decide +kernel
theorem dX5_branch_230 : decode cX5_branch 230 = .ok (.iconst 1, 1) := by decide +kernel
theorem dX5_branch_231 : decode cX5_branch 231 = .ok (.aload_n 0, 1) := by decide +kernel
theorem dX5_branch_232 : decode cX5_branch 232 = .ok (.getfield 35, 3) := by decide +kernel
theorem dX5_branch_235 : decode cX5_branch 235 = .ok (.iconst 0, 1) := by decide +kernel
theorem dX5_branch_236 : decode cX5_branch 236 = .ok (.iaload, 1) := by decide +kernel
theorem dX5_branch_237 : decode cX5_branch 237 = .ok (.iastore, 1) := by decide +kernel
theorem dX5_branch_238 : decode cX5_branch 238 = .ok (.aload_n 0, 1) := by decide +kernel
theorem dX5_branch_239 : decode cX5_branch 239 = .ok (.iconst 1, 1) := by decide +kernel
theorem dX5_branch_240 : decode cX5_branch 240 = .ok (.putfield 68, 3) := by decide +kernel
theorem dX5_branch_243 : decode cX5_branch 243 = .ok (.iload_n 1, 1) := by decide +kernel
theorem dX5_branch_244 : decode cX5_branch 244 = .ok (.ireturn, 1) := by decide +kernel
theorem dX5_write_0 : decode cX5_write 0 = .ok (.iload_n 1, 1) := by decide +kernel
theorem dX5_write_1 : decode cX5_write 1 = .ok (.iconst 2, 1) := by decide +kernel
theorem dX5_write_2 : decode cX5_write 2 = .ok (.invokestatic 72, 3) := by decide +kernel
theorem dX5_write_5 : decode cX5_write 5 = .ok (.ifCond .ne 5, 3) := by decide +kernel
theorem dX5_write_8 : decode cX5_write 8 = .ok (.iconst 0, 1) := by decide +kernel
theorem dX5_write_9 : decode cX5_write 9 = .ok (.ireturn, 1) := by decide +kernel
theorem dX5_write_10 : decode cX5_write 10 = .ok (.aload_n 0, 1) := by decide +kernel
theorem dX5_write_11 : decode cX5_write 11 = .ok (.iload_n 1, 1) := by decide +kernel
theorem dX5_write_12 : decode cX5_write 12 = .ok (.putfield 68, 3) := by decide +kernel
theorem dX5_write_15 : decode cX5_write 15 = .ok (.iconst 1, 1) := by decide +kernel
theorem dX5_write_16 : decode cX5_write 16 = .ok (.ireturn, 1) := by decide +kernel
theorem dX5_refer_0 : decode cX5_refer 0 = .ok (.iload_n 1, 1) := by decide +kernel
theorem dX5_refer_1 : decode cX5_refer 1 = .ok (.bipush 9, 2) := by decide +kernel
theorem dX5_refer_3 : decode cX5_refer 3 = .ok (.invokestatic 72, 3) := by decide +kernel
theorem dX5_refer_6 : decode cX5_refer 6 = .ok (.ifCond .eq 31, 3) := by decide +kernel
theorem dX5_refer_9 : decode cX5_refer 9 = .ok (.iload_n 2, 1) := by decide +kernel
theorem dX5_refer_10 : decode cX5_refer 10 = .ok (.bipush 12, 2) := by decide +kernel
theorem dX5_refer_12 : decode cX5_refer 12 = .ok (.invokestatic 72, 3) := by decide +kernel
theorem dX5_refer_15 : decode cX5_refer 15 = .ok (.ifCond .eq 22, 3) := by decide +kernel
theorem dX5_refer_18 : decode cX5_refer 18 = .ok (.iload_n 3, 1) := by decide +kernel
theorem dX5_refer_19 : decode cX5_refer 19 = .ok (.bipush 12, 2) := by decide +kernel
theorem dX5_refer_21 : decode cX5_refer 21 = .ok (.invokestatic 72, 3) := by decide +kernel
theorem dX5_refer_24 : decode cX5_refer 24 = .ok (.ifCond .eq 13, 3) := by decide +kernel
theorem dX5_refer_27 : decode cX5_refer 27 = .ok (.iload 4, 2) := by decide +kernel
theorem dX5_refer_29 : decode cX5_refer 29 = .ok (.bipush 15, 2) := by decide +kernel
theorem dX5_refer_31 : decode cX5_refer 31 = .ok (.invokestatic 72, 3) := by decide +kernel
theorem dX5_refer_34 : decode cX5_refer 34 = .ok (.ifCond .ne 5, 3) := by decide +kernel
theorem dX5_refer_37 : decode cX5_refer 37 = .ok (.iconst (-1), 1) := by decide +kernel
theorem dX5_refer_38 : decode cX5_refer 38 = .ok (.ireturn, 1) := by decide +kernel
theorem dX5_refer_39 : decode cX5_refer 39 = .ok (.aload_n 0, 1) := by decide +kernel
theorem dX5_refer_40 : decode cX5_refer 40 = .ok (.getfield 91, 3) := by decide +kernel
theorem dX5_refer_43 : decode cX5_refer 43 = .ok (.bipush 16, 2) := by decide +kernel
theorem dX5_refer_45 : decode cX5_refer 45 = .ok (.if_icmp .ne 6, 3) := by decide +kernel
theorem dX5_refer_48 : decode cX5_refer 48 = .ok (.bipush (-3), 2) := by decide +kernel
theorem dX5_refer_50 : decode cX5_refer 50 = .ok (.ireturn, 1) := by decide +kernel
theorem dX5_refer_51 : decode cX5_refer 51 = .ok (.aload_n 0, 1) := by decide +kernel
theorem dX5_refer_52 : decode cX5_refer 52 = .ok (.getfield 50, 3) := by decide +kernel
theorem dX5_refer_55 : decode cX5_refer 55 = .ok (.aload_n 0, 1) := by decide +kernel
theorem dX5_refer_56 : decode cX5_refer 56 = .ok (.getfield 91, 3) := by decide +kernel
theorem dX5_refer_59 : decode cX5_refer 59 = .ok (.iload_n 1, 1) := by decide +kernel
theorem dX5_refer_60 : decode cX5_refer 60 = .ok (.iastore, 1) := by decide +kernel
theorem dX5_refer_61 : decode cX5_refer 61 = .ok (.aload_n 0, 1) := by decide +kernel
theorem dX5_refer_62 : decode cX5_refer 62 = .ok (.getfield 53, 3) := by decide +kernel
theorem dX5_refer_65 : decode cX5_refer 65 = .ok (.aload_n 0, 1) := by decide +kernel
theorem dX5_refer_66 : decode cX5_refer 66 = .ok (.getfield 91, 3) := by decide +kernel
theorem dX5_refer_69 : decode cX5_refer 69 = .ok (.iload_n 2, 1) := by decide +kernel
theorem dX5_refer_70 : decode cX5_refer 70 = .ok (.iastore, 1) := by decide +kernel
theorem dX5_refer_71 : decode cX5_refer 71 = .ok (.aload_n 0, 1) := by decide +kernel
theorem dX5_refer_72 : decode cX5_refer 72 = .ok (.getfield 56, 3) := by decide +kernel
theorem dX5_refer_75 : decode cX5_refer 75 = .ok (.aload_n 0, 1) := by decide +kernel
theorem dX5_refer_76 : decode cX5_refer 76 = .ok (.getfield 91, 3) := by decide +kernel
theorem dX5_refer_79 : decode cX5_refer 79 = .ok (.iload_n 3, 1) := by decide +kernel
theorem dX5_refer_80 : decode cX5_refer 80 = .ok (.iastore, 1) := by decide +kernel
theorem dX5_refer_81 : decode cX5_refer 81 = .ok (.aload_n 0, 1) := by decide +kernel
theorem dX5_refer_82 : decode cX5_refer 82 = .ok (.getfield 59, 3) := by decide +kernel
theorem dX5_refer_85 : decode cX5_refer 85 = .ok (.aload_n 0, 1) := by decide +kernel
theorem dX5_refer_86 : decode cX5_refer 86 = .ok (.getfield 91, 3) := by decide +kernel
theorem dX5_refer_89 : decode cX5_refer 89 = .ok (.iload 4, 2) := by decide +kernel
theorem dX5_refer_91 : decode cX5_refer 91 = .ok (.iastore, 1) := by decide +kernel
theorem dX5_refer_92 : decode cX5_refer 92 = .ok (.aload_n 0, 1) := by decide +kernel
theorem dX5_refer_93 : decode cX5_refer 93 = .ok (.dup, 1) := by decide +kernel
theorem dX5_refer_94 : decode cX5_refer 94 = .ok (.getfield 91, 3) := by decide +kernel
theorem dX5_refer_97 : decode cX5_refer 97 = .ok (.iconst 1, 1) := by decide +kernel
theorem dX5_refer_98 : decode cX5_refer 98 = .ok (.iadd, 1) := by decide +kernel
theorem dX5_refer_99 : decode cX5_refer 99 = .ok (.putfield 91, 3) := by decide +kernel
theorem dX5_refer_102 : decode cX5_refer 102 = .ok (.aload_n 0, 1) := by decide +kernel
theorem dX5_refer_103 : decode cX5_refer 103 = .ok (.getfield 91, 3) := by decide +kernel
theorem dX5_refer_106 : decode cX5_refer 106 = .ok (.iconst 1, 1) := by decide +kernel
theorem dX5_refer_107 : decode cX5_refer 107 = .ok (.isub, 1) := by decide +kernel
theorem dX5_refer_108 : decode cX5_refer 108 = .ok (.ireturn, 1) := by decide +kernel
theorem dX5_forget_0 : decode cX5_forget 0 = .ok (.aload_n 0, 1) := by decide +kernel
theorem dX5_forget_1 : decode cX5_forget 1 = .ok (.getfield 91, 3) := by decide +kernel
theorem dX5_forget_4 : decode cX5_forget 4 = .ok (.istore_n 1, 1) := by decide +kernel
theorem dX5_forget_5 : decode cX5_forget 5 = .ok (.aload_n 0, 1) := by decide +kernel
theorem dX5_forget_6 : decode cX5_forget 6 = .ok (.iconst 0, 1) := by decide +kernel
theorem dX5_forget_7 : decode cX5_forget 7 = .ok (.putfield 91, 3) := by decide +kernel
theorem dX5_forget_10 : decode cX5_forget 10 = .ok (.iload_n 1, 1) := by decide +kernel
theorem dX5_forget_11 : decode cX5_forget 11 = .ok (.ireturn, 1) := by decide +kernel
theorem dX5_verdict_0 : decode cX5_verdict 0 = .ok (.bipush 64, 2) := by decide +kernel
theorem dX5_verdict_2 : decode cX5_verdict 2 = .ok (.iload_n 0, 1) := by decide +kernel
theorem dX5_verdict_3 : decode cX5_verdict 3 = .ok (.imul, 1) := by decide +kernel
theorem dX5_verdict_4 : decode cX5_verdict 4 = .ok (.iload_n 1, 1) := by decide +kernel
theorem dX5_verdict_5 : decode cX5_verdict 5 = .ok (.iadd, 1) := by decide +kernel
theorem dX5_verdict_6 : decode cX5_verdict 6 = .ok (.ireturn, 1) := by decide +kernel
theorem dX5_isChanged_0 : decode cX5_isChanged 0 = .ok (.bipush 12, 2) := by decide +kernel
theorem dX5_isChanged_2 : decode cX5_isChanged 2 = .ok (.iload_n 1, 1) := by decide +kernel
theorem dX5_isChanged_3 : decode cX5_isChanged 3 = .ok (.imul, 1) := by decide +kernel
theorem dX5_isChanged_4 : decode cX5_isChanged 4 = .ok (.iload_n 2, 1) := by decide +kernel
theorem dX5_isChanged_5 : decode cX5_isChanged 5 = .ok (.iadd, 1) := by decide +kernel
theorem dX5_isChanged_6 : decode cX5_isChanged 6 = .ok (.istore_n 3, 1) := by decide +kernel
theorem dX5_isChanged_7 : decode cX5_isChanged 7 = .ok (.aload_n 0, 1) := by decide +kernel
theorem dX5_isChanged_8 : decode cX5_isChanged 8 = .ok (.getfield 20, 3) := by decide +kernel
theorem dX5_isChanged_11 : decode cX5_isChanged 11 = .ok (.iload_n 3, 1) := by decide +kernel
theorem dX5_isChanged_12 : decode cX5_isChanged 12 = .ok (.iaload, 1) := by decide +kernel
theorem dX5_isChanged_13 : decode cX5_isChanged 13 = .ok (.istore 4, 2) := by decide +kernel
theorem dX5_isChanged_15 : decode cX5_isChanged 15 = .ok (.iload 4, 2) := by decide +kernel
theorem dX5_isChanged_17 : decode cX5_isChanged 17 = .ok (.ifCond .lt 39, 3) := by decide +kernel
theorem dX5_isChanged_20 : decode cX5_isChanged 20 = .ok (.aload_n 0, 1) := by decide +kernel
theorem dX5_isChanged_21 : decode cX5_isChanged 21 = .ok (.getfield 13, 3) := by decide +kernel
theorem dX5_isChanged_24 : decode cX5_isChanged 24 = .ok (.bipush 12, 2) := by decide +kernel
theorem dX5_isChanged_26 : decode cX5_isChanged 26 = .ok (.iload_n 1, 1) := by decide +kernel
theorem dX5_isChanged_27 : decode cX5_isChanged 27 = .ok (.imul, 1) := by decide +kernel
theorem dX5_isChanged_28 : decode cX5_isChanged 28 = .ok (.iload 4, 2) := by decide +kernel
theorem dX5_isChanged_30 : decode cX5_isChanged 30 = .ok (.iadd, 1) := by decide +kernel
theorem dX5_isChanged_31 : decode cX5_isChanged 31 = .ok (.iaload, 1) := by decide +kernel
theorem dX5_isChanged_32 : decode cX5_isChanged 32 = .ok (.bipush 10, 2) := by decide +kernel
theorem dX5_isChanged_34 : decode cX5_isChanged 34 = .ok (.iand, 1) := by decide +kernel
theorem dX5_isChanged_35 : decode cX5_isChanged 35 = .ok (.ifCond .ne 19, 3) := by decide +kernel
theorem dX5_isChanged_38 : decode cX5_isChanged 38 = .ok (.aload_n 0, 1) := by decide +kernel
theorem dX5_isChanged_39 : decode cX5_isChanged 39 = .ok (.getfield 13, 3) := by decide +kernel
theorem dX5_isChanged_42 : decode cX5_isChanged 42 = .ok (.iload_n 3, 1) := by decide +kernel
theorem dX5_isChanged_43 : decode cX5_isChanged 43 = .ok (.iaload, 1) := by decide +kernel
theorem dX5_isChanged_44 : decode cX5_isChanged 44 = .ok (.iconst 2, 1) := by decide +kernel
theorem dX5_isChanged_45 : decode cX5_isChanged 45 = .ok (.iand, 1) := by decide +kernel
theorem dX5_isChanged_46 : decode cX5_isChanged 46 = .ok (.ifCond .eq 10, 3) := by decide +kernel
theorem dX5_isChanged_49 : decode cX5_isChanged 49 = .ok (.iload 4, 2) := by decide +kernel
theorem dX5_isChanged_51 : decode cX5_isChanged 51 = .ok (.ifCond .eq 5, 3) := by decide +kernel
theorem dX5_isChanged_54 : decode cX5_isChanged 54 = .ok (.iconst 1, 1) := by decide +kernel
theorem dX5_isChanged_55 : decode cX5_isChanged 55 = .ok (.ireturn, 1) := by decide +kernel
theorem dX5_isChanged_56 : decode cX5_isChanged 56 = .ok (.iconst 0, 1) := by decide +kernel
theorem dX5_isChanged_57 : decode cX5_isChanged 57 = .ok (.istore 5, 2) := by decide +kernel
theorem dX5_isChanged_59 : decode cX5_isChanged 59 = .ok (.iload 5, 2) := by decide +kernel
theorem dX5_isChanged_61 : decode cX5_isChanged 61 = .ok (.bipush 12, 2) := by decide +kernel
theorem dX5_isChanged_63 : decode cX5_isChanged 63 = .ok (.if_icmp .ge 42, 3) := by decide +kernel
theorem dX5_isChanged_66 : decode cX5_isChanged 66 = .ok (.aload_n 0, 1) := by decide +kernel
theorem dX5_isChanged_67 : decode cX5_isChanged 67 = .ok (.getfield 23, 3) := by decide +kernel
theorem dX5_isChanged_70 : decode cX5_isChanged 70 = .ok (.iload_n 3, 1) := by decide +kernel
theorem dX5_isChanged_71 : decode cX5_isChanged 71 = .ok (.iaload, 1) := by decide +kernel
theorem dX5_isChanged_72 : decode cX5_isChanged 72 = .ok (.iload 5, 2) := by decide +kernel
theorem dX5_isChanged_74 : decode cX5_isChanged 74 = .ok (.invokestatic 94, 3) := by decide +kernel
theorem dX5_isChanged_77 : decode cX5_isChanged 77 = .ok (.ifCond .eq 22, 3) := by decide +kernel
theorem dX5_isChanged_80 : decode cX5_isChanged 80 = .ok (.aload_n 0, 1) := by decide +kernel
theorem dX5_isChanged_81 : decode cX5_isChanged 81 = .ok (.getfield 13, 3) := by decide +kernel
theorem dX5_isChanged_84 : decode cX5_isChanged 84 = .ok (.bipush 12, 2) := by decide +kernel
theorem dX5_isChanged_86 : decode cX5_isChanged 86 = .ok (.iload_n 1, 1) := by decide +kernel
theorem dX5_isChanged_87 : decode cX5_isChanged 87 = .ok (.imul, 1) := by decide +kernel
theorem dX5_isChanged_88 : decode cX5_isChanged 88 = .ok (.iload 5, 2) := by decide +kernel
theorem dX5_isChanged_90 : decode cX5_isChanged 90 = .ok (.iadd, 1) := by decide +kernel
theorem dX5_isChanged_91 : decode cX5_isChanged 91 = .ok (.iaload, 1) := by decide +kernel
theorem dX5_isChanged_92 : decode cX5_isChanged 92 = .ok (.iconst 2, 1) := by decide +kernel
theorem dX5_isChanged_93 : decode cX5_isChanged 93 = .ok (.iand, 1) := by decide +kernel
theorem dX5_isChanged_94 : decode cX5_isChanged 94 = .ok (.ifCond .ne 5, 3) := by decide +kernel
theorem dX5_isChanged_97 : decode cX5_isChanged 97 = .ok (.iconst 1, 1) := by decide +kernel
theorem dX5_isChanged_98 : decode cX5_isChanged 98 = .ok (.ireturn, 1) := by decide +kernel
theorem dX5_isChanged_99 : decode cX5_isChanged 99 = .ok (.iinc 5 1, 3) := by decide +kernel
theorem dX5_isChanged_102 : decode cX5_isChanged 102 = .ok (.goto (-43), 3) := by decide +kernel
theorem dX5_isChanged_105 : decode cX5_isChanged 105 = .ok (.iconst 0, 1) := by decide +kernel
theorem dX5_isChanged_106 : decode cX5_isChanged 106 = .ok (.ireturn, 1) := by decide +kernel
theorem dX5_loaded_0 : decode cX5_loaded 0 = .ok (.iconst 1, 1) := by decide +kernel
theorem dX5_loaded_1 : decode cX5_loaded 1 = .ok (.istore_n 3, 1) := by decide +kernel
theorem dX5_loaded_2 : decode cX5_loaded 2 = .ok (.iconst 0, 1) := by decide +kernel
theorem dX5_loaded_3 : decode cX5_loaded 3 = .ok (.istore 4, 2) := by decide +kernel
theorem dX5_loaded_5 : decode cX5_loaded 5 = .ok (.iconst 0, 1) := by decide +kernel
theorem dX5_loaded_6 : decode cX5_loaded 6 = .ok (.istore 5, 2) := by decide +kernel
theorem dX5_loaded_8 : decode cX5_loaded 8 = .ok (.aload_n 0, 1) := by decide +kernel
theorem dX5_loaded_9 : decode cX5_loaded 9 = .ok (.getfield 62, 3) := by decide +kernel
theorem dX5_loaded_12 : decode cX5_loaded 12 = .ok (.iconst 0, 1) := by decide +kernel
theorem dX5_loaded_13 : decode cX5_loaded 13 = .ok (.iload_n 2, 1) := by decide +kernel
theorem dX5_loaded_14 : decode cX5_loaded 14 = .ok (.iastore, 1) := by decide +kernel
theorem dX5_loaded_15 : decode cX5_loaded 15 = .ok (.aload_n 0, 1) := by decide +kernel
theorem dX5_loaded_16 : decode cX5_loaded 16 = .ok (.getfield 65, 3) := by decide +kernel
theorem dX5_loaded_19 : decode cX5_loaded 19 = .ok (.iconst 0, 1) := by decide +kernel
theorem dX5_loaded_20 : decode cX5_loaded 20 = .ok (.bipush (-2), 2) := by decide +kernel
theorem dX5_loaded_22 : decode cX5_loaded 22 = .ok (.iastore, 1) := by decide +kernel
theorem dX5_loaded_23 : decode cX5_loaded 23 = .ok (.iload_n 3, 1) := by decide +kernel
theorem dX5_loaded_24 : decode cX5_loaded 24 = .ok (.ifCond .le 248, 3) := by decide +kernel
theorem dX5_loaded_27 : decode cX5_loaded 27 = .ok (.aload_n 0, 1) := by decide +kernel
theorem dX5_loaded_28 : decode cX5_loaded 28 = .ok (.getfield 62, 3) := by decide +kernel
theorem dX5_loaded_31 : decode cX5_loaded 31 = .ok (.iload_n 3, 1) := by decide +kernel
theorem dX5_loaded_32 : decode cX5_loaded 32 = .ok (.iconst 1, 1) := by decide +kernel
theorem dX5_loaded_33 : decode cX5_loaded 33 = .ok (.isub, 1) := by decide +kernel
theorem dX5_loaded_34 : decode cX5_loaded 34 = .ok (.iaload, 1) := by decide +kernel
theorem dX5_loaded_35 : decode cX5_loaded 35 = .ok (.istore 6, 2) := by decide +kernel
theorem dX5_loaded_37 : decode cX5_loaded 37 = .ok (.bipush 12, 2) := by decide +kernel
theorem dX5_loaded_39 : decode cX5_loaded 39 = .ok (.iload_n 1, 1) := by decide +kernel
theorem dX5_loaded_40 : decode cX5_loaded 40 = .ok (.imul, 1) := by decide +kernel
theorem dX5_loaded_41 : decode cX5_loaded 41 = .ok (.iload 6, 2) := by decide +kernel
theorem dX5_loaded_43 : decode cX5_loaded 43 = .ok (.iadd, 1) := by decide +kernel
theorem dX5_loaded_44 : decode cX5_loaded 44 = .ok (.istore 7, 2) := by decide +kernel
theorem dX5_loaded_46 : decode cX5_loaded 46 = .ok (.aload_n 0, 1) := by decide +kernel
theorem dX5_loaded_47 : decode cX5_loaded 47 = .ok (.getfield 65, 3) := by decide +kernel
theorem dX5_loaded_50 : decode cX5_loaded 50 = .ok (.iload_n 3, 1) := by decide +kernel
theorem dX5_loaded_51 : decode cX5_loaded 51 = .ok (.iconst 1, 1) := by decide +kernel
theorem dX5_loaded_52 : decode cX5_loaded 52 = .ok (.isub, 1) := by decide +kernel
theorem dX5_loaded_53 : decode cX5_loaded 53 = .ok (.iaload, 1) := by decide +kernel
theorem dX5_loaded_54 : decode cX5_loaded 54 = .ok (.bipush (-2), 2) := by decide +kernel
theorem dX5_loaded_56 : decode cX5_loaded 56 = .ok (.if_icmp .ne 46, 3) := by decide +kernel
theorem dX5_loaded_59 : decode cX5_loaded 59 = .ok (.aload_n 0, 1) := by decide +kernel
theorem dX5_loaded_60 : decode cX5_loaded 60 = .ok (.getfield 7, 3) := by decide +kernel
theorem dX5_loaded_63 : decode cX5_loaded 63 = .ok (.iload 7, 2) := by decide +kernel
theorem dX5_loaded_65 : decode cX5_loaded 65 = .ok (.baload, 1) := by decide +kernel
theorem dX5_loaded_66 : decode cX5_loaded 66 = .ok (.ifCond .ne 10, 3) := by decide +kernel
theorem dX5_loaded_69 : decode cX5_loaded 69 = .ok (.iconst 1, 1) := by decide +kernel
theorem dX5_loaded_70 : decode cX5_loaded 70 = .ok (.iload 6, 2) := by decide +kernel
theorem dX5_loaded_72 : decode cX5_loaded 72 = .ok (.invokestatic 97, 3) := by decide +kernel
theorem dX5_loaded_75 : decode cX5_loaded 75 = .ok (.ireturn, 1) := by decide +kernel
theorem dX5_loaded_76 : decode cX5_loaded 76 = .ok (.iload 4, 2) := by decide +kernel
theorem dX5_loaded_78 : decode cX5_loaded 78 = .ok (.iload 6, 2) := by decide +kernel
theorem dX5_loaded_80 : decode cX5_loaded 80 = .ok (.invokestatic 94, 3) := by decide +kernel
theorem dX5_loaded_83 : decode cX5_loaded 83 = .ok (.ifCond .eq 10, 3) := by decide +kernel
theorem dX5_loaded_86 : decode cX5_loaded 86 = .ok (.iconst 2, 1) := by decide +kernel
theorem dX5_loaded_87 : decode cX5_loaded 87 = .ok (.iload 6, 2) := by decide +kernel
theorem dX5_loaded_89 : decode cX5_loaded 89 = .ok (.invokestatic 97, 3) := by decide +kernel
theorem dX5_loaded_92 : decode cX5_loaded 92 = .ok (.ireturn, 1) := by decide +kernel
theorem dX5_loaded_93 : decode cX5_loaded 93 = .ok (.iload 4, 2) := by decide +kernel
theorem dX5_loaded_95 : decode cX5_loaded 95 = .ok (.iconst 1, 1) := by decide +kernel
theorem dX5_loaded_96 : decode cX5_loaded 96 = .ok (.iload 6, 2) := by decide +kernel
theorem dX5_loaded_98 : decode cX5_loaded 98 = .ok (.ishl, 1) := by decide +kernel
theorem dX5_loaded_99 : decode cX5_loaded 99 = .ok (.ior, 1) := by decide +kernel
theorem dX5_loaded_100 : decode cX5_loaded 100 = .ok (.istore 4, 2) := by decide +kernel
theorem dX5_loaded_102 : decode cX5_loaded 102 = .ok (.iconst (-1), 1) := by decide +kernel
theorem dX5_loaded_103 : decode cX5_loaded 103 = .ok (.istore 8, 2) := by decide +kernel
theorem dX5_loaded_105 : decode cX5_loaded 105 = .ok (.iload 8, 2) := by decide +kernel
theorem dX5_loaded_107 : decode cX5_loaded 107 = .ok (.ifCond .ge 95, 3) := by decide +kernel
theorem dX5_loaded_110 : decode cX5_loaded 110 = .ok (.aload_n 0, 1) := by decide +kernel
theorem dX5_loaded_111 : decode cX5_loaded 111 = .ok (.getfield 65, 3) := by decide +kernel
theorem dX5_loaded_114 : decode cX5_loaded 114 = .ok (.iload_n 3, 1) := by decide +kernel
theorem dX5_loaded_115 : decode cX5_loaded 115 = .ok (.iconst 1, 1) := by decide +kernel
theorem dX5_loaded_116 : decode cX5_loaded 116 = .ok (.isub, 1) := by decide +kernel
theorem dX5_loaded_117 : decode cX5_loaded 117 = .ok (.iaload, 1) := by decide +kernel
theorem dX5_loaded_118 : decode cX5_loaded 118 = .ok (.bipush 11, 2) := by decide +kernel
theorem dX5_loaded_120 : decode cX5_loaded 120 = .ok (.if_icmp .ge 82, 3) := by decide +kernel
theorem dX5_loaded_123 : decode cX5_loaded 123 = .ok (.aload_n 0, 1) := by decide +kernel
theorem dX5_loaded_124 : decode cX5_loaded 124 = .ok (.getfield 65, 3) := by decide +kernel
theorem dX5_loaded_127 : decode cX5_loaded 127 = .ok (.iload_n 3, 1) := by decide +kernel
theorem dX5_loaded_128 : decode cX5_loaded 128 = .ok (.iconst 1, 1) := by decide +kernel
theorem dX5_loaded_129 : decode cX5_loaded 129 = .ok (.isub, 1) := by decide +kernel
theorem dX5_loaded_130 : decode cX5_loaded 130 = .ok (.dup2, 1) := by decide +kernel
theorem dX5_loaded_131 : decode cX5_loaded 131 = .ok (.iaload, 1) := by decide +kernel
theorem dX5_loaded_132 : decode cX5_loaded 132 = .ok (.iconst 1, 1) := by decide +kernel
theorem dX5_loaded_133 : decode cX5_loaded 133 = .ok (.iadd, 1) := by decide +kernel
theorem dX5_loaded_134 : decode cX5_loaded 134 = .ok (.iastore, 1) := by decide +kernel
theorem dX5_loaded_135 : decode cX5_loaded 135 = .ok (.aload_n 0, 1) := by decide +kernel
theorem dX5_loaded_136 : decode cX5_loaded 136 = .ok (.getfield 65, 3) := by decide +kernel
theorem dX5_loaded_139 : decode cX5_loaded 139 = .ok (.iload_n 3, 1) := by decide +kernel
theorem dX5_loaded_140 : decode cX5_loaded 140 = .ok (.iconst 1, 1) := by decide +kernel
theorem dX5_loaded_141 : decode cX5_loaded 141 = .ok (.isub, 1) := by decide +kernel
theorem dX5_loaded_142 : decode cX5_loaded 142 = .ok (.iaload, 1) := by decide +kernel
theorem dX5_loaded_143 : decode cX5_loaded 143 = .ok (.istore 9, 2) := by decide +kernel
theorem dX5_loaded_145 : decode cX5_loaded 145 = .ok (.iload 9, 2) := by decide +kernel
theorem dX5_loaded_147 : decode cX5_loaded 147 = .ok (.ifCond .ge 15, 3) := by decide +kernel
theorem dX5_loaded_150 : decode cX5_loaded 150 = .ok (.aload_n 0, 1) := by decide +kernel
theorem dX5_loaded_151 : decode cX5_loaded 151 = .ok (.getfield 20, 3) := by decide +kernel
theorem dX5_loaded_154 : decode cX5_loaded 154 = .ok (.iload 7, 2) := by decide +kernel
theorem dX5_loaded_156 : decode cX5_loaded 156 = .ok (.iaload, 1) := by decide +kernel
theorem dX5_loaded_157 : decode cX5_loaded 157 = .ok (.istore 8, 2) := by decide +kernel
theorem dX5_loaded_159 : decode cX5_loaded 159 = .ok (.goto 22, 3) := by decide +kernel
theorem dX5_loaded_162 : decode cX5_loaded 162 = .ok (.aload_n 0, 1) := by decide +kernel
theorem dX5_loaded_163 : decode cX5_loaded 163 = .ok (.getfield 23, 3) := by decide +kernel
theorem dX5_loaded_166 : decode cX5_loaded 166 = .ok (.iload 7, 2) := by decide +kernel
theorem dX5_loaded_168 : decode cX5_loaded 168 = .ok (.iaload, 1) := by decide +kernel
theorem dX5_loaded_169 : decode cX5_loaded 169 = .ok (.iload 9, 2) := by decide +kernel
theorem dX5_loaded_171 : decode cX5_loaded 171 = .ok (.invokestatic 94, 3) := by decide +kernel
theorem dX5_loaded_174 : decode cX5_loaded 174 = .ok (.ifCond .eq 7, 3) := by decide +kernel
theorem dX5_loaded_177 : decode cX5_loaded 177 = .ok (.iload 9, 2) := by decide +kernel
theorem dX5_loaded_179 : decode cX5_loaded 179 = .ok (.istore 8, 2) := by decide +kernel
theorem dX5_loaded_181 : decode cX5_loaded 181 = .ok (.iload 8, 2) := by decide +kernel
theorem dX5_loaded_183 : decode cX5_loaded 183 = .ok (.ifCond .lt 16, 3) := by decide +kernel
theorem dX5_loaded_186 : decode cX5_loaded 186 = .ok (.iload 5, 2) := by decide +kernel
theorem dX5_loaded_188 : decode cX5_loaded 188 = .ok (.iload 8, 2) := by decide +kernel
theorem dX5_loaded_190 : decode cX5_loaded 190 = .ok (.invokestatic 94, 3) := by decide +kernel
theorem dX5_loaded_193 : decode cX5_loaded 193 = .ok (.ifCond .eq 6, 3) := by decide +kernel
theorem dX5_loaded_196 : decode cX5_loaded 196 = .ok (.iconst (-1), 1) := by decide +kernel
theorem dX5_loaded_197 : decode cX5_loaded 197 = .ok (.istore 8, 2) := by decide +kernel
theorem dX5_loaded_199 : decode cX5_loaded 199 = .ok (.goto (-94), 3) := by decide +kernel
theorem dX5_loaded_202 : decode cX5_loaded 202 = .ok (.iload 8, 2) := by decide +kernel
theorem dX5_loaded_204 : decode cX5_loaded 204 = .ok (.ifCond .lt 25, 3) := by decide +kernel
theorem dX5_loaded_207 : decode cX5_loaded 207 = .ok (.aload_n 0, 1) := by decide +kernel
theorem dX5_loaded_208 : decode cX5_loaded 208 = .ok (.getfield 62, 3) := by decide +kernel
theorem dX5_loaded_211 : decode cX5_loaded 211 = .ok (.iload_n 3, 1) := by decide +kernel
theorem dX5_loaded_212 : decode cX5_loaded 212 = .ok (.iload 8, 2) := by decide +kernel
theorem dX5_loaded_214 : decode cX5_loaded 214 = .ok (.iastore, 1) := by decide +kernel
theorem dX5_loaded_215 : decode cX5_loaded 215 = .ok (.aload_n 0, 1) := by decide +kernel
theorem dX5_loaded_216 : decode cX5_loaded 216 = .ok (.getfield 65, 3) := by decide +kernel
theorem dX5_loaded_219 : decode cX5_loaded 219 = .ok (.iload_n 3, 1) := by decide +kernel
theorem dX5_loaded_220 : decode cX5_loaded 220 = .ok (.bipush (-2), 2) := by decide +kernel
theorem dX5_loaded_222 : decode cX5_loaded 222 = .ok (.iastore, 1) := by decide +kernel
theorem dX5_loaded_223 : decode cX5_loaded 223 = .ok (.iinc 3 1, 3) := by decide +kernel
theorem dX5_loaded_226 : decode cX5_loaded 226 = .ok (.goto (-203), 3) := by decide +kernel
theorem dX5_loaded_229 : decode cX5_loaded 229 = .ok (.aload_n 0, 1) := by decide +kernel
theorem dX5_loaded_230 : decode cX5_loaded 230 = .ok (.iload_n 1, 1) := by decide +kernel
theorem dX5_loaded_231 : decode cX5_loaded 231 = .ok (.iload 6, 2) := by decide +kernel
theorem dX5_loaded_233 : decode cX5_loaded 233 = .ok (.invokevirtual 101, 3) := by decide +kernel
theorem dX5_loaded_236 : decode cX5_loaded 236 = .ok (.ifCond .eq 10, 3) := by decide +kernel
theorem dX5_loaded_239 : decode cX5_loaded 239 = .ok (.iconst 3, 1) := by decide +kernel
theorem dX5_loaded_240 : decode cX5_loaded 240 = .ok (.iload 6, 2) := by decide +kernel
theorem dX5_loaded_242 : decode cX5_loaded 242 = .ok (.invokestatic 97, 3) := by decide +kernel
theorem dX5_loaded_245 : decode cX5_loaded 245 = .ok (.ireturn, 1) := by decide +kernel
theorem dX5_loaded_246 : decode cX5_loaded 246 = .ok (.iload 4, 2) := by decide +kernel
theorem dX5_loaded_248 : decode cX5_loaded 248 = .ok (.iconst 1, 1) := by decide +kernel
theorem dX5_loaded_249 : decode cX5_loaded 249 = .ok (.iload 6, 2) := by decide +kernel
theorem dX5_loaded_251 : decode cX5_loaded 251 = .ok (.ishl, 1) := by decide +kernel
theorem dX5_loaded_252 : decode cX5_loaded 252 = .ok (.iconst (-1), 1) := by decide +kernel
theorem dX5_loaded_253 : decode cX5_loaded 253 = .ok (.ixor, 1) := by decide +kernel
theorem dX5_loaded_254 : decode cX5_loaded 254 = .ok (.iand, 1) := by decide +kernel
theorem dX5_loaded_255 : decode cX5_loaded 255 = .ok (.istore 4, 2) := by decide +kernel
theorem dX5_loaded_257 : decode cX5_loaded 257 = .ok (.iload 5, 2) := by decide +kernel
theorem dX5_loaded_259 : decode cX5_loaded 259 = .ok (.iconst 1, 1) := by decide +kernel
theorem dX5_loaded_260 : decode cX5_loaded 260 = .ok (.iload 6, 2) := by decide +kernel
theorem dX5_loaded_262 : decode cX5_loaded 262 = .ok (.ishl, 1) := by decide +kernel
theorem dX5_loaded_263 : decode cX5_loaded 263 = .ok (.ior, 1) := by decide +kernel
theorem dX5_loaded_264 : decode cX5_loaded 264 = .ok (.istore 5, 2) := by decide +kernel
theorem dX5_loaded_266 : decode cX5_loaded 266 = .ok (.iinc 3 (-1), 3) := by decide +kernel
theorem dX5_loaded_269 : decode cX5_loaded 269 = .ok (.goto (-246), 3) := by decide +kernel
theorem dX5_loaded_272 : decode cX5_loaded 272 = .ok (.iconst 0, 1) := by decide +kernel
theorem dX5_loaded_273 : decode cX5_loaded 273 = .ok (.iload_n 2, 1) := by decide +kernel
theorem dX5_loaded_274 : decode cX5_loaded 274 = .ok (.invokestatic 97, 3) := by decide +kernel
theorem dX5_loaded_277 : decode cX5_loaded 277 = .ok (.ireturn, 1) := by decide +kernel
theorem dX5_isLoaded_0 : decode cX5_isLoaded 0 = .ok (.aload_n 0, 1) := by decide +kernel
theorem dX5_isLoaded_1 : decode cX5_isLoaded 1 = .ok (.iload_n 1, 1) := by decide +kernel
theorem dX5_isLoaded_2 : decode cX5_isLoaded 2 = .ok (.iload_n 2, 1) := by decide +kernel
theorem dX5_isLoaded_3 : decode cX5_isLoaded 3 = .ok (.invokevirtual 104, 3) := by decide +kernel
theorem dX5_isLoaded_6 : decode cX5_isLoaded 6 = .ok (.bipush 64, 2) := by decide +kernel
theorem dX5_isLoaded_8 : decode cX5_isLoaded 8 = .ok (.if_icmp .ge 7, 3) := by decide +kernel
theorem dX5_isLoaded_11 : decode cX5_isLoaded 11 = .ok (.iconst 1, 1) := by decide +kernel
theorem dX5_isLoaded_12 : decode cX5_isLoaded 12 = .ok (.goto 4, 3) := by decide +kernel
theorem dX5_isLoaded_15 : decode cX5_isLoaded 15 = .ok (.iconst 0, 1) := by decide +kernel
theorem dX5_isLoaded_16 : decode cX5_isLoaded 16 = .ok (.ireturn, 1) := by decide +kernel
theorem dX5_aboveOf_0 : decode cX5_aboveOf 0 = .ok (.iconst 0, 1) := by decide +kernel
theorem dX5_aboveOf_1 : decode cX5_aboveOf 1 = .ok (.istore_n 3, 1) := by decide +kernel
theorem dX5_aboveOf_2 : decode cX5_aboveOf 2 = .ok (.iload_n 2, 1) := by decide +kernel
theorem dX5_aboveOf_3 : decode cX5_aboveOf 3 = .ok (.istore 4, 2) := by decide +kernel
theorem dX5_aboveOf_5 : decode cX5_aboveOf 5 = .ok (.iload 4, 2) := by decide +kernel
theorem dX5_aboveOf_7 : decode cX5_aboveOf 7 = .ok (.ifCond .lt 27, 3) := by decide +kernel
theorem dX5_aboveOf_10 : decode cX5_aboveOf 10 = .ok (.iload_n 3, 1) := by decide +kernel
theorem dX5_aboveOf_11 : decode cX5_aboveOf 11 = .ok (.iconst 1, 1) := by decide +kernel
theorem dX5_aboveOf_12 : decode cX5_aboveOf 12 = .ok (.iload 4, 2) := by decide +kernel
theorem dX5_aboveOf_14 : decode cX5_aboveOf 14 = .ok (.ishl, 1) := by decide +kernel
theorem dX5_aboveOf_15 : decode cX5_aboveOf 15 = .ok (.ior, 1) := by decide +kernel
theorem dX5_aboveOf_16 : decode cX5_aboveOf 16 = .ok (.istore_n 3, 1) := by decide +kernel
theorem dX5_aboveOf_17 : decode cX5_aboveOf 17 = .ok (.aload_n 0, 1) := by decide +kernel
theorem dX5_aboveOf_18 : decode cX5_aboveOf 18 = .ok (.getfield 20, 3) := by decide +kernel
theorem dX5_aboveOf_21 : decode cX5_aboveOf 21 = .ok (.bipush 12, 2) := by decide +kernel
theorem dX5_aboveOf_23 : decode cX5_aboveOf 23 = .ok (.iload_n 1, 1) := by decide +kernel
theorem dX5_aboveOf_24 : decode cX5_aboveOf 24 = .ok (.imul, 1) := by decide +kernel
theorem dX5_aboveOf_25 : decode cX5_aboveOf 25 = .ok (.iload 4, 2) := by decide +kernel
theorem dX5_aboveOf_27 : decode cX5_aboveOf 27 = .ok (.iadd, 1) := by decide +kernel
theorem dX5_aboveOf_28 : decode cX5_aboveOf 28 = .ok (.iaload, 1) := by decide +kernel
theorem dX5_aboveOf_29 : decode cX5_aboveOf 29 = .ok (.istore 4, 2) := by decide +kernel
theorem dX5_aboveOf_31 : decode cX5_aboveOf 31 = .ok (.goto (-26), 3) := by decide +kernel
theorem dX5_aboveOf_34 : decode cX5_aboveOf 34 = .ok (.iload_n 3, 1) := by decide +kernel
theorem dX5_aboveOf_35 : decode cX5_aboveOf 35 = .ok (.ireturn, 1) := by decide +kernel
theorem dX5_facesOf_0 : decode cX5_facesOf 0 = .ok (.iconst 0, 1) := by decide +kernel
theorem dX5_facesOf_1 : decode cX5_facesOf 1 = .ok (.istore_n 3, 1) := by decide +kernel
theorem dX5_facesOf_2 : decode cX5_facesOf 2 = .ok (.aload_n 0, 1) := by decide +kernel
theorem dX5_facesOf_3 : decode cX5_facesOf 3 = .ok (.iload_n 1, 1) := by decide +kernel
theorem dX5_facesOf_4 : decode cX5_facesOf 4 = .ok (.iload_n 2, 1) := by decide +kernel
theorem dX5_facesOf_5 : decode cX5_facesOf 5 = .ok (.invokevirtual 107, 3) := by decide +kernel
theorem dX5_facesOf_8 : decode cX5_facesOf 8 = .ok (.istore 4, 2) := by decide +kernel
theorem dX5_facesOf_10 : decode cX5_facesOf 10 = .ok (.iload 4, 2) := by decide +kernel
theorem dX5_facesOf_12 : decode cX5_facesOf 12 = .ok (.ifCond .eq 69, 3) := by decide +kernel
theorem dX5_facesOf_15 : decode cX5_facesOf 15 = .ok (.iconst 0, 1) := by decide +kernel
theorem dX5_facesOf_16 : decode cX5_facesOf 16 = .ok (.istore 5, 2) := by decide +kernel
theorem dX5_facesOf_18 : decode cX5_facesOf 18 = .ok (.iconst 0, 1) := by decide +kernel
theorem dX5_facesOf_19 : decode cX5_facesOf 19 = .ok (.istore 6, 2) := by decide +kernel
theorem dX5_facesOf_21 : decode cX5_facesOf 21 = .ok (.iload 6, 2) := by decide +kernel
theorem dX5_facesOf_23 : decode cX5_facesOf 23 = .ok (.bipush 12, 2) := by decide +kernel
theorem dX5_facesOf_25 : decode cX5_facesOf 25 = .ok (.if_icmp .ge 36, 3) := by decide +kernel
theorem dX5_facesOf_28 : decode cX5_facesOf 28 = .ok (.iload 4, 2) := by decide +kernel
theorem dX5_facesOf_30 : decode cX5_facesOf 30 = .ok (.iload 6, 2) := by decide +kernel
theorem dX5_facesOf_32 : decode cX5_facesOf 32 = .ok (.invokestatic 94, 3) := by decide +kernel
theorem dX5_facesOf_35 : decode cX5_facesOf 35 = .ok (.ifCond .eq 20, 3) := by decide +kernel
theorem dX5_facesOf_38 : decode cX5_facesOf 38 = .ok (.iload 5, 2) := by decide +kernel
theorem dX5_facesOf_40 : decode cX5_facesOf 40 = .ok (.aload_n 0, 1) := by decide +kernel
theorem dX5_facesOf_41 : decode cX5_facesOf 41 = .ok (.getfield 23, 3) := by decide +kernel
theorem dX5_facesOf_44 : decode cX5_facesOf 44 = .ok (.bipush 12, 2) := by decide +kernel
theorem dX5_facesOf_46 : decode cX5_facesOf 46 = .ok (.iload_n 1, 1) := by decide +kernel
theorem dX5_facesOf_47 : decode cX5_facesOf 47 = .ok (.imul, 1) := by decide +kernel
theorem dX5_facesOf_48 : decode cX5_facesOf 48 = .ok (.iload 6, 2) := by decide +kernel
theorem dX5_facesOf_50 : decode cX5_facesOf 50 = .ok (.iadd, 1) := by decide +kernel
theorem dX5_facesOf_51 : decode cX5_facesOf 51 = .ok (.iaload, 1) := by decide +kernel
theorem dX5_facesOf_52 : decode cX5_facesOf 52 = .ok (.ior, 1) := by decide +kernel
theorem dX5_facesOf_53 : decode cX5_facesOf 53 = .ok (.istore 5, 2) := by decide +kernel
theorem dX5_facesOf_55 : decode cX5_facesOf 55 = .ok (.iinc 6 1, 3) := by decide +kernel
theorem dX5_facesOf_58 : decode cX5_facesOf 58 = .ok (.goto (-37), 3) := by decide +kernel
theorem dX5_facesOf_61 : decode cX5_facesOf 61 = .ok (.iload 5, 2) := by decide +kernel
theorem dX5_facesOf_63 : decode cX5_facesOf 63 = .ok (.iload_n 3, 1) := by decide +kernel
theorem dX5_facesOf_64 : decode cX5_facesOf 64 = .ok (.iconst (-1), 1) := by decide +kernel
theorem dX5_facesOf_65 : decode cX5_facesOf 65 = .ok (.ixor, 1) := by decide +kernel
theorem dX5_facesOf_66 : decode cX5_facesOf 66 = .ok (.iand, 1) := by decide +kernel
theorem dX5_facesOf_67 : decode cX5_facesOf 67 = .ok (.istore 5, 2) := by decide +kernel
theorem dX5_facesOf_69 : decode cX5_facesOf 69 = .ok (.iload_n 3, 1) := by decide +kernel
theorem dX5_facesOf_70 : decode cX5_facesOf 70 = .ok (.iload 5, 2) := by decide +kernel
theorem dX5_facesOf_72 : decode cX5_facesOf 72 = .ok (.ior, 1) := by decide +kernel
theorem dX5_facesOf_73 : decode cX5_facesOf 73 = .ok (.istore_n 3, 1) := by decide +kernel
theorem dX5_facesOf_74 : decode cX5_facesOf 74 = .ok (.iload 5, 2) := by decide +kernel
theorem dX5_facesOf_76 : decode cX5_facesOf 76 = .ok (.istore 4, 2) := by decide +kernel
theorem dX5_facesOf_78 : decode cX5_facesOf 78 = .ok (.goto (-68), 3) := by decide +kernel
theorem dX5_facesOf_81 : decode cX5_facesOf 81 = .ok (.iload_n 3, 1) := by decide +kernel
theorem dX5_facesOf_82 : decode cX5_facesOf 82 = .ok (.ireturn, 1) := by decide +kernel
theorem dX5_under_0 : decode cX5_under 0 = .ok (.aload_n 0, 1) := by decide +kernel
theorem dX5_under_1 : decode cX5_under 1 = .ok (.iload_n 1, 1) := by decide +kernel
theorem dX5_under_2 : decode cX5_under 2 = .ok (.iload_n 2, 1) := by decide +kernel
theorem dX5_under_3 : decode cX5_under 3 = .ok (.invokevirtual 107, 3) := by decide +kernel
theorem dX5_under_6 : decode cX5_under 6 = .ok (.aload_n 0, 1) := by decide +kernel
theorem dX5_under_7 : decode cX5_under 7 = .ok (.iload_n 1, 1) := by decide +kernel
theorem dX5_under_8 : decode cX5_under 8 = .ok (.iload_n 2, 1) := by decide +kernel
theorem dX5_under_9 : decode cX5_under 9 = .ok (.invokevirtual 110, 3) := by decide +kernel
theorem dX5_under_12 : decode cX5_under 12 = .ok (.ior, 1) := by decide +kernel
theorem dX5_under_13 : decode cX5_under 13 = .ok (.iload_n 3, 1) := by decide +kernel
theorem dX5_under_14 : decode cX5_under 14 = .ok (.invokestatic 94, 3) := by decide +kernel
theorem dX5_under_17 : decode cX5_under 17 = .ok (.ireturn, 1) := by decide +kernel
theorem dX5_nestOf_0 : decode cX5_nestOf 0 = .ok (.aload_n 0, 1) := by decide +kernel
theorem dX5_nestOf_1 : decode cX5_nestOf 1 = .ok (.getfield 26, 3) := by decide +kernel
theorem dX5_nestOf_4 : decode cX5_nestOf 4 = .ok (.bipush 12, 2) := by decide +kernel
theorem dX5_nestOf_6 : decode cX5_nestOf 6 = .ok (.iload_n 1, 1) := by decide +kernel
theorem dX5_nestOf_7 : decode cX5_nestOf 7 = .ok (.imul, 1) := by decide +kernel
theorem dX5_nestOf_8 : decode cX5_nestOf 8 = .ok (.iload_n 2, 1) := by decide +kernel
theorem dX5_nestOf_9 : decode cX5_nestOf 9 = .ok (.iadd, 1) := by decide +kernel
theorem dX5_nestOf_10 : decode cX5_nestOf 10 = .ok (.iaload, 1) := by decide +kernel
theorem dX5_nestOf_11 : decode cX5_nestOf 11 = .ok (.istore_n 3, 1) := by decide +kernel
theorem dX5_nestOf_12 : decode cX5_nestOf 12 = .ok (.bipush 12, 2) := by decide +kernel
theorem dX5_nestOf_14 : decode cX5_nestOf 14 = .ok (.iload_n 1, 1) := by decide +kernel
theorem dX5_nestOf_15 : decode cX5_nestOf 15 = .ok (.imul, 1) := by decide +kernel
theorem dX5_nestOf_16 : decode cX5_nestOf 16 = .ok (.iload_n 3, 1) := by decide +kernel
theorem dX5_nestOf_17 : decode cX5_nestOf 17 = .ok (.iadd, 1) := by decide +kernel
theorem dX5_nestOf_18 : decode cX5_nestOf 18 = .ok (.istore 4, 2) := by decide +kernel
theorem dX5_nestOf_20 : decode cX5_nestOf 20 = .ok (.aload_n 0, 1) := by decide +kernel
theorem dX5_nestOf_21 : decode cX5_nestOf 21 = .ok (.getfield 7, 3) := by decide +kernel
theorem dX5_nestOf_24 : decode cX5_nestOf 24 = .ok (.iload 4, 2) := by decide +kernel
theorem dX5_nestOf_26 : decode cX5_nestOf 26 = .ok (.baload, 1) := by decide +kernel
theorem dX5_nestOf_27 : decode cX5_nestOf 27 = .ok (.ifCond .eq 39, 3) := by decide +kernel
theorem dX5_nestOf_30 : decode cX5_nestOf 30 = .ok (.aload_n 0, 1) := by decide +kernel
theorem dX5_nestOf_31 : decode cX5_nestOf 31 = .ok (.getfield 17, 3) := by decide +kernel
theorem dX5_nestOf_34 : decode cX5_nestOf 34 = .ok (.iload 4, 2) := by decide +kernel
theorem dX5_nestOf_36 : decode cX5_nestOf 36 = .ok (.iaload, 1) := by decide +kernel
theorem dX5_nestOf_37 : decode cX5_nestOf 37 = .ok (.aload_n 0, 1) := by decide +kernel
theorem dX5_nestOf_38 : decode cX5_nestOf 38 = .ok (.getfield 17, 3) := by decide +kernel
theorem dX5_nestOf_41 : decode cX5_nestOf 41 = .ok (.bipush 12, 2) := by decide +kernel
theorem dX5_nestOf_43 : decode cX5_nestOf 43 = .ok (.iload_n 1, 1) := by decide +kernel
theorem dX5_nestOf_44 : decode cX5_nestOf 44 = .ok (.imul, 1) := by decide +kernel
theorem dX5_nestOf_45 : decode cX5_nestOf 45 = .ok (.iload_n 2, 1) := by decide +kernel
theorem dX5_nestOf_46 : decode cX5_nestOf 46 = .ok (.iadd, 1) := by decide +kernel
theorem dX5_nestOf_47 : decode cX5_nestOf 47 = .ok (.iaload, 1) := by decide +kernel
theorem dX5_nestOf_48 : decode cX5_nestOf 48 = .ok (.if_icmp .ne 18, 3) := by decide +kernel
theorem dX5_nestOf_51 : decode cX5_nestOf 51 = .ok (.aload_n 0, 1) := by decide +kernel
theorem dX5_nestOf_52 : decode cX5_nestOf 52 = .ok (.getfield 26, 3) := by decide +kernel
theorem dX5_nestOf_55 : decode cX5_nestOf 55 = .ok (.iload 4, 2) := by decide +kernel
theorem dX5_nestOf_57 : decode cX5_nestOf 57 = .ok (.iaload, 1) := by decide +kernel
theorem dX5_nestOf_58 : decode cX5_nestOf 58 = .ok (.iload_n 3, 1) := by decide +kernel
theorem dX5_nestOf_59 : decode cX5_nestOf 59 = .ok (.if_icmp .ne 7, 3) := by decide +kernel
theorem dX5_nestOf_62 : decode cX5_nestOf 62 = .ok (.iload_n 3, 1) := by decide +kernel
theorem dX5_nestOf_63 : decode cX5_nestOf 63 = .ok (.goto 4, 3) := by decide +kernel
theorem dX5_nestOf_66 : decode cX5_nestOf 66 = .ok (.iload_n 2, 1) := by decide +kernel
theorem dX5_nestOf_67 : decode cX5_nestOf 67 = .ok (.ireturn, 1) := by decide +kernel
theorem dX5_isOpen_0 : decode cX5_isOpen 0 = .ok (.bipush 30, 2) := by decide +kernel
theorem dX5_isOpen_2 : decode cX5_isOpen 2 = .ok (.iload_n 1, 1) := by decide +kernel
theorem dX5_isOpen_3 : decode cX5_isOpen 3 = .ok (.imul, 1) := by decide +kernel
theorem dX5_isOpen_4 : decode cX5_isOpen 4 = .ok (.iload_n 2, 1) := by decide +kernel
theorem dX5_isOpen_5 : decode cX5_isOpen 5 = .ok (.iadd, 1) := by decide +kernel
theorem dX5_isOpen_6 : decode cX5_isOpen 6 = .ok (.istore 5, 2) := by decide +kernel
theorem dX5_isOpen_8 : decode cX5_isOpen 8 = .ok (.aload_n 0, 1) := by decide +kernel
theorem dX5_isOpen_9 : decode cX5_isOpen 9 = .ok (.getfield 38, 3) := by decide +kernel
theorem dX5_isOpen_12 : decode cX5_isOpen 12 = .ok (.iload 5, 2) := by decide +kernel
theorem dX5_isOpen_14 : decode cX5_isOpen 14 = .ok (.iaload, 1) := by decide +kernel
theorem dX5_isOpen_15 : decode cX5_isOpen 15 = .ok (.istore 6, 2) := by decide +kernel
theorem dX5_isOpen_17 : decode cX5_isOpen 17 = .ok (.aload_n 0, 1) := by decide +kernel
theorem dX5_isOpen_18 : decode cX5_isOpen 18 = .ok (.getfield 44, 3) := by decide +kernel
theorem dX5_isOpen_21 : decode cX5_isOpen 21 = .ok (.iload 5, 2) := by decide +kernel
theorem dX5_isOpen_23 : decode cX5_isOpen 23 = .ok (.iaload, 1) := by decide +kernel
theorem dX5_isOpen_24 : decode cX5_isOpen 24 = .ok (.istore 7, 2) := by decide +kernel
theorem dX5_isOpen_26 : decode cX5_isOpen 26 = .ok (.aload_n 0, 1) := by decide +kernel
theorem dX5_isOpen_27 : decode cX5_isOpen 27 = .ok (.getfield 17, 3) := by decide +kernel
theorem dX5_isOpen_30 : decode cX5_isOpen 30 = .ok (.bipush 12, 2) := by decide +kernel
theorem dX5_isOpen_32 : decode cX5_isOpen 32 = .ok (.iload_n 1, 1) := by decide +kernel
theorem dX5_isOpen_33 : decode cX5_isOpen 33 = .ok (.imul, 1) := by decide +kernel
theorem dX5_isOpen_34 : decode cX5_isOpen 34 = .ok (.iload 6, 2) := by decide +kernel
theorem dX5_isOpen_36 : decode cX5_isOpen 36 = .ok (.iadd, 1) := by decide +kernel
theorem dX5_isOpen_37 : decode cX5_isOpen 37 = .ok (.iaload, 1) := by decide +kernel
theorem dX5_isOpen_38 : decode cX5_isOpen 38 = .ok (.aload_n 0, 1) := by decide +kernel
theorem dX5_isOpen_39 : decode cX5_isOpen 39 = .ok (.getfield 17, 3) := by decide +kernel
theorem dX5_isOpen_42 : decode cX5_isOpen 42 = .ok (.bipush 12, 2) := by decide +kernel
theorem dX5_isOpen_44 : decode cX5_isOpen 44 = .ok (.iload_n 1, 1) := by decide +kernel
theorem dX5_isOpen_45 : decode cX5_isOpen 45 = .ok (.imul, 1) := by decide +kernel
theorem dX5_isOpen_46 : decode cX5_isOpen 46 = .ok (.iload 4, 2) := by decide +kernel
theorem dX5_isOpen_48 : decode cX5_isOpen 48 = .ok (.iadd, 1) := by decide +kernel
theorem dX5_isOpen_49 : decode cX5_isOpen 49 = .ok (.iaload, 1) := by decide +kernel
theorem dX5_isOpen_50 : decode cX5_isOpen 50 = .ok (.if_icmp .ne 7, 3) := by decide +kernel
theorem dX5_isOpen_53 : decode cX5_isOpen 53 = .ok (.iconst 1, 1) := by decide +kernel
theorem dX5_isOpen_54 : decode cX5_isOpen 54 = .ok (.goto 4, 3) := by decide +kernel
theorem dX5_isOpen_57 : decode cX5_isOpen 57 = .ok (.iconst 0, 1) := by decide +kernel
theorem dX5_isOpen_58 : decode cX5_isOpen 58 = .ok (.istore 8, 2) := by decide +kernel
theorem dX5_isOpen_60 : decode cX5_isOpen 60 = .ok (.iload 7, 2) := by decide +kernel
theorem dX5_isOpen_62 : decode cX5_isOpen 62 = .ok (.iconst 3, 1) := by decide +kernel
theorem dX5_isOpen_63 : decode cX5_isOpen 63 = .ok (.if_icmp .ne 5, 3) := by decide +kernel
theorem dX5_isOpen_66 : decode cX5_isOpen 66 = .ok (.iconst 1, 1) := by decide +kernel
theorem dX5_isOpen_67 : decode cX5_isOpen 67 = .ok (.ireturn, 1) := by decide +kernel
theorem dX5_isOpen_68 : decode cX5_isOpen 68 = .ok (.iload 7, 2) := by decide +kernel
theorem dX5_isOpen_70 : decode cX5_isOpen 70 = .ok (.ifCond .ne 26, 3) := by decide +kernel
theorem dX5_isOpen_73 : decode cX5_isOpen 73 = .ok (.aload_n 0, 1) := by decide +kernel
theorem dX5_isOpen_74 : decode cX5_isOpen 74 = .ok (.iload_n 1, 1) := by decide +kernel
theorem dX5_isOpen_75 : decode cX5_isOpen 75 = .ok (.iload 6, 2) := by decide +kernel
theorem dX5_isOpen_77 : decode cX5_isOpen 77 = .ok (.invokevirtual 113, 3) := by decide +kernel
theorem dX5_isOpen_80 : decode cX5_isOpen 80 = .ok (.aload_n 0, 1) := by decide +kernel
theorem dX5_isOpen_81 : decode cX5_isOpen 81 = .ok (.iload_n 1, 1) := by decide +kernel
theorem dX5_isOpen_82 : decode cX5_isOpen 82 = .ok (.iload 4, 2) := by decide +kernel
theorem dX5_isOpen_84 : decode cX5_isOpen 84 = .ok (.invokevirtual 113, 3) := by decide +kernel
theorem dX5_isOpen_87 : decode cX5_isOpen 87 = .ok (.if_icmp .ne 7, 3) := by decide +kernel
theorem dX5_isOpen_90 : decode cX5_isOpen 90 = .ok (.iconst 1, 1) := by decide +kernel
theorem dX5_isOpen_91 : decode cX5_isOpen 91 = .ok (.goto 4, 3) := by decide +kernel
theorem dX5_isOpen_94 : decode cX5_isOpen 94 = .ok (.iconst 0, 1) := by decide +kernel
theorem dX5_isOpen_95 : decode cX5_isOpen 95 = .ok (.ireturn, 1) := by decide +kernel
theorem dX5_isOpen_96 : decode cX5_isOpen 96 = .ok (.iload 8, 2) := by decide +kernel
theorem dX5_isOpen_98 : decode cX5_isOpen 98 = .ok (.ifCond .eq 5, 3) := by decide +kernel
theorem dX5_isOpen_101 : decode cX5_isOpen 101 = .ok (.iconst 1, 1) := by decide +kernel
theorem dX5_isOpen_102 : decode cX5_isOpen 102 = .ok (.ireturn, 1) := by decide +kernel
theorem dX5_isOpen_103 : decode cX5_isOpen 103 = .ok (.iload 7, 2) := by decide +kernel
theorem dX5_isOpen_105 : decode cX5_isOpen 105 = .ok (.iconst 2, 1) := by decide +kernel
theorem dX5_isOpen_106 : decode cX5_isOpen 106 = .ok (.if_icmp .ne 56, 3) := by decide +kernel
theorem dX5_isOpen_109 : decode cX5_isOpen 109 = .ok (.aload_n 0, 1) := by decide +kernel
theorem dX5_isOpen_110 : decode cX5_isOpen 110 = .ok (.iload_n 1, 1) := by decide +kernel
theorem dX5_isOpen_111 : decode cX5_isOpen 111 = .ok (.iload 4, 2) := by decide +kernel
theorem dX5_isOpen_113 : decode cX5_isOpen 113 = .ok (.invokevirtual 107, 3) := by decide +kernel
theorem dX5_isOpen_116 : decode cX5_isOpen 116 = .ok (.iload 6, 2) := by decide +kernel
theorem dX5_isOpen_118 : decode cX5_isOpen 118 = .ok (.invokestatic 94, 3) := by decide +kernel
theorem dX5_isOpen_121 : decode cX5_isOpen 121 = .ok (.ifCond .eq 41, 3) := by decide +kernel
theorem dX5_isOpen_124 : decode cX5_isOpen 124 = .ok (.aload_n 0, 1) := by decide +kernel
theorem dX5_isOpen_125 : decode cX5_isOpen 125 = .ok (.getfield 47, 3) := by decide +kernel
theorem dX5_isOpen_128 : decode cX5_isOpen 128 = .ok (.iload 5, 2) := by decide +kernel
theorem dX5_isOpen_130 : decode cX5_isOpen 130 = .ok (.iaload, 1) := by decide +kernel
theorem dX5_isOpen_131 : decode cX5_isOpen 131 = .ok (.iconst 1, 1) := by decide +kernel
theorem dX5_isOpen_132 : decode cX5_isOpen 132 = .ok (.iand, 1) := by decide +kernel
theorem dX5_isOpen_133 : decode cX5_isOpen 133 = .ok (.ifCond .ne 25, 3) := by decide +kernel
theorem dX5_isOpen_136 : decode cX5_isOpen 136 = .ok (.aload_n 0, 1) := by decide +kernel
theorem dX5_isOpen_137 : decode cX5_isOpen 137 = .ok (.iload_n 1, 1) := by decide +kernel
theorem dX5_isOpen_138 : decode cX5_isOpen 138 = .ok (.iload_n 3, 1) := by decide +kernel
theorem dX5_isOpen_139 : decode cX5_isOpen 139 = .ok (.iload 4, 2) := by decide +kernel
theorem dX5_isOpen_141 : decode cX5_isOpen 141 = .ok (.invokevirtual 116, 3) := by decide +kernel
theorem dX5_isOpen_144 : decode cX5_isOpen 144 = .ok (.ifCond .ne 14, 3) := by decide +kernel
theorem dX5_isOpen_147 : decode cX5_isOpen 147 = .ok (.aload_n 0, 1) := by decide +kernel
theorem dX5_isOpen_148 : decode cX5_isOpen 148 = .ok (.iload_n 1, 1) := by decide +kernel
theorem dX5_isOpen_149 : decode cX5_isOpen 149 = .ok (.iload 4, 2) := by decide +kernel
theorem dX5_isOpen_151 : decode cX5_isOpen 151 = .ok (.iload_n 3, 1) := by decide +kernel
theorem dX5_isOpen_152 : decode cX5_isOpen 152 = .ok (.invokevirtual 116, 3) := by decide +kernel
theorem dX5_isOpen_155 : decode cX5_isOpen 155 = .ok (.ifCond .eq 7, 3) := by decide +kernel
theorem dX5_isOpen_158 : decode cX5_isOpen 158 = .ok (.iconst 1, 1) := by decide +kernel
theorem dX5_isOpen_159 : decode cX5_isOpen 159 = .ok (.goto 4, 3) := by decide +kernel
theorem dX5_isOpen_162 : decode cX5_isOpen 162 = .ok (.iconst 0, 1) := by decide +kernel
theorem dX5_isOpen_163 : decode cX5_isOpen 163 = .ok (.ireturn, 1) := by decide +kernel
theorem dX5_field_0 : decode cX5_field 0 = .ok (.iconst 1, 1) := by decide +kernel
theorem dX5_field_1 : decode cX5_field 1 = .ok (.istore 4, 2) := by decide +kernel
theorem dX5_field_3 : decode cX5_field 3 = .ok (.iconst 0, 1) := by decide +kernel
theorem dX5_field_4 : decode cX5_field 4 = .ok (.istore 5, 2) := by decide +kernel
theorem dX5_field_6 : decode cX5_field 6 = .ok (.aload_n 0, 1) := by decide +kernel
theorem dX5_field_7 : decode cX5_field 7 = .ok (.getfield 62, 3) := by decide +kernel
theorem dX5_field_10 : decode cX5_field 10 = .ok (.iconst 0, 1) := by decide +kernel
theorem dX5_field_11 : decode cX5_field 11 = .ok (.iload_n 2, 1) := by decide +kernel
theorem dX5_field_12 : decode cX5_field 12 = .ok (.iastore, 1) := by decide +kernel
theorem dX5_field_13 : decode cX5_field 13 = .ok (.iload 4, 2) := by decide +kernel
theorem dX5_field_15 : decode cX5_field 15 = .ok (.ifCond .le 143, 3) := by decide +kernel
theorem dX5_field_18 : decode cX5_field 18 = .ok (.iinc 4 (-1), 3) := by decide +kernel
theorem dX5_field_21 : decode cX5_field 21 = .ok (.aload_n 0, 1) := by decide +kernel
theorem dX5_field_22 : decode cX5_field 22 = .ok (.getfield 62, 3) := by decide +kernel
theorem dX5_field_25 : decode cX5_field 25 = .ok (.iload 4, 2) := by decide +kernel
theorem dX5_field_27 : decode cX5_field 27 = .ok (.iaload, 1) := by decide +kernel
theorem dX5_field_28 : decode cX5_field 28 = .ok (.istore 6, 2) := by decide +kernel
theorem dX5_field_30 : decode cX5_field 30 = .ok (.bipush 12, 2) := by decide +kernel
theorem dX5_field_32 : decode cX5_field 32 = .ok (.iload_n 1, 1) := by decide +kernel
theorem dX5_field_33 : decode cX5_field 33 = .ok (.imul, 1) := by decide +kernel
theorem dX5_field_34 : decode cX5_field 34 = .ok (.iload 6, 2) := by decide +kernel
theorem dX5_field_36 : decode cX5_field 36 = .ok (.iadd, 1) := by decide +kernel
theorem dX5_field_37 : decode cX5_field 37 = .ok (.istore 7, 2) := by decide +kernel
theorem dX5_field_39 : decode cX5_field 39 = .ok (.iload 5, 2) := by decide +kernel
theorem dX5_field_41 : decode cX5_field 41 = .ok (.iload 6, 2) := by decide +kernel
theorem dX5_field_43 : decode cX5_field 43 = .ok (.invokestatic 94, 3) := by decide +kernel
theorem dX5_field_46 : decode cX5_field 46 = .ok (.ifCond .eq 6, 3) := by decide +kernel
theorem dX5_field_49 : decode cX5_field 49 = .ok (.goto (-36), 3) := by decide +kernel
theorem dX5_field_52 : decode cX5_field 52 = .ok (.iload 5, 2) := by decide +kernel
theorem dX5_field_54 : decode cX5_field 54 = .ok (.iconst 1, 1) := by decide +kernel
theorem dX5_field_55 : decode cX5_field 55 = .ok (.iload 6, 2) := by decide +kernel
theorem dX5_field_57 : decode cX5_field 57 = .ok (.ishl, 1) := by decide +kernel
theorem dX5_field_58 : decode cX5_field 58 = .ok (.ior, 1) := by decide +kernel
theorem dX5_field_59 : decode cX5_field 59 = .ok (.istore 5, 2) := by decide +kernel
theorem dX5_field_61 : decode cX5_field 61 = .ok (.aload_n 0, 1) := by decide +kernel
theorem dX5_field_62 : decode cX5_field 62 = .ok (.iload_n 1, 1) := by decide +kernel
theorem dX5_field_63 : decode cX5_field 63 = .ok (.iload 6, 2) := by decide +kernel
theorem dX5_field_65 : decode cX5_field 65 = .ok (.iconst 0, 1) := by decide +kernel
theorem dX5_field_66 : decode cX5_field 66 = .ok (.iload_n 3, 1) := by decide +kernel
theorem dX5_field_67 : decode cX5_field 67 = .ok (.invokevirtual 84, 3) := by decide +kernel
theorem dX5_field_70 : decode cX5_field 70 = .ok (.istore 8, 2) := by decide +kernel
theorem dX5_field_72 : decode cX5_field 72 = .ok (.iload 8, 2) := by decide +kernel
theorem dX5_field_74 : decode cX5_field 74 = .ok (.ifCond .lt 6, 3) := by decide +kernel
theorem dX5_field_77 : decode cX5_field 77 = .ok (.iload 8, 2) := by decide +kernel
theorem dX5_field_79 : decode cX5_field 79 = .ok (.ireturn, 1) := by decide +kernel
theorem dX5_field_80 : decode cX5_field 80 = .ok (.aload_n 0, 1) := by decide +kernel
theorem dX5_field_81 : decode cX5_field 81 = .ok (.getfield 20, 3) := by decide +kernel
theorem dX5_field_84 : decode cX5_field 84 = .ok (.iload 7, 2) := by decide +kernel
theorem dX5_field_86 : decode cX5_field 86 = .ok (.iaload, 1) := by decide +kernel
theorem dX5_field_87 : decode cX5_field 87 = .ok (.ifCond .lt 18, 3) := by decide +kernel
theorem dX5_field_90 : decode cX5_field 90 = .ok (.aload_n 0, 1) := by decide +kernel
theorem dX5_field_91 : decode cX5_field 91 = .ok (.iload 4, 2) := by decide +kernel
theorem dX5_field_93 : decode cX5_field 93 = .ok (.aload_n 0, 1) := by decide +kernel
theorem dX5_field_94 : decode cX5_field 94 = .ok (.getfield 20, 3) := by decide +kernel
theorem dX5_field_97 : decode cX5_field 97 = .ok (.iload 7, 2) := by decide +kernel
theorem dX5_field_99 : decode cX5_field 99 = .ok (.iaload, 1) := by decide +kernel
theorem dX5_field_100 : decode cX5_field 100 = .ok (.invokevirtual 120, 3) := by decide +kernel
theorem dX5_field_103 : decode cX5_field 103 = .ok (.istore 4, 2) := by decide +kernel
theorem dX5_field_105 : decode cX5_field 105 = .ok (.bipush 11, 2) := by decide +kernel
theorem dX5_field_107 : decode cX5_field 107 = .ok (.istore 9, 2) := by decide +kernel
theorem dX5_field_109 : decode cX5_field 109 = .ok (.iload 9, 2) := by decide +kernel
theorem dX5_field_111 : decode cX5_field 111 = .ok (.ifCond .lt 44, 3) := by decide +kernel
theorem dX5_field_114 : decode cX5_field 114 = .ok (.aload_n 0, 1) := by decide +kernel
theorem dX5_field_115 : decode cX5_field 115 = .ok (.getfield 23, 3) := by decide +kernel
theorem dX5_field_118 : decode cX5_field 118 = .ok (.iload 7, 2) := by decide +kernel
theorem dX5_field_120 : decode cX5_field 120 = .ok (.iaload, 1) := by decide +kernel
theorem dX5_field_121 : decode cX5_field 121 = .ok (.iload 9, 2) := by decide +kernel
theorem dX5_field_123 : decode cX5_field 123 = .ok (.invokestatic 94, 3) := by decide +kernel
theorem dX5_field_126 : decode cX5_field 126 = .ok (.ifCond .eq 23, 3) := by decide +kernel
theorem dX5_field_129 : decode cX5_field 129 = .ok (.iload 5, 2) := by decide +kernel
theorem dX5_field_131 : decode cX5_field 131 = .ok (.iload 9, 2) := by decide +kernel
theorem dX5_field_133 : decode cX5_field 133 = .ok (.invokestatic 94, 3) := by decide +kernel
theorem dX5_field_136 : decode cX5_field 136 = .ok (.ifCond .ne 13, 3) := by decide +kernel
theorem dX5_field_139 : decode cX5_field 139 = .ok (.aload_n 0, 1) := by decide +kernel
theorem dX5_field_140 : decode cX5_field 140 = .ok (.iload 4, 2) := by decide +kernel
theorem dX5_field_142 : decode cX5_field 142 = .ok (.iload 9, 2) := by decide +kernel
theorem dX5_field_144 : decode cX5_field 144 = .ok (.invokevirtual 120, 3) := by decide +kernel
theorem dX5_field_147 : decode cX5_field 147 = .ok (.istore 4, 2) := by decide +kernel
theorem dX5_field_149 : decode cX5_field 149 = .ok (.iinc 9 (-1), 3) := by decide +kernel
theorem dX5_field_152 : decode cX5_field 152 = .ok (.goto (-43), 3) := by decide +kernel
theorem dX5_field_155 : decode cX5_field 155 = .ok (.goto (-142), 3) := by decide +kernel
theorem dX5_field_158 : decode cX5_field 158 = .ok (.iconst (-1), 1) := by decide +kernel
theorem dX5_field_159 : decode cX5_field 159 = .ok (.ireturn, 1) := by decide +kernel
theorem dX5_lay_0 : decode cX5_lay 0 = .ok (.iconst 0, 1) := by decide +kernel
theorem dX5_lay_1 : decode cX5_lay 1 = .ok (.istore_n 3, 1) := by decide +kernel
theorem dX5_lay_2 : decode cX5_lay 2 = .ok (.iconst 0, 1) := by decide +kernel
theorem dX5_lay_3 : decode cX5_lay 3 = .ok (.istore 4, 2) := by decide +kernel
theorem dX5_lay_5 : decode cX5_lay 5 = .ok (.iload 4, 2) := by decide +kernel
theorem dX5_lay_7 : decode cX5_lay 7 = .ok (.iload_n 1, 1) := by decide +kernel
theorem dX5_lay_8 : decode cX5_lay 8 = .ok (.if_icmp .ge 39, 3) := by decide +kernel
theorem dX5_lay_11 : decode cX5_lay 11 = .ok (.aload_n 0, 1) := by decide +kernel
theorem dX5_lay_12 : decode cX5_lay 12 = .ok (.getfield 62, 3) := by decide +kernel
theorem dX5_lay_15 : decode cX5_lay 15 = .ok (.iload 4, 2) := by decide +kernel
theorem dX5_lay_17 : decode cX5_lay 17 = .ok (.iaload, 1) := by decide +kernel
theorem dX5_lay_18 : decode cX5_lay 18 = .ok (.iload_n 2, 1) := by decide +kernel
theorem dX5_lay_19 : decode cX5_lay 19 = .ok (.if_icmp .ne 6, 3) := by decide +kernel
theorem dX5_lay_22 : decode cX5_lay 22 = .ok (.goto 19, 3) := by decide +kernel
theorem dX5_lay_25 : decode cX5_lay 25 = .ok (.aload_n 0, 1) := by decide +kernel
theorem dX5_lay_26 : decode cX5_lay 26 = .ok (.getfield 62, 3) := by decide +kernel
theorem dX5_lay_29 : decode cX5_lay 29 = .ok (.iload_n 3, 1) := by decide +kernel
theorem dX5_lay_30 : decode cX5_lay 30 = .ok (.aload_n 0, 1) := by decide +kernel
theorem dX5_lay_31 : decode cX5_lay 31 = .ok (.getfield 62, 3) := by decide +kernel
theorem dX5_lay_34 : decode cX5_lay 34 = .ok (.iload 4, 2) := by decide +kernel
theorem dX5_lay_36 : decode cX5_lay 36 = .ok (.iaload, 1) := by decide +kernel
theorem dX5_lay_37 : decode cX5_lay 37 = .ok (.iastore, 1) := by decide +kernel
theorem dX5_lay_38 : decode cX5_lay 38 = .ok (.iinc 3 1, 3) := by decide +kernel
theorem dX5_lay_41 : decode cX5_lay 41 = .ok (.iinc 4 1, 3) := by decide +kernel
theorem dX5_lay_44 : decode cX5_lay 44 = .ok (.goto (-39), 3) := by decide +kernel
theorem dX5_lay_47 : decode cX5_lay 47 = .ok (.aload_n 0, 1) := by decide +kernel
theorem dX5_lay_48 : decode cX5_lay 48 = .ok (.getfield 62, 3) := by decide +kernel
theorem dX5_lay_51 : decode cX5_lay 51 = .ok (.iload_n 3, 1) := by decide +kernel
theorem dX5_lay_52 : decode cX5_lay 52 = .ok (.iload_n 2, 1) := by decide +kernel
theorem dX5_lay_53 : decode cX5_lay 53 = .ok (.iastore, 1) := by decide +kernel
theorem dX5_lay_54 : decode cX5_lay 54 = .ok (.iload_n 3, 1) := by decide +kernel
theorem dX5_lay_55 : decode cX5_lay 55 = .ok (.iconst 1, 1) := by decide +kernel
theorem dX5_lay_56 : decode cX5_lay 56 = .ok (.iadd, 1) := by decide +kernel
theorem dX5_lay_57 : decode cX5_lay 57 = .ok (.ireturn, 1) := by decide +kernel
theorem dX5_offers_0 : decode cX5_offers 0 = .ok (.aload_n 0, 1) := by decide +kernel
theorem dX5_offers_1 : decode cX5_offers 1 = .ok (.iload_n 1, 1) := by decide +kernel
theorem dX5_offers_2 : decode cX5_offers 2 = .ok (.iload_n 2, 1) := by decide +kernel
theorem dX5_offers_3 : decode cX5_offers 3 = .ok (.iconst 1, 1) := by decide +kernel
theorem dX5_offers_4 : decode cX5_offers 4 = .ok (.iload_n 3, 1) := by decide +kernel
theorem dX5_offers_5 : decode cX5_offers 5 = .ok (.invokevirtual 84, 3) := by decide +kernel
theorem dX5_offers_8 : decode cX5_offers 8 = .ok (.istore 4, 2) := by decide +kernel
theorem dX5_offers_10 : decode cX5_offers 10 = .ok (.iload 4, 2) := by decide +kernel
theorem dX5_offers_12 : decode cX5_offers 12 = .ok (.ifCond .lt 39, 3) := by decide +kernel
theorem dX5_offers_15 : decode cX5_offers 15 = .ok (.aload_n 0, 1) := by decide +kernel
theorem dX5_offers_16 : decode cX5_offers 16 = .ok (.getfield 44, 3) := by decide +kernel
theorem dX5_offers_19 : decode cX5_offers 19 = .ok (.bipush 30, 2) := by decide +kernel
theorem dX5_offers_21 : decode cX5_offers 21 = .ok (.iload_n 1, 1) := by decide +kernel
theorem dX5_offers_22 : decode cX5_offers 22 = .ok (.imul, 1) := by decide +kernel
theorem dX5_offers_23 : decode cX5_offers 23 = .ok (.iload 4, 2) := by decide +kernel
theorem dX5_offers_25 : decode cX5_offers 25 = .ok (.iadd, 1) := by decide +kernel
theorem dX5_offers_26 : decode cX5_offers 26 = .ok (.iaload, 1) := by decide +kernel
theorem dX5_offers_27 : decode cX5_offers 27 = .ok (.ifCond .eq 24, 3) := by decide +kernel
theorem dX5_offers_30 : decode cX5_offers 30 = .ok (.aload_n 0, 1) := by decide +kernel
theorem dX5_offers_31 : decode cX5_offers 31 = .ok (.getfield 47, 3) := by decide +kernel
theorem dX5_offers_34 : decode cX5_offers 34 = .ok (.bipush 30, 2) := by decide +kernel
theorem dX5_offers_36 : decode cX5_offers 36 = .ok (.iload_n 1, 1) := by decide +kernel
theorem dX5_offers_37 : decode cX5_offers 37 = .ok (.imul, 1) := by decide +kernel
theorem dX5_offers_38 : decode cX5_offers 38 = .ok (.iload 4, 2) := by decide +kernel
theorem dX5_offers_40 : decode cX5_offers 40 = .ok (.iadd, 1) := by decide +kernel
theorem dX5_offers_41 : decode cX5_offers 41 = .ok (.iaload, 1) := by decide +kernel
theorem dX5_offers_42 : decode cX5_offers 42 = .ok (.iconst 1, 1) := by decide +kernel
theorem dX5_offers_43 : decode cX5_offers 43 = .ok (.iand, 1) := by decide +kernel
theorem dX5_offers_44 : decode cX5_offers 44 = .ok (.ifCond .ne 7, 3) := by decide +kernel
theorem dX5_offers_47 : decode cX5_offers 47 = .ok (.iconst 1, 1) := by decide +kernel
theorem dX5_offers_48 : decode cX5_offers 48 = .ok (.goto 4, 3) := by decide +kernel
theorem dX5_offers_51 : decode cX5_offers 51 = .ok (.iconst 0, 1) := by decide +kernel
theorem dX5_offers_52 : decode cX5_offers 52 = .ok (.ireturn, 1) := by decide +kernel
theorem dX5_specific_0 : decode cX5_specific 0 = .ok (.iconst 0, 1) := by decide +kernel
theorem dX5_specific_1 : decode cX5_specific 1 = .ok (.istore 4, 2) := by decide +kernel
theorem dX5_specific_3 : decode cX5_specific 3 = .ok (.iconst 0, 1) := by decide +kernel
theorem dX5_specific_4 : decode cX5_specific 4 = .ok (.istore 5, 2) := by decide +kernel
theorem dX5_specific_6 : decode cX5_specific 6 = .ok (.aload_n 0, 1) := by decide +kernel
theorem dX5_specific_7 : decode cX5_specific 7 = .ok (.iload_n 1, 1) := by decide +kernel
theorem dX5_specific_8 : decode cX5_specific 8 = .ok (.iload_n 2, 1) := by decide +kernel
theorem dX5_specific_9 : decode cX5_specific 9 = .ok (.invokevirtual 110, 3) := by decide +kernel
theorem dX5_specific_12 : decode cX5_specific 12 = .ok (.istore 6, 2) := by decide +kernel
theorem dX5_specific_14 : decode cX5_specific 14 = .ok (.iconst 0, 1) := by decide +kernel
theorem dX5_specific_15 : decode cX5_specific 15 = .ok (.istore 7, 2) := by decide +kernel
theorem dX5_specific_17 : decode cX5_specific 17 = .ok (.iload 7, 2) := by decide +kernel
theorem dX5_specific_19 : decode cX5_specific 19 = .ok (.bipush 12, 2) := by decide +kernel
theorem dX5_specific_21 : decode cX5_specific 21 = .ok (.if_icmp .ge 39, 3) := by decide +kernel
theorem dX5_specific_24 : decode cX5_specific 24 = .ok (.iload 6, 2) := by decide +kernel
theorem dX5_specific_26 : decode cX5_specific 26 = .ok (.iload 7, 2) := by decide +kernel
theorem dX5_specific_28 : decode cX5_specific 28 = .ok (.invokestatic 94, 3) := by decide +kernel
theorem dX5_specific_31 : decode cX5_specific 31 = .ok (.ifCond .eq 23, 3) := by decide +kernel
theorem dX5_specific_34 : decode cX5_specific 34 = .ok (.aload_n 0, 1) := by decide +kernel
theorem dX5_specific_35 : decode cX5_specific 35 = .ok (.iload_n 1, 1) := by decide +kernel
theorem dX5_specific_36 : decode cX5_specific 36 = .ok (.iload 7, 2) := by decide +kernel
theorem dX5_specific_38 : decode cX5_specific 38 = .ok (.iload_n 3, 1) := by decide +kernel
theorem dX5_specific_39 : decode cX5_specific 39 = .ok (.invokevirtual 123, 3) := by decide +kernel
theorem dX5_specific_42 : decode cX5_specific 42 = .ok (.ifCond .eq 12, 3) := by decide +kernel
theorem dX5_specific_45 : decode cX5_specific 45 = .ok (.iload 4, 2) := by decide +kernel
theorem dX5_specific_47 : decode cX5_specific 47 = .ok (.iconst 1, 1) := by decide +kernel
theorem dX5_specific_48 : decode cX5_specific 48 = .ok (.iload 7, 2) := by decide +kernel
theorem dX5_specific_50 : decode cX5_specific 50 = .ok (.ishl, 1) := by decide +kernel
theorem dX5_specific_51 : decode cX5_specific 51 = .ok (.ior, 1) := by decide +kernel
theorem dX5_specific_52 : decode cX5_specific 52 = .ok (.istore 4, 2) := by decide +kernel
theorem dX5_specific_54 : decode cX5_specific 54 = .ok (.iinc 7 1, 3) := by decide +kernel
theorem dX5_specific_57 : decode cX5_specific 57 = .ok (.goto (-40), 3) := by decide +kernel
theorem dX5_specific_60 : decode cX5_specific 60 = .ok (.iconst 0, 1) := by decide +kernel
theorem dX5_specific_61 : decode cX5_specific 61 = .ok (.istore 7, 2) := by decide +kernel
theorem dX5_specific_63 : decode cX5_specific 63 = .ok (.iload 7, 2) := by decide +kernel
theorem dX5_specific_65 : decode cX5_specific 65 = .ok (.bipush 12, 2) := by decide +kernel
theorem dX5_specific_67 : decode cX5_specific 67 = .ok (.if_icmp .ge 80, 3) := by decide +kernel
theorem dX5_specific_70 : decode cX5_specific 70 = .ok (.iload 4, 2) := by decide +kernel
theorem dX5_specific_72 : decode cX5_specific 72 = .ok (.iload 7, 2) := by decide +kernel
theorem dX5_specific_74 : decode cX5_specific 74 = .ok (.invokestatic 94, 3) := by decide +kernel
theorem dX5_specific_77 : decode cX5_specific 77 = .ok (.istore 8, 2) := by decide +kernel
theorem dX5_specific_79 : decode cX5_specific 79 = .ok (.iconst 0, 1) := by decide +kernel
theorem dX5_specific_80 : decode cX5_specific 80 = .ok (.istore 9, 2) := by decide +kernel
theorem dX5_specific_82 : decode cX5_specific 82 = .ok (.iload 9, 2) := by decide +kernel
theorem dX5_specific_84 : decode cX5_specific 84 = .ok (.bipush 12, 2) := by decide +kernel
theorem dX5_specific_86 : decode cX5_specific 86 = .ok (.if_icmp .ge 41, 3) := by decide +kernel
theorem dX5_specific_89 : decode cX5_specific 89 = .ok (.iload 9, 2) := by decide +kernel
theorem dX5_specific_91 : decode cX5_specific 91 = .ok (.iload 7, 2) := by decide +kernel
theorem dX5_specific_93 : decode cX5_specific 93 = .ok (.if_icmp .eq 28, 3) := by decide +kernel
theorem dX5_specific_96 : decode cX5_specific 96 = .ok (.iload 4, 2) := by decide +kernel
theorem dX5_specific_98 : decode cX5_specific 98 = .ok (.iload 9, 2) := by decide +kernel
theorem dX5_specific_100 : decode cX5_specific 100 = .ok (.invokestatic 94, 3) := by decide +kernel
theorem dX5_specific_103 : decode cX5_specific 103 = .ok (.ifCond .eq 18, 3) := by decide +kernel
theorem dX5_specific_106 : decode cX5_specific 106 = .ok (.aload_n 0, 1) := by decide +kernel
theorem dX5_specific_107 : decode cX5_specific 107 = .ok (.iload_n 1, 1) := by decide +kernel
theorem dX5_specific_108 : decode cX5_specific 108 = .ok (.iload 9, 2) := by decide +kernel
theorem dX5_specific_110 : decode cX5_specific 110 = .ok (.iload 7, 2) := by decide +kernel
theorem dX5_specific_112 : decode cX5_specific 112 = .ok (.invokevirtual 116, 3) := by decide +kernel
theorem dX5_specific_115 : decode cX5_specific 115 = .ok (.ifCond .eq 6, 3) := by decide +kernel
theorem dX5_specific_118 : decode cX5_specific 118 = .ok (.iconst 0, 1) := by decide +kernel
theorem dX5_specific_119 : decode cX5_specific 119 = .ok (.istore 8, 2) := by decide +kernel
theorem dX5_specific_121 : decode cX5_specific 121 = .ok (.iinc 9 1, 3) := by decide +kernel
theorem dX5_specific_124 : decode cX5_specific 124 = .ok (.goto (-42), 3) := by decide +kernel
theorem dX5_specific_127 : decode cX5_specific 127 = .ok (.iload 8, 2) := by decide +kernel
theorem dX5_specific_129 : decode cX5_specific 129 = .ok (.ifCond .eq 12, 3) := by decide +kernel
theorem dX5_specific_132 : decode cX5_specific 132 = .ok (.iload 5, 2) := by decide +kernel
theorem dX5_specific_134 : decode cX5_specific 134 = .ok (.iconst 1, 1) := by decide +kernel
theorem dX5_specific_135 : decode cX5_specific 135 = .ok (.iload 7, 2) := by decide +kernel
theorem dX5_specific_137 : decode cX5_specific 137 = .ok (.ishl, 1) := by decide +kernel
theorem dX5_specific_138 : decode cX5_specific 138 = .ok (.ior, 1) := by decide +kernel
theorem dX5_specific_139 : decode cX5_specific 139 = .ok (.istore 5, 2) := by decide +kernel
theorem dX5_specific_141 : decode cX5_specific 141 = .ok (.iinc 7 1, 3) := by decide +kernel
theorem dX5_specific_144 : decode cX5_specific 144 = .ok (.goto (-81), 3) := by decide +kernel
theorem dX5_specific_147 : decode cX5_specific 147 = .ok (.iload 5, 2) := by decide +kernel
theorem dX5_specific_149 : decode cX5_specific 149 = .ok (.ireturn, 1) := by decide +kernel
theorem dX5_bodied_0 : decode cX5_bodied 0 = .ok (.iconst (-1), 1) := by decide +kernel
theorem dX5_bodied_1 : decode cX5_bodied 1 = .ok (.istore 4, 2) := by decide +kernel
theorem dX5_bodied_3 : decode cX5_bodied 3 = .ok (.iconst 0, 1) := by decide +kernel
theorem dX5_bodied_4 : decode cX5_bodied 4 = .ok (.istore 5, 2) := by decide +kernel
theorem dX5_bodied_6 : decode cX5_bodied 6 = .ok (.iload 5, 2) := by decide +kernel
theorem dX5_bodied_8 : decode cX5_bodied 8 = .ok (.bipush 12, 2) := by decide +kernel
theorem dX5_bodied_10 : decode cX5_bodied 10 = .ok (.if_icmp .ge 67, 3) := by decide +kernel
theorem dX5_bodied_13 : decode cX5_bodied 13 = .ok (.iload_n 2, 1) := by decide +kernel
theorem dX5_bodied_14 : decode cX5_bodied 14 = .ok (.iload 5, 2) := by decide +kernel
theorem dX5_bodied_16 : decode cX5_bodied 16 = .ok (.invokestatic 94, 3) := by decide +kernel
theorem dX5_bodied_19 : decode cX5_bodied 19 = .ok (.ifCond .ne 6, 3) := by decide +kernel
theorem dX5_bodied_22 : decode cX5_bodied 22 = .ok (.goto 49, 3) := by decide +kernel
theorem dX5_bodied_25 : decode cX5_bodied 25 = .ok (.aload_n 0, 1) := by decide +kernel
theorem dX5_bodied_26 : decode cX5_bodied 26 = .ok (.iload_n 1, 1) := by decide +kernel
theorem dX5_bodied_27 : decode cX5_bodied 27 = .ok (.iload 5, 2) := by decide +kernel
theorem dX5_bodied_29 : decode cX5_bodied 29 = .ok (.iconst 1, 1) := by decide +kernel
theorem dX5_bodied_30 : decode cX5_bodied 30 = .ok (.iload_n 3, 1) := by decide +kernel
theorem dX5_bodied_31 : decode cX5_bodied 31 = .ok (.invokevirtual 84, 3) := by decide +kernel
theorem dX5_bodied_34 : decode cX5_bodied 34 = .ok (.istore 6, 2) := by decide +kernel
theorem dX5_bodied_36 : decode cX5_bodied 36 = .ok (.aload_n 0, 1) := by decide +kernel
theorem dX5_bodied_37 : decode cX5_bodied 37 = .ok (.getfield 47, 3) := by decide +kernel
theorem dX5_bodied_40 : decode cX5_bodied 40 = .ok (.bipush 30, 2) := by decide +kernel
theorem dX5_bodied_42 : decode cX5_bodied 42 = .ok (.iload_n 1, 1) := by decide +kernel
theorem dX5_bodied_43 : decode cX5_bodied 43 = .ok (.imul, 1) := by decide +kernel
theorem dX5_bodied_44 : decode cX5_bodied 44 = .ok (.iload 6, 2) := by decide +kernel
theorem dX5_bodied_46 : decode cX5_bodied 46 = .ok (.iadd, 1) := by decide +kernel
theorem dX5_bodied_47 : decode cX5_bodied 47 = .ok (.iaload, 1) := by decide +kernel
theorem dX5_bodied_48 : decode cX5_bodied 48 = .ok (.iconst 2, 1) := by decide +kernel
theorem dX5_bodied_49 : decode cX5_bodied 49 = .ok (.iand, 1) := by decide +kernel
theorem dX5_bodied_50 : decode cX5_bodied 50 = .ok (.ifCond .eq 6, 3) := by decide +kernel
theorem dX5_bodied_53 : decode cX5_bodied 53 = .ok (.goto 18, 3) := by decide +kernel
theorem dX5_bodied_56 : decode cX5_bodied 56 = .ok (.iload 4, 2) := by decide +kernel
theorem dX5_bodied_58 : decode cX5_bodied 58 = .ok (.iconst (-1), 1) := by decide +kernel
theorem dX5_bodied_59 : decode cX5_bodied 59 = .ok (.if_icmp .ne 8, 3) := by decide +kernel
theorem dX5_bodied_62 : decode cX5_bodied 62 = .ok (.iload 6, 2) := by decide +kernel
theorem dX5_bodied_64 : decode cX5_bodied 64 = .ok (.goto 5, 3) := by decide +kernel
theorem dX5_bodied_67 : decode cX5_bodied 67 = .ok (.bipush (-2), 2) := by decide +kernel
theorem dX5_bodied_69 : decode cX5_bodied 69 = .ok (.istore 4, 2) := by decide +kernel
theorem dX5_bodied_71 : decode cX5_bodied 71 = .ok (.iinc 5 1, 3) := by decide +kernel
theorem dX5_bodied_74 : decode cX5_bodied 74 = .ok (.goto (-68), 3) := by decide +kernel
theorem dX5_bodied_77 : decode cX5_bodied 77 = .ok (.iload 4, 2) := by decide +kernel
theorem dX5_bodied_79 : decode cX5_bodied 79 = .ok (.ireturn, 1) := by decide +kernel
theorem dX5_find_0 : decode cX5_find 0 = .ok (.aload_n 0, 1) := by decide +kernel
theorem dX5_find_1 : decode cX5_find 1 = .ok (.getfield 13, 3) := by decide +kernel
theorem dX5_find_4 : decode cX5_find 4 = .ok (.bipush 12, 2) := by decide +kernel
theorem dX5_find_6 : decode cX5_find 6 = .ok (.iload_n 1, 1) := by decide +kernel
theorem dX5_find_7 : decode cX5_find 7 = .ok (.imul, 1) := by decide +kernel
theorem dX5_find_8 : decode cX5_find 8 = .ok (.iload_n 2, 1) := by decide +kernel
theorem dX5_find_9 : decode cX5_find 9 = .ok (.iadd, 1) := by decide +kernel
theorem dX5_find_10 : decode cX5_find 10 = .ok (.iaload, 1) := by decide +kernel
theorem dX5_find_11 : decode cX5_find 11 = .ok (.iconst 2, 1) := by decide +kernel
theorem dX5_find_12 : decode cX5_find 12 = .ok (.iand, 1) := by decide +kernel
theorem dX5_find_13 : decode cX5_find 13 = .ok (.ifCond .eq 7, 3) := by decide +kernel
theorem dX5_find_16 : decode cX5_find 16 = .ok (.iconst 1, 1) := by decide +kernel
theorem dX5_find_17 : decode cX5_find 17 = .ok (.goto 4, 3) := by decide +kernel
theorem dX5_find_20 : decode cX5_find 20 = .ok (.iconst 0, 1) := by decide +kernel
theorem dX5_find_21 : decode cX5_find 21 = .ok (.istore 4, 2) := by decide +kernel
theorem dX5_find_23 : decode cX5_find 23 = .ok (.iload_n 2, 1) := by decide +kernel
theorem dX5_find_24 : decode cX5_find 24 = .ok (.istore 5, 2) := by decide +kernel
theorem dX5_find_26 : decode cX5_find 26 = .ok (.iload 5, 2) := by decide +kernel
theorem dX5_find_28 : decode cX5_find 28 = .ok (.ifCond .lt 86, 3) := by decide +kernel
theorem dX5_find_31 : decode cX5_find 31 = .ok (.aload_n 0, 1) := by decide +kernel
theorem dX5_find_32 : decode cX5_find 32 = .ok (.iload_n 1, 1) := by decide +kernel
theorem dX5_find_33 : decode cX5_find 33 = .ok (.iload 5, 2) := by decide +kernel
theorem dX5_find_35 : decode cX5_find 35 = .ok (.iconst 1, 1) := by decide +kernel
theorem dX5_find_36 : decode cX5_find 36 = .ok (.iload_n 3, 1) := by decide +kernel
theorem dX5_find_37 : decode cX5_find 37 = .ok (.invokevirtual 84, 3) := by decide +kernel
theorem dX5_find_40 : decode cX5_find 40 = .ok (.istore 6, 2) := by decide +kernel
theorem dX5_find_42 : decode cX5_find 42 = .ok (.iload 6, 2) := by decide +kernel
theorem dX5_find_44 : decode cX5_find 44 = .ok (.ifCond .ge 6, 3) := by decide +kernel
theorem dX5_find_47 : decode cX5_find 47 = .ok (.goto 50, 3) := by decide +kernel
theorem dX5_find_50 : decode cX5_find 50 = .ok (.iload 4, 2) := by decide +kernel
theorem dX5_find_52 : decode cX5_find 52 = .ok (.ifCond .eq 42, 3) := by decide +kernel
theorem dX5_find_55 : decode cX5_find 55 = .ok (.iload 5, 2) := by decide +kernel
theorem dX5_find_57 : decode cX5_find 57 = .ok (.iload_n 2, 1) := by decide +kernel
theorem dX5_find_58 : decode cX5_find 58 = .ok (.if_icmp .eq 36, 3) := by decide +kernel
theorem dX5_find_61 : decode cX5_find 61 = .ok (.aload_n 0, 1) := by decide +kernel
theorem dX5_find_62 : decode cX5_find 62 = .ok (.getfield 44, 3) := by decide +kernel
theorem dX5_find_65 : decode cX5_find 65 = .ok (.bipush 30, 2) := by decide +kernel
theorem dX5_find_67 : decode cX5_find 67 = .ok (.iload_n 1, 1) := by decide +kernel
theorem dX5_find_68 : decode cX5_find 68 = .ok (.imul, 1) := by decide +kernel
theorem dX5_find_69 : decode cX5_find 69 = .ok (.iload 6, 2) := by decide +kernel
theorem dX5_find_71 : decode cX5_find 71 = .ok (.iadd, 1) := by decide +kernel
theorem dX5_find_72 : decode cX5_find 72 = .ok (.iaload, 1) := by decide +kernel
theorem dX5_find_73 : decode cX5_find 73 = .ok (.iconst 3, 1) := by decide +kernel
theorem dX5_find_74 : decode cX5_find 74 = .ok (.if_icmp .ne 23, 3) := by decide +kernel
theorem dX5_find_77 : decode cX5_find 77 = .ok (.aload_n 0, 1) := by decide +kernel
theorem dX5_find_78 : decode cX5_find 78 = .ok (.getfield 47, 3) := by decide +kernel
theorem dX5_find_81 : decode cX5_find 81 = .ok (.bipush 30, 2) := by decide +kernel
theorem dX5_find_83 : decode cX5_find 83 = .ok (.iload_n 1, 1) := by decide +kernel
theorem dX5_find_84 : decode cX5_find 84 = .ok (.imul, 1) := by decide +kernel
theorem dX5_find_85 : decode cX5_find 85 = .ok (.iload 6, 2) := by decide +kernel
theorem dX5_find_87 : decode cX5_find 87 = .ok (.iadd, 1) := by decide +kernel
theorem dX5_find_88 : decode cX5_find 88 = .ok (.iaload, 1) := by decide +kernel
theorem dX5_find_89 : decode cX5_find 89 = .ok (.iconst 1, 1) := by decide +kernel
theorem dX5_find_90 : decode cX5_find 90 = .ok (.iand, 1) := by decide +kernel
theorem dX5_find_91 : decode cX5_find 91 = .ok (.ifCond .ne 6, 3) := by decide +kernel
theorem dX5_find_94 : decode cX5_find 94 = .ok (.iload 6, 2) := by decide +kernel
theorem dX5_find_96 : decode cX5_find 96 = .ok (.ireturn, 1) := by decide +kernel
theorem dX5_find_97 : decode cX5_find 97 = .ok (.aload_n 0, 1) := by decide +kernel
theorem dX5_find_98 : decode cX5_find 98 = .ok (.getfield 20, 3) := by decide +kernel
theorem dX5_find_101 : decode cX5_find 101 = .ok (.bipush 12, 2) := by decide +kernel
theorem dX5_find_103 : decode cX5_find 103 = .ok (.iload_n 1, 1) := by decide +kernel
theorem dX5_find_104 : decode cX5_find 104 = .ok (.imul, 1) := by decide +kernel
theorem dX5_find_105 : decode cX5_find 105 = .ok (.iload 5, 2) := by decide +kernel
theorem dX5_find_107 : decode cX5_find 107 = .ok (.iadd, 1) := by decide +kernel
theorem dX5_find_108 : decode cX5_find 108 = .ok (.iaload, 1) := by decide +kernel
theorem dX5_find_109 : decode cX5_find 109 = .ok (.istore 5, 2) := by decide +kernel
theorem dX5_find_111 : decode cX5_find 111 = .ok (.goto (-85), 3) := by decide +kernel
theorem dX5_find_114 : decode cX5_find 114 = .ok (.aload_n 0, 1) := by decide +kernel
theorem dX5_find_115 : decode cX5_find 115 = .ok (.iload_n 1, 1) := by decide +kernel
theorem dX5_find_116 : decode cX5_find 116 = .ok (.aload_n 0, 1) := by decide +kernel
theorem dX5_find_117 : decode cX5_find 117 = .ok (.iload_n 1, 1) := by decide +kernel
theorem dX5_find_118 : decode cX5_find 118 = .ok (.iload_n 2, 1) := by decide +kernel
theorem dX5_find_119 : decode cX5_find 119 = .ok (.iload_n 3, 1) := by decide +kernel
theorem dX5_find_120 : decode cX5_find 120 = .ok (.invokevirtual 126, 3) := by decide +kernel
theorem dX5_find_123 : decode cX5_find 123 = .ok (.iload_n 3, 1) := by decide +kernel
theorem dX5_find_124 : decode cX5_find 124 = .ok (.invokevirtual 130, 3) := by decide +kernel
theorem dX5_find_127 : decode cX5_find 127 = .ok (.istore 5, 2) := by decide +kernel
theorem dX5_find_129 : decode cX5_find 129 = .ok (.iload 5, 2) := by decide +kernel
theorem dX5_find_131 : decode cX5_find 131 = .ok (.ifCond .lt 6, 3) := by decide +kernel
theorem dX5_find_134 : decode cX5_find 134 = .ok (.iload 5, 2) := by decide +kernel
theorem dX5_find_136 : decode cX5_find 136 = .ok (.ireturn, 1) := by decide +kernel
theorem dX5_find_137 : decode cX5_find 137 = .ok (.aload_n 0, 1) := by decide +kernel
theorem dX5_find_138 : decode cX5_find 138 = .ok (.iload_n 1, 1) := by decide +kernel
theorem dX5_find_139 : decode cX5_find 139 = .ok (.iload_n 2, 1) := by decide +kernel
theorem dX5_find_140 : decode cX5_find 140 = .ok (.invokevirtual 110, 3) := by decide +kernel
theorem dX5_find_143 : decode cX5_find 143 = .ok (.istore 6, 2) := by decide +kernel
theorem dX5_find_145 : decode cX5_find 145 = .ok (.iconst 0, 1) := by decide +kernel
theorem dX5_find_146 : decode cX5_find 146 = .ok (.istore 7, 2) := by decide +kernel
theorem dX5_find_148 : decode cX5_find 148 = .ok (.iload 7, 2) := by decide +kernel
theorem dX5_find_150 : decode cX5_find 150 = .ok (.aload_n 0, 1) := by decide +kernel
theorem dX5_find_151 : decode cX5_find 151 = .ok (.getfield 35, 3) := by decide +kernel
theorem dX5_find_154 : decode cX5_find 154 = .ok (.iload_n 1, 1) := by decide +kernel
theorem dX5_find_155 : decode cX5_find 155 = .ok (.iaload, 1) := by decide +kernel
theorem dX5_find_156 : decode cX5_find 156 = .ok (.if_icmp .ge 89, 3) := by decide +kernel
theorem dX5_find_159 : decode cX5_find 159 = .ok (.bipush 30, 2) := by decide +kernel
theorem dX5_find_161 : decode cX5_find 161 = .ok (.iload_n 1, 1) := by decide +kernel
theorem dX5_find_162 : decode cX5_find 162 = .ok (.imul, 1) := by decide +kernel
theorem dX5_find_163 : decode cX5_find 163 = .ok (.iload 7, 2) := by decide +kernel
theorem dX5_find_165 : decode cX5_find 165 = .ok (.iadd, 1) := by decide +kernel
theorem dX5_find_166 : decode cX5_find 166 = .ok (.istore 8, 2) := by decide +kernel
theorem dX5_find_168 : decode cX5_find 168 = .ok (.aload_n 0, 1) := by decide +kernel
theorem dX5_find_169 : decode cX5_find 169 = .ok (.getfield 32, 3) := by decide +kernel
theorem dX5_find_172 : decode cX5_find 172 = .ok (.iload 8, 2) := by decide +kernel
theorem dX5_find_174 : decode cX5_find 174 = .ok (.baload, 1) := by decide +kernel
theorem dX5_find_175 : decode cX5_find 175 = .ok (.ifCond .ne 64, 3) := by decide +kernel
theorem dX5_find_178 : decode cX5_find 178 = .ok (.aload_n 0, 1) := by decide +kernel
theorem dX5_find_179 : decode cX5_find 179 = .ok (.getfield 29, 3) := by decide +kernel
theorem dX5_find_182 : decode cX5_find 182 = .ok (.iload 8, 2) := by decide +kernel
theorem dX5_find_184 : decode cX5_find 184 = .ok (.baload, 1) := by decide +kernel
theorem dX5_find_185 : decode cX5_find 185 = .ok (.ifCond .eq 54, 3) := by decide +kernel
theorem dX5_find_188 : decode cX5_find 188 = .ok (.aload_n 0, 1) := by decide +kernel
theorem dX5_find_189 : decode cX5_find 189 = .ok (.getfield 41, 3) := by decide +kernel
theorem dX5_find_192 : decode cX5_find 192 = .ok (.iload 8, 2) := by decide +kernel
theorem dX5_find_194 : decode cX5_find 194 = .ok (.iaload, 1) := by decide +kernel
theorem dX5_find_195 : decode cX5_find 195 = .ok (.iload_n 3, 1) := by decide +kernel
theorem dX5_find_196 : decode cX5_find 196 = .ok (.if_icmp .ne 43, 3) := by decide +kernel
theorem dX5_find_199 : decode cX5_find 199 = .ok (.iload 6, 2) := by decide +kernel
theorem dX5_find_201 : decode cX5_find 201 = .ok (.aload_n 0, 1) := by decide +kernel
theorem dX5_find_202 : decode cX5_find 202 = .ok (.getfield 38, 3) := by decide +kernel
theorem dX5_find_205 : decode cX5_find 205 = .ok (.iload 8, 2) := by decide +kernel
theorem dX5_find_207 : decode cX5_find 207 = .ok (.iaload, 1) := by decide +kernel
theorem dX5_find_208 : decode cX5_find 208 = .ok (.invokestatic 94, 3) := by decide +kernel
theorem dX5_find_211 : decode cX5_find 211 = .ok (.ifCond .eq 28, 3) := by decide +kernel
theorem dX5_find_214 : decode cX5_find 214 = .ok (.aload_n 0, 1) := by decide +kernel
theorem dX5_find_215 : decode cX5_find 215 = .ok (.getfield 44, 3) := by decide +kernel
theorem dX5_find_218 : decode cX5_find 218 = .ok (.iload 8, 2) := by decide +kernel
theorem dX5_find_220 : decode cX5_find 220 = .ok (.iaload, 1) := by decide +kernel
theorem dX5_find_221 : decode cX5_find 221 = .ok (.ifCond .eq 18, 3) := by decide +kernel
theorem dX5_find_224 : decode cX5_find 224 = .ok (.aload_n 0, 1) := by decide +kernel
theorem dX5_find_225 : decode cX5_find 225 = .ok (.getfield 47, 3) := by decide +kernel
theorem dX5_find_228 : decode cX5_find 228 = .ok (.iload 8, 2) := by decide +kernel
theorem dX5_find_230 : decode cX5_find 230 = .ok (.iaload, 1) := by decide +kernel
theorem dX5_find_231 : decode cX5_find 231 = .ok (.iconst 1, 1) := by decide +kernel
theorem dX5_find_232 : decode cX5_find 232 = .ok (.iand, 1) := by decide +kernel
theorem dX5_find_233 : decode cX5_find 233 = .ok (.ifCond .ne 6, 3) := by decide +kernel
theorem dX5_find_236 : decode cX5_find 236 = .ok (.iload 7, 2) := by decide +kernel
theorem dX5_find_238 : decode cX5_find 238 = .ok (.ireturn, 1) := by decide +kernel
theorem dX5_find_239 : decode cX5_find 239 = .ok (.iinc 7 1, 3) := by decide +kernel
theorem dX5_find_242 : decode cX5_find 242 = .ok (.goto (-94), 3) := by decide +kernel
theorem dX5_find_245 : decode cX5_find 245 = .ok (.iconst (-1), 1) := by decide +kernel
theorem dX5_find_246 : decode cX5_find 246 = .ok (.ireturn, 1) := by decide +kernel
theorem dX5_resolved_0 : decode cX5_resolved 0 = .ok (.aload_n 0, 1) := by decide +kernel
theorem dX5_resolved_1 : decode cX5_resolved 1 = .ok (.getfield 50, 3) := by decide +kernel
theorem dX5_resolved_4 : decode cX5_resolved 4 = .ok (.iload_n 2, 1) := by decide +kernel
theorem dX5_resolved_5 : decode cX5_resolved 5 = .ok (.iaload, 1) := by decide +kernel
theorem dX5_resolved_6 : decode cX5_resolved 6 = .ok (.istore_n 3, 1) := by decide +kernel
theorem dX5_resolved_7 : decode cX5_resolved 7 = .ok (.aload_n 0, 1) := by decide +kernel
theorem dX5_resolved_8 : decode cX5_resolved 8 = .ok (.getfield 53, 3) := by decide +kernel
theorem dX5_resolved_11 : decode cX5_resolved 11 = .ok (.iload_n 2, 1) := by decide +kernel
theorem dX5_resolved_12 : decode cX5_resolved 12 = .ok (.iaload, 1) := by decide +kernel
theorem dX5_resolved_13 : decode cX5_resolved 13 = .ok (.istore 4, 2) := by decide +kernel
theorem dX5_resolved_15 : decode cX5_resolved 15 = .ok (.aload_n 0, 1) := by decide +kernel
theorem dX5_resolved_16 : decode cX5_resolved 16 = .ok (.getfield 56, 3) := by decide +kernel
theorem dX5_resolved_19 : decode cX5_resolved 19 = .ok (.iload_n 2, 1) := by decide +kernel
theorem dX5_resolved_20 : decode cX5_resolved 20 = .ok (.iaload, 1) := by decide +kernel
theorem dX5_resolved_21 : decode cX5_resolved 21 = .ok (.istore 5, 2) := by decide +kernel
theorem dX5_resolved_23 : decode cX5_resolved 23 = .ok (.bipush 12, 2) := by decide +kernel
theorem dX5_resolved_25 : decode cX5_resolved 25 = .ok (.iload_n 1, 1) := by decide +kernel
theorem dX5_resolved_26 : decode cX5_resolved 26 = .ok (.imul, 1) := by decide +kernel
theorem dX5_resolved_27 : decode cX5_resolved 27 = .ok (.iload 5, 2) := by decide +kernel
theorem dX5_resolved_29 : decode cX5_resolved 29 = .ok (.iadd, 1) := by decide +kernel
theorem dX5_resolved_30 : decode cX5_resolved 30 = .ok (.istore 6, 2) := by decide +kernel
theorem dX5_resolved_32 : decode cX5_resolved 32 = .ok (.aload_n 0, 1) := by decide +kernel
theorem dX5_resolved_33 : decode cX5_resolved 33 = .ok (.iload_n 1, 1) := by decide +kernel
theorem dX5_resolved_34 : decode cX5_resolved 34 = .ok (.iload 4, 2) := by decide +kernel
theorem dX5_resolved_36 : decode cX5_resolved 36 = .ok (.invokevirtual 104, 3) := by decide +kernel
theorem dX5_resolved_39 : decode cX5_resolved 39 = .ok (.istore 7, 2) := by decide +kernel
theorem dX5_resolved_41 : decode cX5_resolved 41 = .ok (.iload 7, 2) := by decide +kernel
theorem dX5_resolved_43 : decode cX5_resolved 43 = .ok (.bipush 64, 2) := by decide +kernel
theorem dX5_resolved_45 : decode cX5_resolved 45 = .ok (.if_icmp .lt 6, 3) := by decide +kernel
theorem dX5_resolved_48 : decode cX5_resolved 48 = .ok (.iload 7, 2) := by decide +kernel
theorem dX5_resolved_50 : decode cX5_resolved 50 = .ok (.ireturn, 1) := by decide +kernel
theorem dX5_resolved_51 : decode cX5_resolved 51 = .ok (.aload_n 0, 1) := by decide +kernel
theorem dX5_resolved_52 : decode cX5_resolved 52 = .ok (.iload_n 1, 1) := by decide +kernel
theorem dX5_resolved_53 : decode cX5_resolved 53 = .ok (.iload 5, 2) := by decide +kernel
theorem dX5_resolved_55 : decode cX5_resolved 55 = .ok (.invokevirtual 104, 3) := by decide +kernel
theorem dX5_resolved_58 : decode cX5_resolved 58 = .ok (.istore 7, 2) := by decide +kernel
theorem dX5_resolved_60 : decode cX5_resolved 60 = .ok (.iload 7, 2) := by decide +kernel
theorem dX5_resolved_62 : decode cX5_resolved 62 = .ok (.bipush 64, 2) := by decide +kernel
theorem dX5_resolved_64 : decode cX5_resolved 64 = .ok (.if_icmp .lt 6, 3) := by decide +kernel
theorem dX5_resolved_67 : decode cX5_resolved 67 = .ok (.iload 7, 2) := by decide +kernel
theorem dX5_resolved_69 : decode cX5_resolved 69 = .ok (.ireturn, 1) := by decide +kernel
theorem dX5_resolved_70 : decode cX5_resolved 70 = .ok (.aload_n 0, 1) := by decide +kernel
theorem dX5_resolved_71 : decode cX5_resolved 71 = .ok (.getfield 13, 3) := by decide +kernel
theorem dX5_resolved_74 : decode cX5_resolved 74 = .ok (.iload 6, 2) := by decide +kernel
theorem dX5_resolved_76 : decode cX5_resolved 76 = .ok (.iaload, 1) := by decide +kernel
theorem dX5_resolved_77 : decode cX5_resolved 77 = .ok (.iconst 1, 1) := by decide +kernel
theorem dX5_resolved_78 : decode cX5_resolved 78 = .ok (.iand, 1) := by decide +kernel
theorem dX5_resolved_79 : decode cX5_resolved 79 = .ok (.ifCond .ne 32, 3) := by decide +kernel
theorem dX5_resolved_82 : decode cX5_resolved 82 = .ok (.aload_n 0, 1) := by decide +kernel
theorem dX5_resolved_83 : decode cX5_resolved 83 = .ok (.getfield 17, 3) := by decide +kernel
theorem dX5_resolved_86 : decode cX5_resolved 86 = .ok (.iload 6, 2) := by decide +kernel
theorem dX5_resolved_88 : decode cX5_resolved 88 = .ok (.iaload, 1) := by decide +kernel
theorem dX5_resolved_89 : decode cX5_resolved 89 = .ok (.aload_n 0, 1) := by decide +kernel
theorem dX5_resolved_90 : decode cX5_resolved 90 = .ok (.getfield 17, 3) := by decide +kernel
theorem dX5_resolved_93 : decode cX5_resolved 93 = .ok (.bipush 12, 2) := by decide +kernel
theorem dX5_resolved_95 : decode cX5_resolved 95 = .ok (.iload_n 1, 1) := by decide +kernel
theorem dX5_resolved_96 : decode cX5_resolved 96 = .ok (.imul, 1) := by decide +kernel
theorem dX5_resolved_97 : decode cX5_resolved 97 = .ok (.iload 4, 2) := by decide +kernel
theorem dX5_resolved_99 : decode cX5_resolved 99 = .ok (.iadd, 1) := by decide +kernel
theorem dX5_resolved_100 : decode cX5_resolved 100 = .ok (.iaload, 1) := by decide +kernel
theorem dX5_resolved_101 : decode cX5_resolved 101 = .ok (.if_icmp .eq 10, 3) := by decide +kernel
theorem dX5_resolved_104 : decode cX5_resolved 104 = .ok (.iconst 4, 1) := by decide +kernel
theorem dX5_resolved_105 : decode cX5_resolved 105 = .ok (.iload 5, 2) := by decide +kernel
theorem dX5_resolved_107 : decode cX5_resolved 107 = .ok (.invokestatic 97, 3) := by decide +kernel
theorem dX5_resolved_110 : decode cX5_resolved 110 = .ok (.ireturn, 1) := by decide +kernel
theorem dX5_resolved_111 : decode cX5_resolved 111 = .ok (.iload_n 3, 1) := by decide +kernel
theorem dX5_resolved_112 : decode cX5_resolved 112 = .ok (.bipush 8, 2) := by decide +kernel
theorem dX5_resolved_114 : decode cX5_resolved 114 = .ok (.if_icmp .ne 10, 3) := by decide +kernel
theorem dX5_resolved_117 : decode cX5_resolved 117 = .ok (.iconst 0, 1) := by decide +kernel
theorem dX5_resolved_118 : decode cX5_resolved 118 = .ok (.iload 5, 2) := by decide +kernel
theorem dX5_resolved_120 : decode cX5_resolved 120 = .ok (.invokestatic 97, 3) := by decide +kernel
theorem dX5_resolved_123 : decode cX5_resolved 123 = .ok (.ireturn, 1) := by decide +kernel
theorem dX5_resolved_124 : decode cX5_resolved 124 = .ok (.aload_n 0, 1) := by decide +kernel
theorem dX5_resolved_125 : decode cX5_resolved 125 = .ok (.getfield 13, 3) := by decide +kernel
theorem dX5_resolved_128 : decode cX5_resolved 128 = .ok (.iload 6, 2) := by decide +kernel
theorem dX5_resolved_130 : decode cX5_resolved 130 = .ok (.iaload, 1) := by decide +kernel
theorem dX5_resolved_131 : decode cX5_resolved 131 = .ok (.iconst 2, 1) := by decide +kernel
theorem dX5_resolved_132 : decode cX5_resolved 132 = .ok (.iand, 1) := by decide +kernel
theorem dX5_resolved_133 : decode cX5_resolved 133 = .ok (.ifCond .eq 7, 3) := by decide +kernel
theorem dX5_resolved_136 : decode cX5_resolved 136 = .ok (.iconst 1, 1) := by decide +kernel
theorem dX5_resolved_137 : decode cX5_resolved 137 = .ok (.goto 4, 3) := by decide +kernel
theorem dX5_resolved_140 : decode cX5_resolved 140 = .ok (.iconst 0, 1) := by decide +kernel
theorem dX5_resolved_141 : decode cX5_resolved 141 = .ok (.istore 8, 2) := by decide +kernel
theorem dX5_resolved_143 : decode cX5_resolved 143 = .ok (.iload_n 3, 1) := by decide +kernel
theorem dX5_resolved_144 : decode cX5_resolved 144 = .ok (.iconst 4, 1) := by decide +kernel
theorem dX5_resolved_145 : decode cX5_resolved 145 = .ok (.if_icmp .ne 8, 3) := by decide +kernel
theorem dX5_resolved_148 : decode cX5_resolved 148 = .ok (.iload 8, 2) := by decide +kernel
theorem dX5_resolved_150 : decode cX5_resolved 150 = .ok (.ifCond .ne 14, 3) := by decide +kernel
theorem dX5_resolved_153 : decode cX5_resolved 153 = .ok (.iload_n 3, 1) := by decide +kernel
theorem dX5_resolved_154 : decode cX5_resolved 154 = .ok (.bipush 7, 2) := by decide +kernel
theorem dX5_resolved_156 : decode cX5_resolved 156 = .ok (.if_icmp .ne 15, 3) := by decide +kernel
theorem dX5_resolved_159 : decode cX5_resolved 159 = .ok (.iload 8, 2) := by decide +kernel
theorem dX5_resolved_161 : decode cX5_resolved 161 = .ok (.ifCond .ne 10, 3) := by decide +kernel
theorem dX5_resolved_164 : decode cX5_resolved 164 = .ok (.iconst 3, 1) := by decide +kernel
theorem dX5_resolved_165 : decode cX5_resolved 165 = .ok (.iload 5, 2) := by decide +kernel
theorem dX5_resolved_167 : decode cX5_resolved 167 = .ok (.invokestatic 97, 3) := by decide +kernel
theorem dX5_resolved_170 : decode cX5_resolved 170 = .ok (.ireturn, 1) := by decide +kernel
theorem dX5_resolved_171 : decode cX5_resolved 171 = .ok (.iload_n 3, 1) := by decide +kernel
theorem dX5_resolved_172 : decode cX5_resolved 172 = .ok (.iconst 4, 1) := by decide +kernel
theorem dX5_resolved_173 : decode cX5_resolved 173 = .ok (.if_icmp .ge 19, 3) := by decide +kernel
theorem dX5_resolved_176 : decode cX5_resolved 176 = .ok (.aload_n 0, 1) := by decide +kernel
theorem dX5_resolved_177 : decode cX5_resolved 177 = .ok (.iload_n 1, 1) := by decide +kernel
theorem dX5_resolved_178 : decode cX5_resolved 178 = .ok (.iload 5, 2) := by decide +kernel
theorem dX5_resolved_180 : decode cX5_resolved 180 = .ok (.aload_n 0, 1) := by decide +kernel
theorem dX5_resolved_181 : decode cX5_resolved 181 = .ok (.getfield 59, 3) := by decide +kernel
theorem dX5_resolved_184 : decode cX5_resolved 184 = .ok (.iload_n 2, 1) := by decide +kernel
theorem dX5_resolved_185 : decode cX5_resolved 185 = .ok (.iaload, 1) := by decide +kernel
theorem dX5_resolved_186 : decode cX5_resolved 186 = .ok (.invokevirtual 133, 3) := by decide +kernel
theorem dX5_resolved_189 : decode cX5_resolved 189 = .ok (.goto 16, 3) := by decide +kernel
theorem dX5_resolved_192 : decode cX5_resolved 192 = .ok (.aload_n 0, 1) := by decide +kernel
theorem dX5_resolved_193 : decode cX5_resolved 193 = .ok (.iload_n 1, 1) := by decide +kernel
theorem dX5_resolved_194 : decode cX5_resolved 194 = .ok (.iload 5, 2) := by decide +kernel
theorem dX5_resolved_196 : decode cX5_resolved 196 = .ok (.aload_n 0, 1) := by decide +kernel
theorem dX5_resolved_197 : decode cX5_resolved 197 = .ok (.getfield 59, 3) := by decide +kernel
theorem dX5_resolved_200 : decode cX5_resolved 200 = .ok (.iload_n 2, 1) := by decide +kernel
theorem dX5_resolved_201 : decode cX5_resolved 201 = .ok (.iaload, 1) := by decide +kernel
theorem dX5_resolved_202 : decode cX5_resolved 202 = .ok (.invokevirtual 136, 3) := by decide +kernel
theorem dX5_resolved_205 : decode cX5_resolved 205 = .ok (.istore 9, 2) := by decide +kernel
theorem dX5_resolved_207 : decode cX5_resolved 207 = .ok (.iload 9, 2) := by decide +kernel
theorem dX5_resolved_209 : decode cX5_resolved 209 = .ok (.ifCond .ge 20, 3) := by decide +kernel
theorem dX5_resolved_212 : decode cX5_resolved 212 = .ok (.iload_n 3, 1) := by decide +kernel
theorem dX5_resolved_213 : decode cX5_resolved 213 = .ok (.iconst 4, 1) := by decide +kernel
theorem dX5_resolved_214 : decode cX5_resolved 214 = .ok (.if_icmp .ge 7, 3) := by decide +kernel
theorem dX5_resolved_217 : decode cX5_resolved 217 = .ok (.iconst 5, 1) := by decide +kernel
theorem dX5_resolved_218 : decode cX5_resolved 218 = .ok (.goto 5, 3) := by decide +kernel
theorem dX5_resolved_221 : decode cX5_resolved 221 = .ok (.bipush 6, 2) := by decide +kernel
theorem dX5_resolved_223 : decode cX5_resolved 223 = .ok (.iload 5, 2) := by decide +kernel
theorem dX5_resolved_225 : decode cX5_resolved 225 = .ok (.invokestatic 97, 3) := by decide +kernel
theorem dX5_resolved_228 : decode cX5_resolved 228 = .ok (.ireturn, 1) := by decide +kernel
theorem dX5_resolved_229 : decode cX5_resolved 229 = .ok (.bipush 30, 2) := by decide +kernel
theorem dX5_resolved_231 : decode cX5_resolved 231 = .ok (.iload_n 1, 1) := by decide +kernel
theorem dX5_resolved_232 : decode cX5_resolved 232 = .ok (.imul, 1) := by decide +kernel
theorem dX5_resolved_233 : decode cX5_resolved 233 = .ok (.iload 9, 2) := by decide +kernel
theorem dX5_resolved_235 : decode cX5_resolved 235 = .ok (.iadd, 1) := by decide +kernel
theorem dX5_resolved_236 : decode cX5_resolved 236 = .ok (.istore 10, 2) := by decide +kernel
theorem dX5_resolved_238 : decode cX5_resolved 238 = .ok (.aload_n 0, 1) := by decide +kernel
theorem dX5_resolved_239 : decode cX5_resolved 239 = .ok (.iload_n 1, 1) := by decide +kernel
theorem dX5_resolved_240 : decode cX5_resolved 240 = .ok (.iload 9, 2) := by decide +kernel
theorem dX5_resolved_242 : decode cX5_resolved 242 = .ok (.iload 5, 2) := by decide +kernel
theorem dX5_resolved_244 : decode cX5_resolved 244 = .ok (.iload 4, 2) := by decide +kernel
theorem dX5_resolved_246 : decode cX5_resolved 246 = .ok (.invokevirtual 139, 3) := by decide +kernel
theorem dX5_resolved_249 : decode cX5_resolved 249 = .ok (.ifCond .ne 13, 3) := by decide +kernel
theorem dX5_resolved_252 : decode cX5_resolved 252 = .ok (.iconst 4, 1) := by decide +kernel
theorem dX5_resolved_253 : decode cX5_resolved 253 = .ok (.bipush 16, 2) := by decide +kernel
theorem dX5_resolved_255 : decode cX5_resolved 255 = .ok (.iload 9, 2) := by decide +kernel
theorem dX5_resolved_257 : decode cX5_resolved 257 = .ok (.iadd, 1) := by decide +kernel
theorem dX5_resolved_258 : decode cX5_resolved 258 = .ok (.invokestatic 97, 3) := by decide +kernel
theorem dX5_resolved_261 : decode cX5_resolved 261 = .ok (.ireturn, 1) := by decide +kernel
theorem dX5_resolved_262 : decode cX5_resolved 262 = .ok (.iload_n 3, 1) := by decide +kernel
theorem dX5_resolved_263 : decode cX5_resolved 263 = .ok (.iconst 2, 1) := by decide +kernel
theorem dX5_resolved_264 : decode cX5_resolved 264 = .ok (.if_icmp .eq 14, 3) := by decide +kernel
theorem dX5_resolved_267 : decode cX5_resolved 267 = .ok (.iload_n 3, 1) := by decide +kernel
theorem dX5_resolved_268 : decode cX5_resolved 268 = .ok (.iconst 3, 1) := by decide +kernel
theorem dX5_resolved_269 : decode cX5_resolved 269 = .ok (.if_icmp .eq 9, 3) := by decide +kernel
theorem dX5_resolved_272 : decode cX5_resolved 272 = .ok (.iload_n 3, 1) := by decide +kernel
theorem dX5_resolved_273 : decode cX5_resolved 273 = .ok (.bipush 6, 2) := by decide +kernel
theorem dX5_resolved_275 : decode cX5_resolved 275 = .ok (.if_icmp .ne 7, 3) := by decide +kernel
theorem dX5_resolved_278 : decode cX5_resolved 278 = .ok (.iconst 1, 1) := by decide +kernel
theorem dX5_resolved_279 : decode cX5_resolved 279 = .ok (.goto 4, 3) := by decide +kernel
theorem dX5_resolved_282 : decode cX5_resolved 282 = .ok (.iconst 0, 1) := by decide +kernel
theorem dX5_resolved_283 : decode cX5_resolved 283 = .ok (.istore 11, 2) := by decide +kernel
theorem dX5_resolved_285 : decode cX5_resolved 285 = .ok (.aload_n 0, 1) := by decide +kernel
theorem dX5_resolved_286 : decode cX5_resolved 286 = .ok (.getfield 47, 3) := by decide +kernel
theorem dX5_resolved_289 : decode cX5_resolved 289 = .ok (.iload 10, 2) := by decide +kernel
theorem dX5_resolved_291 : decode cX5_resolved 291 = .ok (.iaload, 1) := by decide +kernel
theorem dX5_resolved_292 : decode cX5_resolved 292 = .ok (.iconst 1, 1) := by decide +kernel
theorem dX5_resolved_293 : decode cX5_resolved 293 = .ok (.iand, 1) := by decide +kernel
theorem dX5_resolved_294 : decode cX5_resolved 294 = .ok (.ifCond .eq 7, 3) := by decide +kernel
theorem dX5_resolved_297 : decode cX5_resolved 297 = .ok (.iconst 1, 1) := by decide +kernel
theorem dX5_resolved_298 : decode cX5_resolved 298 = .ok (.goto 4, 3) := by decide +kernel
theorem dX5_resolved_301 : decode cX5_resolved 301 = .ok (.iconst 0, 1) := by decide +kernel
theorem dX5_resolved_302 : decode cX5_resolved 302 = .ok (.iload 11, 2) := by decide +kernel
theorem dX5_resolved_304 : decode cX5_resolved 304 = .ok (.if_icmp .eq 13, 3) := by decide +kernel
theorem dX5_resolved_307 : decode cX5_resolved 307 = .ok (.iconst 3, 1) := by decide +kernel
theorem dX5_resolved_308 : decode cX5_resolved 308 = .ok (.bipush 16, 2) := by decide +kernel
theorem dX5_resolved_310 : decode cX5_resolved 310 = .ok (.iload 9, 2) := by decide +kernel
theorem dX5_resolved_312 : decode cX5_resolved 312 = .ok (.iadd, 1) := by decide +kernel
theorem dX5_resolved_313 : decode cX5_resolved 313 = .ok (.invokestatic 97, 3) := by decide +kernel
theorem dX5_resolved_316 : decode cX5_resolved 316 = .ok (.ireturn, 1) := by decide +kernel
theorem dX5_resolved_317 : decode cX5_resolved 317 = .ok (.iload_n 3, 1) := by decide +kernel
theorem dX5_resolved_318 : decode cX5_resolved 318 = .ok (.iconst 1, 1) := by decide +kernel
theorem dX5_resolved_319 : decode cX5_resolved 319 = .ok (.if_icmp .eq 8, 3) := by decide +kernel
theorem dX5_resolved_322 : decode cX5_resolved 322 = .ok (.iload_n 3, 1) := by decide +kernel
theorem dX5_resolved_323 : decode cX5_resolved 323 = .ok (.iconst 3, 1) := by decide +kernel
theorem dX5_resolved_324 : decode cX5_resolved 324 = .ok (.if_icmp .ne 37, 3) := by decide +kernel
theorem dX5_resolved_327 : decode cX5_resolved 327 = .ok (.aload_n 0, 1) := by decide +kernel
theorem dX5_resolved_328 : decode cX5_resolved 328 = .ok (.getfield 47, 3) := by decide +kernel
theorem dX5_resolved_331 : decode cX5_resolved 331 = .ok (.iload 10, 2) := by decide +kernel
theorem dX5_resolved_333 : decode cX5_resolved 333 = .ok (.iaload, 1) := by decide +kernel
theorem dX5_resolved_334 : decode cX5_resolved 334 = .ok (.iconst 4, 1) := by decide +kernel
theorem dX5_resolved_335 : decode cX5_resolved 335 = .ok (.iand, 1) := by decide +kernel
theorem dX5_resolved_336 : decode cX5_resolved 336 = .ok (.ifCond .eq 25, 3) := by decide +kernel
theorem dX5_resolved_339 : decode cX5_resolved 339 = .ok (.iload 4, 2) := by decide +kernel
theorem dX5_resolved_341 : decode cX5_resolved 341 = .ok (.aload_n 0, 1) := by decide +kernel
theorem dX5_resolved_342 : decode cX5_resolved 342 = .ok (.getfield 38, 3) := by decide +kernel
theorem dX5_resolved_345 : decode cX5_resolved 345 = .ok (.iload 10, 2) := by decide +kernel
theorem dX5_resolved_347 : decode cX5_resolved 347 = .ok (.iaload, 1) := by decide +kernel
theorem dX5_resolved_348 : decode cX5_resolved 348 = .ok (.if_icmp .eq 13, 3) := by decide +kernel
theorem dX5_resolved_351 : decode cX5_resolved 351 = .ok (.iconst 4, 1) := by decide +kernel
theorem dX5_resolved_352 : decode cX5_resolved 352 = .ok (.bipush 16, 2) := by decide +kernel
theorem dX5_resolved_354 : decode cX5_resolved 354 = .ok (.iload 9, 2) := by decide +kernel
theorem dX5_resolved_356 : decode cX5_resolved 356 = .ok (.iadd, 1) := by decide +kernel
theorem dX5_resolved_357 : decode cX5_resolved 357 = .ok (.invokestatic 97, 3) := by decide +kernel
theorem dX5_resolved_360 : decode cX5_resolved 360 = .ok (.ireturn, 1) := by decide +kernel
theorem dX5_resolved_361 : decode cX5_resolved 361 = .ok (.iload_n 3, 1) := by decide +kernel
theorem dX5_resolved_362 : decode cX5_resolved 362 = .ok (.iconst 5, 1) := by decide +kernel
theorem dX5_resolved_363 : decode cX5_resolved 363 = .ok (.if_icmp .ne 22, 3) := by decide +kernel
theorem dX5_resolved_366 : decode cX5_resolved 366 = .ok (.aload_n 0, 1) := by decide +kernel
theorem dX5_resolved_367 : decode cX5_resolved 367 = .ok (.iload_n 1, 1) := by decide +kernel
theorem dX5_resolved_368 : decode cX5_resolved 368 = .ok (.iload 4, 2) := by decide +kernel
theorem dX5_resolved_370 : decode cX5_resolved 370 = .ok (.iload 5, 2) := by decide +kernel
theorem dX5_resolved_372 : decode cX5_resolved 372 = .ok (.invokevirtual 116, 3) := by decide +kernel
theorem dX5_resolved_375 : decode cX5_resolved 375 = .ok (.ifCond .ne 10, 3) := by decide +kernel
theorem dX5_resolved_378 : decode cX5_resolved 378 = .ok (.iconst 3, 1) := by decide +kernel
theorem dX5_resolved_379 : decode cX5_resolved 379 = .ok (.iload 5, 2) := by decide +kernel
theorem dX5_resolved_381 : decode cX5_resolved 381 = .ok (.invokestatic 97, 3) := by decide +kernel
theorem dX5_resolved_384 : decode cX5_resolved 384 = .ok (.ireturn, 1) := by decide +kernel
theorem dX5_resolved_385 : decode cX5_resolved 385 = .ok (.iload_n 3, 1) := by decide +kernel
theorem dX5_resolved_386 : decode cX5_resolved 386 = .ok (.iconst 5, 1) := by decide +kernel
theorem dX5_resolved_387 : decode cX5_resolved 387 = .ok (.if_icmp .ne 26, 3) := by decide +kernel
theorem dX5_resolved_390 : decode cX5_resolved 390 = .ok (.aload_n 0, 1) := by decide +kernel
theorem dX5_resolved_391 : decode cX5_resolved 391 = .ok (.getfield 47, 3) := by decide +kernel
theorem dX5_resolved_394 : decode cX5_resolved 394 = .ok (.iload 10, 2) := by decide +kernel
theorem dX5_resolved_396 : decode cX5_resolved 396 = .ok (.iaload, 1) := by decide +kernel
theorem dX5_resolved_397 : decode cX5_resolved 397 = .ok (.iconst 2, 1) := by decide +kernel
theorem dX5_resolved_398 : decode cX5_resolved 398 = .ok (.iand, 1) := by decide +kernel
theorem dX5_resolved_399 : decode cX5_resolved 399 = .ok (.ifCond .eq 14, 3) := by decide +kernel
theorem dX5_resolved_402 : decode cX5_resolved 402 = .ok (.bipush 7, 2) := by decide +kernel
theorem dX5_resolved_404 : decode cX5_resolved 404 = .ok (.bipush 16, 2) := by decide +kernel
theorem dX5_resolved_406 : decode cX5_resolved 406 = .ok (.iload 9, 2) := by decide +kernel
theorem dX5_resolved_408 : decode cX5_resolved 408 = .ok (.iadd, 1) := by decide +kernel
theorem dX5_resolved_409 : decode cX5_resolved 409 = .ok (.invokestatic 97, 3) := by decide +kernel
theorem dX5_resolved_412 : decode cX5_resolved 412 = .ok (.ireturn, 1) := by decide +kernel
theorem dX5_resolved_413 : decode cX5_resolved 413 = .ok (.iconst 0, 1) := by decide +kernel
theorem dX5_resolved_414 : decode cX5_resolved 414 = .ok (.bipush 16, 2) := by decide +kernel
theorem dX5_resolved_416 : decode cX5_resolved 416 = .ok (.iload 9, 2) := by decide +kernel
theorem dX5_resolved_418 : decode cX5_resolved 418 = .ok (.iadd, 1) := by decide +kernel
theorem dX5_resolved_419 : decode cX5_resolved 419 = .ok (.invokestatic 97, 3) := by decide +kernel
theorem dX5_resolved_422 : decode cX5_resolved 422 = .ok (.ireturn, 1) := by decide +kernel
theorem dX5_overrides_0 : decode cX5_overrides 0 = .ok (.bipush 30, 2) := by decide +kernel
theorem dX5_overrides_2 : decode cX5_overrides 2 = .ok (.iload_n 1, 1) := by decide +kernel
theorem dX5_overrides_3 : decode cX5_overrides 3 = .ok (.imul, 1) := by decide +kernel
theorem dX5_overrides_4 : decode cX5_overrides 4 = .ok (.iload_n 2, 1) := by decide +kernel
theorem dX5_overrides_5 : decode cX5_overrides 5 = .ok (.iadd, 1) := by decide +kernel
theorem dX5_overrides_6 : decode cX5_overrides 6 = .ok (.istore 4, 2) := by decide +kernel
theorem dX5_overrides_8 : decode cX5_overrides 8 = .ok (.bipush 30, 2) := by decide +kernel
theorem dX5_overrides_10 : decode cX5_overrides 10 = .ok (.iload_n 1, 1) := by decide +kernel
theorem dX5_overrides_11 : decode cX5_overrides 11 = .ok (.imul, 1) := by decide +kernel
theorem dX5_overrides_12 : decode cX5_overrides 12 = .ok (.iload_n 3, 1) := by decide +kernel
theorem dX5_overrides_13 : decode cX5_overrides 13 = .ok (.iadd, 1) := by decide +kernel
theorem dX5_overrides_14 : decode cX5_overrides 14 = .ok (.istore 5, 2) := by decide +kernel
theorem dX5_overrides_16 : decode cX5_overrides 16 = .ok (.iload_n 2, 1) := by decide +kernel
theorem dX5_overrides_17 : decode cX5_overrides 17 = .ok (.iload_n 3, 1) := by decide +kernel
theorem dX5_overrides_18 : decode cX5_overrides 18 = .ok (.if_icmp .eq 25, 3) := by decide +kernel
theorem dX5_overrides_21 : decode cX5_overrides 21 = .ok (.aload_n 0, 1) := by decide +kernel
theorem dX5_overrides_22 : decode cX5_overrides 22 = .ok (.getfield 44, 3) := by decide +kernel
theorem dX5_overrides_25 : decode cX5_overrides 25 = .ok (.iload 5, 2) := by decide +kernel
theorem dX5_overrides_27 : decode cX5_overrides 27 = .ok (.iaload, 1) := by decide +kernel
theorem dX5_overrides_28 : decode cX5_overrides 28 = .ok (.iconst 3, 1) := by decide +kernel
theorem dX5_overrides_29 : decode cX5_overrides 29 = .ok (.if_icmp .eq 14, 3) := by decide +kernel
theorem dX5_overrides_32 : decode cX5_overrides 32 = .ok (.aload_n 0, 1) := by decide +kernel
theorem dX5_overrides_33 : decode cX5_overrides 33 = .ok (.getfield 44, 3) := by decide +kernel
theorem dX5_overrides_36 : decode cX5_overrides 36 = .ok (.iload 5, 2) := by decide +kernel
theorem dX5_overrides_38 : decode cX5_overrides 38 = .ok (.iaload, 1) := by decide +kernel
theorem dX5_overrides_39 : decode cX5_overrides 39 = .ok (.iconst 2, 1) := by decide +kernel
theorem dX5_overrides_40 : decode cX5_overrides 40 = .ok (.if_icmp .ne 5, 3) := by decide +kernel
theorem dX5_overrides_43 : decode cX5_overrides 43 = .ok (.iconst 1, 1) := by decide +kernel
theorem dX5_overrides_44 : decode cX5_overrides 44 = .ok (.ireturn, 1) := by decide +kernel
theorem dX5_overrides_45 : decode cX5_overrides 45 = .ok (.aload_n 0, 1) := by decide +kernel
theorem dX5_overrides_46 : decode cX5_overrides 46 = .ok (.getfield 44, 3) := by decide +kernel
theorem dX5_overrides_49 : decode cX5_overrides 49 = .ok (.iload 5, 2) := by decide +kernel
theorem dX5_overrides_51 : decode cX5_overrides 51 = .ok (.iaload, 1) := by decide +kernel
theorem dX5_overrides_52 : decode cX5_overrides 52 = .ok (.iconst 1, 1) := by decide +kernel
theorem dX5_overrides_53 : decode cX5_overrides 53 = .ok (.if_icmp .ne 44, 3) := by decide +kernel
theorem dX5_overrides_56 : decode cX5_overrides 56 = .ok (.aload_n 0, 1) := by decide +kernel
theorem dX5_overrides_57 : decode cX5_overrides 57 = .ok (.getfield 17, 3) := by decide +kernel
theorem dX5_overrides_60 : decode cX5_overrides 60 = .ok (.bipush 12, 2) := by decide +kernel
theorem dX5_overrides_62 : decode cX5_overrides 62 = .ok (.iload_n 1, 1) := by decide +kernel
theorem dX5_overrides_63 : decode cX5_overrides 63 = .ok (.imul, 1) := by decide +kernel
theorem dX5_overrides_64 : decode cX5_overrides 64 = .ok (.aload_n 0, 1) := by decide +kernel
theorem dX5_overrides_65 : decode cX5_overrides 65 = .ok (.getfield 38, 3) := by decide +kernel
theorem dX5_overrides_68 : decode cX5_overrides 68 = .ok (.iload 4, 2) := by decide +kernel
theorem dX5_overrides_70 : decode cX5_overrides 70 = .ok (.iaload, 1) := by decide +kernel
theorem dX5_overrides_71 : decode cX5_overrides 71 = .ok (.iadd, 1) := by decide +kernel
theorem dX5_overrides_72 : decode cX5_overrides 72 = .ok (.iaload, 1) := by decide +kernel
theorem dX5_overrides_73 : decode cX5_overrides 73 = .ok (.aload_n 0, 1) := by decide +kernel
theorem dX5_overrides_74 : decode cX5_overrides 74 = .ok (.getfield 17, 3) := by decide +kernel
theorem dX5_overrides_77 : decode cX5_overrides 77 = .ok (.bipush 12, 2) := by decide +kernel
theorem dX5_overrides_79 : decode cX5_overrides 79 = .ok (.iload_n 1, 1) := by decide +kernel
theorem dX5_overrides_80 : decode cX5_overrides 80 = .ok (.imul, 1) := by decide +kernel
theorem dX5_overrides_81 : decode cX5_overrides 81 = .ok (.aload_n 0, 1) := by decide +kernel
theorem dX5_overrides_82 : decode cX5_overrides 82 = .ok (.getfield 38, 3) := by decide +kernel
theorem dX5_overrides_85 : decode cX5_overrides 85 = .ok (.iload 5, 2) := by decide +kernel
theorem dX5_overrides_87 : decode cX5_overrides 87 = .ok (.iaload, 1) := by decide +kernel
theorem dX5_overrides_88 : decode cX5_overrides 88 = .ok (.iadd, 1) := by decide +kernel
theorem dX5_overrides_89 : decode cX5_overrides 89 = .ok (.iaload, 1) := by decide +kernel
theorem dX5_overrides_90 : decode cX5_overrides 90 = .ok (.if_icmp .ne 7, 3) := by decide +kernel
theorem dX5_overrides_93 : decode cX5_overrides 93 = .ok (.iconst 1, 1) := by decide +kernel
theorem dX5_overrides_94 : decode cX5_overrides 94 = .ok (.goto 4, 3) := by decide +kernel
theorem dX5_overrides_97 : decode cX5_overrides 97 = .ok (.iconst 0, 1) := by decide +kernel
theorem dX5_overrides_98 : decode cX5_overrides 98 = .ok (.ireturn, 1) := by decide +kernel
theorem dX5_selected_0 : decode cX5_selected 0 = .ok (.aload_n 0, 1) := by decide +kernel
theorem dX5_selected_1 : decode cX5_selected 1 = .ok (.iload_n 1, 1) := by decide +kernel
theorem dX5_selected_2 : decode cX5_selected 2 = .ok (.iload_n 2, 1) := by decide +kernel
theorem dX5_selected_3 : decode cX5_selected 3 = .ok (.invokevirtual 143, 3) := by decide +kernel
theorem dX5_selected_6 : decode cX5_selected 6 = .ok (.bipush 16, 2) := by decide +kernel
theorem dX5_selected_8 : decode cX5_selected 8 = .ok (.isub, 1) := by decide +kernel
theorem dX5_selected_9 : decode cX5_selected 9 = .ok (.istore 4, 2) := by decide +kernel
theorem dX5_selected_11 : decode cX5_selected 11 = .ok (.aload_n 0, 1) := by decide +kernel
theorem dX5_selected_12 : decode cX5_selected 12 = .ok (.getfield 59, 3) := by decide +kernel
theorem dX5_selected_15 : decode cX5_selected 15 = .ok (.iload_n 2, 1) := by decide +kernel
theorem dX5_selected_16 : decode cX5_selected 16 = .ok (.iaload, 1) := by decide +kernel
theorem dX5_selected_17 : decode cX5_selected 17 = .ok (.istore 5, 2) := by decide +kernel
theorem dX5_selected_19 : decode cX5_selected 19 = .ok (.bipush 12, 2) := by decide +kernel
theorem dX5_selected_21 : decode cX5_selected 21 = .ok (.iload_n 1, 1) := by decide +kernel
theorem dX5_selected_22 : decode cX5_selected 22 = .ok (.imul, 1) := by decide +kernel
theorem dX5_selected_23 : decode cX5_selected 23 = .ok (.iload_n 3, 1) := by decide +kernel
theorem dX5_selected_24 : decode cX5_selected 24 = .ok (.iadd, 1) := by decide +kernel
theorem dX5_selected_25 : decode cX5_selected 25 = .ok (.istore 6, 2) := by decide +kernel
theorem dX5_selected_27 : decode cX5_selected 27 = .ok (.aload_n 0, 1) := by decide +kernel
theorem dX5_selected_28 : decode cX5_selected 28 = .ok (.iload_n 1, 1) := by decide +kernel
theorem dX5_selected_29 : decode cX5_selected 29 = .ok (.iload_n 3, 1) := by decide +kernel
theorem dX5_selected_30 : decode cX5_selected 30 = .ok (.invokevirtual 146, 3) := by decide +kernel
theorem dX5_selected_33 : decode cX5_selected 33 = .ok (.ifCond .eq 31, 3) := by decide +kernel
theorem dX5_selected_36 : decode cX5_selected 36 = .ok (.aload_n 0, 1) := by decide +kernel
theorem dX5_selected_37 : decode cX5_selected 37 = .ok (.getfield 13, 3) := by decide +kernel
theorem dX5_selected_40 : decode cX5_selected 40 = .ok (.iload 6, 2) := by decide +kernel
theorem dX5_selected_42 : decode cX5_selected 42 = .ok (.iaload, 1) := by decide +kernel
theorem dX5_selected_43 : decode cX5_selected 43 = .ok (.bipush 6, 2) := by decide +kernel
theorem dX5_selected_45 : decode cX5_selected 45 = .ok (.iand, 1) := by decide +kernel
theorem dX5_selected_46 : decode cX5_selected 46 = .ok (.ifCond .ne 18, 3) := by decide +kernel
theorem dX5_selected_49 : decode cX5_selected 49 = .ok (.aload_n 0, 1) := by decide +kernel
theorem dX5_selected_50 : decode cX5_selected 50 = .ok (.iload_n 1, 1) := by decide +kernel
theorem dX5_selected_51 : decode cX5_selected 51 = .ok (.iload_n 3, 1) := by decide +kernel
theorem dX5_selected_52 : decode cX5_selected 52 = .ok (.aload_n 0, 1) := by decide +kernel
theorem dX5_selected_53 : decode cX5_selected 53 = .ok (.getfield 56, 3) := by decide +kernel
theorem dX5_selected_56 : decode cX5_selected 56 = .ok (.iload_n 2, 1) := by decide +kernel
theorem dX5_selected_57 : decode cX5_selected 57 = .ok (.iaload, 1) := by decide +kernel
theorem dX5_selected_58 : decode cX5_selected 58 = .ok (.invokevirtual 116, 3) := by decide +kernel
theorem dX5_selected_61 : decode cX5_selected 61 = .ok (.ifCond .ne 10, 3) := by decide +kernel
theorem dX5_selected_64 : decode cX5_selected 64 = .ok (.bipush 8, 2) := by decide +kernel
theorem dX5_selected_66 : decode cX5_selected 66 = .ok (.iload_n 3, 1) := by decide +kernel
theorem dX5_selected_67 : decode cX5_selected 67 = .ok (.invokestatic 97, 3) := by decide +kernel
theorem dX5_selected_70 : decode cX5_selected 70 = .ok (.ireturn, 1) := by decide +kernel
theorem dX5_selected_71 : decode cX5_selected 71 = .ok (.aload_n 0, 1) := by decide +kernel
theorem dX5_selected_72 : decode cX5_selected 72 = .ok (.getfield 44, 3) := by decide +kernel
theorem dX5_selected_75 : decode cX5_selected 75 = .ok (.bipush 30, 2) := by decide +kernel
theorem dX5_selected_77 : decode cX5_selected 77 = .ok (.iload_n 1, 1) := by decide +kernel
theorem dX5_selected_78 : decode cX5_selected 78 = .ok (.imul, 1) := by decide +kernel
theorem dX5_selected_79 : decode cX5_selected 79 = .ok (.iload 4, 2) := by decide +kernel
theorem dX5_selected_81 : decode cX5_selected 81 = .ok (.iadd, 1) := by decide +kernel
theorem dX5_selected_82 : decode cX5_selected 82 = .ok (.iaload, 1) := by decide +kernel
theorem dX5_selected_83 : decode cX5_selected 83 = .ok (.ifCond .ne 8, 3) := by decide +kernel
theorem dX5_selected_86 : decode cX5_selected 86 = .ok (.iload 4, 2) := by decide +kernel
theorem dX5_selected_88 : decode cX5_selected 88 = .ok (.goto 4, 3) := by decide +kernel
theorem dX5_selected_91 : decode cX5_selected 91 = .ok (.iconst (-1), 1) := by decide +kernel
theorem dX5_selected_92 : decode cX5_selected 92 = .ok (.istore 7, 2) := by decide +kernel
theorem dX5_selected_94 : decode cX5_selected 94 = .ok (.iload_n 3, 1) := by decide +kernel
theorem dX5_selected_95 : decode cX5_selected 95 = .ok (.istore 8, 2) := by decide +kernel
theorem dX5_selected_97 : decode cX5_selected 97 = .ok (.iload 8, 2) := by decide +kernel
theorem dX5_selected_99 : decode cX5_selected 99 = .ok (.ifCond .lt 70, 3) := by decide +kernel
theorem dX5_selected_102 : decode cX5_selected 102 = .ok (.iload 7, 2) := by decide +kernel
theorem dX5_selected_104 : decode cX5_selected 104 = .ok (.ifCond .ge 65, 3) := by decide +kernel
theorem dX5_selected_107 : decode cX5_selected 107 = .ok (.aload_n 0, 1) := by decide +kernel
theorem dX5_selected_108 : decode cX5_selected 108 = .ok (.iload_n 1, 1) := by decide +kernel
theorem dX5_selected_109 : decode cX5_selected 109 = .ok (.iload 8, 2) := by decide +kernel
theorem dX5_selected_111 : decode cX5_selected 111 = .ok (.iconst 1, 1) := by decide +kernel
theorem dX5_selected_112 : decode cX5_selected 112 = .ok (.iload 5, 2) := by decide +kernel
theorem dX5_selected_114 : decode cX5_selected 114 = .ok (.invokevirtual 84, 3) := by decide +kernel
theorem dX5_selected_117 : decode cX5_selected 117 = .ok (.istore 9, 2) := by decide +kernel
theorem dX5_selected_119 : decode cX5_selected 119 = .ok (.iload 9, 2) := by decide +kernel
theorem dX5_selected_121 : decode cX5_selected 121 = .ok (.ifCond .lt 31, 3) := by decide +kernel
theorem dX5_selected_124 : decode cX5_selected 124 = .ok (.aload_n 0, 1) := by decide +kernel
theorem dX5_selected_125 : decode cX5_selected 125 = .ok (.iload_n 1, 1) := by decide +kernel
theorem dX5_selected_126 : decode cX5_selected 126 = .ok (.iload 8, 2) := by decide +kernel
theorem dX5_selected_128 : decode cX5_selected 128 = .ok (.iload 5, 2) := by decide +kernel
theorem dX5_selected_130 : decode cX5_selected 130 = .ok (.invokevirtual 123, 3) := by decide +kernel
theorem dX5_selected_133 : decode cX5_selected 133 = .ok (.ifCond .eq 19, 3) := by decide +kernel
theorem dX5_selected_136 : decode cX5_selected 136 = .ok (.aload_n 0, 1) := by decide +kernel
theorem dX5_selected_137 : decode cX5_selected 137 = .ok (.iload_n 1, 1) := by decide +kernel
theorem dX5_selected_138 : decode cX5_selected 138 = .ok (.iload 9, 2) := by decide +kernel
theorem dX5_selected_140 : decode cX5_selected 140 = .ok (.iload 4, 2) := by decide +kernel
theorem dX5_selected_142 : decode cX5_selected 142 = .ok (.invokevirtual 149, 3) := by decide +kernel
theorem dX5_selected_145 : decode cX5_selected 145 = .ok (.ifCond .eq 7, 3) := by decide +kernel
theorem dX5_selected_148 : decode cX5_selected 148 = .ok (.iload 9, 2) := by decide +kernel
theorem dX5_selected_150 : decode cX5_selected 150 = .ok (.istore 7, 2) := by decide +kernel
theorem dX5_selected_152 : decode cX5_selected 152 = .ok (.aload_n 0, 1) := by decide +kernel
theorem dX5_selected_153 : decode cX5_selected 153 = .ok (.getfield 20, 3) := by decide +kernel
theorem dX5_selected_156 : decode cX5_selected 156 = .ok (.bipush 12, 2) := by decide +kernel
theorem dX5_selected_158 : decode cX5_selected 158 = .ok (.iload_n 1, 1) := by decide +kernel
theorem dX5_selected_159 : decode cX5_selected 159 = .ok (.imul, 1) := by decide +kernel
theorem dX5_selected_160 : decode cX5_selected 160 = .ok (.iload 8, 2) := by decide +kernel
theorem dX5_selected_162 : decode cX5_selected 162 = .ok (.iadd, 1) := by decide +kernel
theorem dX5_selected_163 : decode cX5_selected 163 = .ok (.iaload, 1) := by decide +kernel
theorem dX5_selected_164 : decode cX5_selected 164 = .ok (.istore 8, 2) := by decide +kernel
theorem dX5_selected_166 : decode cX5_selected 166 = .ok (.goto (-69), 3) := by decide +kernel
theorem dX5_selected_169 : decode cX5_selected 169 = .ok (.iload 7, 2) := by decide +kernel
theorem dX5_selected_171 : decode cX5_selected 171 = .ok (.ifCond .ge 43, 3) := by decide +kernel
theorem dX5_selected_174 : decode cX5_selected 174 = .ok (.aload_n 0, 1) := by decide +kernel
theorem dX5_selected_175 : decode cX5_selected 175 = .ok (.iload_n 1, 1) := by decide +kernel
theorem dX5_selected_176 : decode cX5_selected 176 = .ok (.aload_n 0, 1) := by decide +kernel
theorem dX5_selected_177 : decode cX5_selected 177 = .ok (.iload_n 1, 1) := by decide +kernel
theorem dX5_selected_178 : decode cX5_selected 178 = .ok (.iload_n 3, 1) := by decide +kernel
theorem dX5_selected_179 : decode cX5_selected 179 = .ok (.iload 5, 2) := by decide +kernel
theorem dX5_selected_181 : decode cX5_selected 181 = .ok (.invokevirtual 126, 3) := by decide +kernel
theorem dX5_selected_184 : decode cX5_selected 184 = .ok (.iload 5, 2) := by decide +kernel
theorem dX5_selected_186 : decode cX5_selected 186 = .ok (.invokevirtual 130, 3) := by decide +kernel
theorem dX5_selected_189 : decode cX5_selected 189 = .ok (.istore 7, 2) := by decide +kernel
theorem dX5_selected_191 : decode cX5_selected 191 = .ok (.iload 7, 2) := by decide +kernel
theorem dX5_selected_193 : decode cX5_selected 193 = .ok (.ifCond .ge 21, 3) := by decide +kernel
theorem dX5_selected_196 : decode cX5_selected 196 = .ok (.iload 7, 2) := by decide +kernel
theorem dX5_selected_198 : decode cX5_selected 198 = .ok (.bipush (-2), 2) := by decide +kernel
theorem dX5_selected_200 : decode cX5_selected 200 = .ok (.if_icmp .ne 7, 3) := by decide +kernel
theorem dX5_selected_203 : decode cX5_selected 203 = .ok (.iconst 3, 1) := by decide +kernel
theorem dX5_selected_204 : decode cX5_selected 204 = .ok (.goto 5, 3) := by decide +kernel
theorem dX5_selected_207 : decode cX5_selected 207 = .ok (.bipush 7, 2) := by decide +kernel
theorem dX5_selected_209 : decode cX5_selected 209 = .ok (.iload_n 3, 1) := by decide +kernel
theorem dX5_selected_210 : decode cX5_selected 210 = .ok (.invokestatic 97, 3) := by decide +kernel
theorem dX5_selected_213 : decode cX5_selected 213 = .ok (.ireturn, 1) := by decide +kernel
theorem dX5_selected_214 : decode cX5_selected 214 = .ok (.bipush 30, 2) := by decide +kernel
theorem dX5_selected_216 : decode cX5_selected 216 = .ok (.iload_n 1, 1) := by decide +kernel
theorem dX5_selected_217 : decode cX5_selected 217 = .ok (.imul, 1) := by decide +kernel
theorem dX5_selected_218 : decode cX5_selected 218 = .ok (.iload 7, 2) := by decide +kernel
theorem dX5_selected_220 : decode cX5_selected 220 = .ok (.iadd, 1) := by decide +kernel
theorem dX5_selected_221 : decode cX5_selected 221 = .ok (.istore 8, 2) := by decide +kernel
theorem dX5_selected_223 : decode cX5_selected 223 = .ok (.aload_n 0, 1) := by decide +kernel
theorem dX5_selected_224 : decode cX5_selected 224 = .ok (.getfield 47, 3) := by decide +kernel
theorem dX5_selected_227 : decode cX5_selected 227 = .ok (.iload 8, 2) := by decide +kernel
theorem dX5_selected_229 : decode cX5_selected 229 = .ok (.iaload, 1) := by decide +kernel
theorem dX5_selected_230 : decode cX5_selected 230 = .ok (.iconst 2, 1) := by decide +kernel
theorem dX5_selected_231 : decode cX5_selected 231 = .ok (.iand, 1) := by decide +kernel
theorem dX5_selected_232 : decode cX5_selected 232 = .ok (.ifCond .eq 14, 3) := by decide +kernel
theorem dX5_selected_235 : decode cX5_selected 235 = .ok (.bipush 7, 2) := by decide +kernel
theorem dX5_selected_237 : decode cX5_selected 237 = .ok (.bipush 16, 2) := by decide +kernel
theorem dX5_selected_239 : decode cX5_selected 239 = .ok (.iload 7, 2) := by decide +kernel
theorem dX5_selected_241 : decode cX5_selected 241 = .ok (.iadd, 1) := by decide +kernel
theorem dX5_selected_242 : decode cX5_selected 242 = .ok (.invokestatic 97, 3) := by decide +kernel
theorem dX5_selected_245 : decode cX5_selected 245 = .ok (.ireturn, 1) := by decide +kernel
theorem dX5_selected_246 : decode cX5_selected 246 = .ok (.aload_n 0, 1) := by decide +kernel
theorem dX5_selected_247 : decode cX5_selected 247 = .ok (.getfield 50, 3) := by decide +kernel
theorem dX5_selected_250 : decode cX5_selected 250 = .ok (.iload_n 2, 1) := by decide +kernel
theorem dX5_selected_251 : decode cX5_selected 251 = .ok (.iaload, 1) := by decide +kernel
theorem dX5_selected_252 : decode cX5_selected 252 = .ok (.bipush 7, 2) := by decide +kernel
theorem dX5_selected_254 : decode cX5_selected 254 = .ok (.if_icmp .ne 34, 3) := by decide +kernel
theorem dX5_selected_257 : decode cX5_selected 257 = .ok (.aload_n 0, 1) := by decide +kernel
theorem dX5_selected_258 : decode cX5_selected 258 = .ok (.getfield 44, 3) := by decide +kernel
theorem dX5_selected_261 : decode cX5_selected 261 = .ok (.iload 8, 2) := by decide +kernel
theorem dX5_selected_263 : decode cX5_selected 263 = .ok (.iaload, 1) := by decide +kernel
theorem dX5_selected_264 : decode cX5_selected 264 = .ok (.iconst 3, 1) := by decide +kernel
theorem dX5_selected_265 : decode cX5_selected 265 = .ok (.if_icmp .eq 23, 3) := by decide +kernel
theorem dX5_selected_268 : decode cX5_selected 268 = .ok (.aload_n 0, 1) := by decide +kernel
theorem dX5_selected_269 : decode cX5_selected 269 = .ok (.getfield 44, 3) := by decide +kernel
theorem dX5_selected_272 : decode cX5_selected 272 = .ok (.iload 8, 2) := by decide +kernel
theorem dX5_selected_274 : decode cX5_selected 274 = .ok (.iaload, 1) := by decide +kernel
theorem dX5_selected_275 : decode cX5_selected 275 = .ok (.ifCond .eq 13, 3) := by decide +kernel
theorem dX5_selected_278 : decode cX5_selected 278 = .ok (.iconst 4, 1) := by decide +kernel
theorem dX5_selected_279 : decode cX5_selected 279 = .ok (.bipush 16, 2) := by decide +kernel
theorem dX5_selected_281 : decode cX5_selected 281 = .ok (.iload 7, 2) := by decide +kernel
theorem dX5_selected_283 : decode cX5_selected 283 = .ok (.iadd, 1) := by decide +kernel
theorem dX5_selected_284 : decode cX5_selected 284 = .ok (.invokestatic 97, 3) := by decide +kernel
theorem dX5_selected_287 : decode cX5_selected 287 = .ok (.ireturn, 1) := by decide +kernel
theorem dX5_selected_288 : decode cX5_selected 288 = .ok (.iconst 0, 1) := by decide +kernel
theorem dX5_selected_289 : decode cX5_selected 289 = .ok (.bipush 16, 2) := by decide +kernel
theorem dX5_selected_291 : decode cX5_selected 291 = .ok (.iload 7, 2) := by decide +kernel
theorem dX5_selected_293 : decode cX5_selected 293 = .ok (.iadd, 1) := by decide +kernel
theorem dX5_selected_294 : decode cX5_selected 294 = .ok (.invokestatic 97, 3) := by decide +kernel
theorem dX5_selected_297 : decode cX5_selected 297 = .ok (.ireturn, 1) := by decide +kernel
theorem dX5_isAsk_0 : decode cX5_isAsk 0 = .ok (.iload_n 1, 1) := by decide +kernel
theorem dX5_isAsk_1 : decode cX5_isAsk 1 = .ok (.iconst 2, 1) := by decide +kernel
theorem dX5_isAsk_2 : decode cX5_isAsk 2 = .ok (.invokestatic 72, 3) := by decide +kernel
theorem dX5_isAsk_5 : decode cX5_isAsk 5 = .ok (.ifCond .eq 18, 3) := by decide +kernel
theorem dX5_isAsk_8 : decode cX5_isAsk 8 = .ok (.iload_n 2, 1) := by decide +kernel
theorem dX5_isAsk_9 : decode cX5_isAsk 9 = .ok (.aload_n 0, 1) := by decide +kernel
theorem dX5_isAsk_10 : decode cX5_isAsk 10 = .ok (.getfield 91, 3) := by decide +kernel
theorem dX5_isAsk_13 : decode cX5_isAsk 13 = .ok (.invokestatic 72, 3) := by decide +kernel
theorem dX5_isAsk_16 : decode cX5_isAsk 16 = .ok (.ifCond .eq 7, 3) := by decide +kernel
theorem dX5_isAsk_19 : decode cX5_isAsk 19 = .ok (.iconst 1, 1) := by decide +kernel
theorem dX5_isAsk_20 : decode cX5_isAsk 20 = .ok (.goto 4, 3) := by decide +kernel
theorem dX5_isAsk_23 : decode cX5_isAsk 23 = .ok (.iconst 0, 1) := by decide +kernel
theorem dX5_isAsk_24 : decode cX5_isAsk 24 = .ok (.ireturn, 1) := by decide +kernel
theorem dX5_load_0 : decode cX5_load 0 = .ok (.iload_n 1, 1) := by decide +kernel
theorem dX5_load_1 : decode cX5_load 1 = .ok (.iconst 2, 1) := by decide +kernel
theorem dX5_load_2 : decode cX5_load 2 = .ok (.invokestatic 72, 3) := by decide +kernel
theorem dX5_load_5 : decode cX5_load 5 = .ok (.ifCond .eq 21, 3) := by decide +kernel
theorem dX5_load_8 : decode cX5_load 8 = .ok (.iload_n 2, 1) := by decide +kernel
theorem dX5_load_9 : decode cX5_load 9 = .ok (.bipush 12, 2) := by decide +kernel
theorem dX5_load_11 : decode cX5_load 11 = .ok (.invokestatic 72, 3) := by decide +kernel
theorem dX5_load_14 : decode cX5_load 14 = .ok (.ifCond .eq 12, 3) := by decide +kernel
theorem dX5_load_17 : decode cX5_load 17 = .ok (.aload_n 0, 1) := by decide +kernel
theorem dX5_load_18 : decode cX5_load 18 = .ok (.iload_n 1, 1) := by decide +kernel
theorem dX5_load_19 : decode cX5_load 19 = .ok (.iload_n 2, 1) := by decide +kernel
theorem dX5_load_20 : decode cX5_load 20 = .ok (.invokevirtual 104, 3) := by decide +kernel
theorem dX5_load_23 : decode cX5_load 23 = .ok (.goto 4, 3) := by decide +kernel
theorem dX5_load_26 : decode cX5_load 26 = .ok (.iconst (-1), 1) := by decide +kernel
theorem dX5_load_27 : decode cX5_load 27 = .ok (.ireturn, 1) := by decide +kernel
theorem dX5_resolve_0 : decode cX5_resolve 0 = .ok (.aload_n 0, 1) := by decide +kernel
theorem dX5_resolve_1 : decode cX5_resolve 1 = .ok (.iload_n 1, 1) := by decide +kernel
theorem dX5_resolve_2 : decode cX5_resolve 2 = .ok (.iload_n 2, 1) := by decide +kernel
theorem dX5_resolve_3 : decode cX5_resolve 3 = .ok (.invokevirtual 152, 3) := by decide +kernel
theorem dX5_resolve_6 : decode cX5_resolve 6 = .ok (.ifCond .eq 12, 3) := by decide +kernel
theorem dX5_resolve_9 : decode cX5_resolve 9 = .ok (.aload_n 0, 1) := by decide +kernel
theorem dX5_resolve_10 : decode cX5_resolve 10 = .ok (.iload_n 1, 1) := by decide +kernel
theorem dX5_resolve_11 : decode cX5_resolve 11 = .ok (.iload_n 2, 1) := by decide +kernel
theorem dX5_resolve_12 : decode cX5_resolve 12 = .ok (.invokevirtual 143, 3) := by decide +kernel
theorem dX5_resolve_15 : decode cX5_resolve 15 = .ok (.goto 4, 3) := by decide +kernel
theorem dX5_resolve_18 : decode cX5_resolve 18 = .ok (.iconst (-1), 1) := by decide +kernel
theorem dX5_resolve_19 : decode cX5_resolve 19 = .ok (.ireturn, 1) := by decide +kernel
theorem dX5_selects_0 : decode cX5_selects 0 = .ok (.aload_n 0, 1) := by decide +kernel
theorem dX5_selects_1 : decode cX5_selects 1 = .ok (.getfield 50, 3) := by decide +kernel
theorem dX5_selects_4 : decode cX5_selects 4 = .ok (.iload_n 2, 1) := by decide +kernel
theorem dX5_selects_5 : decode cX5_selects 5 = .ok (.iaload, 1) := by decide +kernel
theorem dX5_selects_6 : decode cX5_selects 6 = .ok (.iconst 4, 1) := by decide +kernel
theorem dX5_selects_7 : decode cX5_selects 7 = .ok (.if_icmp .eq 14, 3) := by decide +kernel
theorem dX5_selects_10 : decode cX5_selects 10 = .ok (.aload_n 0, 1) := by decide +kernel
theorem dX5_selects_11 : decode cX5_selects 11 = .ok (.getfield 50, 3) := by decide +kernel
theorem dX5_selects_14 : decode cX5_selects 14 = .ok (.iload_n 2, 1) := by decide +kernel
theorem dX5_selects_15 : decode cX5_selects 15 = .ok (.iaload, 1) := by decide +kernel
theorem dX5_selects_16 : decode cX5_selects 16 = .ok (.bipush 7, 2) := by decide +kernel
theorem dX5_selects_18 : decode cX5_selects 18 = .ok (.if_icmp .ne 18, 3) := by decide +kernel
theorem dX5_selects_21 : decode cX5_selects 21 = .ok (.aload_n 0, 1) := by decide +kernel
theorem dX5_selects_22 : decode cX5_selects 22 = .ok (.iload_n 1, 1) := by decide +kernel
theorem dX5_selects_23 : decode cX5_selects 23 = .ok (.iload_n 2, 1) := by decide +kernel
theorem dX5_selects_24 : decode cX5_selects 24 = .ok (.invokevirtual 143, 3) := by decide +kernel
theorem dX5_selects_27 : decode cX5_selects 27 = .ok (.bipush 64, 2) := by decide +kernel
theorem dX5_selects_29 : decode cX5_selects 29 = .ok (.if_icmp .ge 7, 3) := by decide +kernel
theorem dX5_selects_32 : decode cX5_selects 32 = .ok (.iconst 1, 1) := by decide +kernel
theorem dX5_selects_33 : decode cX5_selects 33 = .ok (.goto 4, 3) := by decide +kernel
theorem dX5_selects_36 : decode cX5_selects 36 = .ok (.iconst 0, 1) := by decide +kernel
theorem dX5_selects_37 : decode cX5_selects 37 = .ok (.ireturn, 1) := by decide +kernel
theorem dX5_select_0 : decode cX5_select 0 = .ok (.aload_n 0, 1) := by decide +kernel
theorem dX5_select_1 : decode cX5_select 1 = .ok (.iload_n 1, 1) := by decide +kernel
theorem dX5_select_2 : decode cX5_select 2 = .ok (.iload_n 2, 1) := by decide +kernel
theorem dX5_select_3 : decode cX5_select 3 = .ok (.invokevirtual 152, 3) := by decide +kernel
theorem dX5_select_6 : decode cX5_select 6 = .ok (.ifCond .eq 12, 3) := by decide +kernel
theorem dX5_select_9 : decode cX5_select 9 = .ok (.iload_n 3, 1) := by decide +kernel
theorem dX5_select_10 : decode cX5_select 10 = .ok (.bipush 12, 2) := by decide +kernel
theorem dX5_select_12 : decode cX5_select 12 = .ok (.invokestatic 72, 3) := by decide +kernel
theorem dX5_select_15 : decode cX5_select 15 = .ok (.ifCond .ne 5, 3) := by decide +kernel
theorem dX5_select_18 : decode cX5_select 18 = .ok (.iconst (-1), 1) := by decide +kernel
theorem dX5_select_19 : decode cX5_select 19 = .ok (.ireturn, 1) := by decide +kernel
theorem dX5_select_20 : decode cX5_select 20 = .ok (.aload_n 0, 1) := by decide +kernel
theorem dX5_select_21 : decode cX5_select 21 = .ok (.iload_n 1, 1) := by decide +kernel
theorem dX5_select_22 : decode cX5_select 22 = .ok (.iload_n 2, 1) := by decide +kernel
theorem dX5_select_23 : decode cX5_select 23 = .ok (.invokevirtual 155, 3) := by decide +kernel
theorem dX5_select_26 : decode cX5_select 26 = .ok (.ifCond .eq 13, 3) := by decide +kernel
theorem dX5_select_29 : decode cX5_select 29 = .ok (.aload_n 0, 1) := by decide +kernel
theorem dX5_select_30 : decode cX5_select 30 = .ok (.iload_n 1, 1) := by decide +kernel
theorem dX5_select_31 : decode cX5_select 31 = .ok (.iload_n 2, 1) := by decide +kernel
theorem dX5_select_32 : decode cX5_select 32 = .ok (.iload_n 3, 1) := by decide +kernel
theorem dX5_select_33 : decode cX5_select 33 = .ok (.invokevirtual 158, 3) := by decide +kernel
theorem dX5_select_36 : decode cX5_select 36 = .ok (.goto 5, 3) := by decide +kernel
theorem dX5_select_39 : decode cX5_select 39 = .ok (.bipush (-2), 2) := by decide +kernel
theorem dX5_select_41 : decode cX5_select 41 = .ok (.ireturn, 1) := by decide +kernel
theorem dX5_areAlike_0 : decode cX5_areAlike 0 = .ok (.iload_n 1, 1) := by decide +kernel
theorem dX5_areAlike_1 : decode cX5_areAlike 1 = .ok (.bipush 64, 2) := by decide +kernel
theorem dX5_areAlike_3 : decode cX5_areAlike 3 = .ok (.idiv, 1) := by decide +kernel
theorem dX5_areAlike_4 : decode cX5_areAlike 4 = .ok (.iload_n 2, 1) := by decide +kernel
theorem dX5_areAlike_5 : decode cX5_areAlike 5 = .ok (.bipush 64, 2) := by decide +kernel
theorem dX5_areAlike_7 : decode cX5_areAlike 7 = .ok (.idiv, 1) := by decide +kernel
theorem dX5_areAlike_8 : decode cX5_areAlike 8 = .ok (.if_icmp .eq 5, 3) := by decide +kernel
theorem dX5_areAlike_11 : decode cX5_areAlike 11 = .ok (.iconst 0, 1) := by decide +kernel
theorem dX5_areAlike_12 : decode cX5_areAlike 12 = .ok (.ireturn, 1) := by decide +kernel
theorem dX5_areAlike_13 : decode cX5_areAlike 13 = .ok (.iload_n 1, 1) := by decide +kernel
theorem dX5_areAlike_14 : decode cX5_areAlike 14 = .ok (.bipush 64, 2) := by decide +kernel
theorem dX5_areAlike_16 : decode cX5_areAlike 16 = .ok (.irem, 1) := by decide +kernel
theorem dX5_areAlike_17 : decode cX5_areAlike 17 = .ok (.istore_n 3, 1) := by decide +kernel
theorem dX5_areAlike_18 : decode cX5_areAlike 18 = .ok (.iload_n 2, 1) := by decide +kernel
theorem dX5_areAlike_19 : decode cX5_areAlike 19 = .ok (.bipush 64, 2) := by decide +kernel
theorem dX5_areAlike_21 : decode cX5_areAlike 21 = .ok (.irem, 1) := by decide +kernel
theorem dX5_areAlike_22 : decode cX5_areAlike 22 = .ok (.istore 4, 2) := by decide +kernel
theorem dX5_areAlike_24 : decode cX5_areAlike 24 = .ok (.iload_n 3, 1) := by decide +kernel
theorem dX5_areAlike_25 : decode cX5_areAlike 25 = .ok (.bipush 16, 2) := by decide +kernel
theorem dX5_areAlike_27 : decode cX5_areAlike 27 = .ok (.if_icmp .lt 10, 3) := by decide +kernel
theorem dX5_areAlike_30 : decode cX5_areAlike 30 = .ok (.iload 4, 2) := by decide +kernel
theorem dX5_areAlike_32 : decode cX5_areAlike 32 = .ok (.bipush 16, 2) := by decide +kernel
theorem dX5_areAlike_34 : decode cX5_areAlike 34 = .ok (.if_icmp .ge 15, 3) := by decide +kernel
theorem dX5_areAlike_37 : decode cX5_areAlike 37 = .ok (.iload_n 3, 1) := by decide +kernel
theorem dX5_areAlike_38 : decode cX5_areAlike 38 = .ok (.iload 4, 2) := by decide +kernel
theorem dX5_areAlike_40 : decode cX5_areAlike 40 = .ok (.if_icmp .ne 7, 3) := by decide +kernel
theorem dX5_areAlike_43 : decode cX5_areAlike 43 = .ok (.iconst 1, 1) := by decide +kernel
theorem dX5_areAlike_44 : decode cX5_areAlike 44 = .ok (.goto 4, 3) := by decide +kernel
theorem dX5_areAlike_47 : decode cX5_areAlike 47 = .ok (.iconst 0, 1) := by decide +kernel
theorem dX5_areAlike_48 : decode cX5_areAlike 48 = .ok (.ireturn, 1) := by decide +kernel
theorem dX5_areAlike_49 : decode cX5_areAlike 49 = .ok (.iload_n 3, 1) := by decide +kernel
theorem dX5_areAlike_50 : decode cX5_areAlike 50 = .ok (.bipush 16, 2) := by decide +kernel
theorem dX5_areAlike_52 : decode cX5_areAlike 52 = .ok (.isub, 1) := by decide +kernel
theorem dX5_areAlike_53 : decode cX5_areAlike 53 = .ok (.istore 5, 2) := by decide +kernel
theorem dX5_areAlike_55 : decode cX5_areAlike 55 = .ok (.bipush 30, 2) := by decide +kernel
theorem dX5_areAlike_57 : decode cX5_areAlike 57 = .ok (.iload 4, 2) := by decide +kernel
theorem dX5_areAlike_59 : decode cX5_areAlike 59 = .ok (.iadd, 1) := by decide +kernel
theorem dX5_areAlike_60 : decode cX5_areAlike 60 = .ok (.bipush 16, 2) := by decide +kernel
theorem dX5_areAlike_62 : decode cX5_areAlike 62 = .ok (.isub, 1) := by decide +kernel
theorem dX5_areAlike_63 : decode cX5_areAlike 63 = .ok (.istore 6, 2) := by decide +kernel
theorem dX5_areAlike_65 : decode cX5_areAlike 65 = .ok (.aload_n 0, 1) := by decide +kernel
theorem dX5_areAlike_66 : decode cX5_areAlike 66 = .ok (.getfield 38, 3) := by decide +kernel
theorem dX5_areAlike_69 : decode cX5_areAlike 69 = .ok (.iload 5, 2) := by decide +kernel
theorem dX5_areAlike_71 : decode cX5_areAlike 71 = .ok (.iaload, 1) := by decide +kernel
theorem dX5_areAlike_72 : decode cX5_areAlike 72 = .ok (.aload_n 0, 1) := by decide +kernel
theorem dX5_areAlike_73 : decode cX5_areAlike 73 = .ok (.getfield 38, 3) := by decide +kernel
theorem dX5_areAlike_76 : decode cX5_areAlike 76 = .ok (.iload 6, 2) := by decide +kernel
theorem dX5_areAlike_78 : decode cX5_areAlike 78 = .ok (.iaload, 1) := by decide +kernel
theorem dX5_areAlike_79 : decode cX5_areAlike 79 = .ok (.if_icmp .ne 41, 3) := by decide +kernel
theorem dX5_areAlike_82 : decode cX5_areAlike 82 = .ok (.aload_n 0, 1) := by decide +kernel
theorem dX5_areAlike_83 : decode cX5_areAlike 83 = .ok (.getfield 29, 3) := by decide +kernel
theorem dX5_areAlike_86 : decode cX5_areAlike 86 = .ok (.iload 5, 2) := by decide +kernel
theorem dX5_areAlike_88 : decode cX5_areAlike 88 = .ok (.baload, 1) := by decide +kernel
theorem dX5_areAlike_89 : decode cX5_areAlike 89 = .ok (.aload_n 0, 1) := by decide +kernel
theorem dX5_areAlike_90 : decode cX5_areAlike 90 = .ok (.getfield 29, 3) := by decide +kernel
theorem dX5_areAlike_93 : decode cX5_areAlike 93 = .ok (.iload 6, 2) := by decide +kernel
theorem dX5_areAlike_95 : decode cX5_areAlike 95 = .ok (.baload, 1) := by decide +kernel
theorem dX5_areAlike_96 : decode cX5_areAlike 96 = .ok (.if_icmp .ne 24, 3) := by decide +kernel
theorem dX5_areAlike_99 : decode cX5_areAlike 99 = .ok (.aload_n 0, 1) := by decide +kernel
theorem dX5_areAlike_100 : decode cX5_areAlike 100 = .ok (.getfield 41, 3) := by decide +kernel
theorem dX5_areAlike_103 : decode cX5_areAlike 103 = .ok (.iload 5, 2) := by decide +kernel
theorem dX5_areAlike_105 : decode cX5_areAlike 105 = .ok (.iaload, 1) := by decide +kernel
theorem dX5_areAlike_106 : decode cX5_areAlike 106 = .ok (.aload_n 0, 1) := by decide +kernel
theorem dX5_areAlike_107 : decode cX5_areAlike 107 = .ok (.getfield 41, 3) := by decide +kernel
theorem dX5_areAlike_110 : decode cX5_areAlike 110 = .ok (.iload 6, 2) := by decide +kernel
theorem dX5_areAlike_112 : decode cX5_areAlike 112 = .ok (.iaload, 1) := by decide +kernel
theorem dX5_areAlike_113 : decode cX5_areAlike 113 = .ok (.if_icmp .ne 7, 3) := by decide +kernel
theorem dX5_areAlike_116 : decode cX5_areAlike 116 = .ok (.iconst 1, 1) := by decide +kernel
theorem dX5_areAlike_117 : decode cX5_areAlike 117 = .ok (.goto 4, 3) := by decide +kernel
theorem dX5_areAlike_120 : decode cX5_areAlike 120 = .ok (.iconst 0, 1) := by decide +kernel
theorem dX5_areAlike_121 : decode cX5_areAlike 121 = .ok (.ireturn, 1) := by decide +kernel
theorem dX5_compare_0 : decode cX5_compare 0 = .ok (.iload_n 1, 1) := by decide +kernel
theorem dX5_compare_1 : decode cX5_compare 1 = .ok (.aload_n 0, 1) := by decide +kernel
theorem dX5_compare_2 : decode cX5_compare 2 = .ok (.getfield 91, 3) := by decide +kernel
theorem dX5_compare_5 : decode cX5_compare 5 = .ok (.invokestatic 72, 3) := by decide +kernel
theorem dX5_compare_8 : decode cX5_compare 8 = .ok (.ifCond .ne 5, 3) := by decide +kernel
theorem dX5_compare_11 : decode cX5_compare 11 = .ok (.iconst (-1), 1) := by decide +kernel
theorem dX5_compare_12 : decode cX5_compare 12 = .ok (.ireturn, 1) := by decide +kernel
theorem dX5_compare_13 : decode cX5_compare 13 = .ok (.aload_n 0, 1) := by decide +kernel
theorem dX5_compare_14 : decode cX5_compare 14 = .ok (.iconst 0, 1) := by decide +kernel
theorem dX5_compare_15 : decode cX5_compare 15 = .ok (.iload_n 1, 1) := by decide +kernel
theorem dX5_compare_16 : decode cX5_compare 16 = .ok (.invokevirtual 143, 3) := by decide +kernel
theorem dX5_compare_19 : decode cX5_compare 19 = .ok (.istore_n 2, 1) := by decide +kernel
theorem dX5_compare_20 : decode cX5_compare 20 = .ok (.aload_n 0, 1) := by decide +kernel
theorem dX5_compare_21 : decode cX5_compare 21 = .ok (.iconst 1, 1) := by decide +kernel
theorem dX5_compare_22 : decode cX5_compare 22 = .ok (.iload_n 1, 1) := by decide +kernel
theorem dX5_compare_23 : decode cX5_compare 23 = .ok (.invokevirtual 143, 3) := by decide +kernel
theorem dX5_compare_26 : decode cX5_compare 26 = .ok (.istore_n 3, 1) := by decide +kernel
theorem dX5_compare_27 : decode cX5_compare 27 = .ok (.aload_n 0, 1) := by decide +kernel
theorem dX5_compare_28 : decode cX5_compare 28 = .ok (.iload_n 2, 1) := by decide +kernel
theorem dX5_compare_29 : decode cX5_compare 29 = .ok (.iload_n 3, 1) := by decide +kernel
theorem dX5_compare_30 : decode cX5_compare 30 = .ok (.invokevirtual 161, 3) := by decide +kernel
theorem dX5_compare_33 : decode cX5_compare 33 = .ok (.ifCond .eq 5, 3) := by decide +kernel
theorem dX5_compare_36 : decode cX5_compare 36 = .ok (.iconst 0, 1) := by decide +kernel
theorem dX5_compare_37 : decode cX5_compare 37 = .ok (.ireturn, 1) := by decide +kernel
theorem dX5_compare_38 : decode cX5_compare 38 = .ok (.iload_n 2, 1) := by decide +kernel
theorem dX5_compare_39 : decode cX5_compare 39 = .ok (.bipush 64, 2) := by decide +kernel
theorem dX5_compare_41 : decode cX5_compare 41 = .ok (.if_icmp .ge 17, 3) := by decide +kernel
theorem dX5_compare_44 : decode cX5_compare 44 = .ok (.iload_n 3, 1) := by decide +kernel
theorem dX5_compare_45 : decode cX5_compare 45 = .ok (.bipush 64, 2) := by decide +kernel
theorem dX5_compare_47 : decode cX5_compare 47 = .ok (.if_icmp .ge 7, 3) := by decide +kernel
theorem dX5_compare_50 : decode cX5_compare 50 = .ok (.iconst 3, 1) := by decide +kernel
theorem dX5_compare_51 : decode cX5_compare 51 = .ok (.goto 18, 3) := by decide +kernel
theorem dX5_compare_54 : decode cX5_compare 54 = .ok (.iconst 1, 1) := by decide +kernel
theorem dX5_compare_55 : decode cX5_compare 55 = .ok (.goto 14, 3) := by decide +kernel
theorem dX5_compare_58 : decode cX5_compare 58 = .ok (.iload_n 3, 1) := by decide +kernel
theorem dX5_compare_59 : decode cX5_compare 59 = .ok (.bipush 64, 2) := by decide +kernel
theorem dX5_compare_61 : decode cX5_compare 61 = .ok (.if_icmp .ge 7, 3) := by decide +kernel
theorem dX5_compare_64 : decode cX5_compare 64 = .ok (.iconst 2, 1) := by decide +kernel
theorem dX5_compare_65 : decode cX5_compare 65 = .ok (.goto 4, 3) := by decide +kernel
theorem dX5_compare_68 : decode cX5_compare 68 = .ok (.iconst 4, 1) := by decide +kernel
theorem dX5_compare_69 : decode cX5_compare 69 = .ok (.ireturn, 1) := by decide +kernel
theorem dX5_receivers_0 : decode cX5_receivers 0 = .ok (.iload_n 1, 1) := by decide +kernel
theorem dX5_receivers_1 : decode cX5_receivers 1 = .ok (.aload_n 0, 1) := by decide +kernel
theorem dX5_receivers_2 : decode cX5_receivers 2 = .ok (.getfield 91, 3) := by decide +kernel
theorem dX5_receivers_5 : decode cX5_receivers 5 = .ok (.invokestatic 72, 3) := by decide +kernel
theorem dX5_receivers_8 : decode cX5_receivers 8 = .ok (.ifCond .eq 11, 3) := by decide +kernel
theorem dX5_receivers_11 : decode cX5_receivers 11 = .ok (.iload_n 2, 1) := by decide +kernel
theorem dX5_receivers_12 : decode cX5_receivers 12 = .ok (.iconst 4, 1) := by decide +kernel
theorem dX5_receivers_13 : decode cX5_receivers 13 = .ok (.invokestatic 72, 3) := by decide +kernel
theorem dX5_receivers_16 : decode cX5_receivers 16 = .ok (.ifCond .ne 5, 3) := by decide +kernel
theorem dX5_receivers_19 : decode cX5_receivers 19 = .ok (.iconst (-1), 1) := by decide +kernel
theorem dX5_receivers_20 : decode cX5_receivers 20 = .ok (.ireturn, 1) := by decide +kernel
theorem dX5_receivers_21 : decode cX5_receivers 21 = .ok (.iconst 0, 1) := by decide +kernel
theorem dX5_receivers_22 : decode cX5_receivers 22 = .ok (.istore_n 3, 1) := by decide +kernel
theorem dX5_receivers_23 : decode cX5_receivers 23 = .ok (.iconst 0, 1) := by decide +kernel
theorem dX5_receivers_24 : decode cX5_receivers 24 = .ok (.istore 4, 2) := by decide +kernel
theorem dX5_receivers_26 : decode cX5_receivers 26 = .ok (.iload 4, 2) := by decide +kernel
theorem dX5_receivers_28 : decode cX5_receivers 28 = .ok (.bipush 12, 2) := by decide +kernel
theorem dX5_receivers_30 : decode cX5_receivers 30 = .ok (.if_icmp .ge 175, 3) := by decide +kernel
theorem dX5_receivers_33 : decode cX5_receivers 33 = .ok (.aload_n 0, 1) := by decide +kernel
theorem dX5_receivers_34 : decode cX5_receivers 34 = .ok (.getfield 50, 3) := by decide +kernel
theorem dX5_receivers_37 : decode cX5_receivers 37 = .ok (.iload_n 1, 1) := by decide +kernel
theorem dX5_receivers_38 : decode cX5_receivers 38 = .ok (.iaload, 1) := by decide +kernel
theorem dX5_receivers_39 : decode cX5_receivers 39 = .ok (.iconst 4, 1) := by decide +kernel
theorem dX5_receivers_40 : decode cX5_receivers 40 = .ok (.if_icmp .eq 14, 3) := by decide +kernel
theorem dX5_receivers_43 : decode cX5_receivers 43 = .ok (.aload_n 0, 1) := by decide +kernel
theorem dX5_receivers_44 : decode cX5_receivers 44 = .ok (.getfield 50, 3) := by decide +kernel
theorem dX5_receivers_47 : decode cX5_receivers 47 = .ok (.iload_n 1, 1) := by decide +kernel
theorem dX5_receivers_48 : decode cX5_receivers 48 = .ok (.iaload, 1) := by decide +kernel
theorem dX5_receivers_49 : decode cX5_receivers 49 = .ok (.bipush 7, 2) := by decide +kernel
theorem dX5_receivers_51 : decode cX5_receivers 51 = .ok (.if_icmp .ne 154, 3) := by decide +kernel
theorem dX5_receivers_54 : decode cX5_receivers 54 = .ok (.aload_n 0, 1) := by decide +kernel
theorem dX5_receivers_55 : decode cX5_receivers 55 = .ok (.iconst 0, 1) := by decide +kernel
theorem dX5_receivers_56 : decode cX5_receivers 56 = .ok (.iload_n 1, 1) := by decide +kernel
theorem dX5_receivers_57 : decode cX5_receivers 57 = .ok (.invokevirtual 155, 3) := by decide +kernel
theorem dX5_receivers_60 : decode cX5_receivers 60 = .ok (.ifCond .eq 14, 3) := by decide +kernel
theorem dX5_receivers_63 : decode cX5_receivers 63 = .ok (.aload_n 0, 1) := by decide +kernel
theorem dX5_receivers_64 : decode cX5_receivers 64 = .ok (.iconst 0, 1) := by decide +kernel
theorem dX5_receivers_65 : decode cX5_receivers 65 = .ok (.iload_n 1, 1) := by decide +kernel
theorem dX5_receivers_66 : decode cX5_receivers 66 = .ok (.iload 4, 2) := by decide +kernel
theorem dX5_receivers_68 : decode cX5_receivers 68 = .ok (.invokevirtual 158, 3) := by decide +kernel
theorem dX5_receivers_71 : decode cX5_receivers 71 = .ok (.goto 6, 3) := by decide +kernel
theorem dX5_receivers_74 : decode cX5_receivers 74 = .ok (.sipush 512, 3) := by decide +kernel
theorem dX5_receivers_77 : decode cX5_receivers 77 = .ok (.istore 5, 2) := by decide +kernel
theorem dX5_receivers_79 : decode cX5_receivers 79 = .ok (.aload_n 0, 1) := by decide +kernel
theorem dX5_receivers_80 : decode cX5_receivers 80 = .ok (.iconst 1, 1) := by decide +kernel
theorem dX5_receivers_81 : decode cX5_receivers 81 = .ok (.iload_n 1, 1) := by decide +kernel
theorem dX5_receivers_82 : decode cX5_receivers 82 = .ok (.invokevirtual 155, 3) := by decide +kernel
theorem dX5_receivers_85 : decode cX5_receivers 85 = .ok (.ifCond .eq 14, 3) := by decide +kernel
theorem dX5_receivers_88 : decode cX5_receivers 88 = .ok (.aload_n 0, 1) := by decide +kernel
theorem dX5_receivers_89 : decode cX5_receivers 89 = .ok (.iconst 1, 1) := by decide +kernel
theorem dX5_receivers_90 : decode cX5_receivers 90 = .ok (.iload_n 1, 1) := by decide +kernel
theorem dX5_receivers_91 : decode cX5_receivers 91 = .ok (.iload 4, 2) := by decide +kernel
theorem dX5_receivers_93 : decode cX5_receivers 93 = .ok (.invokevirtual 158, 3) := by decide +kernel
theorem dX5_receivers_96 : decode cX5_receivers 96 = .ok (.goto 6, 3) := by decide +kernel
theorem dX5_receivers_99 : decode cX5_receivers 99 = .ok (.sipush 512, 3) := by decide +kernel
theorem dX5_receivers_102 : decode cX5_receivers 102 = .ok (.istore 6, 2) := by decide +kernel
theorem dX5_receivers_104 : decode cX5_receivers 104 = .ok (.iload 5, 2) := by decide +kernel
theorem dX5_receivers_106 : decode cX5_receivers 106 = .ok (.bipush 64, 2) := by decide +kernel
theorem dX5_receivers_108 : decode cX5_receivers 108 = .ok (.if_icmp .ge 7, 3) := by decide +kernel
theorem dX5_receivers_111 : decode cX5_receivers 111 = .ok (.iconst 1, 1) := by decide +kernel
theorem dX5_receivers_112 : decode cX5_receivers 112 = .ok (.goto 4, 3) := by decide +kernel
theorem dX5_receivers_115 : decode cX5_receivers 115 = .ok (.iconst 0, 1) := by decide +kernel
theorem dX5_receivers_116 : decode cX5_receivers 116 = .ok (.istore 7, 2) := by decide +kernel
theorem dX5_receivers_118 : decode cX5_receivers 118 = .ok (.iload 6, 2) := by decide +kernel
theorem dX5_receivers_120 : decode cX5_receivers 120 = .ok (.bipush 64, 2) := by decide +kernel
theorem dX5_receivers_122 : decode cX5_receivers 122 = .ok (.if_icmp .ge 7, 3) := by decide +kernel
theorem dX5_receivers_125 : decode cX5_receivers 125 = .ok (.iconst 1, 1) := by decide +kernel
theorem dX5_receivers_126 : decode cX5_receivers 126 = .ok (.goto 4, 3) := by decide +kernel
theorem dX5_receivers_129 : decode cX5_receivers 129 = .ok (.iconst 0, 1) := by decide +kernel
theorem dX5_receivers_130 : decode cX5_receivers 130 = .ok (.istore 8, 2) := by decide +kernel
theorem dX5_receivers_132 : decode cX5_receivers 132 = .ok (.iload_n 2, 1) := by decide +kernel
theorem dX5_receivers_133 : decode cX5_receivers 133 = .ok (.ifCond .ne 11, 3) := by decide +kernel
theorem dX5_receivers_136 : decode cX5_receivers 136 = .ok (.iload 7, 2) := by decide +kernel
theorem dX5_receivers_138 : decode cX5_receivers 138 = .ok (.ifCond .eq 61, 3) := by decide +kernel
theorem dX5_receivers_141 : decode cX5_receivers 141 = .ok (.goto 55, 3) := by decide +kernel
theorem dX5_receivers_144 : decode cX5_receivers 144 = .ok (.iload_n 2, 1) := by decide +kernel
theorem dX5_receivers_145 : decode cX5_receivers 145 = .ok (.iconst 1, 1) := by decide +kernel
theorem dX5_receivers_146 : decode cX5_receivers 146 = .ok (.if_icmp .ne 11, 3) := by decide +kernel
theorem dX5_receivers_149 : decode cX5_receivers 149 = .ok (.iload 8, 2) := by decide +kernel
theorem dX5_receivers_151 : decode cX5_receivers 151 = .ok (.ifCond .eq 48, 3) := by decide +kernel
theorem dX5_receivers_154 : decode cX5_receivers 154 = .ok (.goto 42, 3) := by decide +kernel
theorem dX5_receivers_157 : decode cX5_receivers 157 = .ok (.iload_n 2, 1) := by decide +kernel
theorem dX5_receivers_158 : decode cX5_receivers 158 = .ok (.iconst 2, 1) := by decide +kernel
theorem dX5_receivers_159 : decode cX5_receivers 159 = .ok (.if_icmp .ne 16, 3) := by decide +kernel
theorem dX5_receivers_162 : decode cX5_receivers 162 = .ok (.iload 7, 2) := by decide +kernel
theorem dX5_receivers_164 : decode cX5_receivers 164 = .ok (.ifCond .eq 35, 3) := by decide +kernel
theorem dX5_receivers_167 : decode cX5_receivers 167 = .ok (.iload 8, 2) := by decide +kernel
theorem dX5_receivers_169 : decode cX5_receivers 169 = .ok (.ifCond .ne 30, 3) := by decide +kernel
theorem dX5_receivers_172 : decode cX5_receivers 172 = .ok (.goto 24, 3) := by decide +kernel
theorem dX5_receivers_175 : decode cX5_receivers 175 = .ok (.iload 7, 2) := by decide +kernel
theorem dX5_receivers_177 : decode cX5_receivers 177 = .ok (.ifCond .eq 22, 3) := by decide +kernel
theorem dX5_receivers_180 : decode cX5_receivers 180 = .ok (.iload 8, 2) := by decide +kernel
theorem dX5_receivers_182 : decode cX5_receivers 182 = .ok (.ifCond .eq 17, 3) := by decide +kernel
theorem dX5_receivers_185 : decode cX5_receivers 185 = .ok (.aload_n 0, 1) := by decide +kernel
theorem dX5_receivers_186 : decode cX5_receivers 186 = .ok (.iload 5, 2) := by decide +kernel
theorem dX5_receivers_188 : decode cX5_receivers 188 = .ok (.iload 6, 2) := by decide +kernel
theorem dX5_receivers_190 : decode cX5_receivers 190 = .ok (.invokevirtual 161, 3) := by decide +kernel
theorem dX5_receivers_193 : decode cX5_receivers 193 = .ok (.ifCond .ne 6, 3) := by decide +kernel
theorem dX5_receivers_196 : decode cX5_receivers 196 = .ok (.iinc 3 1, 3) := by decide +kernel
theorem dX5_receivers_199 : decode cX5_receivers 199 = .ok (.iinc 4 1, 3) := by decide +kernel
theorem dX5_receivers_202 : decode cX5_receivers 202 = .ok (.goto (-176), 3) := by decide +kernel
theorem dX5_receivers_205 : decode cX5_receivers 205 = .ok (.iload_n 3, 1) := by decide +kernel
theorem dX5_receivers_206 : decode cX5_receivers 206 = .ok (.ireturn, 1) := by decide +kernel
theorem dX5_isUnder_0 : decode cX5_isUnder 0 = .ok (.iload_n 1, 1) := by decide +kernel
theorem dX5_isUnder_1 : decode cX5_isUnder 1 = .ok (.iconst 2, 1) := by decide +kernel
theorem dX5_isUnder_2 : decode cX5_isUnder 2 = .ok (.invokestatic 72, 3) := by decide +kernel
theorem dX5_isUnder_5 : decode cX5_isUnder 5 = .ok (.ifCond .eq 53, 3) := by decide +kernel
theorem dX5_isUnder_8 : decode cX5_isUnder 8 = .ok (.iload_n 2, 1) := by decide +kernel
theorem dX5_isUnder_9 : decode cX5_isUnder 9 = .ok (.bipush 12, 2) := by decide +kernel
theorem dX5_isUnder_11 : decode cX5_isUnder 11 = .ok (.invokestatic 72, 3) := by decide +kernel
theorem dX5_isUnder_14 : decode cX5_isUnder 14 = .ok (.ifCond .eq 44, 3) := by decide +kernel
theorem dX5_isUnder_17 : decode cX5_isUnder 17 = .ok (.iload_n 3, 1) := by decide +kernel
theorem dX5_isUnder_18 : decode cX5_isUnder 18 = .ok (.bipush 12, 2) := by decide +kernel
theorem dX5_isUnder_20 : decode cX5_isUnder 20 = .ok (.invokestatic 72, 3) := by decide +kernel
theorem dX5_isUnder_23 : decode cX5_isUnder 23 = .ok (.ifCond .eq 35, 3) := by decide +kernel
theorem dX5_isUnder_26 : decode cX5_isUnder 26 = .ok (.aload_n 0, 1) := by decide +kernel
theorem dX5_isUnder_27 : decode cX5_isUnder 27 = .ok (.iload_n 1, 1) := by decide +kernel
theorem dX5_isUnder_28 : decode cX5_isUnder 28 = .ok (.iload_n 2, 1) := by decide +kernel
theorem dX5_isUnder_29 : decode cX5_isUnder 29 = .ok (.invokevirtual 146, 3) := by decide +kernel
theorem dX5_isUnder_32 : decode cX5_isUnder 32 = .ok (.ifCond .eq 26, 3) := by decide +kernel
theorem dX5_isUnder_35 : decode cX5_isUnder 35 = .ok (.aload_n 0, 1) := by decide +kernel
theorem dX5_isUnder_36 : decode cX5_isUnder 36 = .ok (.iload_n 1, 1) := by decide +kernel
theorem dX5_isUnder_37 : decode cX5_isUnder 37 = .ok (.iload_n 3, 1) := by decide +kernel
theorem dX5_isUnder_38 : decode cX5_isUnder 38 = .ok (.invokevirtual 146, 3) := by decide +kernel
theorem dX5_isUnder_41 : decode cX5_isUnder 41 = .ok (.ifCond .eq 17, 3) := by decide +kernel
theorem dX5_isUnder_44 : decode cX5_isUnder 44 = .ok (.aload_n 0, 1) := by decide +kernel
theorem dX5_isUnder_45 : decode cX5_isUnder 45 = .ok (.iload_n 1, 1) := by decide +kernel
theorem dX5_isUnder_46 : decode cX5_isUnder 46 = .ok (.iload_n 2, 1) := by decide +kernel
theorem dX5_isUnder_47 : decode cX5_isUnder 47 = .ok (.iload_n 3, 1) := by decide +kernel
theorem dX5_isUnder_48 : decode cX5_isUnder 48 = .ok (.invokevirtual 116, 3) := by decide +kernel
theorem dX5_isUnder_51 : decode cX5_isUnder 51 = .ok (.ifCond .eq 7, 3) := by decide +kernel
theorem dX5_isUnder_54 : decode cX5_isUnder 54 = .ok (.iconst 1, 1) := by decide +kernel
theorem dX5_isUnder_55 : decode cX5_isUnder 55 = .ok (.goto 4, 3) := by decide +kernel
theorem dX5_isUnder_58 : decode cX5_isUnder 58 = .ok (.iconst 0, 1) := by decide +kernel
theorem dX5_isUnder_59 : decode cX5_isUnder 59 = .ok (.ireturn, 1) := by decide +kernel
theorem dX5_neighbours_0 : decode cX5_neighbours 0 = .ok (.iconst 0, 1) := by decide +kernel
theorem dX5_neighbours_1 : decode cX5_neighbours 1 = .ok (.istore_n 2, 1) := by decide +kernel
theorem dX5_neighbours_2 : decode cX5_neighbours 2 = .ok (.iconst 0, 1) := by decide +kernel
theorem dX5_neighbours_3 : decode cX5_neighbours 3 = .ok (.istore_n 3, 1) := by decide +kernel
theorem dX5_neighbours_4 : decode cX5_neighbours 4 = .ok (.iload_n 3, 1) := by decide +kernel
theorem dX5_neighbours_5 : decode cX5_neighbours 5 = .ok (.bipush 12, 2) := by decide +kernel
theorem dX5_neighbours_7 : decode cX5_neighbours 7 = .ok (.if_icmp .ge 82, 3) := by decide +kernel
theorem dX5_neighbours_10 : decode cX5_neighbours 10 = .ok (.iconst 0, 1) := by decide +kernel
theorem dX5_neighbours_11 : decode cX5_neighbours 11 = .ok (.istore 4, 2) := by decide +kernel
theorem dX5_neighbours_13 : decode cX5_neighbours 13 = .ok (.iload 4, 2) := by decide +kernel
theorem dX5_neighbours_15 : decode cX5_neighbours 15 = .ok (.bipush 12, 2) := by decide +kernel
theorem dX5_neighbours_17 : decode cX5_neighbours 17 = .ok (.if_icmp .ge 66, 3) := by decide +kernel
theorem dX5_neighbours_20 : decode cX5_neighbours 20 = .ok (.iload_n 3, 1) := by decide +kernel
theorem dX5_neighbours_21 : decode cX5_neighbours 21 = .ok (.iload 4, 2) := by decide +kernel
theorem dX5_neighbours_23 : decode cX5_neighbours 23 = .ok (.if_icmp .eq 54, 3) := by decide +kernel
theorem dX5_neighbours_26 : decode cX5_neighbours 26 = .ok (.aload_n 0, 1) := by decide +kernel
theorem dX5_neighbours_27 : decode cX5_neighbours 27 = .ok (.getfield 7, 3) := by decide +kernel
theorem dX5_neighbours_30 : decode cX5_neighbours 30 = .ok (.bipush 12, 2) := by decide +kernel
theorem dX5_neighbours_32 : decode cX5_neighbours 32 = .ok (.iload_n 1, 1) := by decide +kernel
theorem dX5_neighbours_33 : decode cX5_neighbours 33 = .ok (.imul, 1) := by decide +kernel
theorem dX5_neighbours_34 : decode cX5_neighbours 34 = .ok (.iload_n 3, 1) := by decide +kernel
theorem dX5_neighbours_35 : decode cX5_neighbours 35 = .ok (.iadd, 1) := by decide +kernel
theorem dX5_neighbours_36 : decode cX5_neighbours 36 = .ok (.baload, 1) := by decide +kernel
theorem dX5_neighbours_37 : decode cX5_neighbours 37 = .ok (.ifCond .eq 40, 3) := by decide +kernel
theorem dX5_neighbours_40 : decode cX5_neighbours 40 = .ok (.aload_n 0, 1) := by decide +kernel
theorem dX5_neighbours_41 : decode cX5_neighbours 41 = .ok (.getfield 7, 3) := by decide +kernel
theorem dX5_neighbours_44 : decode cX5_neighbours 44 = .ok (.bipush 12, 2) := by decide +kernel
theorem dX5_neighbours_46 : decode cX5_neighbours 46 = .ok (.iload_n 1, 1) := by decide +kernel
theorem dX5_neighbours_47 : decode cX5_neighbours 47 = .ok (.imul, 1) := by decide +kernel
theorem dX5_neighbours_48 : decode cX5_neighbours 48 = .ok (.iload 4, 2) := by decide +kernel
theorem dX5_neighbours_50 : decode cX5_neighbours 50 = .ok (.iadd, 1) := by decide +kernel
theorem dX5_neighbours_51 : decode cX5_neighbours 51 = .ok (.baload, 1) := by decide +kernel
theorem dX5_neighbours_52 : decode cX5_neighbours 52 = .ok (.ifCond .eq 25, 3) := by decide +kernel
theorem dX5_neighbours_55 : decode cX5_neighbours 55 = .ok (.aload_n 0, 1) := by decide +kernel
theorem dX5_neighbours_56 : decode cX5_neighbours 56 = .ok (.iload_n 1, 1) := by decide +kernel
theorem dX5_neighbours_57 : decode cX5_neighbours 57 = .ok (.iload_n 3, 1) := by decide +kernel
theorem dX5_neighbours_58 : decode cX5_neighbours 58 = .ok (.invokevirtual 113, 3) := by decide +kernel
theorem dX5_neighbours_61 : decode cX5_neighbours 61 = .ok (.aload_n 0, 1) := by decide +kernel
theorem dX5_neighbours_62 : decode cX5_neighbours 62 = .ok (.iload_n 1, 1) := by decide +kernel
theorem dX5_neighbours_63 : decode cX5_neighbours 63 = .ok (.iload 4, 2) := by decide +kernel
theorem dX5_neighbours_65 : decode cX5_neighbours 65 = .ok (.invokevirtual 113, 3) := by decide +kernel
theorem dX5_neighbours_68 : decode cX5_neighbours 68 = .ok (.if_icmp .ne 9, 3) := by decide +kernel
theorem dX5_neighbours_71 : decode cX5_neighbours 71 = .ok (.iload_n 2, 1) := by decide +kernel
theorem dX5_neighbours_72 : decode cX5_neighbours 72 = .ok (.iconst 1, 1) := by decide +kernel
theorem dX5_neighbours_73 : decode cX5_neighbours 73 = .ok (.iload_n 3, 1) := by decide +kernel
theorem dX5_neighbours_74 : decode cX5_neighbours 74 = .ok (.ishl, 1) := by decide +kernel
theorem dX5_neighbours_75 : decode cX5_neighbours 75 = .ok (.ior, 1) := by decide +kernel
theorem dX5_neighbours_76 : decode cX5_neighbours 76 = .ok (.istore_n 2, 1) := by decide +kernel
theorem dX5_neighbours_77 : decode cX5_neighbours 77 = .ok (.iinc 4 1, 3) := by decide +kernel
theorem dX5_neighbours_80 : decode cX5_neighbours 80 = .ok (.goto (-67), 3) := by decide +kernel
theorem dX5_neighbours_83 : decode cX5_neighbours 83 = .ok (.iinc 3 1, 3) := by decide +kernel
theorem dX5_neighbours_86 : decode cX5_neighbours 86 = .ok (.goto (-82), 3) := by decide +kernel
theorem dX5_neighbours_89 : decode cX5_neighbours 89 = .ok (.iload_n 2, 1) := by decide +kernel
theorem dX5_neighbours_90 : decode cX5_neighbours 90 = .ok (.ireturn, 1) := by decide +kernel
theorem dX5_count_0 : decode cX5_count 0 = .ok (.iload_n 1, 1) := by decide +kernel
theorem dX5_count_1 : decode cX5_count 1 = .ok (.iconst 2, 1) := by decide +kernel
theorem dX5_count_2 : decode cX5_count 2 = .ok (.invokestatic 72, 3) := by decide +kernel
theorem dX5_count_5 : decode cX5_count 5 = .ok (.ifCond .eq 12, 3) := by decide +kernel
theorem dX5_count_8 : decode cX5_count 8 = .ok (.iload_n 2, 1) := by decide +kernel
theorem dX5_count_9 : decode cX5_count 9 = .ok (.bipush 7, 2) := by decide +kernel
theorem dX5_count_11 : decode cX5_count 11 = .ok (.invokestatic 72, 3) := by decide +kernel
theorem dX5_count_14 : decode cX5_count 14 = .ok (.ifCond .ne 5, 3) := by decide +kernel
theorem dX5_count_17 : decode cX5_count 17 = .ok (.iconst (-1), 1) := by decide +kernel
theorem dX5_count_18 : decode cX5_count 18 = .ok (.ireturn, 1) := by decide +kernel
theorem dX5_count_19 : decode cX5_count 19 = .ok (.iconst 0, 1) := by decide +kernel
theorem dX5_count_20 : decode cX5_count 20 = .ok (.istore_n 3, 1) := by decide +kernel
theorem dX5_count_21 : decode cX5_count 21 = .ok (.iconst 0, 1) := by decide +kernel
theorem dX5_count_22 : decode cX5_count 22 = .ok (.istore 4, 2) := by decide +kernel
theorem dX5_count_24 : decode cX5_count 24 = .ok (.iload 4, 2) := by decide +kernel
theorem dX5_count_26 : decode cX5_count 26 = .ok (.bipush 12, 2) := by decide +kernel
theorem dX5_count_28 : decode cX5_count 28 = .ok (.if_icmp .ge 46, 3) := by decide +kernel
theorem dX5_count_31 : decode cX5_count 31 = .ok (.aload_n 0, 1) := by decide +kernel
theorem dX5_count_32 : decode cX5_count 32 = .ok (.getfield 7, 3) := by decide +kernel
theorem dX5_count_35 : decode cX5_count 35 = .ok (.bipush 12, 2) := by decide +kernel
theorem dX5_count_37 : decode cX5_count 37 = .ok (.iload_n 1, 1) := by decide +kernel
theorem dX5_count_38 : decode cX5_count 38 = .ok (.imul, 1) := by decide +kernel
theorem dX5_count_39 : decode cX5_count 39 = .ok (.iload 4, 2) := by decide +kernel
theorem dX5_count_41 : decode cX5_count 41 = .ok (.iadd, 1) := by decide +kernel
theorem dX5_count_42 : decode cX5_count 42 = .ok (.baload, 1) := by decide +kernel
theorem dX5_count_43 : decode cX5_count 43 = .ok (.ifCond .eq 25, 3) := by decide +kernel
theorem dX5_count_46 : decode cX5_count 46 = .ok (.iload_n 2, 1) := by decide +kernel
theorem dX5_count_47 : decode cX5_count 47 = .ok (.ifCond .eq 18, 3) := by decide +kernel
theorem dX5_count_50 : decode cX5_count 50 = .ok (.iload_n 2, 1) := by decide +kernel
theorem dX5_count_51 : decode cX5_count 51 = .ok (.iconst 4, 1) := by decide +kernel
theorem dX5_count_52 : decode cX5_count 52 = .ok (.if_icmp .ne 16, 3) := by decide +kernel
theorem dX5_count_55 : decode cX5_count 55 = .ok (.aload_n 0, 1) := by decide +kernel
theorem dX5_count_56 : decode cX5_count 56 = .ok (.iload_n 1, 1) := by decide +kernel
theorem dX5_count_57 : decode cX5_count 57 = .ok (.iload 4, 2) := by decide +kernel
theorem dX5_count_59 : decode cX5_count 59 = .ok (.invokevirtual 146, 3) := by decide +kernel
theorem dX5_count_62 : decode cX5_count 62 = .ok (.ifCond .eq 6, 3) := by decide +kernel
theorem dX5_count_65 : decode cX5_count 65 = .ok (.iinc 3 1, 3) := by decide +kernel
theorem dX5_count_68 : decode cX5_count 68 = .ok (.iinc 4 1, 3) := by decide +kernel
theorem dX5_count_71 : decode cX5_count 71 = .ok (.goto (-47), 3) := by decide +kernel
theorem dX5_count_74 : decode cX5_count 74 = .ok (.bipush 30, 2) := by decide +kernel
theorem dX5_count_76 : decode cX5_count 76 = .ok (.iload_n 1, 1) := by decide +kernel
theorem dX5_count_77 : decode cX5_count 77 = .ok (.imul, 1) := by decide +kernel
theorem dX5_count_78 : decode cX5_count 78 = .ok (.istore 4, 2) := by decide +kernel
theorem dX5_count_80 : decode cX5_count 80 = .ok (.iload 4, 2) := by decide +kernel
theorem dX5_count_82 : decode cX5_count 82 = .ok (.bipush 30, 2) := by decide +kernel
theorem dX5_count_84 : decode cX5_count 84 = .ok (.iload_n 1, 1) := by decide +kernel
theorem dX5_count_85 : decode cX5_count 85 = .ok (.imul, 1) := by decide +kernel
theorem dX5_count_86 : decode cX5_count 86 = .ok (.aload_n 0, 1) := by decide +kernel
theorem dX5_count_87 : decode cX5_count 87 = .ok (.getfield 35, 3) := by decide +kernel
theorem dX5_count_90 : decode cX5_count 90 = .ok (.iload_n 1, 1) := by decide +kernel
theorem dX5_count_91 : decode cX5_count 91 = .ok (.iaload, 1) := by decide +kernel
theorem dX5_count_92 : decode cX5_count 92 = .ok (.iadd, 1) := by decide +kernel
theorem dX5_count_93 : decode cX5_count 93 = .ok (.if_icmp .ge 54, 3) := by decide +kernel
theorem dX5_count_96 : decode cX5_count 96 = .ok (.aload_n 0, 1) := by decide +kernel
theorem dX5_count_97 : decode cX5_count 97 = .ok (.getfield 32, 3) := by decide +kernel
theorem dX5_count_100 : decode cX5_count 100 = .ok (.iload 4, 2) := by decide +kernel
theorem dX5_count_102 : decode cX5_count 102 = .ok (.baload, 1) := by decide +kernel
theorem dX5_count_103 : decode cX5_count 103 = .ok (.ifCond .ne 38, 3) := by decide +kernel
theorem dX5_count_106 : decode cX5_count 106 = .ok (.iload_n 2, 1) := by decide +kernel
theorem dX5_count_107 : decode cX5_count 107 = .ok (.iconst 1, 1) := by decide +kernel
theorem dX5_count_108 : decode cX5_count 108 = .ok (.if_icmp .eq 30, 3) := by decide +kernel
theorem dX5_count_111 : decode cX5_count 111 = .ok (.iload_n 2, 1) := by decide +kernel
theorem dX5_count_112 : decode cX5_count 112 = .ok (.iconst 5, 1) := by decide +kernel
theorem dX5_count_113 : decode cX5_count 113 = .ok (.if_icmp .ne 28, 3) := by decide +kernel
theorem dX5_count_116 : decode cX5_count 116 = .ok (.aload_n 0, 1) := by decide +kernel
theorem dX5_count_117 : decode cX5_count 117 = .ok (.getfield 29, 3) := by decide +kernel
theorem dX5_count_120 : decode cX5_count 120 = .ok (.iload 4, 2) := by decide +kernel
theorem dX5_count_122 : decode cX5_count 122 = .ok (.baload, 1) := by decide +kernel
theorem dX5_count_123 : decode cX5_count 123 = .ok (.ifCond .eq 18, 3) := by decide +kernel
theorem dX5_count_126 : decode cX5_count 126 = .ok (.aload_n 0, 1) := by decide +kernel
theorem dX5_count_127 : decode cX5_count 127 = .ok (.getfield 47, 3) := by decide +kernel
theorem dX5_count_130 : decode cX5_count 130 = .ok (.iload 4, 2) := by decide +kernel
theorem dX5_count_132 : decode cX5_count 132 = .ok (.iaload, 1) := by decide +kernel
theorem dX5_count_133 : decode cX5_count 133 = .ok (.iconst 2, 1) := by decide +kernel
theorem dX5_count_134 : decode cX5_count 134 = .ok (.iand, 1) := by decide +kernel
theorem dX5_count_135 : decode cX5_count 135 = .ok (.ifCond .eq 6, 3) := by decide +kernel
theorem dX5_count_138 : decode cX5_count 138 = .ok (.iinc 3 1, 3) := by decide +kernel
theorem dX5_count_141 : decode cX5_count 141 = .ok (.iinc 4 1, 3) := by decide +kernel
theorem dX5_count_144 : decode cX5_count 144 = .ok (.goto (-64), 3) := by decide +kernel
theorem dX5_count_147 : decode cX5_count 147 = .ok (.iconst 0, 1) := by decide +kernel
theorem dX5_count_148 : decode cX5_count 148 = .ok (.istore 4, 2) := by decide +kernel
theorem dX5_count_150 : decode cX5_count 150 = .ok (.iload 4, 2) := by decide +kernel
theorem dX5_count_152 : decode cX5_count 152 = .ok (.aload_n 0, 1) := by decide +kernel
theorem dX5_count_153 : decode cX5_count 153 = .ok (.getfield 91, 3) := by decide +kernel
theorem dX5_count_156 : decode cX5_count 156 = .ok (.if_icmp .ge 29, 3) := by decide +kernel
theorem dX5_count_159 : decode cX5_count 159 = .ok (.iload_n 2, 1) := by decide +kernel
theorem dX5_count_160 : decode cX5_count 160 = .ok (.iconst 3, 1) := by decide +kernel
theorem dX5_count_161 : decode cX5_count 161 = .ok (.if_icmp .ne 18, 3) := by decide +kernel
theorem dX5_count_164 : decode cX5_count 164 = .ok (.aload_n 0, 1) := by decide +kernel
theorem dX5_count_165 : decode cX5_count 165 = .ok (.iload_n 1, 1) := by decide +kernel
theorem dX5_count_166 : decode cX5_count 166 = .ok (.iload 4, 2) := by decide +kernel
theorem dX5_count_168 : decode cX5_count 168 = .ok (.invokevirtual 143, 3) := by decide +kernel
theorem dX5_count_171 : decode cX5_count 171 = .ok (.bipush 64, 2) := by decide +kernel
theorem dX5_count_173 : decode cX5_count 173 = .ok (.if_icmp .ge 6, 3) := by decide +kernel
theorem dX5_count_176 : decode cX5_count 176 = .ok (.iinc 3 1, 3) := by decide +kernel
theorem dX5_count_179 : decode cX5_count 179 = .ok (.iinc 4 1, 3) := by decide +kernel
theorem dX5_count_182 : decode cX5_count 182 = .ok (.goto (-32), 3) := by decide +kernel
theorem dX5_count_185 : decode cX5_count 185 = .ok (.iload_n 2, 1) := by decide +kernel
theorem dX5_count_186 : decode cX5_count 186 = .ok (.iconst 2, 1) := by decide +kernel
theorem dX5_count_187 : decode cX5_count 187 = .ok (.if_icmp .ne 12, 3) := by decide +kernel
theorem dX5_count_190 : decode cX5_count 190 = .ok (.aload_n 0, 1) := by decide +kernel
theorem dX5_count_191 : decode cX5_count 191 = .ok (.getfield 35, 3) := by decide +kernel
theorem dX5_count_194 : decode cX5_count 194 = .ok (.iload_n 1, 1) := by decide +kernel
theorem dX5_count_195 : decode cX5_count 195 = .ok (.iaload, 1) := by decide +kernel
theorem dX5_count_196 : decode cX5_count 196 = .ok (.goto 18, 3) := by decide +kernel
theorem dX5_count_199 : decode cX5_count 199 = .ok (.iload_n 2, 1) := by decide +kernel
theorem dX5_count_200 : decode cX5_count 200 = .ok (.bipush 6, 2) := by decide +kernel
theorem dX5_count_202 : decode cX5_count 202 = .ok (.if_icmp .ne 11, 3) := by decide +kernel
theorem dX5_count_205 : decode cX5_count 205 = .ok (.aload_n 0, 1) := by decide +kernel
theorem dX5_count_206 : decode cX5_count 206 = .ok (.iload_n 1, 1) := by decide +kernel
theorem dX5_count_207 : decode cX5_count 207 = .ok (.invokevirtual 164, 3) := by decide +kernel
theorem dX5_count_210 : decode cX5_count 210 = .ok (.goto 4, 3) := by decide +kernel
theorem dX5_count_213 : decode cX5_count 213 = .ok (.iload_n 3, 1) := by decide +kernel
theorem dX5_count_214 : decode cX5_count 214 = .ok (.ireturn, 1) := by decide +kernel
theorem dJ6_bitCount_0f7a4_0 : decode cJ6_bitCount_0f7a4 0 = .ok (.iload_n 0, 1) := by decide +kernel
theorem dJ6_bitCount_0f7a4_1 : decode cJ6_bitCount_0f7a4 1 = .ok (.iload_n 0, 1) := by decide +kernel
theorem dJ6_bitCount_0f7a4_2 : decode cJ6_bitCount_0f7a4 2 = .ok (.iconst 1, 1) := by decide +kernel
theorem dJ6_bitCount_0f7a4_3 : decode cJ6_bitCount_0f7a4 3 = .ok (.iushr, 1) := by decide +kernel
theorem dJ6_bitCount_0f7a4_4 : decode cJ6_bitCount_0f7a4 4 = .ok (.ldc_w 265, 3) := by decide +kernel
theorem dJ6_bitCount_0f7a4_7 : decode cJ6_bitCount_0f7a4 7 = .ok (.iand, 1) := by decide +kernel
theorem dJ6_bitCount_0f7a4_8 : decode cJ6_bitCount_0f7a4 8 = .ok (.isub, 1) := by decide +kernel
theorem dJ6_bitCount_0f7a4_9 : decode cJ6_bitCount_0f7a4 9 = .ok (.istore_n 0, 1) := by decide +kernel
theorem dJ6_bitCount_0f7a4_10 : decode cJ6_bitCount_0f7a4 10 = .ok (.iload_n 0, 1) := by decide +kernel
theorem dJ6_bitCount_0f7a4_11 : decode cJ6_bitCount_0f7a4 11 = .ok (.ldc_w 266, 3) := by decide +kernel
theorem dJ6_bitCount_0f7a4_14 : decode cJ6_bitCount_0f7a4 14 = .ok (.iand, 1) := by decide +kernel
theorem dJ6_bitCount_0f7a4_15 : decode cJ6_bitCount_0f7a4 15 = .ok (.iload_n 0, 1) := by decide +kernel
theorem dJ6_bitCount_0f7a4_16 : decode cJ6_bitCount_0f7a4 16 = .ok (.iconst 2, 1) := by decide +kernel
theorem dJ6_bitCount_0f7a4_17 : decode cJ6_bitCount_0f7a4 17 = .ok (.iushr, 1) := by decide +kernel
theorem dJ6_bitCount_0f7a4_18 : decode cJ6_bitCount_0f7a4 18 = .ok (.ldc_w 266, 3) := by decide +kernel
theorem dJ6_bitCount_0f7a4_21 : decode cJ6_bitCount_0f7a4 21 = .ok (.iand, 1) := by decide +kernel
theorem dJ6_bitCount_0f7a4_22 : decode cJ6_bitCount_0f7a4 22 = .ok (.iadd, 1) := by decide +kernel
theorem dJ6_bitCount_0f7a4_23 : decode cJ6_bitCount_0f7a4 23 = .ok (.istore_n 0, 1) := by decide +kernel
theorem dJ6_bitCount_0f7a4_24 : decode cJ6_bitCount_0f7a4 24 = .ok (.iload_n 0, 1) := by decide +kernel
theorem dJ6_bitCount_0f7a4_25 : decode cJ6_bitCount_0f7a4 25 = .ok (.iload_n 0, 1) := by decide +kernel
theorem dJ6_bitCount_0f7a4_26 : decode cJ6_bitCount_0f7a4 26 = .ok (.iconst 4, 1) := by decide +kernel
theorem dJ6_bitCount_0f7a4_27 : decode cJ6_bitCount_0f7a4 27 = .ok (.iushr, 1) := by decide +kernel
theorem dJ6_bitCount_0f7a4_28 : decode cJ6_bitCount_0f7a4 28 = .ok (.iadd, 1) := by decide +kernel
theorem dJ6_bitCount_0f7a4_29 : decode cJ6_bitCount_0f7a4 29 = .ok (.ldc_w 267, 3) := by decide +kernel
theorem dJ6_bitCount_0f7a4_32 : decode cJ6_bitCount_0f7a4 32 = .ok (.iand, 1) := by decide +kernel
theorem dJ6_bitCount_0f7a4_33 : decode cJ6_bitCount_0f7a4 33 = .ok (.istore_n 0, 1) := by decide +kernel
theorem dJ6_bitCount_0f7a4_34 : decode cJ6_bitCount_0f7a4 34 = .ok (.iload_n 0, 1) := by decide +kernel
theorem dJ6_bitCount_0f7a4_35 : decode cJ6_bitCount_0f7a4 35 = .ok (.iload_n 0, 1) := by decide +kernel
theorem dJ6_bitCount_0f7a4_36 : decode cJ6_bitCount_0f7a4 36 = .ok (.bipush 8, 2) := by decide +kernel
theorem dJ6_bitCount_0f7a4_38 : decode cJ6_bitCount_0f7a4 38 = .ok (.iushr, 1) := by decide +kernel
theorem dJ6_bitCount_0f7a4_39 : decode cJ6_bitCount_0f7a4 39 = .ok (.iadd, 1) := by decide +kernel
theorem dJ6_bitCount_0f7a4_40 : decode cJ6_bitCount_0f7a4 40 = .ok (.istore_n 0, 1) := by decide +kernel
theorem dJ6_bitCount_0f7a4_41 : decode cJ6_bitCount_0f7a4 41 = .ok (.iload_n 0, 1) := by decide +kernel
theorem dJ6_bitCount_0f7a4_42 : decode cJ6_bitCount_0f7a4 42 = .ok (.iload_n 0, 1) := by decide +kernel
theorem dJ6_bitCount_0f7a4_43 : decode cJ6_bitCount_0f7a4 43 = .ok (.bipush 16, 2) := by decide +kernel
theorem dJ6_bitCount_0f7a4_45 : decode cJ6_bitCount_0f7a4 45 = .ok (.iushr, 1) := by decide +kernel
theorem dJ6_bitCount_0f7a4_46 : decode cJ6_bitCount_0f7a4 46 = .ok (.iadd, 1) := by decide +kernel
theorem dJ6_bitCount_0f7a4_47 : decode cJ6_bitCount_0f7a4 47 = .ok (.istore_n 0, 1) := by decide +kernel
theorem dJ6_bitCount_0f7a4_48 : decode cJ6_bitCount_0f7a4 48 = .ok (.iload_n 0, 1) := by decide +kernel
theorem dJ6_bitCount_0f7a4_49 : decode cJ6_bitCount_0f7a4 49 = .ok (.bipush 63, 2) := by decide +kernel
theorem dJ6_bitCount_0f7a4_51 : decode cJ6_bitCount_0f7a4 51 = .ok (.iand, 1) := by decide +kernel
theorem dJ6_bitCount_0f7a4_52 : decode cJ6_bitCount_0f7a4 52 = .ok (.ireturn, 1) := by decide +kernel
theorem dJ9_min_7cf53_0 : decode cJ9_min_7cf53 0 = .ok (.iload_n 0, 1) := by decide +kernel
theorem dJ9_min_7cf53_1 : decode cJ9_min_7cf53 1 = .ok (.iload_n 1, 1) := by decide +kernel
theorem dJ9_min_7cf53_2 : decode cJ9_min_7cf53 2 = .ok (.if_icmp .gt 7, 3) := by decide +kernel
theorem dJ9_min_7cf53_5 : decode cJ9_min_7cf53 5 = .ok (.iload_n 0, 1) := by decide +kernel
theorem dJ9_min_7cf53_6 : decode cJ9_min_7cf53 6 = .ok (.goto 4, 3) := by decide +kernel
theorem dJ9_min_7cf53_9 : decode cJ9_min_7cf53 9 = .ok (.iload_n 1, 1) := by decide +kernel
theorem dJ9_min_7cf53_10 : decode cJ9_min_7cf53 10 = .ok (.ireturn, 1) := by decide +kernel
