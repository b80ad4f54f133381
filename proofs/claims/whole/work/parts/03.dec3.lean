theorem dX12_of_62 : decode cX12_of 62 = .ok (.iload_n 1, 1) := by decide +kernel
theorem dX12_of_63 : decode cX12_of 63 = .ok (.iadd, 1) := by decide +kernel
theorem dX12_of_64 : decode cX12_of 64 = .ok (.iaload, 1) := by decide +kernel
theorem dX12_of_65 : decode cX12_of 65 = .ok (.ireturn, 1) := by decide +kernel
theorem dX12_of_66 : decode cX12_of 66 = .ok (.aload_n 0, 1) := by decide +kernel
theorem dX12_of_67 : decode cX12_of 67 = .ok (.getfield 13, 3) := by decide +kernel
theorem dX12_of_70 : decode cX12_of 70 = .ok (.bipush 57, 2) := by decide +kernel
theorem dX12_of_72 : decode cX12_of 72 = .ok (.iload_n 1, 1) := by decide +kernel
theorem dX12_of_73 : decode cX12_of 73 = .ok (.iadd, 1) := by decide +kernel
theorem dX12_of_74 : decode cX12_of 74 = .ok (.iaload, 1) := by decide +kernel
theorem dX12_of_75 : decode cX12_of 75 = .ok (.ireturn, 1) := by decide +kernel
theorem dX12_of_76 : decode cX12_of 76 = .ok (.aload_n 0, 1) := by decide +kernel
theorem dX12_of_77 : decode cX12_of 77 = .ok (.getfield 13, 3) := by decide +kernel
theorem dX12_of_80 : decode cX12_of 80 = .ok (.bipush 45, 2) := by decide +kernel
theorem dX12_of_82 : decode cX12_of 82 = .ok (.iload_n 1, 1) := by decide +kernel
theorem dX12_of_83 : decode cX12_of 83 = .ok (.iadd, 1) := by decide +kernel
theorem dX12_of_84 : decode cX12_of 84 = .ok (.iaload, 1) := by decide +kernel
theorem dX12_of_85 : decode cX12_of 85 = .ok (.ireturn, 1) := by decide +kernel
theorem dX12_of_86 : decode cX12_of 86 = .ok (.aload_n 0, 1) := by decide +kernel
theorem dX12_of_87 : decode cX12_of 87 = .ok (.getfield 13, 3) := by decide +kernel
theorem dX12_of_90 : decode cX12_of 90 = .ok (.bipush 51, 2) := by decide +kernel
theorem dX12_of_92 : decode cX12_of 92 = .ok (.iload_n 1, 1) := by decide +kernel
theorem dX12_of_93 : decode cX12_of 93 = .ok (.iadd, 1) := by decide +kernel
theorem dX12_of_94 : decode cX12_of 94 = .ok (.iaload, 1) := by decide +kernel
theorem dX12_of_95 : decode cX12_of 95 = .ok (.ireturn, 1) := by decide +kernel
theorem dX12_of_96 : decode cX12_of 96 = .ok (.aload_n 0, 1) := by decide +kernel
theorem dX12_of_97 : decode cX12_of 97 = .ok (.iload_n 1, 1) := by decide +kernel
theorem dX12_of_98 : decode cX12_of 98 = .ok (.invokevirtual 199, 3) := by decide +kernel
theorem dX12_of_101 : decode cX12_of 101 = .ok (.ireturn, 1) := by decide +kernel
theorem dX12_of_102 : decode cX12_of 102 = .ok (.aload_n 0, 1) := by decide +kernel
theorem dX12_of_103 : decode cX12_of 103 = .ok (.iload_n 1, 1) := by decide +kernel
theorem dX12_of_104 : decode cX12_of 104 = .ok (.invokevirtual 202, 3) := by decide +kernel
theorem dX12_of_107 : decode cX12_of 107 = .ok (.ireturn, 1) := by decide +kernel
theorem dX12_of_108 : decode cX12_of 108 = .ok (.iconst (-1), 1) := by decide +kernel
theorem dX12_of_109 : decode cX12_of 109 = .ok (.ireturn, 1) := by decide +kernel
theorem dX12_at_0 : decode cX12_at 0 = .ok (.aload_n 0, 1) := by decide +kernel
theorem dX12_at_1 : decode cX12_at 1 = .ok (.iconst 0, 1) := by decide +kernel
theorem dX12_at_2 : decode cX12_at 2 = .ok (.putfield 153, 3) := by decide +kernel
theorem dX12_at_5 : decode cX12_at 5 = .ok (.iload_n 1, 1) := by decide +kernel
theorem dX12_at_6 : decode cX12_at 6 = .ok (.invokestatic 205, 3) := by decide +kernel
theorem dX12_at_9 : decode cX12_at 9 = .ok (.ifCond .ne 5, 3) := by decide +kernel
theorem dX12_at_12 : decode cX12_at 12 = .ok (.iconst (-1), 1) := by decide +kernel
theorem dX12_at_13 : decode cX12_at 13 = .ok (.ireturn, 1) := by decide +kernel
theorem dX12_at_14 : decode cX12_at 14 = .ok (.iload_n 2, 1) := by decide +kernel
theorem dX12_at_15 : decode cX12_at 15 = .ok (.tableswitch 61 0 3 #[29, 39, 49, 55], 29) := by decide +kernel
theorem dX12_at_44 : decode cX12_at 44 = .ok (.aload_n 0, 1) := by decide +kernel
theorem dX12_at_45 : decode cX12_at 45 = .ok (.getfield 13, 3) := by decide +kernel
theorem dX12_at_48 : decode cX12_at 48 = .ok (.bipush 7, 2) := by decide +kernel
theorem dX12_at_50 : decode cX12_at 50 = .ok (.iload_n 1, 1) := by decide +kernel
theorem dX12_at_51 : decode cX12_at 51 = .ok (.iadd, 1) := by decide +kernel
theorem dX12_at_52 : decode cX12_at 52 = .ok (.iaload, 1) := by decide +kernel
theorem dX12_at_53 : decode cX12_at 53 = .ok (.ireturn, 1) := by decide +kernel
theorem dX12_at_54 : decode cX12_at 54 = .ok (.aload_n 0, 1) := by decide +kernel
theorem dX12_at_55 : decode cX12_at 55 = .ok (.getfield 13, 3) := by decide +kernel
theorem dX12_at_58 : decode cX12_at 58 = .ok (.bipush 23, 2) := by decide +kernel
theorem dX12_at_60 : decode cX12_at 60 = .ok (.iload_n 1, 1) := by decide +kernel
theorem dX12_at_61 : decode cX12_at 61 = .ok (.iadd, 1) := by decide +kernel
theorem dX12_at_62 : decode cX12_at 62 = .ok (.iaload, 1) := by decide +kernel
theorem dX12_at_63 : decode cX12_at 63 = .ok (.ireturn, 1) := by decide +kernel
theorem dX12_at_64 : decode cX12_at 64 = .ok (.aload_n 0, 1) := by decide +kernel
theorem dX12_at_65 : decode cX12_at 65 = .ok (.iload_n 1, 1) := by decide +kernel
theorem dX12_at_66 : decode cX12_at 66 = .ok (.invokevirtual 208, 3) := by decide +kernel
theorem dX12_at_69 : decode cX12_at 69 = .ok (.ireturn, 1) := by decide +kernel
theorem dX12_at_70 : decode cX12_at 70 = .ok (.aload_n 0, 1) := by decide +kernel
theorem dX12_at_71 : decode cX12_at 71 = .ok (.iload_n 1, 1) := by decide +kernel
theorem dX12_at_72 : decode cX12_at 72 = .ok (.invokevirtual 211, 3) := by decide +kernel
theorem dX12_at_75 : decode cX12_at 75 = .ok (.ireturn, 1) := by decide +kernel
theorem dX12_at_76 : decode cX12_at 76 = .ok (.iconst (-1), 1) := by decide +kernel
theorem dX12_at_77 : decode cX12_at 77 = .ok (.ireturn, 1) := by decide +kernel
theorem dX12_canBegin_0 : decode cX12_canBegin 0 = .ok (.aload_n 0, 1) := by decide +kernel
theorem dX12_canBegin_1 : decode cX12_canBegin 1 = .ok (.iload_n 1, 1) := by decide +kernel
theorem dX12_canBegin_2 : decode cX12_canBegin 2 = .ok (.invokevirtual 182, 3) := by decide +kernel
theorem dX12_canBegin_5 : decode cX12_canBegin 5 = .ok (.ifCond .eq 62, 3) := by decide +kernel
theorem dX12_canBegin_8 : decode cX12_canBegin 8 = .ok (.aload_n 0, 1) := by decide +kernel
theorem dX12_canBegin_9 : decode cX12_canBegin 9 = .ok (.getfield 13, 3) := by decide +kernel
theorem dX12_canBegin_12 : decode cX12_canBegin 12 = .ok (.bipush 51, 2) := by decide +kernel
theorem dX12_canBegin_14 : decode cX12_canBegin 14 = .ok (.iload_n 1, 1) := by decide +kernel
theorem dX12_canBegin_15 : decode cX12_canBegin 15 = .ok (.iadd, 1) := by decide +kernel
theorem dX12_canBegin_16 : decode cX12_canBegin 16 = .ok (.iaload, 1) := by decide +kernel
theorem dX12_canBegin_17 : decode cX12_canBegin 17 = .ok (.iconst (-1), 1) := by decide +kernel
theorem dX12_canBegin_18 : decode cX12_canBegin 18 = .ok (.if_icmp .ne 49, 3) := by decide +kernel
theorem dX12_canBegin_21 : decode cX12_canBegin 21 = .ok (.aload_n 0, 1) := by decide +kernel
theorem dX12_canBegin_22 : decode cX12_canBegin 22 = .ok (.getfield 13, 3) := by decide +kernel
theorem dX12_canBegin_25 : decode cX12_canBegin 25 = .ok (.bipush 7, 2) := by decide +kernel
theorem dX12_canBegin_27 : decode cX12_canBegin 27 = .ok (.iload_n 2, 1) := by decide +kernel
theorem dX12_canBegin_28 : decode cX12_canBegin 28 = .ok (.iadd, 1) := by decide +kernel
theorem dX12_canBegin_29 : decode cX12_canBegin 29 = .ok (.iaload, 1) := by decide +kernel
theorem dX12_canBegin_30 : decode cX12_canBegin 30 = .ok (.ifCond .ne 37, 3) := by decide +kernel
theorem dX12_canBegin_33 : decode cX12_canBegin 33 = .ok (.aload_n 0, 1) := by decide +kernel
theorem dX12_canBegin_34 : decode cX12_canBegin 34 = .ok (.getfield 13, 3) := by decide +kernel
theorem dX12_canBegin_37 : decode cX12_canBegin 37 = .ok (.bipush 23, 2) := by decide +kernel
theorem dX12_canBegin_39 : decode cX12_canBegin 39 = .ok (.iload_n 2, 1) := by decide +kernel
theorem dX12_canBegin_40 : decode cX12_canBegin 40 = .ok (.iadd, 1) := by decide +kernel
theorem dX12_canBegin_41 : decode cX12_canBegin 41 = .ok (.iaload, 1) := by decide +kernel
theorem dX12_canBegin_42 : decode cX12_canBegin 42 = .ok (.ifCond .ne 25, 3) := by decide +kernel
theorem dX12_canBegin_45 : decode cX12_canBegin 45 = .ok (.aload_n 0, 1) := by decide +kernel
theorem dX12_canBegin_46 : decode cX12_canBegin 46 = .ok (.iload_n 2, 1) := by decide +kernel
theorem dX12_canBegin_47 : decode cX12_canBegin 47 = .ok (.invokevirtual 208, 3) := by decide +kernel
theorem dX12_canBegin_50 : decode cX12_canBegin 50 = .ok (.iconst (-1), 1) := by decide +kernel
theorem dX12_canBegin_51 : decode cX12_canBegin 51 = .ok (.if_icmp .ne 16, 3) := by decide +kernel
theorem dX12_canBegin_54 : decode cX12_canBegin 54 = .ok (.aload_n 0, 1) := by decide +kernel
theorem dX12_canBegin_55 : decode cX12_canBegin 55 = .ok (.iload_n 1, 1) := by decide +kernel
theorem dX12_canBegin_56 : decode cX12_canBegin 56 = .ok (.iload_n 2, 1) := by decide +kernel
theorem dX12_canBegin_57 : decode cX12_canBegin 57 = .ok (.invokevirtual 214, 3) := by decide +kernel
theorem dX12_canBegin_60 : decode cX12_canBegin 60 = .ok (.ifCond .ne 7, 3) := by decide +kernel
theorem dX12_canBegin_63 : decode cX12_canBegin 63 = .ok (.iconst 1, 1) := by decide +kernel
theorem dX12_canBegin_64 : decode cX12_canBegin 64 = .ok (.goto 4, 3) := by decide +kernel
theorem dX12_canBegin_67 : decode cX12_canBegin 67 = .ok (.iconst 0, 1) := by decide +kernel
theorem dX12_canBegin_68 : decode cX12_canBegin 68 = .ok (.ireturn, 1) := by decide +kernel
theorem dX12_can_0 : decode cX12_can 0 = .ok (.aload_n 0, 1) := by decide +kernel
theorem dX12_can_1 : decode cX12_can 1 = .ok (.iconst 0, 1) := by decide +kernel
theorem dX12_can_2 : decode cX12_can 2 = .ok (.putfield 153, 3) := by decide +kernel
theorem dX12_can_5 : decode cX12_can 5 = .ok (.aload_n 0, 1) := by decide +kernel
theorem dX12_can_6 : decode cX12_can 6 = .ok (.iload_n 1, 1) := by decide +kernel
theorem dX12_can_7 : decode cX12_can 7 = .ok (.invokevirtual 196, 3) := by decide +kernel
theorem dX12_can_10 : decode cX12_can 10 = .ok (.ifCond .eq 10, 3) := by decide +kernel
theorem dX12_can_13 : decode cX12_can 13 = .ok (.iload_n 2, 1) := by decide +kernel
theorem dX12_can_14 : decode cX12_can 14 = .ok (.invokestatic 205, 3) := by decide +kernel
theorem dX12_can_17 : decode cX12_can 17 = .ok (.ifCond .ne 7, 3) := by decide +kernel
theorem dX12_can_20 : decode cX12_can 20 = .ok (.iconst (-1), 1) := by decide +kernel
theorem dX12_can_21 : decode cX12_can 21 = .ok (.goto 17, 3) := by decide +kernel
theorem dX12_can_24 : decode cX12_can 24 = .ok (.aload_n 0, 1) := by decide +kernel
theorem dX12_can_25 : decode cX12_can 25 = .ok (.iload_n 1, 1) := by decide +kernel
theorem dX12_can_26 : decode cX12_can 26 = .ok (.iload_n 2, 1) := by decide +kernel
theorem dX12_can_27 : decode cX12_can 27 = .ok (.invokevirtual 218, 3) := by decide +kernel
theorem dX12_can_30 : decode cX12_can 30 = .ok (.ifCond .eq 7, 3) := by decide +kernel
theorem dX12_can_33 : decode cX12_can 33 = .ok (.iconst 1, 1) := by decide +kernel
theorem dX12_can_34 : decode cX12_can 34 = .ok (.goto 4, 3) := by decide +kernel
theorem dX12_can_37 : decode cX12_can 37 = .ok (.iconst 0, 1) := by decide +kernel
theorem dX12_can_38 : decode cX12_can 38 = .ok (.ireturn, 1) := by decide +kernel
theorem dX12_terms_0 : decode cX12_terms 0 = .ok (.aload_n 0, 1) := by decide +kernel
theorem dX12_terms_1 : decode cX12_terms 1 = .ok (.iconst 0, 1) := by decide +kernel
theorem dX12_terms_2 : decode cX12_terms 2 = .ok (.putfield 153, 3) := by decide +kernel
theorem dX12_terms_5 : decode cX12_terms 5 = .ok (.iload_n 1, 1) := by decide +kernel
theorem dX12_terms_6 : decode cX12_terms 6 = .ok (.ifCond .ne 15, 3) := by decide +kernel
theorem dX12_terms_9 : decode cX12_terms 9 = .ok (.iload_n 2, 1) := by decide +kernel
theorem dX12_terms_10 : decode cX12_terms 10 = .ok (.i2l, 1) := by decide +kernel
theorem dX12_terms_11 : decode cX12_terms 11 = .ok (.lconst 0, 1) := by decide +kernel
theorem dX12_terms_12 : decode cX12_terms 12 = .ok (.ldc2_w 221, 3) := by decide +kernel
theorem dX12_terms_15 : decode cX12_terms 15 = .ok (.invokestatic 173, 3) := by decide +kernel
theorem dX12_terms_18 : decode cX12_terms 18 = .ok (.goto 42, 3) := by decide +kernel
theorem dX12_terms_21 : decode cX12_terms 21 = .ok (.iload_n 1, 1) := by decide +kernel
theorem dX12_terms_22 : decode cX12_terms 22 = .ok (.iconst 1, 1) := by decide +kernel
theorem dX12_terms_23 : decode cX12_terms 23 = .ok (.if_icmp .ne 15, 3) := by decide +kernel
theorem dX12_terms_26 : decode cX12_terms 26 = .ok (.iload_n 2, 1) := by decide +kernel
theorem dX12_terms_27 : decode cX12_terms 27 = .ok (.i2l, 1) := by decide +kernel
theorem dX12_terms_28 : decode cX12_terms 28 = .ok (.lconst 0, 1) := by decide +kernel
theorem dX12_terms_29 : decode cX12_terms 29 = .ok (.ldc2_w 223, 3) := by decide +kernel
theorem dX12_terms_32 : decode cX12_terms 32 = .ok (.invokestatic 173, 3) := by decide +kernel
theorem dX12_terms_35 : decode cX12_terms 35 = .ok (.goto 25, 3) := by decide +kernel
theorem dX12_terms_38 : decode cX12_terms 38 = .ok (.iload_n 1, 1) := by decide +kernel
theorem dX12_terms_39 : decode cX12_terms 39 = .ok (.iconst 2, 1) := by decide +kernel
theorem dX12_terms_40 : decode cX12_terms 40 = .ok (.if_icmp .ne 19, 3) := by decide +kernel
theorem dX12_terms_43 : decode cX12_terms 43 = .ok (.iload_n 2, 1) := by decide +kernel
theorem dX12_terms_44 : decode cX12_terms 44 = .ok (.i2l, 1) := by decide +kernel
theorem dX12_terms_45 : decode cX12_terms 45 = .ok (.lconst 0, 1) := by decide +kernel
theorem dX12_terms_46 : decode cX12_terms 46 = .ok (.ldc2_w 225, 3) := by decide +kernel
theorem dX12_terms_49 : decode cX12_terms 49 = .ok (.invokestatic 173, 3) := by decide +kernel
theorem dX12_terms_52 : decode cX12_terms 52 = .ok (.ifCond .eq 7, 3) := by decide +kernel
theorem dX12_terms_55 : decode cX12_terms 55 = .ok (.iconst 1, 1) := by decide +kernel
theorem dX12_terms_56 : decode cX12_terms 56 = .ok (.goto 4, 3) := by decide +kernel
theorem dX12_terms_59 : decode cX12_terms 59 = .ok (.iconst 0, 1) := by decide +kernel
theorem dX12_terms_60 : decode cX12_terms 60 = .ok (.istore_n 3, 1) := by decide +kernel
theorem dX12_terms_61 : decode cX12_terms 61 = .ok (.iload_n 3, 1) := by decide +kernel
theorem dX12_terms_62 : decode cX12_terms 62 = .ok (.ifCond .ne 9, 3) := by decide +kernel
theorem dX12_terms_65 : decode cX12_terms 65 = .ok (.aload_n 0, 1) := by decide +kernel
theorem dX12_terms_66 : decode cX12_terms 66 = .ok (.iconst (-1), 1) := by decide +kernel
theorem dX12_terms_67 : decode cX12_terms 67 = .ok (.invokevirtual 162, 3) := by decide +kernel
theorem dX12_terms_70 : decode cX12_terms 70 = .ok (.ireturn, 1) := by decide +kernel
theorem dX12_terms_71 : decode cX12_terms 71 = .ok (.aload_n 0, 1) := by decide +kernel
theorem dX12_terms_72 : decode cX12_terms 72 = .ok (.iconst 0, 1) := by decide +kernel
theorem dX12_terms_73 : decode cX12_terms 73 = .ok (.putfield 159, 3) := by decide +kernel
theorem dX12_terms_76 : decode cX12_terms 76 = .ok (.aload_n 0, 1) := by decide +kernel
theorem dX12_terms_77 : decode cX12_terms 77 = .ok (.iconst 4, 1) := by decide +kernel
theorem dX12_terms_78 : decode cX12_terms 78 = .ok (.iload_n 1, 1) := by decide +kernel
theorem dX12_terms_79 : decode cX12_terms 79 = .ok (.iadd, 1) := by decide +kernel
theorem dX12_terms_80 : decode cX12_terms 80 = .ok (.iload_n 2, 1) := by decide +kernel
theorem dX12_terms_81 : decode cX12_terms 81 = .ok (.invokevirtual 227, 3) := by decide +kernel
theorem dX12_terms_84 : decode cX12_terms 84 = .ok (.ireturn, 1) := by decide +kernel
theorem dX12_row_0 : decode cX12_row 0 = .ok (.aload_n 0, 1) := by decide +kernel
theorem dX12_row_1 : decode cX12_row 1 = .ok (.iconst 0, 1) := by decide +kernel
theorem dX12_row_2 : decode cX12_row 2 = .ok (.putfield 153, 3) := by decide +kernel
theorem dX12_row_5 : decode cX12_row 5 = .ok (.aload_n 0, 1) := by decide +kernel
theorem dX12_row_6 : decode cX12_row 6 = .ok (.getfield 230, 3) := by decide +kernel
theorem dX12_row_9 : decode cX12_row 9 = .ok (.istore_n 1, 1) := by decide +kernel
theorem dX12_row_10 : decode cX12_row 10 = .ok (.aload_n 0, 1) := by decide +kernel
theorem dX12_row_11 : decode cX12_row 11 = .ok (.iconst 0, 1) := by decide +kernel
theorem dX12_row_12 : decode cX12_row 12 = .ok (.putfield 230, 3) := by decide +kernel
theorem dX12_row_15 : decode cX12_row 15 = .ok (.iload_n 1, 1) := by decide +kernel
theorem dX12_row_16 : decode cX12_row 16 = .ok (.ifCond .ne 10, 3) := by decide +kernel
theorem dX12_row_19 : decode cX12_row 19 = .ok (.aload_n 0, 1) := by decide +kernel
theorem dX12_row_20 : decode cX12_row 20 = .ok (.bipush (-6), 2) := by decide +kernel
theorem dX12_row_22 : decode cX12_row 22 = .ok (.invokevirtual 162, 3) := by decide +kernel
theorem dX12_row_25 : decode cX12_row 25 = .ok (.ireturn, 1) := by decide +kernel
theorem dX12_row_26 : decode cX12_row 26 = .ok (.aload_n 0, 1) := by decide +kernel
theorem dX12_row_27 : decode cX12_row 27 = .ok (.iconst 0, 1) := by decide +kernel
theorem dX12_row_28 : decode cX12_row 28 = .ok (.putfield 233, 3) := by decide +kernel
theorem dX12_row_31 : decode cX12_row 31 = .ok (.iconst 0, 1) := by decide +kernel
theorem dX12_row_32 : decode cX12_row 32 = .ok (.istore_n 2, 1) := by decide +kernel
theorem dX12_row_33 : decode cX12_row 33 = .ok (.iconst 0, 1) := by decide +kernel
theorem dX12_row_34 : decode cX12_row 34 = .ok (.istore_n 3, 1) := by decide +kernel
theorem dX12_row_35 : decode cX12_row 35 = .ok (.iload_n 3, 1) := by decide +kernel
theorem dX12_row_36 : decode cX12_row 36 = .ok (.iload_n 1, 1) := by decide +kernel
theorem dX12_row_37 : decode cX12_row 37 = .ok (.if_icmp .ge 53, 3) := by decide +kernel
theorem dX12_row_40 : decode cX12_row 40 = .ok (.iload_n 3, 1) := by decide +kernel
theorem dX12_row_41 : decode cX12_row 41 = .ok (.iconst 1, 1) := by decide +kernel
theorem dX12_row_42 : decode cX12_row 42 = .ok (.iadd, 1) := by decide +kernel
theorem dX12_row_43 : decode cX12_row 43 = .ok (.iload_n 1, 1) := by decide +kernel
theorem dX12_row_44 : decode cX12_row 44 = .ok (.if_icmp .ge 30, 3) := by decide +kernel
theorem dX12_row_47 : decode cX12_row 47 = .ok (.aload_n 0, 1) := by decide +kernel
theorem dX12_row_48 : decode cX12_row 48 = .ok (.aload_n 0, 1) := by decide +kernel
theorem dX12_row_49 : decode cX12_row 49 = .ok (.getfield 35, 3) := by decide +kernel
theorem dX12_row_52 : decode cX12_row 52 = .ok (.iload_n 3, 1) := by decide +kernel
theorem dX12_row_53 : decode cX12_row 53 = .ok (.iaload, 1) := by decide +kernel
theorem dX12_row_54 : decode cX12_row 54 = .ok (.aload_n 0, 1) := by decide +kernel
theorem dX12_row_55 : decode cX12_row 55 = .ok (.getfield 35, 3) := by decide +kernel
theorem dX12_row_58 : decode cX12_row 58 = .ok (.iload_n 3, 1) := by decide +kernel
theorem dX12_row_59 : decode cX12_row 59 = .ok (.iconst 1, 1) := by decide +kernel
theorem dX12_row_60 : decode cX12_row 60 = .ok (.iadd, 1) := by decide +kernel
theorem dX12_row_61 : decode cX12_row 61 = .ok (.iaload, 1) := by decide +kernel
theorem dX12_row_62 : decode cX12_row 62 = .ok (.invokevirtual 192, 3) := by decide +kernel
theorem dX12_row_65 : decode cX12_row 65 = .ok (.ifCond .lt 9, 3) := by decide +kernel
theorem dX12_row_68 : decode cX12_row 68 = .ok (.iinc 2 1, 3) := by decide +kernel
theorem dX12_row_71 : decode cX12_row 71 = .ok (.goto 13, 3) := by decide +kernel
theorem dX12_row_74 : decode cX12_row 74 = .ok (.aload_n 0, 1) := by decide +kernel
theorem dX12_row_75 : decode cX12_row 75 = .ok (.dup, 1) := by decide +kernel
theorem dX12_row_76 : decode cX12_row 76 = .ok (.getfield 233, 3) := by decide +kernel
theorem dX12_row_79 : decode cX12_row 79 = .ok (.iconst 1, 1) := by decide +kernel
theorem dX12_row_80 : decode cX12_row 80 = .ok (.iadd, 1) := by decide +kernel
theorem dX12_row_81 : decode cX12_row 81 = .ok (.putfield 233, 3) := by decide +kernel
theorem dX12_row_84 : decode cX12_row 84 = .ok (.iinc 3 2, 3) := by decide +kernel
theorem dX12_row_87 : decode cX12_row 87 = .ok (.goto (-52), 3) := by decide +kernel
theorem dX12_row_90 : decode cX12_row 90 = .ok (.aload_n 0, 1) := by decide +kernel
theorem dX12_row_91 : decode cX12_row 91 = .ok (.iload_n 2, 1) := by decide +kernel
theorem dX12_row_92 : decode cX12_row 92 = .ok (.invokevirtual 177, 3) := by decide +kernel
theorem dX12_row_95 : decode cX12_row 95 = .ok (.ireturn, 1) := by decide +kernel
theorem dX12_bubbles_0 : decode cX12_bubbles 0 = .ok (.aload_n 0, 1) := by decide +kernel
theorem dX12_bubbles_1 : decode cX12_bubbles 1 = .ok (.iconst 0, 1) := by decide +kernel
theorem dX12_bubbles_2 : decode cX12_bubbles 2 = .ok (.putfield 153, 3) := by decide +kernel
theorem dX12_bubbles_5 : decode cX12_bubbles 5 = .ok (.aload_n 0, 1) := by decide +kernel
theorem dX12_bubbles_6 : decode cX12_bubbles 6 = .ok (.getfield 233, 3) := by decide +kernel
theorem dX12_bubbles_9 : decode cX12_bubbles 9 = .ok (.ireturn, 1) := by decide +kernel
theorem dX12_four_0 : decode cX12_four 0 = .ok (.bipush 24, 2) := by decide +kernel
theorem dX12_four_2 : decode cX12_four 2 = .ok (.istore_n 2, 1) := by decide +kernel
theorem dX12_four_3 : decode cX12_four 3 = .ok (.iload_n 2, 1) := by decide +kernel
theorem dX12_four_4 : decode cX12_four 4 = .ok (.ifCond .lt 35, 3) := by decide +kernel
theorem dX12_four_7 : decode cX12_four 7 = .ok (.aload_n 0, 1) := by decide +kernel
theorem dX12_four_8 : decode cX12_four 8 = .ok (.getfield 35, 3) := by decide +kernel
theorem dX12_four_11 : decode cX12_four 11 = .ok (.aload_n 0, 1) := by decide +kernel
theorem dX12_four_12 : decode cX12_four 12 = .ok (.getfield 230, 3) := by decide +kernel
theorem dX12_four_15 : decode cX12_four 15 = .ok (.iload_n 1, 1) := by decide +kernel
theorem dX12_four_16 : decode cX12_four 16 = .ok (.iload_n 2, 1) := by decide +kernel
theorem dX12_four_17 : decode cX12_four 17 = .ok (.ishr, 1) := by decide +kernel
theorem dX12_four_18 : decode cX12_four 18 = .ok (.sipush 255, 3) := by decide +kernel
theorem dX12_four_21 : decode cX12_four 21 = .ok (.iand, 1) := by decide +kernel
theorem dX12_four_22 : decode cX12_four 22 = .ok (.iastore, 1) := by decide +kernel
theorem dX12_four_23 : decode cX12_four 23 = .ok (.aload_n 0, 1) := by decide +kernel
theorem dX12_four_24 : decode cX12_four 24 = .ok (.dup, 1) := by decide +kernel
theorem dX12_four_25 : decode cX12_four 25 = .ok (.getfield 230, 3) := by decide +kernel
theorem dX12_four_28 : decode cX12_four 28 = .ok (.iconst 1, 1) := by decide +kernel
theorem dX12_four_29 : decode cX12_four 29 = .ok (.iadd, 1) := by decide +kernel
theorem dX12_four_30 : decode cX12_four 30 = .ok (.putfield 230, 3) := by decide +kernel
theorem dX12_four_33 : decode cX12_four 33 = .ok (.iinc 2 (-8), 3) := by decide +kernel
theorem dX12_four_36 : decode cX12_four 36 = .ok (.goto (-33), 3) := by decide +kernel
theorem dX12_four_39 : decode cX12_four 39 = .ok (.return_, 1) := by decide +kernel
theorem dX12_feed_0 : decode cX12_feed 0 = .ok (.aload_n 0, 1) := by decide +kernel
theorem dX12_feed_1 : decode cX12_feed 1 = .ok (.iconst 0, 1) := by decide +kernel
theorem dX12_feed_2 : decode cX12_feed 2 = .ok (.putfield 153, 3) := by decide +kernel
theorem dX12_feed_5 : decode cX12_feed 5 = .ok (.aload_n 0, 1) := by decide +kernel
theorem dX12_feed_6 : decode cX12_feed 6 = .ok (.getfield 230, 3) := by decide +kernel
theorem dX12_feed_9 : decode cX12_feed 9 = .ok (.bipush 20, 2) := by decide +kernel
theorem dX12_feed_11 : decode cX12_feed 11 = .ok (.iadd, 1) := by decide +kernel
theorem dX12_feed_12 : decode cX12_feed 12 = .ok (.sipush 400, 3) := by decide +kernel
theorem dX12_feed_15 : decode cX12_feed 15 = .ok (.if_icmp .le 5, 3) := by decide +kernel
theorem dX12_feed_18 : decode cX12_feed 18 = .ok (.iconst (-1), 1) := by decide +kernel
theorem dX12_feed_19 : decode cX12_feed 19 = .ok (.ireturn, 1) := by decide +kernel
theorem dX12_feed_20 : decode cX12_feed 20 = .ok (.aload_n 0, 1) := by decide +kernel
theorem dX12_feed_21 : decode cX12_feed 21 = .ok (.iload_n 1, 1) := by decide +kernel
theorem dX12_feed_22 : decode cX12_feed 22 = .ok (.invokevirtual 236, 3) := by decide +kernel
theorem dX12_feed_25 : decode cX12_feed 25 = .ok (.aload_n 0, 1) := by decide +kernel
theorem dX12_feed_26 : decode cX12_feed 26 = .ok (.iload_n 2, 1) := by decide +kernel
theorem dX12_feed_27 : decode cX12_feed 27 = .ok (.invokevirtual 236, 3) := by decide +kernel
theorem dX12_feed_30 : decode cX12_feed 30 = .ok (.aload_n 0, 1) := by decide +kernel
theorem dX12_feed_31 : decode cX12_feed 31 = .ok (.iload_n 3, 1) := by decide +kernel
theorem dX12_feed_32 : decode cX12_feed 32 = .ok (.invokevirtual 236, 3) := by decide +kernel
theorem dX12_feed_35 : decode cX12_feed 35 = .ok (.aload_n 0, 1) := by decide +kernel
theorem dX12_feed_36 : decode cX12_feed 36 = .ok (.iload 4, 2) := by decide +kernel
theorem dX12_feed_38 : decode cX12_feed 38 = .ok (.invokevirtual 236, 3) := by decide +kernel
theorem dX12_feed_41 : decode cX12_feed 41 = .ok (.aload_n 0, 1) := by decide +kernel
theorem dX12_feed_42 : decode cX12_feed 42 = .ok (.iload 5, 2) := by decide +kernel
theorem dX12_feed_44 : decode cX12_feed 44 = .ok (.invokevirtual 236, 3) := by decide +kernel
theorem dX12_feed_47 : decode cX12_feed 47 = .ok (.aload_n 0, 1) := by decide +kernel
theorem dX12_feed_48 : decode cX12_feed 48 = .ok (.getfield 230, 3) := by decide +kernel
theorem dX12_feed_51 : decode cX12_feed 51 = .ok (.ireturn, 1) := by decide +kernel
theorem dX12_end_0 : decode cX12_end 0 = .ok (.aload_n 0, 1) := by decide +kernel
theorem dX12_end_1 : decode cX12_end 1 = .ok (.iconst 0, 1) := by decide +kernel
theorem dX12_end_2 : decode cX12_end 2 = .ok (.putfield 153, 3) := by decide +kernel
theorem dX12_end_5 : decode cX12_end 5 = .ok (.iload_n 1, 1) := by decide +kernel
theorem dX12_end_6 : decode cX12_end 6 = .ok (.ifCond .lt 11, 3) := by decide +kernel
theorem dX12_end_9 : decode cX12_end 9 = .ok (.iload_n 1, 1) := by decide +kernel
theorem dX12_end_10 : decode cX12_end 10 = .ok (.aload_n 0, 1) := by decide +kernel
theorem dX12_end_11 : decode cX12_end 11 = .ok (.getfield 230, 3) := by decide +kernel
theorem dX12_end_14 : decode cX12_end 14 = .ok (.if_icmp .le 5, 3) := by decide +kernel
theorem dX12_end_17 : decode cX12_end 17 = .ok (.iconst (-1), 1) := by decide +kernel
theorem dX12_end_18 : decode cX12_end 18 = .ok (.ireturn, 1) := by decide +kernel
theorem dX12_end_19 : decode cX12_end 19 = .ok (.aload_n 0, 1) := by decide +kernel
theorem dX12_end_20 : decode cX12_end 20 = .ok (.iload_n 1, 1) := by decide +kernel
theorem dX12_end_21 : decode cX12_end 21 = .ok (.putfield 230, 3) := by decide +kernel
theorem dX12_end_24 : decode cX12_end 24 = .ok (.iload_n 1, 1) := by decide +kernel
theorem dX12_end_25 : decode cX12_end 25 = .ok (.ireturn, 1) := by decide +kernel
theorem dX12_isSmall_0 : decode cX12_isSmall 0 = .ok (.iload_n 0, 1) := by decide +kernel
theorem dX12_isSmall_1 : decode cX12_isSmall 1 = .ok (.bipush 97, 2) := by decide +kernel
theorem dX12_isSmall_3 : decode cX12_isSmall 3 = .ok (.if_icmp .lt 13, 3) := by decide +kernel
theorem dX12_isSmall_6 : decode cX12_isSmall 6 = .ok (.iload_n 0, 1) := by decide +kernel
theorem dX12_isSmall_7 : decode cX12_isSmall 7 = .ok (.bipush 122, 2) := by decide +kernel
theorem dX12_isSmall_9 : decode cX12_isSmall 9 = .ok (.if_icmp .gt 7, 3) := by decide +kernel
theorem dX12_isSmall_12 : decode cX12_isSmall 12 = .ok (.iconst 1, 1) := by decide +kernel
theorem dX12_isSmall_13 : decode cX12_isSmall 13 = .ok (.goto 4, 3) := by decide +kernel
theorem dX12_isSmall_16 : decode cX12_isSmall 16 = .ok (.iconst 0, 1) := by decide +kernel
theorem dX12_isSmall_17 : decode cX12_isSmall 17 = .ok (.ireturn, 1) := by decide +kernel
theorem dX12_isDigit_0 : decode cX12_isDigit 0 = .ok (.iload_n 0, 1) := by decide +kernel
theorem dX12_isDigit_1 : decode cX12_isDigit 1 = .ok (.bipush 48, 2) := by decide +kernel
theorem dX12_isDigit_3 : decode cX12_isDigit 3 = .ok (.if_icmp .lt 13, 3) := by decide +kernel
theorem dX12_isDigit_6 : decode cX12_isDigit 6 = .ok (.iload_n 0, 1) := by decide +kernel
theorem dX12_isDigit_7 : decode cX12_isDigit 7 = .ok (.bipush 57, 2) := by decide +kernel
theorem dX12_isDigit_9 : decode cX12_isDigit 9 = .ok (.if_icmp .gt 7, 3) := by decide +kernel
theorem dX12_isDigit_12 : decode cX12_isDigit 12 = .ok (.iconst 1, 1) := by decide +kernel
theorem dX12_isDigit_13 : decode cX12_isDigit 13 = .ok (.goto 4, 3) := by decide +kernel
theorem dX12_isDigit_16 : decode cX12_isDigit 16 = .ok (.iconst 0, 1) := by decide +kernel
theorem dX12_isDigit_17 : decode cX12_isDigit 17 = .ok (.ireturn, 1) := by decide +kernel
theorem dX12_begin_0 : decode cX12_begin 0 = .ok (.aload_n 0, 1) := by decide +kernel
theorem dX12_begin_1 : decode cX12_begin 1 = .ok (.iconst 0, 1) := by decide +kernel
theorem dX12_begin_2 : decode cX12_begin 2 = .ok (.putfield 239, 3) := by decide +kernel
theorem dX12_begin_5 : decode cX12_begin 5 = .ok (.aload_n 0, 1) := by decide +kernel
theorem dX12_begin_6 : decode cX12_begin 6 = .ok (.iconst 0, 1) := by decide +kernel
theorem dX12_begin_7 : decode cX12_begin 7 = .ok (.putfield 242, 3) := by decide +kernel
theorem dX12_begin_10 : decode cX12_begin 10 = .ok (.aload_n 0, 1) := by decide +kernel
theorem dX12_begin_11 : decode cX12_begin 11 = .ok (.iconst (-1), 1) := by decide +kernel
theorem dX12_begin_12 : decode cX12_begin 12 = .ok (.putfield 38, 3) := by decide +kernel
theorem dX12_begin_15 : decode cX12_begin 15 = .ok (.aload_n 0, 1) := by decide +kernel
theorem dX12_begin_16 : decode cX12_begin 16 = .ok (.invokevirtual 246, 3) := by decide +kernel
theorem dX12_begin_19 : decode cX12_begin 19 = .ok (.return_, 1) := by decide +kernel
theorem dX12_next_0 : decode cX12_next 0 = .ok (.aload_n 0, 1) := by decide +kernel
theorem dX12_next_1 : decode cX12_next 1 = .ok (.aload_n 0, 1) := by decide +kernel
theorem dX12_next_2 : decode cX12_next 2 = .ok (.getfield 239, 3) := by decide +kernel
theorem dX12_next_5 : decode cX12_next 5 = .ok (.putfield 249, 3) := by decide +kernel
theorem dX12_next_8 : decode cX12_next 8 = .ok (.aload_n 0, 1) := by decide +kernel
theorem dX12_next_9 : decode cX12_next 9 = .ok (.getfield 249, 3) := by decide +kernel
theorem dX12_next_12 : decode cX12_next 12 = .ok (.aload_n 0, 1) := by decide +kernel
theorem dX12_next_13 : decode cX12_next 13 = .ok (.getfield 230, 3) := by decide +kernel
theorem dX12_next_16 : decode cX12_next 16 = .ok (.if_icmp .ge 30, 3) := by decide +kernel
theorem dX12_next_19 : decode cX12_next 19 = .ok (.aload_n 0, 1) := by decide +kernel
theorem dX12_next_20 : decode cX12_next 20 = .ok (.getfield 35, 3) := by decide +kernel
theorem dX12_next_23 : decode cX12_next 23 = .ok (.aload_n 0, 1) := by decide +kernel
theorem dX12_next_24 : decode cX12_next 24 = .ok (.getfield 249, 3) := by decide +kernel
theorem dX12_next_27 : decode cX12_next 27 = .ok (.iaload, 1) := by decide +kernel
theorem dX12_next_28 : decode cX12_next 28 = .ok (.bipush 32, 2) := by decide +kernel
theorem dX12_next_30 : decode cX12_next 30 = .ok (.if_icmp .ne 16, 3) := by decide +kernel
theorem dX12_next_33 : decode cX12_next 33 = .ok (.aload_n 0, 1) := by decide +kernel
theorem dX12_next_34 : decode cX12_next 34 = .ok (.dup, 1) := by decide +kernel
theorem dX12_next_35 : decode cX12_next 35 = .ok (.getfield 249, 3) := by decide +kernel
theorem dX12_next_38 : decode cX12_next 38 = .ok (.iconst 1, 1) := by decide +kernel
theorem dX12_next_39 : decode cX12_next 39 = .ok (.iadd, 1) := by decide +kernel
theorem dX12_next_40 : decode cX12_next 40 = .ok (.putfield 249, 3) := by decide +kernel
theorem dX12_next_43 : decode cX12_next 43 = .ok (.goto (-35), 3) := by decide +kernel
theorem dX12_next_46 : decode cX12_next 46 = .ok (.aload_n 0, 1) := by decide +kernel
theorem dX12_next_47 : decode cX12_next 47 = .ok (.aload_n 0, 1) := by decide +kernel
theorem dX12_next_48 : decode cX12_next 48 = .ok (.getfield 249, 3) := by decide +kernel
theorem dX12_next_51 : decode cX12_next 51 = .ok (.putfield 239, 3) := by decide +kernel
theorem dX12_next_54 : decode cX12_next 54 = .ok (.aload_n 0, 1) := by decide +kernel
theorem dX12_next_55 : decode cX12_next 55 = .ok (.lconst 0, 1) := by decide +kernel
theorem dX12_next_56 : decode cX12_next 56 = .ok (.putfield 252, 3) := by decide +kernel
theorem dX12_next_59 : decode cX12_next 59 = .ok (.aload_n 0, 1) := by decide +kernel
theorem dX12_next_60 : decode cX12_next 60 = .ok (.aload_n 0, 1) := by decide +kernel
theorem dX12_next_61 : decode cX12_next 61 = .ok (.getfield 249, 3) := by decide +kernel
theorem dX12_next_64 : decode cX12_next 64 = .ok (.aload_n 0, 1) := by decide +kernel
theorem dX12_next_65 : decode cX12_next 65 = .ok (.getfield 230, 3) := by decide +kernel
theorem dX12_next_68 : decode cX12_next 68 = .ok (.if_icmp .ne 7, 3) := by decide +kernel
theorem dX12_next_71 : decode cX12_next 71 = .ok (.iconst 0, 1) := by decide +kernel
theorem dX12_next_72 : decode cX12_next 72 = .ok (.goto 42, 3) := by decide +kernel
theorem dX12_next_75 : decode cX12_next 75 = .ok (.aload_n 0, 1) := by decide +kernel
theorem dX12_next_76 : decode cX12_next 76 = .ok (.getfield 35, 3) := by decide +kernel
theorem dX12_next_79 : decode cX12_next 79 = .ok (.aload_n 0, 1) := by decide +kernel
theorem dX12_next_80 : decode cX12_next 80 = .ok (.getfield 249, 3) := by decide +kernel
theorem dX12_next_83 : decode cX12_next 83 = .ok (.iaload, 1) := by decide +kernel
theorem dX12_next_84 : decode cX12_next 84 = .ok (.invokestatic 256, 3) := by decide +kernel
theorem dX12_next_87 : decode cX12_next 87 = .ok (.ifCond .eq 7, 3) := by decide +kernel
theorem dX12_next_90 : decode cX12_next 90 = .ok (.iconst 1, 1) := by decide +kernel
theorem dX12_next_91 : decode cX12_next 91 = .ok (.goto 23, 3) := by decide +kernel
theorem dX12_next_94 : decode cX12_next 94 = .ok (.aload_n 0, 1) := by decide +kernel
theorem dX12_next_95 : decode cX12_next 95 = .ok (.getfield 35, 3) := by decide +kernel
theorem dX12_next_98 : decode cX12_next 98 = .ok (.aload_n 0, 1) := by decide +kernel
theorem dX12_next_99 : decode cX12_next 99 = .ok (.getfield 249, 3) := by decide +kernel
theorem dX12_next_102 : decode cX12_next 102 = .ok (.iaload, 1) := by decide +kernel
theorem dX12_next_103 : decode cX12_next 103 = .ok (.invokestatic 259, 3) := by decide +kernel
theorem dX12_next_106 : decode cX12_next 106 = .ok (.ifCond .eq 7, 3) := by decide +kernel
theorem dX12_next_109 : decode cX12_next 109 = .ok (.iconst 2, 1) := by decide +kernel
theorem dX12_next_110 : decode cX12_next 110 = .ok (.goto 4, 3) := by decide +kernel
theorem dX12_next_113 : decode cX12_next 113 = .ok (.iconst 3, 1) := by decide +kernel
theorem dX12_next_114 : decode cX12_next 114 = .ok (.putfield 262, 3) := by decide +kernel
theorem dX12_next_117 : decode cX12_next 117 = .ok (.aload_n 0, 1) := by decide +kernel
theorem dX12_next_118 : decode cX12_next 118 = .ok (.getfield 262, 3) := by decide +kernel
theorem dX12_next_121 : decode cX12_next 121 = .ok (.iconst 3, 1) := by decide +kernel
theorem dX12_next_122 : decode cX12_next 122 = .ok (.if_icmp .ne 27, 3) := by decide +kernel
theorem dX12_next_125 : decode cX12_next 125 = .ok (.aload_n 0, 1) := by decide +kernel
theorem dX12_next_126 : decode cX12_next 126 = .ok (.aload_n 0, 1) := by decide +kernel
theorem dX12_next_127 : decode cX12_next 127 = .ok (.getfield 35, 3) := by decide +kernel
theorem dX12_next_130 : decode cX12_next 130 = .ok (.aload_n 0, 1) := by decide +kernel
theorem dX12_next_131 : decode cX12_next 131 = .ok (.getfield 249, 3) := by decide +kernel
theorem dX12_next_134 : decode cX12_next 134 = .ok (.iaload, 1) := by decide +kernel
theorem dX12_next_135 : decode cX12_next 135 = .ok (.i2l, 1) := by decide +kernel
theorem dX12_next_136 : decode cX12_next 136 = .ok (.putfield 252, 3) := by decide +kernel
theorem dX12_next_139 : decode cX12_next 139 = .ok (.aload_n 0, 1) := by decide +kernel
theorem dX12_next_140 : decode cX12_next 140 = .ok (.dup, 1) := by decide +kernel
theorem dX12_next_141 : decode cX12_next 141 = .ok (.getfield 239, 3) := by decide +kernel
theorem dX12_next_144 : decode cX12_next 144 = .ok (.iconst 1, 1) := by decide +kernel
theorem dX12_next_145 : decode cX12_next 145 = .ok (.iadd, 1) := by decide +kernel
theorem dX12_next_146 : decode cX12_next 146 = .ok (.putfield 239, 3) := by decide +kernel
theorem dX12_next_149 : decode cX12_next 149 = .ok (.aload_n 0, 1) := by decide +kernel
theorem dX12_next_150 : decode cX12_next 150 = .ok (.getfield 262, 3) := by decide +kernel
theorem dX12_next_153 : decode cX12_next 153 = .ok (.iconst 1, 1) := by decide +kernel
theorem dX12_next_154 : decode cX12_next 154 = .ok (.if_icmp .ne 89, 3) := by decide +kernel
theorem dX12_next_157 : decode cX12_next 157 = .ok (.aload_n 0, 1) := by decide +kernel
theorem dX12_next_158 : decode cX12_next 158 = .ok (.getfield 239, 3) := by decide +kernel
theorem dX12_next_161 : decode cX12_next 161 = .ok (.aload_n 0, 1) := by decide +kernel
theorem dX12_next_162 : decode cX12_next 162 = .ok (.getfield 230, 3) := by decide +kernel
theorem dX12_next_165 : decode cX12_next 165 = .ok (.if_icmp .ge 78, 3) := by decide +kernel
theorem dX12_next_168 : decode cX12_next 168 = .ok (.aload_n 0, 1) := by decide +kernel
theorem dX12_next_169 : decode cX12_next 169 = .ok (.getfield 35, 3) := by decide +kernel
theorem dX12_next_172 : decode cX12_next 172 = .ok (.aload_n 0, 1) := by decide +kernel
theorem dX12_next_173 : decode cX12_next 173 = .ok (.getfield 239, 3) := by decide +kernel
theorem dX12_next_176 : decode cX12_next 176 = .ok (.iaload, 1) := by decide +kernel
theorem dX12_next_177 : decode cX12_next 177 = .ok (.invokestatic 256, 3) := by decide +kernel
theorem dX12_next_180 : decode cX12_next 180 = .ok (.ifCond .eq 63, 3) := by decide +kernel
theorem dX12_next_183 : decode cX12_next 183 = .ok (.aload_n 0, 1) := by decide +kernel
theorem dX12_next_184 : decode cX12_next 184 = .ok (.aload_n 0, 1) := by decide +kernel
theorem dX12_next_185 : decode cX12_next 185 = .ok (.getfield 239, 3) := by decide +kernel
theorem dX12_next_188 : decode cX12_next 188 = .ok (.aload_n 0, 1) := by decide +kernel
theorem dX12_next_189 : decode cX12_next 189 = .ok (.getfield 249, 3) := by decide +kernel
theorem dX12_next_192 : decode cX12_next 192 = .ok (.isub, 1) := by decide +kernel
theorem dX12_next_193 : decode cX12_next 193 = .ok (.bipush 10, 2) := by decide +kernel
theorem dX12_next_195 : decode cX12_next 195 = .ok (.if_icmp .ge 29, 3) := by decide +kernel
theorem dX12_next_198 : decode cX12_next 198 = .ok (.aload_n 0, 1) := by decide +kernel
theorem dX12_next_199 : decode cX12_next 199 = .ok (.getfield 252, 3) := by decide +kernel
theorem dX12_next_202 : decode cX12_next 202 = .ok (.ldc2_w 265, 3) := by decide +kernel
theorem dX12_next_205 : decode cX12_next 205 = .ok (.lmul, 1) := by decide +kernel
theorem dX12_next_206 : decode cX12_next 206 = .ok (.aload_n 0, 1) := by decide +kernel
theorem dX12_next_207 : decode cX12_next 207 = .ok (.getfield 35, 3) := by decide +kernel
theorem dX12_next_210 : decode cX12_next 210 = .ok (.aload_n 0, 1) := by decide +kernel
theorem dX12_next_211 : decode cX12_next 211 = .ok (.getfield 239, 3) := by decide +kernel
theorem dX12_next_214 : decode cX12_next 214 = .ok (.iaload, 1) := by decide +kernel
theorem dX12_next_215 : decode cX12_next 215 = .ok (.i2l, 1) := by decide +kernel
theorem dX12_next_216 : decode cX12_next 216 = .ok (.ladd, 1) := by decide +kernel
theorem dX12_next_217 : decode cX12_next 217 = .ok (.ldc2_w 267, 3) := by decide +kernel
theorem dX12_next_220 : decode cX12_next 220 = .ok (.lsub, 1) := by decide +kernel
theorem dX12_next_221 : decode cX12_next 221 = .ok (.goto 6, 3) := by decide +kernel
theorem dX12_next_224 : decode cX12_next 224 = .ok (.ldc2_w 269, 3) := by decide +kernel
theorem dX12_next_227 : decode cX12_next 227 = .ok (.putfield 252, 3) := by decide +kernel
theorem dX12_next_230 : decode cX12_next 230 = .ok (.aload_n 0, 1) := by decide +kernel
theorem dX12_next_231 : decode cX12_next 231 = .ok (.dup, 1) := by decide +kernel
theorem dX12_next_232 : decode cX12_next 232 = .ok (.getfield 239, 3) := by decide +kernel
theorem dX12_next_235 : decode cX12_next 235 = .ok (.iconst 1, 1) := by decide +kernel
theorem dX12_next_236 : decode cX12_next 236 = .ok (.iadd, 1) := by decide +kernel
theorem dX12_next_237 : decode cX12_next 237 = .ok (.putfield 239, 3) := by decide +kernel
theorem dX12_next_240 : decode cX12_next 240 = .ok (.goto (-91), 3) := by decide +kernel
theorem dX12_next_243 : decode cX12_next 243 = .ok (.aload_n 0, 1) := by decide +kernel
theorem dX12_next_244 : decode cX12_next 244 = .ok (.getfield 262, 3) := by decide +kernel
theorem dX12_next_247 : decode cX12_next 247 = .ok (.iconst 2, 1) := by decide +kernel
theorem dX12_next_248 : decode cX12_next 248 = .ok (.if_icmp .ne 87, 3) := by decide +kernel
theorem dX12_next_251 : decode cX12_next 251 = .ok (.aload_n 0, 1) := by decide +kernel
theorem dX12_next_252 : decode cX12_next 252 = .ok (.getfield 239, 3) := by decide +kernel
theorem dX12_next_255 : decode cX12_next 255 = .ok (.aload_n 0, 1) := by decide +kernel
theorem dX12_next_256 : decode cX12_next 256 = .ok (.getfield 230, 3) := by decide +kernel
theorem dX12_next_259 : decode cX12_next 259 = .ok (.if_icmp .ge 76, 3) := by decide +kernel
theorem dX12_next_262 : decode cX12_next 262 = .ok (.aload_n 0, 1) := by decide +kernel
theorem dX12_next_263 : decode cX12_next 263 = .ok (.getfield 35, 3) := by decide +kernel
theorem dX12_next_266 : decode cX12_next 266 = .ok (.aload_n 0, 1) := by decide +kernel
theorem dX12_next_267 : decode cX12_next 267 = .ok (.getfield 239, 3) := by decide +kernel
theorem dX12_next_270 : decode cX12_next 270 = .ok (.iaload, 1) := by decide +kernel
theorem dX12_next_271 : decode cX12_next 271 = .ok (.invokestatic 259, 3) := by decide +kernel
theorem dX12_next_274 : decode cX12_next 274 = .ok (.ifCond .eq 61, 3) := by decide +kernel
theorem dX12_next_277 : decode cX12_next 277 = .ok (.aload_n 0, 1) := by decide +kernel
theorem dX12_next_278 : decode cX12_next 278 = .ok (.aload_n 0, 1) := by decide +kernel
theorem dX12_next_279 : decode cX12_next 279 = .ok (.getfield 252, 3) := by decide +kernel
theorem dX12_next_282 : decode cX12_next 282 = .ok (.ldc2_w 271, 3) := by decide +kernel
theorem dX12_next_285 : decode cX12_next 285 = .ok (.lcmp, 1) := by decide +kernel
theorem dX12_next_286 : decode cX12_next 286 = .ok (.ifCond .le 10, 3) := by decide +kernel
theorem dX12_next_289 : decode cX12_next 289 = .ok (.aload_n 0, 1) := by decide +kernel
theorem dX12_next_290 : decode cX12_next 290 = .ok (.getfield 252, 3) := by decide +kernel
theorem dX12_next_293 : decode cX12_next 293 = .ok (.goto 26, 3) := by decide +kernel
theorem dX12_next_296 : decode cX12_next 296 = .ok (.aload_n 0, 1) := by decide +kernel
theorem dX12_next_297 : decode cX12_next 297 = .ok (.getfield 252, 3) := by decide +kernel
theorem dX12_next_300 : decode cX12_next 300 = .ok (.ldc2_w 223, 3) := by decide +kernel
theorem dX12_next_303 : decode cX12_next 303 = .ok (.lmul, 1) := by decide +kernel
theorem dX12_next_304 : decode cX12_next 304 = .ok (.aload_n 0, 1) := by decide +kernel
theorem dX12_next_305 : decode cX12_next 305 = .ok (.getfield 35, 3) := by decide +kernel
theorem dX12_next_308 : decode cX12_next 308 = .ok (.aload_n 0, 1) := by decide +kernel
theorem dX12_next_309 : decode cX12_next 309 = .ok (.getfield 239, 3) := by decide +kernel
theorem dX12_next_312 : decode cX12_next 312 = .ok (.iaload, 1) := by decide +kernel
theorem dX12_next_313 : decode cX12_next 313 = .ok (.i2l, 1) := by decide +kernel
theorem dX12_next_314 : decode cX12_next 314 = .ok (.ladd, 1) := by decide +kernel
theorem dX12_next_315 : decode cX12_next 315 = .ok (.ldc2_w 273, 3) := by decide +kernel
theorem dX12_next_318 : decode cX12_next 318 = .ok (.lsub, 1) := by decide +kernel
theorem dX12_next_319 : decode cX12_next 319 = .ok (.putfield 252, 3) := by decide +kernel
theorem dX12_next_322 : decode cX12_next 322 = .ok (.aload_n 0, 1) := by decide +kernel
theorem dX12_next_323 : decode cX12_next 323 = .ok (.dup, 1) := by decide +kernel
theorem dX12_next_324 : decode cX12_next 324 = .ok (.getfield 239, 3) := by decide +kernel
theorem dX12_next_327 : decode cX12_next 327 = .ok (.iconst 1, 1) := by decide +kernel
theorem dX12_next_328 : decode cX12_next 328 = .ok (.iadd, 1) := by decide +kernel
theorem dX12_next_329 : decode cX12_next 329 = .ok (.putfield 239, 3) := by decide +kernel
theorem dX12_next_332 : decode cX12_next 332 = .ok (.goto (-89), 3) := by decide +kernel
theorem dX12_next_335 : decode cX12_next 335 = .ok (.return_, 1) := by decide +kernel
theorem dX12_isWord_0 : decode cX12_isWord 0 = .ok (.aload_n 0, 1) := by decide +kernel
theorem dX12_isWord_1 : decode cX12_isWord 1 = .ok (.getfield 262, 3) := by decide +kernel
theorem dX12_isWord_4 : decode cX12_isWord 4 = .ok (.iconst 1, 1) := by decide +kernel
theorem dX12_isWord_5 : decode cX12_isWord 5 = .ok (.if_icmp .ne 16, 3) := by decide +kernel
theorem dX12_isWord_8 : decode cX12_isWord 8 = .ok (.aload_n 0, 1) := by decide +kernel
theorem dX12_isWord_9 : decode cX12_isWord 9 = .ok (.getfield 252, 3) := by decide +kernel
theorem dX12_isWord_12 : decode cX12_isWord 12 = .ok (.lload_n 1, 1) := by decide +kernel
theorem dX12_isWord_13 : decode cX12_isWord 13 = .ok (.lcmp, 1) := by decide +kernel
theorem dX12_isWord_14 : decode cX12_isWord 14 = .ok (.ifCond .ne 7, 3) := by decide +kernel
theorem dX12_isWord_17 : decode cX12_isWord 17 = .ok (.iconst 1, 1) := by decide +kernel
theorem dX12_isWord_18 : decode cX12_isWord 18 = .ok (.goto 4, 3) := by decide +kernel
theorem dX12_isWord_21 : decode cX12_isWord 21 = .ok (.iconst 0, 1) := by decide +kernel
theorem dX12_isWord_22 : decode cX12_isWord 22 = .ok (.ireturn, 1) := by decide +kernel
theorem dX12_isSign_0 : decode cX12_isSign 0 = .ok (.aload_n 0, 1) := by decide +kernel
theorem dX12_isSign_1 : decode cX12_isSign 1 = .ok (.getfield 262, 3) := by decide +kernel
theorem dX12_isSign_4 : decode cX12_isSign 4 = .ok (.iconst 3, 1) := by decide +kernel
theorem dX12_isSign_5 : decode cX12_isSign 5 = .ok (.if_icmp .ne 17, 3) := by decide +kernel
theorem dX12_isSign_8 : decode cX12_isSign 8 = .ok (.aload_n 0, 1) := by decide +kernel
theorem dX12_isSign_9 : decode cX12_isSign 9 = .ok (.getfield 252, 3) := by decide +kernel
theorem dX12_isSign_12 : decode cX12_isSign 12 = .ok (.iload_n 1, 1) := by decide +kernel
theorem dX12_isSign_13 : decode cX12_isSign 13 = .ok (.i2l, 1) := by decide +kernel
theorem dX12_isSign_14 : decode cX12_isSign 14 = .ok (.lcmp, 1) := by decide +kernel
theorem dX12_isSign_15 : decode cX12_isSign 15 = .ok (.ifCond .ne 7, 3) := by decide +kernel
theorem dX12_isSign_18 : decode cX12_isSign 18 = .ok (.iconst 1, 1) := by decide +kernel
theorem dX12_isSign_19 : decode cX12_isSign 19 = .ok (.goto 4, 3) := by decide +kernel
theorem dX12_isSign_22 : decode cX12_isSign 22 = .ok (.iconst 0, 1) := by decide +kernel
theorem dX12_isSign_23 : decode cX12_isSign 23 = .ok (.ireturn, 1) := by decide +kernel
theorem dX12_must_0 : decode cX12_must 0 = .ok (.aload_n 0, 1) := by decide +kernel
theorem dX12_must_1 : decode cX12_must 1 = .ok (.getfield 242, 3) := by decide +kernel
theorem dX12_must_4 : decode cX12_must 4 = .ok (.ifCond .ne 20, 3) := by decide +kernel
theorem dX12_must_7 : decode cX12_must 7 = .ok (.iload_n 1, 1) := by decide +kernel
theorem dX12_must_8 : decode cX12_must 8 = .ok (.ifCond .ne 16, 3) := by decide +kernel
theorem dX12_must_11 : decode cX12_must 11 = .ok (.aload_n 0, 1) := by decide +kernel
theorem dX12_must_12 : decode cX12_must 12 = .ok (.iconst 1, 1) := by decide +kernel
theorem dX12_must_13 : decode cX12_must 13 = .ok (.putfield 242, 3) := by decide +kernel
theorem dX12_must_16 : decode cX12_must 16 = .ok (.aload_n 0, 1) := by decide +kernel
theorem dX12_must_17 : decode cX12_must 17 = .ok (.aload_n 0, 1) := by decide +kernel
theorem dX12_must_18 : decode cX12_must 18 = .ok (.getfield 249, 3) := by decide +kernel
theorem dX12_must_21 : decode cX12_must 21 = .ok (.putfield 38, 3) := by decide +kernel
theorem dX12_must_24 : decode cX12_must 24 = .ok (.aload_n 0, 1) := by decide +kernel
theorem dX12_must_25 : decode cX12_must 25 = .ok (.getfield 242, 3) := by decide +kernel
theorem dX12_must_28 : decode cX12_must 28 = .ok (.ifCond .ne 7, 3) := by decide +kernel
theorem dX12_must_31 : decode cX12_must 31 = .ok (.aload_n 0, 1) := by decide +kernel
theorem dX12_must_32 : decode cX12_must 32 = .ok (.invokevirtual 246, 3) := by decide +kernel
theorem dX12_must_35 : decode cX12_must 35 = .ok (.return_, 1) := by decide +kernel
theorem dX12_number_0 : decode cX12_number 0 = .ok (.aload_n 0, 1) := by decide +kernel
theorem dX12_number_1 : decode cX12_number 1 = .ok (.getfield 252, 3) := by decide +kernel
theorem dX12_number_4 : decode cX12_number 4 = .ok (.l2i, 1) := by decide +kernel
theorem dX12_number_5 : decode cX12_number 5 = .ok (.istore 5, 2) := by decide +kernel
theorem dX12_number_7 : decode cX12_number 7 = .ok (.aload_n 0, 1) := by decide +kernel
theorem dX12_number_8 : decode cX12_number 8 = .ok (.aload_n 0, 1) := by decide +kernel
theorem dX12_number_9 : decode cX12_number 9 = .ok (.getfield 262, 3) := by decide +kernel
theorem dX12_number_12 : decode cX12_number 12 = .ok (.iconst 2, 1) := by decide +kernel
theorem dX12_number_13 : decode cX12_number 13 = .ok (.if_icmp .ne 19, 3) := by decide +kernel
theorem dX12_number_16 : decode cX12_number 16 = .ok (.aload_n 0, 1) := by decide +kernel
theorem dX12_number_17 : decode cX12_number 17 = .ok (.getfield 252, 3) := by decide +kernel
theorem dX12_number_20 : decode cX12_number 20 = .ok (.lload_n 1, 1) := by decide +kernel
theorem dX12_number_21 : decode cX12_number 21 = .ok (.lload_n 3, 1) := by decide +kernel
theorem dX12_number_22 : decode cX12_number 22 = .ok (.invokestatic 173, 3) := by decide +kernel
theorem dX12_number_25 : decode cX12_number 25 = .ok (.ifCond .eq 7, 3) := by decide +kernel
theorem dX12_number_28 : decode cX12_number 28 = .ok (.iconst 1, 1) := by decide +kernel
theorem dX12_number_29 : decode cX12_number 29 = .ok (.goto 4, 3) := by decide +kernel
theorem dX12_number_32 : decode cX12_number 32 = .ok (.iconst 0, 1) := by decide +kernel
theorem dX12_number_33 : decode cX12_number 33 = .ok (.invokevirtual 275, 3) := by decide +kernel
theorem dX12_number_36 : decode cX12_number 36 = .ok (.iload 5, 2) := by decide +kernel
theorem dX12_number_38 : decode cX12_number 38 = .ok (.ireturn, 1) := by decide +kernel
theorem dX12_fault_0 : decode cX12_fault 0 = .ok (.aload_n 0, 1) := by decide +kernel
theorem dX12_fault_1 : decode cX12_fault 1 = .ok (.iconst 0, 1) := by decide +kernel
theorem dX12_fault_2 : decode cX12_fault 2 = .ok (.putfield 153, 3) := by decide +kernel
theorem dX12_fault_5 : decode cX12_fault 5 = .ok (.aload_n 0, 1) := by decide +kernel
theorem dX12_fault_6 : decode cX12_fault 6 = .ok (.getfield 38, 3) := by decide +kernel
theorem dX12_fault_9 : decode cX12_fault 9 = .ok (.ireturn, 1) := by decide +kernel
theorem dX12_emit_0 : decode cX12_emit 0 = .ok (.aload_n 0, 1) := by decide +kernel
theorem dX12_emit_1 : decode cX12_emit 1 = .ok (.getfield 45, 3) := by decide +kernel
theorem dX12_emit_4 : decode cX12_emit 4 = .ok (.aload_n 0, 1) := by decide +kernel
theorem dX12_emit_5 : decode cX12_emit 5 = .ok (.getfield 279, 3) := by decide +kernel
theorem dX12_emit_8 : decode cX12_emit 8 = .ok (.iload_n 1, 1) := by decide +kernel
theorem dX12_emit_9 : decode cX12_emit 9 = .ok (.iastore, 1) := by decide +kernel
theorem dX12_emit_10 : decode cX12_emit 10 = .ok (.aload_n 0, 1) := by decide +kernel
theorem dX12_emit_11 : decode cX12_emit 11 = .ok (.getfield 48, 3) := by decide +kernel
theorem dX12_emit_14 : decode cX12_emit 14 = .ok (.aload_n 0, 1) := by decide +kernel
theorem dX12_emit_15 : decode cX12_emit 15 = .ok (.getfield 279, 3) := by decide +kernel
theorem dX12_emit_18 : decode cX12_emit 18 = .ok (.iload_n 2, 1) := by decide +kernel
theorem dX12_emit_19 : decode cX12_emit 19 = .ok (.iastore, 1) := by decide +kernel
theorem dX12_emit_20 : decode cX12_emit 20 = .ok (.aload_n 0, 1) := by decide +kernel
theorem dX12_emit_21 : decode cX12_emit 21 = .ok (.dup, 1) := by decide +kernel
theorem dX12_emit_22 : decode cX12_emit 22 = .ok (.getfield 279, 3) := by decide +kernel
theorem dX12_emit_25 : decode cX12_emit 25 = .ok (.iconst 1, 1) := by decide +kernel
theorem dX12_emit_26 : decode cX12_emit 26 = .ok (.iadd, 1) := by decide +kernel
theorem dX12_emit_27 : decode cX12_emit 27 = .ok (.putfield 279, 3) := by decide +kernel
theorem dX12_emit_30 : decode cX12_emit 30 = .ok (.return_, 1) := by decide +kernel
theorem dX12_push_0 : decode cX12_push 0 = .ok (.aload_n 0, 1) := by decide +kernel
theorem dX12_push_1 : decode cX12_push 1 = .ok (.getfield 51, 3) := by decide +kernel
theorem dX12_push_4 : decode cX12_push 4 = .ok (.aload_n 0, 1) := by decide +kernel
theorem dX12_push_5 : decode cX12_push 5 = .ok (.getfield 282, 3) := by decide +kernel
theorem dX12_push_8 : decode cX12_push 8 = .ok (.iload_n 1, 1) := by decide +kernel
theorem dX12_push_9 : decode cX12_push 9 = .ok (.iastore, 1) := by decide +kernel
theorem dX12_push_10 : decode cX12_push 10 = .ok (.aload_n 0, 1) := by decide +kernel
theorem dX12_push_11 : decode cX12_push 11 = .ok (.getfield 54, 3) := by decide +kernel
theorem dX12_push_14 : decode cX12_push 14 = .ok (.aload_n 0, 1) := by decide +kernel
theorem dX12_push_15 : decode cX12_push 15 = .ok (.getfield 282, 3) := by decide +kernel
theorem dX12_push_18 : decode cX12_push 18 = .ok (.iload_n 2, 1) := by decide +kernel
theorem dX12_push_19 : decode cX12_push 19 = .ok (.iastore, 1) := by decide +kernel
theorem dX12_push_20 : decode cX12_push 20 = .ok (.aload_n 0, 1) := by decide +kernel
theorem dX12_push_21 : decode cX12_push 21 = .ok (.dup, 1) := by decide +kernel
theorem dX12_push_22 : decode cX12_push 22 = .ok (.getfield 282, 3) := by decide +kernel
theorem dX12_push_25 : decode cX12_push 25 = .ok (.iconst 1, 1) := by decide +kernel
theorem dX12_push_26 : decode cX12_push 26 = .ok (.iadd, 1) := by decide +kernel
theorem dX12_push_27 : decode cX12_push 27 = .ok (.putfield 282, 3) := by decide +kernel
theorem dX12_push_30 : decode cX12_push 30 = .ok (.return_, 1) := by decide +kernel
theorem dX12_binds_0 : decode cX12_binds 0 = .ok (.iload_n 0, 1) := by decide +kernel
theorem dX12_binds_1 : decode cX12_binds 1 = .ok (.bipush 31, 2) := by decide +kernel
theorem dX12_binds_3 : decode cX12_binds 3 = .ok (.if_icmp .lt 7, 3) := by decide +kernel
theorem dX12_binds_6 : decode cX12_binds 6 = .ok (.iconst 0, 1) := by decide +kernel
theorem dX12_binds_7 : decode cX12_binds 7 = .ok (.goto 55, 3) := by decide +kernel
theorem dX12_binds_10 : decode cX12_binds 10 = .ok (.iload_n 0, 1) := by decide +kernel
theorem dX12_binds_11 : decode cX12_binds 11 = .ok (.bipush 30, 2) := by decide +kernel
theorem dX12_binds_13 : decode cX12_binds 13 = .ok (.if_icmp .ne 7, 3) := by decide +kernel
theorem dX12_binds_16 : decode cX12_binds 16 = .ok (.iconst 1, 1) := by decide +kernel
theorem dX12_binds_17 : decode cX12_binds 17 = .ok (.goto 45, 3) := by decide +kernel
theorem dX12_binds_20 : decode cX12_binds 20 = .ok (.iload_n 0, 1) := by decide +kernel
theorem dX12_binds_21 : decode cX12_binds 21 = .ok (.bipush 29, 2) := by decide +kernel
theorem dX12_binds_23 : decode cX12_binds 23 = .ok (.if_icmp .ne 7, 3) := by decide +kernel
theorem dX12_binds_26 : decode cX12_binds 26 = .ok (.iconst 2, 1) := by decide +kernel
theorem dX12_binds_27 : decode cX12_binds 27 = .ok (.goto 35, 3) := by decide +kernel
theorem dX12_binds_30 : decode cX12_binds 30 = .ok (.iload_n 0, 1) := by decide +kernel
theorem dX12_binds_31 : decode cX12_binds 31 = .ok (.bipush 28, 2) := by decide +kernel
theorem dX12_binds_33 : decode cX12_binds 33 = .ok (.if_icmp .ne 7, 3) := by decide +kernel
theorem dX12_binds_36 : decode cX12_binds 36 = .ok (.iconst 3, 1) := by decide +kernel
theorem dX12_binds_37 : decode cX12_binds 37 = .ok (.goto 25, 3) := by decide +kernel
theorem dX12_binds_40 : decode cX12_binds 40 = .ok (.iload_n 0, 1) := by decide +kernel
theorem dX12_binds_41 : decode cX12_binds 41 = .ok (.bipush 25, 2) := by decide +kernel
theorem dX12_binds_43 : decode cX12_binds 43 = .ok (.if_icmp .lt 7, 3) := by decide +kernel
theorem dX12_binds_46 : decode cX12_binds 46 = .ok (.iconst 4, 1) := by decide +kernel
theorem dX12_binds_47 : decode cX12_binds 47 = .ok (.goto 15, 3) := by decide +kernel
theorem dX12_binds_50 : decode cX12_binds 50 = .ok (.iload_n 0, 1) := by decide +kernel
theorem dX12_binds_51 : decode cX12_binds 51 = .ok (.bipush 22, 2) := by decide +kernel
theorem dX12_binds_53 : decode cX12_binds 53 = .ok (.if_icmp .lt 8, 3) := by decide +kernel
theorem dX12_binds_56 : decode cX12_binds 56 = .ok (.bipush 6, 2) := by decide +kernel
theorem dX12_binds_58 : decode cX12_binds 58 = .ok (.goto 4, 3) := by decide +kernel
theorem dX12_binds_61 : decode cX12_binds 61 = .ok (.iconst 5, 1) := by decide +kernel
theorem dX12_binds_62 : decode cX12_binds 62 = .ok (.ireturn, 1) := by decide +kernel
theorem dX12_settle_0 : decode cX12_settle 0 = .ok (.aload_n 0, 1) := by decide +kernel
theorem dX12_settle_1 : decode cX12_settle 1 = .ok (.getfield 282, 3) := by decide +kernel
theorem dX12_settle_4 : decode cX12_settle 4 = .ok (.ifCond .le 97, 3) := by decide +kernel
theorem dX12_settle_7 : decode cX12_settle 7 = .ok (.aload_n 0, 1) := by decide +kernel
theorem dX12_settle_8 : decode cX12_settle 8 = .ok (.getfield 51, 3) := by decide +kernel
theorem dX12_settle_11 : decode cX12_settle 11 = .ok (.aload_n 0, 1) := by decide +kernel
theorem dX12_settle_12 : decode cX12_settle 12 = .ok (.getfield 282, 3) := by decide +kernel
theorem dX12_settle_15 : decode cX12_settle 15 = .ok (.iconst 1, 1) := by decide +kernel
theorem dX12_settle_16 : decode cX12_settle 16 = .ok (.isub, 1) := by decide +kernel
theorem dX12_settle_17 : decode cX12_settle 17 = .ok (.iaload, 1) := by decide +kernel
theorem dX12_settle_18 : decode cX12_settle 18 = .ok (.invokestatic 285, 3) := by decide +kernel
theorem dX12_settle_21 : decode cX12_settle 21 = .ok (.iload_n 1, 1) := by decide +kernel
theorem dX12_settle_22 : decode cX12_settle 22 = .ok (.if_icmp .lt 79, 3) := by decide +kernel
theorem dX12_settle_25 : decode cX12_settle 25 = .ok (.aload_n 0, 1) := by decide +kernel
theorem dX12_settle_26 : decode cX12_settle 26 = .ok (.dup, 1) := by decide +kernel
theorem dX12_settle_27 : decode cX12_settle 27 = .ok (.getfield 282, 3) := by decide +kernel
theorem dX12_settle_30 : decode cX12_settle 30 = .ok (.iconst 1, 1) := by decide +kernel
theorem dX12_settle_31 : decode cX12_settle 31 = .ok (.isub, 1) := by decide +kernel
theorem dX12_settle_32 : decode cX12_settle 32 = .ok (.putfield 282, 3) := by decide +kernel
theorem dX12_settle_35 : decode cX12_settle 35 = .ok (.aload_n 0, 1) := by decide +kernel
theorem dX12_settle_36 : decode cX12_settle 36 = .ok (.getfield 51, 3) := by decide +kernel
theorem dX12_settle_39 : decode cX12_settle 39 = .ok (.aload_n 0, 1) := by decide +kernel
theorem dX12_settle_40 : decode cX12_settle 40 = .ok (.getfield 282, 3) := by decide +kernel
theorem dX12_settle_43 : decode cX12_settle 43 = .ok (.iaload, 1) := by decide +kernel
theorem dX12_settle_44 : decode cX12_settle 44 = .ok (.bipush 29, 2) := by decide +kernel
theorem dX12_settle_46 : decode cX12_settle 46 = .ok (.if_icmp .eq 17, 3) := by decide +kernel
theorem dX12_settle_49 : decode cX12_settle 49 = .ok (.aload_n 0, 1) := by decide +kernel
theorem dX12_settle_50 : decode cX12_settle 50 = .ok (.getfield 51, 3) := by decide +kernel
theorem dX12_settle_53 : decode cX12_settle 53 = .ok (.aload_n 0, 1) := by decide +kernel
theorem dX12_settle_54 : decode cX12_settle 54 = .ok (.getfield 282, 3) := by decide +kernel
theorem dX12_settle_57 : decode cX12_settle 57 = .ok (.iaload, 1) := by decide +kernel
theorem dX12_settle_58 : decode cX12_settle 58 = .ok (.bipush 30, 2) := by decide +kernel
theorem dX12_settle_60 : decode cX12_settle 60 = .ok (.if_icmp .ne 24, 3) := by decide +kernel
theorem dX12_settle_63 : decode cX12_settle 63 = .ok (.aload_n 0, 1) := by decide +kernel
theorem dX12_settle_64 : decode cX12_settle 64 = .ok (.getfield 48, 3) := by decide +kernel
theorem dX12_settle_67 : decode cX12_settle 67 = .ok (.aload_n 0, 1) := by decide +kernel
theorem dX12_settle_68 : decode cX12_settle 68 = .ok (.getfield 54, 3) := by decide +kernel
theorem dX12_settle_71 : decode cX12_settle 71 = .ok (.aload_n 0, 1) := by decide +kernel
theorem dX12_settle_72 : decode cX12_settle 72 = .ok (.getfield 282, 3) := by decide +kernel
theorem dX12_settle_75 : decode cX12_settle 75 = .ok (.iaload, 1) := by decide +kernel
theorem dX12_settle_76 : decode cX12_settle 76 = .ok (.aload_n 0, 1) := by decide +kernel
theorem dX12_settle_77 : decode cX12_settle 77 = .ok (.getfield 279, 3) := by decide +kernel
theorem dX12_settle_80 : decode cX12_settle 80 = .ok (.iastore, 1) := by decide +kernel
theorem dX12_settle_81 : decode cX12_settle 81 = .ok (.goto (-81), 3) := by decide +kernel
theorem dX12_settle_84 : decode cX12_settle 84 = .ok (.aload_n 0, 1) := by decide +kernel
theorem dX12_settle_85 : decode cX12_settle 85 = .ok (.aload_n 0, 1) := by decide +kernel
theorem dX12_settle_86 : decode cX12_settle 86 = .ok (.getfield 51, 3) := by decide +kernel
theorem dX12_settle_89 : decode cX12_settle 89 = .ok (.aload_n 0, 1) := by decide +kernel
theorem dX12_settle_90 : decode cX12_settle 90 = .ok (.getfield 282, 3) := by decide +kernel
theorem dX12_settle_93 : decode cX12_settle 93 = .ok (.iaload, 1) := by decide +kernel
theorem dX12_settle_94 : decode cX12_settle 94 = .ok (.iconst 0, 1) := by decide +kernel
theorem dX12_settle_95 : decode cX12_settle 95 = .ok (.invokevirtual 288, 3) := by decide +kernel
theorem dX12_settle_98 : decode cX12_settle 98 = .ok (.goto (-98), 3) := by decide +kernel
theorem dX12_settle_101 : decode cX12_settle 101 = .ok (.return_, 1) := by decide +kernel
theorem dX12_inner_0 : decode cX12_inner 0 = .ok (.iconst (-1), 1) := by decide +kernel
theorem dX12_inner_1 : decode cX12_inner 1 = .ok (.istore_n 1, 1) := by decide +kernel
theorem dX12_inner_2 : decode cX12_inner 2 = .ok (.iconst 0, 1) := by decide +kernel
theorem dX12_inner_3 : decode cX12_inner 3 = .ok (.istore_n 2, 1) := by decide +kernel
theorem dX12_inner_4 : decode cX12_inner 4 = .ok (.iload_n 2, 1) := by decide +kernel
theorem dX12_inner_5 : decode cX12_inner 5 = .ok (.aload_n 0, 1) := by decide +kernel
theorem dX12_inner_6 : decode cX12_inner 6 = .ok (.getfield 282, 3) := by decide +kernel
theorem dX12_inner_9 : decode cX12_inner 9 = .ok (.if_icmp .ge 31, 3) := by decide +kernel
theorem dX12_inner_12 : decode cX12_inner 12 = .ok (.aload_n 0, 1) := by decide +kernel
theorem dX12_inner_13 : decode cX12_inner 13 = .ok (.getfield 51, 3) := by decide +kernel
theorem dX12_inner_16 : decode cX12_inner 16 = .ok (.iload_n 2, 1) := by decide +kernel
theorem dX12_inner_17 : decode cX12_inner 17 = .ok (.iaload, 1) := by decide +kernel
theorem dX12_inner_18 : decode cX12_inner 18 = .ok (.bipush 31, 2) := by decide +kernel
theorem dX12_inner_20 : decode cX12_inner 20 = .ok (.if_icmp .lt 12, 3) := by decide +kernel
theorem dX12_inner_23 : decode cX12_inner 23 = .ok (.aload_n 0, 1) := by decide +kernel
theorem dX12_inner_24 : decode cX12_inner 24 = .ok (.getfield 51, 3) := by decide +kernel
theorem dX12_inner_27 : decode cX12_inner 27 = .ok (.iload_n 2, 1) := by decide +kernel
theorem dX12_inner_28 : decode cX12_inner 28 = .ok (.iaload, 1) := by decide +kernel
theorem dX12_inner_29 : decode cX12_inner 29 = .ok (.goto 4, 3) := by decide +kernel
theorem dX12_inner_32 : decode cX12_inner 32 = .ok (.iload_n 1, 1) := by decide +kernel
theorem dX12_inner_33 : decode cX12_inner 33 = .ok (.istore_n 1, 1) := by decide +kernel
theorem dX12_inner_34 : decode cX12_inner 34 = .ok (.iinc 2 1, 3) := by decide +kernel
theorem dX12_inner_37 : decode cX12_inner 37 = .ok (.goto (-33), 3) := by decide +kernel
theorem dX12_inner_40 : decode cX12_inner 40 = .ok (.iload_n 1, 1) := by decide +kernel
theorem dX12_inner_41 : decode cX12_inner 41 = .ok (.ireturn, 1) := by decide +kernel
theorem dX12_isCompared_0 : decode cX12_isCompared 0 = .ok (.aload_n 0, 1) := by decide +kernel
theorem dX12_isCompared_1 : decode cX12_isCompared 1 = .ok (.getfield 282, 3) := by decide +kernel
theorem dX12_isCompared_4 : decode cX12_isCompared 4 = .ok (.iconst 1, 1) := by decide +kernel
theorem dX12_isCompared_5 : decode cX12_isCompared 5 = .ok (.isub, 1) := by decide +kernel
theorem dX12_isCompared_6 : decode cX12_isCompared 6 = .ok (.istore_n 1, 1) := by decide +kernel
theorem dX12_isCompared_7 : decode cX12_isCompared 7 = .ok (.iload_n 1, 1) := by decide +kernel
theorem dX12_isCompared_8 : decode cX12_isCompared 8 = .ok (.ifCond .lt 28, 3) := by decide +kernel
theorem dX12_isCompared_11 : decode cX12_isCompared 11 = .ok (.aload_n 0, 1) := by decide +kernel
theorem dX12_isCompared_12 : decode cX12_isCompared 12 = .ok (.getfield 51, 3) := by decide +kernel
theorem dX12_isCompared_15 : decode cX12_isCompared 15 = .ok (.iload_n 1, 1) := by decide +kernel
theorem dX12_isCompared_16 : decode cX12_isCompared 16 = .ok (.iaload, 1) := by decide +kernel
theorem dX12_isCompared_17 : decode cX12_isCompared 17 = .ok (.i2l, 1) := by decide +kernel
theorem dX12_isCompared_18 : decode cX12_isCompared 18 = .ok (.ldc2_w 292, 3) := by decide +kernel
theorem dX12_isCompared_21 : decode cX12_isCompared 21 = .ok (.ldc2_w 294, 3) := by decide +kernel
theorem dX12_isCompared_24 : decode cX12_isCompared 24 = .ok (.invokestatic 173, 3) := by decide +kernel
theorem dX12_isCompared_27 : decode cX12_isCompared 27 = .ok (.ifCond .eq 9, 3) := by decide +kernel
theorem dX12_isCompared_30 : decode cX12_isCompared 30 = .ok (.iinc 1 (-1), 3) := by decide +kernel
theorem dX12_isCompared_33 : decode cX12_isCompared 33 = .ok (.goto (-26), 3) := by decide +kernel
theorem dX12_isCompared_36 : decode cX12_isCompared 36 = .ok (.iload_n 1, 1) := by decide +kernel
theorem dX12_isCompared_37 : decode cX12_isCompared 37 = .ok (.ifCond .lt 26, 3) := by decide +kernel
theorem dX12_isCompared_40 : decode cX12_isCompared 40 = .ok (.aload_n 0, 1) := by decide +kernel
theorem dX12_isCompared_41 : decode cX12_isCompared 41 = .ok (.getfield 51, 3) := by decide +kernel
theorem dX12_isCompared_44 : decode cX12_isCompared 44 = .ok (.iload_n 1, 1) := by decide +kernel
theorem dX12_isCompared_45 : decode cX12_isCompared 45 = .ok (.iaload, 1) := by decide +kernel
theorem dX12_isCompared_46 : decode cX12_isCompared 46 = .ok (.i2l, 1) := by decide +kernel
theorem dX12_isCompared_47 : decode cX12_isCompared 47 = .ok (.ldc2_w 296, 3) := by decide +kernel
theorem dX12_isCompared_50 : decode cX12_isCompared 50 = .ok (.ldc2_w 298, 3) := by decide +kernel
theorem dX12_isCompared_53 : decode cX12_isCompared 53 = .ok (.invokestatic 173, 3) := by decide +kernel
theorem dX12_isCompared_56 : decode cX12_isCompared 56 = .ok (.ifCond .eq 7, 3) := by decide +kernel
theorem dX12_isCompared_59 : decode cX12_isCompared 59 = .ok (.iconst 1, 1) := by decide +kernel
theorem dX12_isCompared_60 : decode cX12_isCompared 60 = .ok (.goto 4, 3) := by decide +kernel
theorem dX12_isCompared_63 : decode cX12_isCompared 63 = .ok (.iconst 0, 1) := by decide +kernel
theorem dX12_isCompared_64 : decode cX12_isCompared 64 = .ok (.ireturn, 1) := by decide +kernel
theorem dX12_partAt_0 : decode cX12_partAt 0 = .ok (.iconst (-1), 1) := by decide +kernel
theorem dX12_partAt_1 : decode cX12_partAt 1 = .ok (.istore_n 1, 1) := by decide +kernel
theorem dX12_partAt_2 : decode cX12_partAt 2 = .ok (.iconst 0, 1) := by decide +kernel
theorem dX12_partAt_3 : decode cX12_partAt 3 = .ok (.istore_n 2, 1) := by decide +kernel
theorem dX12_partAt_4 : decode cX12_partAt 4 = .ok (.iload_n 2, 1) := by decide +kernel
theorem dX12_partAt_5 : decode cX12_partAt 5 = .ok (.bipush 8, 2) := by decide +kernel
theorem dX12_partAt_7 : decode cX12_partAt 7 = .ok (.if_icmp .ge 30, 3) := by decide +kernel
theorem dX12_partAt_10 : decode cX12_partAt 10 = .ok (.aload_n 0, 1) := by decide +kernel
theorem dX12_partAt_11 : decode cX12_partAt 11 = .ok (.aload_n 0, 1) := by decide +kernel
theorem dX12_partAt_12 : decode cX12_partAt 12 = .ok (.getfield 73, 3) := by decide +kernel
theorem dX12_partAt_15 : decode cX12_partAt 15 = .ok (.iload_n 2, 1) := by decide +kernel
theorem dX12_partAt_16 : decode cX12_partAt 16 = .ok (.laload, 1) := by decide +kernel
theorem dX12_partAt_17 : decode cX12_partAt 17 = .ok (.invokevirtual 300, 3) := by decide +kernel
theorem dX12_partAt_20 : decode cX12_partAt 20 = .ok (.ifCond .eq 9, 3) := by decide +kernel
theorem dX12_partAt_23 : decode cX12_partAt 23 = .ok (.iload_n 2, 1) := by decide +kernel
theorem dX12_partAt_24 : decode cX12_partAt 24 = .ok (.iconst 1, 1) := by decide +kernel
theorem dX12_partAt_25 : decode cX12_partAt 25 = .ok (.iadd, 1) := by decide +kernel
theorem dX12_partAt_26 : decode cX12_partAt 26 = .ok (.goto 4, 3) := by decide +kernel
theorem dX12_partAt_29 : decode cX12_partAt 29 = .ok (.iload_n 1, 1) := by decide +kernel
theorem dX12_partAt_30 : decode cX12_partAt 30 = .ok (.istore_n 1, 1) := by decide +kernel
theorem dX12_partAt_31 : decode cX12_partAt 31 = .ok (.iinc 2 1, 3) := by decide +kernel
theorem dX12_partAt_34 : decode cX12_partAt 34 = .ok (.goto (-30), 3) := by decide +kernel
theorem dX12_partAt_37 : decode cX12_partAt 37 = .ok (.iload_n 1, 1) := by decide +kernel
theorem dX12_partAt_38 : decode cX12_partAt 38 = .ok (.ireturn, 1) := by decide +kernel
theorem dX12_orderPartAt_0 : decode cX12_orderPartAt 0 = .ok (.iconst (-1), 1) := by decide +kernel
theorem dX12_orderPartAt_1 : decode cX12_orderPartAt 1 = .ok (.istore_n 1, 1) := by decide +kernel
theorem dX12_orderPartAt_2 : decode cX12_orderPartAt 2 = .ok (.iconst 0, 1) := by decide +kernel
theorem dX12_orderPartAt_3 : decode cX12_orderPartAt 3 = .ok (.istore_n 2, 1) := by decide +kernel
theorem dX12_orderPartAt_4 : decode cX12_orderPartAt 4 = .ok (.iload_n 2, 1) := by decide +kernel
theorem dX12_orderPartAt_5 : decode cX12_orderPartAt 5 = .ok (.bipush 7, 2) := by decide +kernel
theorem dX12_orderPartAt_7 : decode cX12_orderPartAt 7 = .ok (.if_icmp .ge 30, 3) := by decide +kernel
theorem dX12_orderPartAt_10 : decode cX12_orderPartAt 10 = .ok (.aload_n 0, 1) := by decide +kernel
theorem dX12_orderPartAt_11 : decode cX12_orderPartAt 11 = .ok (.aload_n 0, 1) := by decide +kernel
theorem dX12_orderPartAt_12 : decode cX12_orderPartAt 12 = .ok (.getfield 83, 3) := by decide +kernel
theorem dX12_orderPartAt_15 : decode cX12_orderPartAt 15 = .ok (.iload_n 2, 1) := by decide +kernel
theorem dX12_orderPartAt_16 : decode cX12_orderPartAt 16 = .ok (.laload, 1) := by decide +kernel
theorem dX12_orderPartAt_17 : decode cX12_orderPartAt 17 = .ok (.invokevirtual 300, 3) := by decide +kernel
theorem dX12_orderPartAt_20 : decode cX12_orderPartAt 20 = .ok (.ifCond .eq 9, 3) := by decide +kernel
theorem dX12_orderPartAt_23 : decode cX12_orderPartAt 23 = .ok (.iload_n 2, 1) := by decide +kernel
theorem dX12_orderPartAt_24 : decode cX12_orderPartAt 24 = .ok (.iconst 1, 1) := by decide +kernel
theorem dX12_orderPartAt_25 : decode cX12_orderPartAt 25 = .ok (.iadd, 1) := by decide +kernel
theorem dX12_orderPartAt_26 : decode cX12_orderPartAt 26 = .ok (.goto 4, 3) := by decide +kernel
theorem dX12_orderPartAt_29 : decode cX12_orderPartAt 29 = .ok (.iload_n 1, 1) := by decide +kernel
theorem dX12_orderPartAt_30 : decode cX12_orderPartAt 30 = .ok (.istore_n 1, 1) := by decide +kernel
theorem dX12_orderPartAt_31 : decode cX12_orderPartAt 31 = .ok (.iinc 2 1, 3) := by decide +kernel
theorem dX12_orderPartAt_34 : decode cX12_orderPartAt 34 = .ok (.goto (-30), 3) := by decide +kernel
theorem dX12_orderPartAt_37 : decode cX12_orderPartAt 37 = .ok (.iload_n 1, 1) := by decide +kernel
theorem dX12_orderPartAt_38 : decode cX12_orderPartAt 38 = .ok (.ireturn, 1) := by decide +kernel
theorem dX12_openBracket_0 : decode cX12_openBracket 0 = .ok (.aload_n 0, 1) := by decide +kernel
theorem dX12_openBracket_1 : decode cX12_openBracket 1 = .ok (.aload_n 0, 1) := by decide +kernel
theorem dX12_openBracket_2 : decode cX12_openBracket 2 = .ok (.getfield 304, 3) := by decide +kernel
theorem dX12_openBracket_5 : decode cX12_openBracket 5 = .ok (.bipush 8, 2) := by decide +kernel
theorem dX12_openBracket_7 : decode cX12_openBracket 7 = .ok (.if_icmp .ge 7, 3) := by decide +kernel
theorem dX12_openBracket_10 : decode cX12_openBracket 10 = .ok (.iconst 1, 1) := by decide +kernel
theorem dX12_openBracket_11 : decode cX12_openBracket 11 = .ok (.goto 4, 3) := by decide +kernel
theorem dX12_openBracket_14 : decode cX12_openBracket 14 = .ok (.iconst 0, 1) := by decide +kernel
theorem dX12_openBracket_15 : decode cX12_openBracket 15 = .ok (.invokevirtual 275, 3) := by decide +kernel
theorem dX12_openBracket_18 : decode cX12_openBracket 18 = .ok (.aload_n 0, 1) := by decide +kernel
theorem dX12_openBracket_19 : decode cX12_openBracket 19 = .ok (.getfield 242, 3) := by decide +kernel
theorem dX12_openBracket_22 : decode cX12_openBracket 22 = .ok (.ifCond .ne 19, 3) := by decide +kernel
theorem dX12_openBracket_25 : decode cX12_openBracket 25 = .ok (.aload_n 0, 1) := by decide +kernel
theorem dX12_openBracket_26 : decode cX12_openBracket 26 = .ok (.dup, 1) := by decide +kernel
theorem dX12_openBracket_27 : decode cX12_openBracket 27 = .ok (.getfield 304, 3) := by decide +kernel
theorem dX12_openBracket_30 : decode cX12_openBracket 30 = .ok (.iconst 1, 1) := by decide +kernel
theorem dX12_openBracket_31 : decode cX12_openBracket 31 = .ok (.iadd, 1) := by decide +kernel
theorem dX12_openBracket_32 : decode cX12_openBracket 32 = .ok (.putfield 304, 3) := by decide +kernel
theorem dX12_openBracket_35 : decode cX12_openBracket 35 = .ok (.aload_n 0, 1) := by decide +kernel
theorem dX12_openBracket_36 : decode cX12_openBracket 36 = .ok (.iload_n 1, 1) := by decide +kernel
theorem dX12_openBracket_37 : decode cX12_openBracket 37 = .ok (.iconst 0, 1) := by decide +kernel
theorem dX12_openBracket_38 : decode cX12_openBracket 38 = .ok (.invokevirtual 307, 3) := by decide +kernel
theorem dX12_openBracket_41 : decode cX12_openBracket 41 = .ok (.return_, 1) := by decide +kernel
theorem dX12_leaf_0 : decode cX12_leaf 0 = .ok (.aload_n 0, 1) := by decide +kernel
theorem dX12_leaf_1 : decode cX12_leaf 1 = .ok (.iload_n 1, 1) := by decide +kernel
theorem dX12_leaf_2 : decode cX12_leaf 2 = .ok (.ifCond .eq 16, 3) := by decide +kernel
theorem dX12_leaf_5 : decode cX12_leaf 5 = .ok (.aload_n 0, 1) := by decide +kernel
theorem dX12_leaf_6 : decode cX12_leaf 6 = .ok (.getfield 310, 3) := by decide +kernel
theorem dX12_leaf_9 : decode cX12_leaf 9 = .ok (.bipush 50, 2) := by decide +kernel
theorem dX12_leaf_11 : decode cX12_leaf 11 = .ok (.if_icmp .ge 7, 3) := by decide +kernel
theorem dX12_leaf_14 : decode cX12_leaf 14 = .ok (.iconst 1, 1) := by decide +kernel
theorem dX12_leaf_15 : decode cX12_leaf 15 = .ok (.goto 4, 3) := by decide +kernel
theorem dX12_leaf_18 : decode cX12_leaf 18 = .ok (.iconst 0, 1) := by decide +kernel
theorem dX12_leaf_19 : decode cX12_leaf 19 = .ok (.invokevirtual 275, 3) := by decide +kernel
theorem dX12_leaf_22 : decode cX12_leaf 22 = .ok (.aload_n 0, 1) := by decide +kernel
theorem dX12_leaf_23 : decode cX12_leaf 23 = .ok (.getfield 242, 3) := by decide +kernel
theorem dX12_leaf_26 : decode cX12_leaf 26 = .ok (.ifCond .ne 19, 3) := by decide +kernel
theorem dX12_leaf_29 : decode cX12_leaf 29 = .ok (.aload_n 0, 1) := by decide +kernel
theorem dX12_leaf_30 : decode cX12_leaf 30 = .ok (.iload_n 2, 1) := by decide +kernel
theorem dX12_leaf_31 : decode cX12_leaf 31 = .ok (.iload_n 3, 1) := by decide +kernel
theorem dX12_leaf_32 : decode cX12_leaf 32 = .ok (.invokevirtual 288, 3) := by decide +kernel
theorem dX12_leaf_35 : decode cX12_leaf 35 = .ok (.aload_n 0, 1) := by decide +kernel
theorem dX12_leaf_36 : decode cX12_leaf 36 = .ok (.dup, 1) := by decide +kernel
theorem dX12_leaf_37 : decode cX12_leaf 37 = .ok (.getfield 310, 3) := by decide +kernel
theorem dX12_leaf_40 : decode cX12_leaf 40 = .ok (.iconst 1, 1) := by decide +kernel
theorem dX12_leaf_41 : decode cX12_leaf 41 = .ok (.iadd, 1) := by decide +kernel
theorem dX12_leaf_42 : decode cX12_leaf 42 = .ok (.putfield 310, 3) := by decide +kernel
theorem dX12_leaf_45 : decode cX12_leaf 45 = .ok (.return_, 1) := by decide +kernel
theorem dX12_readPart_0 : decode cX12_readPart 0 = .ok (.aload_n 0, 1) := by decide +kernel
theorem dX12_readPart_1 : decode cX12_readPart 1 = .ok (.bipush 91, 2) := by decide +kernel
theorem dX12_readPart_3 : decode cX12_readPart 3 = .ok (.invokevirtual 313, 3) := by decide +kernel
theorem dX12_readPart_6 : decode cX12_readPart 6 = .ok (.ifCond .eq 11, 3) := by decide +kernel
theorem dX12_readPart_9 : decode cX12_readPart 9 = .ok (.aload_n 0, 1) := by decide +kernel
theorem dX12_readPart_10 : decode cX12_readPart 10 = .ok (.bipush 32, 2) := by decide +kernel
theorem dX12_readPart_12 : decode cX12_readPart 12 = .ok (.invokevirtual 316, 3) := by decide +kernel
theorem dX12_readPart_15 : decode cX12_readPart 15 = .ok (.iconst 1, 1) := by decide +kernel
theorem dX12_readPart_16 : decode cX12_readPart 16 = .ok (.ireturn, 1) := by decide +kernel
theorem dX12_readPart_17 : decode cX12_readPart 17 = .ok (.aload_n 0, 1) := by decide +kernel
theorem dX12_readPart_18 : decode cX12_readPart 18 = .ok (.getfield 319, 3) := by decide +kernel
theorem dX12_readPart_21 : decode cX12_readPart 21 = .ok (.ifCond .eq 10, 3) := by decide +kernel
theorem dX12_readPart_24 : decode cX12_readPart 24 = .ok (.aload_n 0, 1) := by decide +kernel
theorem dX12_readPart_25 : decode cX12_readPart 25 = .ok (.invokevirtual 322, 3) := by decide +kernel
theorem dX12_readPart_28 : decode cX12_readPart 28 = .ok (.goto 7, 3) := by decide +kernel
theorem dX12_readPart_31 : decode cX12_readPart 31 = .ok (.aload_n 0, 1) := by decide +kernel
theorem dX12_readPart_32 : decode cX12_readPart 32 = .ok (.invokevirtual 326, 3) := by decide +kernel
theorem dX12_readPart_35 : decode cX12_readPart 35 = .ok (.istore_n 1, 1) := by decide +kernel
theorem dX12_readPart_36 : decode cX12_readPart 36 = .ok (.aload_n 0, 1) := by decide +kernel
theorem dX12_readPart_37 : decode cX12_readPart 37 = .ok (.getfield 262, 3) := by decide +kernel
theorem dX12_readPart_40 : decode cX12_readPart 40 = .ok (.iconst 2, 1) := by decide +kernel
theorem dX12_readPart_41 : decode cX12_readPart 41 = .ok (.if_icmp .ne 18, 3) := by decide +kernel
theorem dX12_readPart_44 : decode cX12_readPart 44 = .ok (.aload_n 0, 1) := by decide +kernel
theorem dX12_readPart_45 : decode cX12_readPart 45 = .ok (.getfield 252, 3) := by decide +kernel
theorem dX12_readPart_48 : decode cX12_readPart 48 = .ok (.ldc2_w 329, 3) := by decide +kernel
theorem dX12_readPart_51 : decode cX12_readPart 51 = .ok (.lcmp, 1) := by decide +kernel
theorem dX12_readPart_52 : decode cX12_readPart 52 = .ok (.ifCond .gt 7, 3) := by decide +kernel
theorem dX12_readPart_55 : decode cX12_readPart 55 = .ok (.iconst 1, 1) := by decide +kernel
theorem dX12_readPart_56 : decode cX12_readPart 56 = .ok (.goto 4, 3) := by decide +kernel
theorem dX12_readPart_59 : decode cX12_readPart 59 = .ok (.iconst 0, 1) := by decide +kernel
theorem dX12_readPart_60 : decode cX12_readPart 60 = .ok (.istore_n 2, 1) := by decide +kernel
theorem dX12_readPart_61 : decode cX12_readPart 61 = .ok (.aload_n 0, 1) := by decide +kernel
theorem dX12_readPart_62 : decode cX12_readPart 62 = .ok (.iload_n 1, 1) := by decide +kernel
theorem dX12_readPart_63 : decode cX12_readPart 63 = .ok (.iconst (-1), 1) := by decide +kernel
theorem dX12_readPart_64 : decode cX12_readPart 64 = .ok (.if_icmp .ne 7, 3) := by decide +kernel
theorem dX12_readPart_67 : decode cX12_readPart 67 = .ok (.iload_n 2, 1) := by decide +kernel
theorem dX12_readPart_68 : decode cX12_readPart 68 = .ok (.ifCond .eq 7, 3) := by decide +kernel
theorem dX12_readPart_71 : decode cX12_readPart 71 = .ok (.iconst 1, 1) := by decide +kernel
theorem dX12_readPart_72 : decode cX12_readPart 72 = .ok (.goto 4, 3) := by decide +kernel
theorem dX12_readPart_75 : decode cX12_readPart 75 = .ok (.iconst 0, 1) := by decide +kernel
theorem dX12_readPart_76 : decode cX12_readPart 76 = .ok (.iload_n 1, 1) := by decide +kernel
theorem dX12_readPart_77 : decode cX12_readPart 77 = .ok (.iconst (-1), 1) := by decide +kernel
theorem dX12_readPart_78 : decode cX12_readPart 78 = .ok (.if_icmp .ne 7, 3) := by decide +kernel
theorem dX12_readPart_81 : decode cX12_readPart 81 = .ok (.iconst 0, 1) := by decide +kernel
theorem dX12_readPart_82 : decode cX12_readPart 82 = .ok (.goto 4, 3) := by decide +kernel
theorem dX12_readPart_85 : decode cX12_readPart 85 = .ok (.iload_n 1, 1) := by decide +kernel
theorem dX12_readPart_86 : decode cX12_readPart 86 = .ok (.iload_n 2, 1) := by decide +kernel
theorem dX12_readPart_87 : decode cX12_readPart 87 = .ok (.ifCond .eq 11, 3) := by decide +kernel
theorem dX12_readPart_90 : decode cX12_readPart 90 = .ok (.aload_n 0, 1) := by decide +kernel
theorem dX12_readPart_91 : decode cX12_readPart 91 = .ok (.getfield 252, 3) := by decide +kernel
theorem dX12_readPart_94 : decode cX12_readPart 94 = .ok (.l2i, 1) := by decide +kernel
theorem dX12_readPart_95 : decode cX12_readPart 95 = .ok (.goto 4, 3) := by decide +kernel
theorem dX12_readPart_98 : decode cX12_readPart 98 = .ok (.iconst 0, 1) := by decide +kernel
theorem dX12_readPart_99 : decode cX12_readPart 99 = .ok (.invokevirtual 331, 3) := by decide +kernel
theorem dX12_readPart_102 : decode cX12_readPart 102 = .ok (.aload_n 0, 1) := by decide +kernel
theorem dX12_readPart_103 : decode cX12_readPart 103 = .ok (.getfield 319, 3) := by decide +kernel
theorem dX12_readPart_106 : decode cX12_readPart 106 = .ok (.ifCond .eq 49, 3) := by decide +kernel
theorem dX12_readPart_109 : decode cX12_readPart 109 = .ok (.iload_n 1, 1) := by decide +kernel
theorem dX12_readPart_110 : decode cX12_readPart 110 = .ok (.bipush 6, 2) := by decide +kernel
theorem dX12_readPart_112 : decode cX12_readPart 112 = .ok (.if_icmp .lt 43, 3) := by decide +kernel
theorem dX12_readPart_115 : decode cX12_readPart 115 = .ok (.aload_n 0, 1) := by decide +kernel
theorem dX12_readPart_116 : decode cX12_readPart 116 = .ok (.getfield 242, 3) := by decide +kernel
theorem dX12_readPart_119 : decode cX12_readPart 119 = .ok (.ifCond .ne 36, 3) := by decide +kernel
theorem dX12_readPart_122 : decode cX12_readPart 122 = .ok (.aload_n 0, 1) := by decide +kernel
theorem dX12_readPart_123 : decode cX12_readPart 123 = .ok (.getfield 279, 3) := by decide +kernel
theorem dX12_readPart_126 : decode cX12_readPart 126 = .ok (.iconst 1, 1) := by decide +kernel
theorem dX12_readPart_127 : decode cX12_readPart 127 = .ok (.isub, 1) := by decide +kernel
theorem dX12_readPart_128 : decode cX12_readPart 128 = .ok (.istore_n 3, 1) := by decide +kernel
theorem dX12_readPart_129 : decode cX12_readPart 129 = .ok (.aload_n 0, 1) := by decide +kernel
theorem dX12_readPart_130 : decode cX12_readPart 130 = .ok (.getfield 48, 3) := by decide +kernel
theorem dX12_readPart_133 : decode cX12_readPart 133 = .ok (.iload_n 3, 1) := by decide +kernel
theorem dX12_readPart_134 : decode cX12_readPart 134 = .ok (.aload_n 0, 1) := by decide +kernel
theorem dX12_readPart_135 : decode cX12_readPart 135 = .ok (.lconst 0, 1) := by decide +kernel
theorem dX12_readPart_136 : decode cX12_readPart 136 = .ok (.iload_n 1, 1) := by decide +kernel
theorem dX12_readPart_137 : decode cX12_readPart 137 = .ok (.bipush 6, 2) := by decide +kernel
theorem dX12_readPart_139 : decode cX12_readPart 139 = .ok (.if_icmp .ne 9, 3) := by decide +kernel
theorem dX12_readPart_142 : decode cX12_readPart 142 = .ok (.ldc2_w 180, 3) := by decide +kernel
theorem dX12_readPart_145 : decode cX12_readPart 145 = .ok (.goto 6, 3) := by decide +kernel
theorem dX12_readPart_148 : decode cX12_readPart 148 = .ok (.ldc2_w 335, 3) := by decide +kernel
theorem dX12_readPart_151 : decode cX12_readPart 151 = .ok (.invokevirtual 337, 3) := by decide +kernel
theorem dX12_readPart_154 : decode cX12_readPart 154 = .ok (.iastore, 1) := by decide +kernel
theorem dX12_readPart_155 : decode cX12_readPart 155 = .ok (.iconst 3, 1) := by decide +kernel
theorem dX12_readPart_156 : decode cX12_readPart 156 = .ok (.ireturn, 1) := by decide +kernel
theorem dX12_readPlain_0 : decode cX12_readPlain 0 = .ok (.aload_n 0, 1) := by decide +kernel
theorem dX12_readPlain_1 : decode cX12_readPlain 1 = .ok (.ldc2_w 341, 3) := by decide +kernel
theorem dX12_readPlain_4 : decode cX12_readPlain 4 = .ok (.invokevirtual 300, 3) := by decide +kernel
theorem dX12_readPlain_7 : decode cX12_readPlain 7 = .ok (.ifCond .eq 16, 3) := by decide +kernel
theorem dX12_readPlain_10 : decode cX12_readPlain 10 = .ok (.aload_n 0, 1) := by decide +kernel
theorem dX12_readPlain_11 : decode cX12_readPlain 11 = .ok (.bipush 28, 2) := by decide +kernel
theorem dX12_readPlain_13 : decode cX12_readPlain 13 = .ok (.iconst 0, 1) := by decide +kernel
theorem dX12_readPlain_14 : decode cX12_readPlain 14 = .ok (.invokevirtual 307, 3) := by decide +kernel
theorem dX12_readPlain_17 : decode cX12_readPlain 17 = .ok (.aload_n 0, 1) := by decide +kernel
theorem dX12_readPlain_18 : decode cX12_readPlain 18 = .ok (.invokevirtual 246, 3) := by decide +kernel
theorem dX12_readPlain_21 : decode cX12_readPlain 21 = .ok (.iconst 0, 1) := by decide +kernel
theorem dX12_readPlain_22 : decode cX12_readPlain 22 = .ok (.ireturn, 1) := by decide +kernel
theorem dX12_readPlain_23 : decode cX12_readPlain 23 = .ok (.aload_n 0, 1) := by decide +kernel
theorem dX12_readPlain_24 : decode cX12_readPlain 24 = .ok (.bipush 40, 2) := by decide +kernel
theorem dX12_readPlain_26 : decode cX12_readPlain 26 = .ok (.invokevirtual 313, 3) := by decide +kernel
theorem dX12_readPlain_29 : decode cX12_readPlain 29 = .ok (.ifCond .eq 11, 3) := by decide +kernel
theorem dX12_readPlain_32 : decode cX12_readPlain 32 = .ok (.aload_n 0, 1) := by decide +kernel
theorem dX12_readPlain_33 : decode cX12_readPlain 33 = .ok (.bipush 31, 2) := by decide +kernel
theorem dX12_readPlain_35 : decode cX12_readPlain 35 = .ok (.invokevirtual 316, 3) := by decide +kernel
theorem dX12_readPlain_38 : decode cX12_readPlain 38 = .ok (.iconst 0, 1) := by decide +kernel
theorem dX12_readPlain_39 : decode cX12_readPlain 39 = .ok (.ireturn, 1) := by decide +kernel
theorem dX12_readPlain_40 : decode cX12_readPlain 40 = .ok (.aload_n 0, 1) := by decide +kernel
theorem dX12_readPlain_41 : decode cX12_readPlain 41 = .ok (.invokevirtual 343, 3) := by decide +kernel
theorem dX12_readPlain_44 : decode cX12_readPlain 44 = .ok (.ireturn, 1) := by decide +kernel
theorem dX12_behindSum_0 : decode cX12_behindSum 0 = .ok (.aload_n 0, 1) := by decide +kernel
theorem dX12_behindSum_1 : decode cX12_behindSum 1 = .ok (.bipush 43, 2) := by decide +kernel
theorem dX12_behindSum_3 : decode cX12_behindSum 3 = .ok (.invokevirtual 313, 3) := by decide +kernel
theorem dX12_behindSum_6 : decode cX12_behindSum 6 = .ok (.ifCond .eq 8, 3) := by decide +kernel
theorem dX12_behindSum_9 : decode cX12_behindSum 9 = .ok (.bipush 20, 2) := by decide +kernel
theorem dX12_behindSum_11 : decode cX12_behindSum 11 = .ok (.goto 60, 3) := by decide +kernel
theorem dX12_behindSum_14 : decode cX12_behindSum 14 = .ok (.aload_n 0, 1) := by decide +kernel
theorem dX12_behindSum_15 : decode cX12_behindSum 15 = .ok (.bipush 45, 2) := by decide +kernel
theorem dX12_behindSum_17 : decode cX12_behindSum 17 = .ok (.invokevirtual 313, 3) := by decide +kernel
theorem dX12_behindSum_20 : decode cX12_behindSum 20 = .ok (.ifCond .eq 8, 3) := by decide +kernel
theorem dX12_behindSum_23 : decode cX12_behindSum 23 = .ok (.bipush 21, 2) := by decide +kernel
theorem dX12_behindSum_25 : decode cX12_behindSum 25 = .ok (.goto 46, 3) := by decide +kernel
theorem dX12_behindSum_28 : decode cX12_behindSum 28 = .ok (.aload_n 0, 1) := by decide +kernel
theorem dX12_behindSum_29 : decode cX12_behindSum 29 = .ok (.bipush 42, 2) := by decide +kernel
theorem dX12_behindSum_31 : decode cX12_behindSum 31 = .ok (.invokevirtual 313, 3) := by decide +kernel
theorem dX12_behindSum_34 : decode cX12_behindSum 34 = .ok (.ifCond .eq 8, 3) := by decide +kernel
theorem dX12_behindSum_37 : decode cX12_behindSum 37 = .ok (.bipush 22, 2) := by decide +kernel
theorem dX12_behindSum_39 : decode cX12_behindSum 39 = .ok (.goto 32, 3) := by decide +kernel
theorem dX12_behindSum_42 : decode cX12_behindSum 42 = .ok (.aload_n 0, 1) := by decide +kernel
theorem dX12_behindSum_43 : decode cX12_behindSum 43 = .ok (.bipush 47, 2) := by decide +kernel
theorem dX12_behindSum_45 : decode cX12_behindSum 45 = .ok (.invokevirtual 313, 3) := by decide +kernel
theorem dX12_behindSum_48 : decode cX12_behindSum 48 = .ok (.ifCond .eq 8, 3) := by decide +kernel
theorem dX12_behindSum_51 : decode cX12_behindSum 51 = .ok (.bipush 23, 2) := by decide +kernel
theorem dX12_behindSum_53 : decode cX12_behindSum 53 = .ok (.goto 18, 3) := by decide +kernel
theorem dX12_behindSum_56 : decode cX12_behindSum 56 = .ok (.aload_n 0, 1) := by decide +kernel
theorem dX12_behindSum_57 : decode cX12_behindSum 57 = .ok (.bipush 37, 2) := by decide +kernel
theorem dX12_behindSum_59 : decode cX12_behindSum 59 = .ok (.invokevirtual 313, 3) := by decide +kernel
theorem dX12_behindSum_62 : decode cX12_behindSum 62 = .ok (.ifCond .eq 8, 3) := by decide +kernel
theorem dX12_behindSum_65 : decode cX12_behindSum 65 = .ok (.bipush 24, 2) := by decide +kernel
theorem dX12_behindSum_67 : decode cX12_behindSum 67 = .ok (.goto 4, 3) := by decide +kernel
theorem dX12_behindSum_70 : decode cX12_behindSum 70 = .ok (.iconst (-1), 1) := by decide +kernel
theorem dX12_behindSum_71 : decode cX12_behindSum 71 = .ok (.istore_n 2, 1) := by decide +kernel
theorem dX12_behindSum_72 : decode cX12_behindSum 72 = .ok (.iload_n 2, 1) := by decide +kernel
theorem dX12_behindSum_73 : decode cX12_behindSum 73 = .ok (.iconst (-1), 1) := by decide +kernel
theorem dX12_behindSum_74 : decode cX12_behindSum 74 = .ok (.if_icmp .eq 23, 3) := by decide +kernel
theorem dX12_behindSum_77 : decode cX12_behindSum 77 = .ok (.aload_n 0, 1) := by decide +kernel
theorem dX12_behindSum_78 : decode cX12_behindSum 78 = .ok (.iload_n 2, 1) := by decide +kernel
theorem dX12_behindSum_79 : decode cX12_behindSum 79 = .ok (.invokestatic 285, 3) := by decide +kernel
theorem dX12_behindSum_82 : decode cX12_behindSum 82 = .ok (.invokevirtual 346, 3) := by decide +kernel
theorem dX12_behindSum_85 : decode cX12_behindSum 85 = .ok (.aload_n 0, 1) := by decide +kernel
theorem dX12_behindSum_86 : decode cX12_behindSum 86 = .ok (.iload_n 2, 1) := by decide +kernel
theorem dX12_behindSum_87 : decode cX12_behindSum 87 = .ok (.iconst 0, 1) := by decide +kernel
theorem dX12_behindSum_88 : decode cX12_behindSum 88 = .ok (.invokevirtual 307, 3) := by decide +kernel
theorem dX12_behindSum_91 : decode cX12_behindSum 91 = .ok (.aload_n 0, 1) := by decide +kernel
theorem dX12_behindSum_92 : decode cX12_behindSum 92 = .ok (.invokevirtual 246, 3) := by decide +kernel
theorem dX12_behindSum_95 : decode cX12_behindSum 95 = .ok (.iconst 1, 1) := by decide +kernel
theorem dX12_behindSum_96 : decode cX12_behindSum 96 = .ok (.ireturn, 1) := by decide +kernel
theorem dX12_behindSum_97 : decode cX12_behindSum 97 = .ok (.aload_n 0, 1) := by decide +kernel
theorem dX12_behindSum_98 : decode cX12_behindSum 98 = .ok (.invokevirtual 349, 3) := by decide +kernel
theorem dX12_behindSum_101 : decode cX12_behindSum 101 = .ok (.istore_n 3, 1) := by decide +kernel
theorem dX12_behindSum_102 : decode cX12_behindSum 102 = .ok (.iload_n 3, 1) := by decide +kernel
theorem dX12_behindSum_103 : decode cX12_behindSum 103 = .ok (.bipush 32, 2) := by decide +kernel
theorem dX12_behindSum_105 : decode cX12_behindSum 105 = .ok (.if_icmp .ne 47, 3) := by decide +kernel
theorem dX12_behindSum_108 : decode cX12_behindSum 108 = .ok (.aload_n 0, 1) := by decide +kernel
theorem dX12_behindSum_109 : decode cX12_behindSum 109 = .ok (.aload_n 0, 1) := by decide +kernel
theorem dX12_behindSum_110 : decode cX12_behindSum 110 = .ok (.bipush 93, 2) := by decide +kernel
theorem dX12_behindSum_112 : decode cX12_behindSum 112 = .ok (.invokevirtual 313, 3) := by decide +kernel
theorem dX12_behindSum_115 : decode cX12_behindSum 115 = .ok (.invokevirtual 275, 3) := by decide +kernel
theorem dX12_behindSum_118 : decode cX12_behindSum 118 = .ok (.aload_n 0, 1) := by decide +kernel
theorem dX12_behindSum_119 : decode cX12_behindSum 119 = .ok (.getfield 242, 3) := by decide +kernel
theorem dX12_behindSum_122 : decode cX12_behindSum 122 = .ok (.ifCond .ne 28, 3) := by decide +kernel
theorem dX12_behindSum_125 : decode cX12_behindSum 125 = .ok (.aload_n 0, 1) := by decide +kernel
theorem dX12_behindSum_126 : decode cX12_behindSum 126 = .ok (.iconst 5, 1) := by decide +kernel
theorem dX12_behindSum_127 : decode cX12_behindSum 127 = .ok (.invokevirtual 346, 3) := by decide +kernel
theorem dX12_behindSum_130 : decode cX12_behindSum 130 = .ok (.aload_n 0, 1) := by decide +kernel
theorem dX12_behindSum_131 : decode cX12_behindSum 131 = .ok (.dup, 1) := by decide +kernel
theorem dX12_behindSum_132 : decode cX12_behindSum 132 = .ok (.getfield 282, 3) := by decide +kernel
theorem dX12_behindSum_135 : decode cX12_behindSum 135 = .ok (.iconst 1, 1) := by decide +kernel
theorem dX12_behindSum_136 : decode cX12_behindSum 136 = .ok (.isub, 1) := by decide +kernel
theorem dX12_behindSum_137 : decode cX12_behindSum 137 = .ok (.putfield 282, 3) := by decide +kernel
theorem dX12_behindSum_140 : decode cX12_behindSum 140 = .ok (.aload_n 0, 1) := by decide +kernel
theorem dX12_behindSum_141 : decode cX12_behindSum 141 = .ok (.dup, 1) := by decide +kernel
theorem dX12_behindSum_142 : decode cX12_behindSum 142 = .ok (.getfield 304, 3) := by decide +kernel
theorem dX12_behindSum_145 : decode cX12_behindSum 145 = .ok (.iconst 1, 1) := by decide +kernel
theorem dX12_behindSum_146 : decode cX12_behindSum 146 = .ok (.isub, 1) := by decide +kernel
theorem dX12_behindSum_147 : decode cX12_behindSum 147 = .ok (.putfield 304, 3) := by decide +kernel
theorem dX12_behindSum_150 : decode cX12_behindSum 150 = .ok (.iconst 3, 1) := by decide +kernel
theorem dX12_behindSum_151 : decode cX12_behindSum 151 = .ok (.ireturn, 1) := by decide +kernel
theorem dX12_behindSum_152 : decode cX12_behindSum 152 = .ok (.iload_n 3, 1) := by decide +kernel
theorem dX12_behindSum_153 : decode cX12_behindSum 153 = .ok (.iconst (-1), 1) := by decide +kernel
theorem dX12_behindSum_154 : decode cX12_behindSum 154 = .ok (.if_icmp .ne 9, 3) := by decide +kernel
theorem dX12_behindSum_157 : decode cX12_behindSum 157 = .ok (.iload_n 1, 1) := by decide +kernel
theorem dX12_behindSum_158 : decode cX12_behindSum 158 = .ok (.ifCond .ne 5, 3) := by decide +kernel
theorem dX12_behindSum_161 : decode cX12_behindSum 161 = .ok (.iconst 4, 1) := by decide +kernel
theorem dX12_behindSum_162 : decode cX12_behindSum 162 = .ok (.ireturn, 1) := by decide +kernel
theorem dX12_behindSum_163 : decode cX12_behindSum 163 = .ok (.aload_n 0, 1) := by decide +kernel
theorem dX12_behindSum_164 : decode cX12_behindSum 164 = .ok (.invokevirtual 352, 3) := by decide +kernel
theorem dX12_behindSum_167 : decode cX12_behindSum 167 = .ok (.ifCond .eq 5, 3) := by decide +kernel
theorem dX12_behindSum_170 : decode cX12_behindSum 170 = .ok (.iconst 2, 1) := by decide +kernel
theorem dX12_behindSum_171 : decode cX12_behindSum 171 = .ok (.ireturn, 1) := by decide +kernel
theorem dX12_behindSum_172 : decode cX12_behindSum 172 = .ok (.aload_n 0, 1) := by decide +kernel
theorem dX12_behindSum_173 : decode cX12_behindSum 173 = .ok (.bipush 60, 2) := by decide +kernel
theorem dX12_behindSum_175 : decode cX12_behindSum 175 = .ok (.invokevirtual 313, 3) := by decide +kernel
theorem dX12_behindSum_178 : decode cX12_behindSum 178 = .ok (.ifCond .eq 8, 3) := by decide +kernel
theorem dX12_behindSum_181 : decode cX12_behindSum 181 = .ok (.bipush 25, 2) := by decide +kernel
theorem dX12_behindSum_183 : decode cX12_behindSum 183 = .ok (.goto 19, 3) := by decide +kernel
theorem dX12_behindSum_186 : decode cX12_behindSum 186 = .ok (.aload_n 0, 1) := by decide +kernel
theorem dX12_behindSum_187 : decode cX12_behindSum 187 = .ok (.bipush 62, 2) := by decide +kernel
theorem dX12_behindSum_189 : decode cX12_behindSum 189 = .ok (.invokevirtual 313, 3) := by decide +kernel
theorem dX12_behindSum_192 : decode cX12_behindSum 192 = .ok (.ifCond .eq 8, 3) := by decide +kernel
theorem dX12_behindSum_195 : decode cX12_behindSum 195 = .ok (.bipush 26, 2) := by decide +kernel
theorem dX12_behindSum_197 : decode cX12_behindSum 197 = .ok (.goto 5, 3) := by decide +kernel
theorem dX12_behindSum_200 : decode cX12_behindSum 200 = .ok (.bipush 27, 2) := by decide +kernel
theorem dX12_behindSum_202 : decode cX12_behindSum 202 = .ok (.istore_n 2, 1) := by decide +kernel
theorem dX12_behindSum_203 : decode cX12_behindSum 203 = .ok (.aload_n 0, 1) := by decide +kernel
theorem dX12_behindSum_204 : decode cX12_behindSum 204 = .ok (.iload_n 2, 1) := by decide +kernel
theorem dX12_behindSum_205 : decode cX12_behindSum 205 = .ok (.bipush 27, 2) := by decide +kernel
theorem dX12_behindSum_207 : decode cX12_behindSum 207 = .ok (.if_icmp .ne 12, 3) := by decide +kernel
theorem dX12_behindSum_210 : decode cX12_behindSum 210 = .ok (.aload_n 0, 1) := by decide +kernel
theorem dX12_behindSum_211 : decode cX12_behindSum 211 = .ok (.bipush 61, 2) := by decide +kernel
theorem dX12_behindSum_213 : decode cX12_behindSum 213 = .ok (.invokevirtual 313, 3) := by decide +kernel
theorem dX12_behindSum_216 : decode cX12_behindSum 216 = .ok (.ifCond .eq 7, 3) := by decide +kernel
theorem dX12_behindSum_219 : decode cX12_behindSum 219 = .ok (.iconst 1, 1) := by decide +kernel
theorem dX12_behindSum_220 : decode cX12_behindSum 220 = .ok (.goto 4, 3) := by decide +kernel
theorem dX12_behindSum_223 : decode cX12_behindSum 223 = .ok (.iconst 0, 1) := by decide +kernel
theorem dX12_behindSum_224 : decode cX12_behindSum 224 = .ok (.invokevirtual 275, 3) := by decide +kernel
theorem dX12_behindSum_227 : decode cX12_behindSum 227 = .ok (.aload_n 0, 1) := by decide +kernel
theorem dX12_behindSum_228 : decode cX12_behindSum 228 = .ok (.getfield 242, 3) := by decide +kernel
theorem dX12_behindSum_231 : decode cX12_behindSum 231 = .ok (.ifCond .ne 14, 3) := by decide +kernel
theorem dX12_behindSum_234 : decode cX12_behindSum 234 = .ok (.aload_n 0, 1) := by decide +kernel
theorem dX12_behindSum_235 : decode cX12_behindSum 235 = .ok (.iconst 5, 1) := by decide +kernel
theorem dX12_behindSum_236 : decode cX12_behindSum 236 = .ok (.invokevirtual 346, 3) := by decide +kernel
theorem dX12_behindSum_239 : decode cX12_behindSum 239 = .ok (.aload_n 0, 1) := by decide +kernel
theorem dX12_behindSum_240 : decode cX12_behindSum 240 = .ok (.iload_n 2, 1) := by decide +kernel
theorem dX12_behindSum_241 : decode cX12_behindSum 241 = .ok (.iconst 0, 1) := by decide +kernel
theorem dX12_behindSum_242 : decode cX12_behindSum 242 = .ok (.invokevirtual 307, 3) := by decide +kernel
theorem dX12_behindSum_245 : decode cX12_behindSum 245 = .ok (.iconst 1, 1) := by decide +kernel
theorem dX12_behindSum_246 : decode cX12_behindSum 246 = .ok (.ireturn, 1) := by decide +kernel
theorem dX12_behindTest_0 : decode cX12_behindTest 0 = .ok (.aload_n 0, 1) := by decide +kernel
theorem dX12_behindTest_1 : decode cX12_behindTest 1 = .ok (.ldc2_w 356, 3) := by decide +kernel
theorem dX12_behindTest_4 : decode cX12_behindTest 4 = .ok (.invokevirtual 300, 3) := by decide +kernel
theorem dX12_behindTest_7 : decode cX12_behindTest 7 = .ok (.istore_n 1, 1) := by decide +kernel
theorem dX12_behindTest_8 : decode cX12_behindTest 8 = .ok (.iload_n 1, 1) := by decide +kernel
theorem dX12_behindTest_9 : decode cX12_behindTest 9 = .ok (.ifCond .ne 13, 3) := by decide +kernel
theorem dX12_behindTest_12 : decode cX12_behindTest 12 = .ok (.aload_n 0, 1) := by decide +kernel
theorem dX12_behindTest_13 : decode cX12_behindTest 13 = .ok (.ldc2_w 358, 3) := by decide +kernel
theorem dX12_behindTest_16 : decode cX12_behindTest 16 = .ok (.invokevirtual 300, 3) := by decide +kernel
theorem dX12_behindTest_19 : decode cX12_behindTest 19 = .ok (.ifCond .eq 57, 3) := by decide +kernel
theorem dX12_behindTest_22 : decode cX12_behindTest 22 = .ok (.aload_n 0, 1) := by decide +kernel
theorem dX12_behindTest_23 : decode cX12_behindTest 23 = .ok (.iload_n 1, 1) := by decide +kernel
theorem dX12_behindTest_24 : decode cX12_behindTest 24 = .ok (.ifCond .eq 7, 3) := by decide +kernel
theorem dX12_behindTest_27 : decode cX12_behindTest 27 = .ok (.iconst 2, 1) := by decide +kernel
theorem dX12_behindTest_28 : decode cX12_behindTest 28 = .ok (.goto 4, 3) := by decide +kernel
theorem dX12_behindTest_31 : decode cX12_behindTest 31 = .ok (.iconst 1, 1) := by decide +kernel
theorem dX12_behindTest_32 : decode cX12_behindTest 32 = .ok (.invokevirtual 346, 3) := by decide +kernel
theorem dX12_behindTest_35 : decode cX12_behindTest 35 = .ok (.aload_n 0, 1) := by decide +kernel
theorem dX12_behindTest_36 : decode cX12_behindTest 36 = .ok (.iload_n 1, 1) := by decide +kernel
theorem dX12_behindTest_37 : decode cX12_behindTest 37 = .ok (.ifCond .eq 8, 3) := by decide +kernel
theorem dX12_behindTest_40 : decode cX12_behindTest 40 = .ok (.bipush 29, 2) := by decide +kernel
theorem dX12_behindTest_42 : decode cX12_behindTest 42 = .ok (.goto 5, 3) := by decide +kernel
theorem dX12_behindTest_45 : decode cX12_behindTest 45 = .ok (.bipush 30, 2) := by decide +kernel
theorem dX12_behindTest_47 : decode cX12_behindTest 47 = .ok (.aload_n 0, 1) := by decide +kernel
theorem dX12_behindTest_48 : decode cX12_behindTest 48 = .ok (.getfield 279, 3) := by decide +kernel
theorem dX12_behindTest_51 : decode cX12_behindTest 51 = .ok (.invokevirtual 307, 3) := by decide +kernel
theorem dX12_behindTest_54 : decode cX12_behindTest 54 = .ok (.aload_n 0, 1) := by decide +kernel
theorem dX12_behindTest_55 : decode cX12_behindTest 55 = .ok (.iload_n 1, 1) := by decide +kernel
theorem dX12_behindTest_56 : decode cX12_behindTest 56 = .ok (.ifCond .eq 8, 3) := by decide +kernel
theorem dX12_behindTest_59 : decode cX12_behindTest 59 = .ok (.bipush 29, 2) := by decide +kernel
theorem dX12_behindTest_61 : decode cX12_behindTest 61 = .ok (.goto 5, 3) := by decide +kernel
theorem dX12_behindTest_64 : decode cX12_behindTest 64 = .ok (.bipush 30, 2) := by decide +kernel
theorem dX12_behindTest_66 : decode cX12_behindTest 66 = .ok (.iconst 0, 1) := by decide +kernel
theorem dX12_behindTest_67 : decode cX12_behindTest 67 = .ok (.invokevirtual 288, 3) := by decide +kernel
theorem dX12_behindTest_70 : decode cX12_behindTest 70 = .ok (.aload_n 0, 1) := by decide +kernel
theorem dX12_behindTest_71 : decode cX12_behindTest 71 = .ok (.invokevirtual 246, 3) := by decide +kernel
theorem dX12_behindTest_74 : decode cX12_behindTest 74 = .ok (.iconst 0, 1) := by decide +kernel
theorem dX12_behindTest_75 : decode cX12_behindTest 75 = .ok (.ireturn, 1) := by decide +kernel
theorem dX12_behindTest_76 : decode cX12_behindTest 76 = .ok (.aload_n 0, 1) := by decide +kernel
theorem dX12_behindTest_77 : decode cX12_behindTest 77 = .ok (.invokevirtual 349, 3) := by decide +kernel
theorem dX12_behindTest_80 : decode cX12_behindTest 80 = .ok (.iconst (-1), 1) := by decide +kernel
theorem dX12_behindTest_81 : decode cX12_behindTest 81 = .ok (.if_icmp .ne 5, 3) := by decide +kernel
theorem dX12_behindTest_84 : decode cX12_behindTest 84 = .ok (.iconst 4, 1) := by decide +kernel
theorem dX12_behindTest_85 : decode cX12_behindTest 85 = .ok (.ireturn, 1) := by decide +kernel
theorem dX12_behindTest_86 : decode cX12_behindTest 86 = .ok (.aload_n 0, 1) := by decide +kernel
theorem dX12_behindTest_87 : decode cX12_behindTest 87 = .ok (.aload_n 0, 1) := by decide +kernel
theorem dX12_behindTest_88 : decode cX12_behindTest 88 = .ok (.bipush 41, 2) := by decide +kernel
theorem dX12_behindTest_90 : decode cX12_behindTest 90 = .ok (.invokevirtual 313, 3) := by decide +kernel
theorem dX12_behindTest_93 : decode cX12_behindTest 93 = .ok (.invokevirtual 275, 3) := by decide +kernel
theorem dX12_behindTest_96 : decode cX12_behindTest 96 = .ok (.aload_n 0, 1) := by decide +kernel
theorem dX12_behindTest_97 : decode cX12_behindTest 97 = .ok (.getfield 242, 3) := by decide +kernel
theorem dX12_behindTest_100 : decode cX12_behindTest 100 = .ok (.ifCond .ne 28, 3) := by decide +kernel
theorem dX12_behindTest_103 : decode cX12_behindTest 103 = .ok (.aload_n 0, 1) := by decide +kernel
theorem dX12_behindTest_104 : decode cX12_behindTest 104 = .ok (.iconst 1, 1) := by decide +kernel
theorem dX12_behindTest_105 : decode cX12_behindTest 105 = .ok (.invokevirtual 346, 3) := by decide +kernel
theorem dX12_behindTest_108 : decode cX12_behindTest 108 = .ok (.aload_n 0, 1) := by decide +kernel
theorem dX12_behindTest_109 : decode cX12_behindTest 109 = .ok (.dup, 1) := by decide +kernel
theorem dX12_behindTest_110 : decode cX12_behindTest 110 = .ok (.getfield 282, 3) := by decide +kernel
theorem dX12_behindTest_113 : decode cX12_behindTest 113 = .ok (.iconst 1, 1) := by decide +kernel
theorem dX12_behindTest_114 : decode cX12_behindTest 114 = .ok (.isub, 1) := by decide +kernel
theorem dX12_behindTest_115 : decode cX12_behindTest 115 = .ok (.putfield 282, 3) := by decide +kernel
theorem dX12_behindTest_118 : decode cX12_behindTest 118 = .ok (.aload_n 0, 1) := by decide +kernel
theorem dX12_behindTest_119 : decode cX12_behindTest 119 = .ok (.dup, 1) := by decide +kernel
theorem dX12_behindTest_120 : decode cX12_behindTest 120 = .ok (.getfield 304, 3) := by decide +kernel
theorem dX12_behindTest_123 : decode cX12_behindTest 123 = .ok (.iconst 1, 1) := by decide +kernel
theorem dX12_behindTest_124 : decode cX12_behindTest 124 = .ok (.isub, 1) := by decide +kernel
theorem dX12_behindTest_125 : decode cX12_behindTest 125 = .ok (.putfield 304, 3) := by decide +kernel
theorem dX12_behindTest_128 : decode cX12_behindTest 128 = .ok (.iconst 2, 1) := by decide +kernel
theorem dX12_behindTest_129 : decode cX12_behindTest 129 = .ok (.ireturn, 1) := by decide +kernel
theorem dX12_readExpression_0 : decode cX12_readExpression 0 = .ok (.aload_n 0, 1) := by decide +kernel
theorem dX12_readExpression_1 : decode cX12_readExpression 1 = .ok (.iconst 0, 1) := by decide +kernel
theorem dX12_readExpression_2 : decode cX12_readExpression 2 = .ok (.putfield 282, 3) := by decide +kernel
theorem dX12_readExpression_5 : decode cX12_readExpression 5 = .ok (.aload_n 0, 1) := by decide +kernel
theorem dX12_readExpression_6 : decode cX12_readExpression 6 = .ok (.iconst 0, 1) := by decide +kernel
theorem dX12_readExpression_7 : decode cX12_readExpression 7 = .ok (.putfield 304, 3) := by decide +kernel
theorem dX12_readExpression_10 : decode cX12_readExpression 10 = .ok (.iload_n 1, 1) := by decide +kernel
theorem dX12_readExpression_11 : decode cX12_readExpression 11 = .ok (.ifCond .eq 7, 3) := by decide +kernel
theorem dX12_readExpression_14 : decode cX12_readExpression 14 = .ok (.iconst 0, 1) := by decide +kernel
theorem dX12_readExpression_15 : decode cX12_readExpression 15 = .ok (.goto 4, 3) := by decide +kernel
theorem dX12_readExpression_18 : decode cX12_readExpression 18 = .ok (.iconst 1, 1) := by decide +kernel
theorem dX12_readExpression_19 : decode cX12_readExpression 19 = .ok (.istore_n 2, 1) := by decide +kernel
theorem dX12_readExpression_20 : decode cX12_readExpression 20 = .ok (.aload_n 0, 1) := by decide +kernel
theorem dX12_readExpression_21 : decode cX12_readExpression 21 = .ok (.getfield 242, 3) := by decide +kernel
theorem dX12_readExpression_24 : decode cX12_readExpression 24 = .ok (.ifCond .ne 52, 3) := by decide +kernel
theorem dX12_readExpression_27 : decode cX12_readExpression 27 = .ok (.iload_n 2, 1) := by decide +kernel
theorem dX12_readExpression_28 : decode cX12_readExpression 28 = .ok (.iconst 4, 1) := by decide +kernel
theorem dX12_readExpression_29 : decode cX12_readExpression 29 = .ok (.if_icmp .eq 47, 3) := by decide +kernel
theorem dX12_readExpression_32 : decode cX12_readExpression 32 = .ok (.iload_n 2, 1) := by decide +kernel
theorem dX12_readExpression_33 : decode cX12_readExpression 33 = .ok (.ifCond .ne 10, 3) := by decide +kernel
theorem dX12_readExpression_36 : decode cX12_readExpression 36 = .ok (.aload_n 0, 1) := by decide +kernel
theorem dX12_readExpression_37 : decode cX12_readExpression 37 = .ok (.invokevirtual 360, 3) := by decide +kernel
theorem dX12_readExpression_40 : decode cX12_readExpression 40 = .ok (.goto 32, 3) := by decide +kernel
theorem dX12_readExpression_43 : decode cX12_readExpression 43 = .ok (.iload_n 2, 1) := by decide +kernel
theorem dX12_readExpression_44 : decode cX12_readExpression 44 = .ok (.iconst 1, 1) := by decide +kernel
theorem dX12_readExpression_45 : decode cX12_readExpression 45 = .ok (.if_icmp .ne 10, 3) := by decide +kernel
theorem dX12_readExpression_48 : decode cX12_readExpression 48 = .ok (.aload_n 0, 1) := by decide +kernel
theorem dX12_readExpression_49 : decode cX12_readExpression 49 = .ok (.invokevirtual 343, 3) := by decide +kernel
theorem dX12_readExpression_52 : decode cX12_readExpression 52 = .ok (.goto 20, 3) := by decide +kernel
theorem dX12_readExpression_55 : decode cX12_readExpression 55 = .ok (.iload_n 2, 1) := by decide +kernel
theorem dX12_readExpression_56 : decode cX12_readExpression 56 = .ok (.iconst 3, 1) := by decide +kernel
theorem dX12_readExpression_57 : decode cX12_readExpression 57 = .ok (.if_icmp .ne 11, 3) := by decide +kernel
theorem dX12_readExpression_60 : decode cX12_readExpression 60 = .ok (.aload_n 0, 1) := by decide +kernel
theorem dX12_readExpression_61 : decode cX12_readExpression 61 = .ok (.iload_n 1, 1) := by decide +kernel
theorem dX12_readExpression_62 : decode cX12_readExpression 62 = .ok (.invokevirtual 363, 3) := by decide +kernel
theorem dX12_readExpression_65 : decode cX12_readExpression 65 = .ok (.goto 7, 3) := by decide +kernel
theorem dX12_readExpression_68 : decode cX12_readExpression 68 = .ok (.aload_n 0, 1) := by decide +kernel
theorem dX12_readExpression_69 : decode cX12_readExpression 69 = .ok (.invokevirtual 367, 3) := by decide +kernel
theorem dX12_readExpression_72 : decode cX12_readExpression 72 = .ok (.istore_n 2, 1) := by decide +kernel
theorem dX12_readExpression_73 : decode cX12_readExpression 73 = .ok (.goto (-53), 3) := by decide +kernel
theorem dX12_readExpression_76 : decode cX12_readExpression 76 = .ok (.aload_n 0, 1) := by decide +kernel
theorem dX12_readExpression_77 : decode cX12_readExpression 77 = .ok (.iconst 1, 1) := by decide +kernel
theorem dX12_readExpression_78 : decode cX12_readExpression 78 = .ok (.invokevirtual 346, 3) := by decide +kernel
theorem dX12_readExpression_81 : decode cX12_readExpression 81 = .ok (.return_, 1) := by decide +kernel
theorem dX12_beginText_0 : decode cX12_beginText 0 = .ok (.aload_n 0, 1) := by decide +kernel
theorem dX12_beginText_1 : decode cX12_beginText 1 = .ok (.iload_n 1, 1) := by decide +kernel
theorem dX12_beginText_2 : decode cX12_beginText 2 = .ok (.putfield 319, 3) := by decide +kernel
theorem dX12_beginText_5 : decode cX12_beginText 5 = .ok (.aload_n 0, 1) := by decide +kernel
theorem dX12_beginText_6 : decode cX12_beginText 6 = .ok (.invokevirtual 370, 3) := by decide +kernel
theorem dX12_beginText_9 : decode cX12_beginText 9 = .ok (.aload_n 0, 1) := by decide +kernel
theorem dX12_beginText_10 : decode cX12_beginText 10 = .ok (.iconst 0, 1) := by decide +kernel
theorem dX12_beginText_11 : decode cX12_beginText 11 = .ok (.putfield 373, 3) := by decide +kernel
theorem dX12_beginText_14 : decode cX12_beginText 14 = .ok (.aload_n 0, 1) := by decide +kernel
theorem dX12_beginText_15 : decode cX12_beginText 15 = .ok (.iconst 0, 1) := by decide +kernel
theorem dX12_beginText_16 : decode cX12_beginText 16 = .ok (.putfield 279, 3) := by decide +kernel
theorem dX12_beginText_19 : decode cX12_beginText 19 = .ok (.aload_n 0, 1) := by decide +kernel
theorem dX12_beginText_20 : decode cX12_beginText 20 = .ok (.iconst 0, 1) := by decide +kernel
theorem dX12_beginText_21 : decode cX12_beginText 21 = .ok (.putfield 310, 3) := by decide +kernel
theorem dX12_beginText_24 : decode cX12_beginText 24 = .ok (.return_, 1) := by decide +kernel
theorem dX12_endText_0 : decode cX12_endText 0 = .ok (.aload_n 0, 1) := by decide +kernel
theorem dX12_endText_1 : decode cX12_endText 1 = .ok (.getfield 242, 3) := by decide +kernel
theorem dX12_endText_4 : decode cX12_endText 4 = .ok (.ifCond .ne 15, 3) := by decide +kernel
theorem dX12_endText_7 : decode cX12_endText 7 = .ok (.aload_n 0, 1) := by decide +kernel
theorem dX12_endText_8 : decode cX12_endText 8 = .ok (.getfield 262, 3) := by decide +kernel
theorem dX12_endText_11 : decode cX12_endText 11 = .ok (.ifCond .eq 8, 3) := by decide +kernel
theorem dX12_endText_14 : decode cX12_endText 14 = .ok (.aload_n 0, 1) := by decide +kernel
theorem dX12_endText_15 : decode cX12_endText 15 = .ok (.iconst 0, 1) := by decide +kernel
theorem dX12_endText_16 : decode cX12_endText 16 = .ok (.invokevirtual 275, 3) := by decide +kernel
theorem dX12_endText_19 : decode cX12_endText 19 = .ok (.aload_n 0, 1) := by decide +kernel
theorem dX12_endText_20 : decode cX12_endText 20 = .ok (.iconst 0, 1) := by decide +kernel
theorem dX12_endText_21 : decode cX12_endText 21 = .ok (.putfield 319, 3) := by decide +kernel
theorem dX12_endText_24 : decode cX12_endText 24 = .ok (.aload_n 0, 1) := by decide +kernel
theorem dX12_endText_25 : decode cX12_endText 25 = .ok (.iconst 0, 1) := by decide +kernel
theorem dX12_endText_26 : decode cX12_endText 26 = .ok (.putfield 230, 3) := by decide +kernel
theorem dX12_endText_29 : decode cX12_endText 29 = .ok (.return_, 1) := by decide +kernel
theorem dX12_readLaw_0 : decode cX12_readLaw 0 = .ok (.iconst (-1), 1) := by decide +kernel
theorem dX12_readLaw_1 : decode cX12_readLaw 1 = .ok (.istore_n 1, 1) := by decide +kernel
theorem dX12_readLaw_2 : decode cX12_readLaw 2 = .ok (.iconst 0, 1) := by decide +kernel
theorem dX12_readLaw_3 : decode cX12_readLaw 3 = .ok (.istore_n 2, 1) := by decide +kernel
theorem dX12_readLaw_4 : decode cX12_readLaw 4 = .ok (.iload_n 2, 1) := by decide +kernel
theorem dX12_readLaw_5 : decode cX12_readLaw 5 = .ok (.iconst 4, 1) := by decide +kernel
theorem dX12_readLaw_6 : decode cX12_readLaw 6 = .ok (.if_icmp .ge 28, 3) := by decide +kernel
theorem dX12_readLaw_9 : decode cX12_readLaw 9 = .ok (.aload_n 0, 1) := by decide +kernel
theorem dX12_readLaw_10 : decode cX12_readLaw 10 = .ok (.aload_n 0, 1) := by decide +kernel
theorem dX12_readLaw_11 : decode cX12_readLaw 11 = .ok (.getfield 94, 3) := by decide +kernel
theorem dX12_readLaw_14 : decode cX12_readLaw 14 = .ok (.iload_n 2, 1) := by decide +kernel
theorem dX12_readLaw_15 : decode cX12_readLaw 15 = .ok (.laload, 1) := by decide +kernel
theorem dX12_readLaw_16 : decode cX12_readLaw 16 = .ok (.invokevirtual 300, 3) := by decide +kernel
theorem dX12_readLaw_19 : decode cX12_readLaw 19 = .ok (.ifCond .eq 7, 3) := by decide +kernel
theorem dX12_readLaw_22 : decode cX12_readLaw 22 = .ok (.iload_n 2, 1) := by decide +kernel
theorem dX12_readLaw_23 : decode cX12_readLaw 23 = .ok (.goto 4, 3) := by decide +kernel
theorem dX12_readLaw_26 : decode cX12_readLaw 26 = .ok (.iload_n 1, 1) := by decide +kernel
theorem dX12_readLaw_27 : decode cX12_readLaw 27 = .ok (.istore_n 1, 1) := by decide +kernel
theorem dX12_readLaw_28 : decode cX12_readLaw 28 = .ok (.iinc 2 1, 3) := by decide +kernel
theorem dX12_readLaw_31 : decode cX12_readLaw 31 = .ok (.goto (-27), 3) := by decide +kernel
theorem dX12_readLaw_34 : decode cX12_readLaw 34 = .ok (.aload_n 0, 1) := by decide +kernel
theorem dX12_readLaw_35 : decode cX12_readLaw 35 = .ok (.iload_n 1, 1) := by decide +kernel
theorem dX12_readLaw_36 : decode cX12_readLaw 36 = .ok (.iconst (-1), 1) := by decide +kernel
theorem dX12_readLaw_37 : decode cX12_readLaw 37 = .ok (.if_icmp .eq 16, 3) := by decide +kernel
theorem dX12_readLaw_40 : decode cX12_readLaw 40 = .ok (.aload_n 0, 1) := by decide +kernel
theorem dX12_readLaw_41 : decode cX12_readLaw 41 = .ok (.getfield 373, 3) := by decide +kernel
theorem dX12_readLaw_44 : decode cX12_readLaw 44 = .ok (.bipush 12, 2) := by decide +kernel
theorem dX12_readLaw_46 : decode cX12_readLaw 46 = .ok (.if_icmp .ge 7, 3) := by decide +kernel
theorem dX12_readLaw_49 : decode cX12_readLaw 49 = .ok (.iconst 1, 1) := by decide +kernel
theorem dX12_readLaw_50 : decode cX12_readLaw 50 = .ok (.goto 4, 3) := by decide +kernel
theorem dX12_readLaw_53 : decode cX12_readLaw 53 = .ok (.iconst 0, 1) := by decide +kernel
theorem dX12_readLaw_54 : decode cX12_readLaw 54 = .ok (.invokevirtual 275, 3) := by decide +kernel
theorem dX12_readLaw_57 : decode cX12_readLaw 57 = .ok (.aload_n 0, 1) := by decide +kernel
theorem dX12_readLaw_58 : decode cX12_readLaw 58 = .ok (.getfield 242, 3) := by decide +kernel
theorem dX12_readLaw_61 : decode cX12_readLaw 61 = .ok (.ifCond .eq 4, 3) := by decide +kernel
theorem dX12_readLaw_64 : decode cX12_readLaw 64 = .ok (.return_, 1) := by decide +kernel
theorem dX12_readLaw_65 : decode cX12_readLaw 65 = .ok (.bipush 8, 2) := by decide +kernel
theorem dX12_readLaw_67 : decode cX12_readLaw 67 = .ok (.aload_n 0, 1) := by decide +kernel
theorem dX12_readLaw_68 : decode cX12_readLaw 68 = .ok (.getfield 373, 3) := by decide +kernel
theorem dX12_readLaw_71 : decode cX12_readLaw 71 = .ok (.imul, 1) := by decide +kernel
theorem dX12_readLaw_72 : decode cX12_readLaw 72 = .ok (.istore_n 2, 1) := by decide +kernel
theorem dX12_readLaw_73 : decode cX12_readLaw 73 = .ok (.iconst 0, 1) := by decide +kernel
theorem dX12_readLaw_74 : decode cX12_readLaw 74 = .ok (.istore_n 3, 1) := by decide +kernel
theorem dX12_readLaw_75 : decode cX12_readLaw 75 = .ok (.iload_n 3, 1) := by decide +kernel
theorem dX12_readLaw_76 : decode cX12_readLaw 76 = .ok (.bipush 8, 2) := by decide +kernel
theorem dX12_readLaw_78 : decode cX12_readLaw 78 = .ok (.if_icmp .ge 18, 3) := by decide +kernel
theorem dX12_readLaw_81 : decode cX12_readLaw 81 = .ok (.aload_n 0, 1) := by decide +kernel
theorem dX12_readLaw_82 : decode cX12_readLaw 82 = .ok (.getfield 42, 3) := by decide +kernel
theorem dX12_readLaw_85 : decode cX12_readLaw 85 = .ok (.iload_n 2, 1) := by decide +kernel
theorem dX12_readLaw_86 : decode cX12_readLaw 86 = .ok (.iload_n 3, 1) := by decide +kernel
theorem dX12_readLaw_87 : decode cX12_readLaw 87 = .ok (.iadd, 1) := by decide +kernel
theorem dX12_readLaw_88 : decode cX12_readLaw 88 = .ok (.iconst 0, 1) := by decide +kernel
theorem dX12_readLaw_89 : decode cX12_readLaw 89 = .ok (.iastore, 1) := by decide +kernel
theorem dX12_readLaw_90 : decode cX12_readLaw 90 = .ok (.iinc 3 1, 3) := by decide +kernel
theorem dX12_readLaw_93 : decode cX12_readLaw 93 = .ok (.goto (-18), 3) := by decide +kernel
theorem dX12_readLaw_96 : decode cX12_readLaw 96 = .ok (.aload_n 0, 1) := by decide +kernel
theorem dX12_readLaw_97 : decode cX12_readLaw 97 = .ok (.getfield 42, 3) := by decide +kernel
theorem dX12_readLaw_100 : decode cX12_readLaw 100 = .ok (.iload_n 2, 1) := by decide +kernel
theorem dX12_readLaw_101 : decode cX12_readLaw 101 = .ok (.iload_n 1, 1) := by decide +kernel
theorem dX12_readLaw_102 : decode cX12_readLaw 102 = .ok (.iastore, 1) := by decide +kernel
theorem dX12_readLaw_103 : decode cX12_readLaw 103 = .ok (.aload_n 0, 1) := by decide +kernel
theorem dX12_readLaw_104 : decode cX12_readLaw 104 = .ok (.dup, 1) := by decide +kernel
theorem dX12_readLaw_105 : decode cX12_readLaw 105 = .ok (.getfield 373, 3) := by decide +kernel
theorem dX12_readLaw_108 : decode cX12_readLaw 108 = .ok (.iconst 1, 1) := by decide +kernel
theorem dX12_readLaw_109 : decode cX12_readLaw 109 = .ok (.iadd, 1) := by decide +kernel
theorem dX12_readLaw_110 : decode cX12_readLaw 110 = .ok (.putfield 373, 3) := by decide +kernel
theorem dX12_readLaw_113 : decode cX12_readLaw 113 = .ok (.aload_n 0, 1) := by decide +kernel
theorem dX12_readLaw_114 : decode cX12_readLaw 114 = .ok (.getfield 42, 3) := by decide +kernel
theorem dX12_readLaw_117 : decode cX12_readLaw 117 = .ok (.iload_n 2, 1) := by decide +kernel
theorem dX12_readLaw_118 : decode cX12_readLaw 118 = .ok (.iconst 3, 1) := by decide +kernel
theorem dX12_readLaw_119 : decode cX12_readLaw 119 = .ok (.iadd, 1) := by decide +kernel
theorem dX12_readLaw_120 : decode cX12_readLaw 120 = .ok (.aload_n 0, 1) := by decide +kernel
theorem dX12_readLaw_121 : decode cX12_readLaw 121 = .ok (.getfield 279, 3) := by decide +kernel
theorem dX12_readLaw_124 : decode cX12_readLaw 124 = .ok (.iastore, 1) := by decide +kernel
theorem dX12_readLaw_125 : decode cX12_readLaw 125 = .ok (.iload_n 1, 1) := by decide +kernel
theorem dX12_readLaw_126 : decode cX12_readLaw 126 = .ok (.iconst 3, 1) := by decide +kernel
theorem dX12_readLaw_127 : decode cX12_readLaw 127 = .ok (.if_icmp .eq 8, 3) := by decide +kernel
theorem dX12_readLaw_130 : decode cX12_readLaw 130 = .ok (.aload_n 0, 1) := by decide +kernel
theorem dX12_readLaw_131 : decode cX12_readLaw 131 = .ok (.iconst 0, 1) := by decide +kernel
theorem dX12_readLaw_132 : decode cX12_readLaw 132 = .ok (.invokevirtual 376, 3) := by decide +kernel
theorem dX12_readLaw_135 : decode cX12_readLaw 135 = .ok (.aload_n 0, 1) := by decide +kernel
theorem dX12_readLaw_136 : decode cX12_readLaw 136 = .ok (.getfield 42, 3) := by decide +kernel
theorem dX12_readLaw_139 : decode cX12_readLaw 139 = .ok (.iload_n 2, 1) := by decide +kernel
theorem dX12_readLaw_140 : decode cX12_readLaw 140 = .ok (.iconst 4, 1) := by decide +kernel
theorem dX12_readLaw_141 : decode cX12_readLaw 141 = .ok (.iadd, 1) := by decide +kernel
theorem dX12_readLaw_142 : decode cX12_readLaw 142 = .ok (.aload_n 0, 1) := by decide +kernel
theorem dX12_readLaw_143 : decode cX12_readLaw 143 = .ok (.getfield 279, 3) := by decide +kernel
theorem dX12_readLaw_146 : decode cX12_readLaw 146 = .ok (.iastore, 1) := by decide +kernel
theorem dX12_readLaw_147 : decode cX12_readLaw 147 = .ok (.aload_n 0, 1) := by decide +kernel
theorem dX12_readLaw_148 : decode cX12_readLaw 148 = .ok (.getfield 42, 3) := by decide +kernel
theorem dX12_readLaw_151 : decode cX12_readLaw 151 = .ok (.iload_n 2, 1) := by decide +kernel
theorem dX12_readLaw_152 : decode cX12_readLaw 152 = .ok (.iconst 5, 1) := by decide +kernel
theorem dX12_readLaw_153 : decode cX12_readLaw 153 = .ok (.iadd, 1) := by decide +kernel
theorem dX12_readLaw_154 : decode cX12_readLaw 154 = .ok (.aload_n 0, 1) := by decide +kernel
theorem dX12_readLaw_155 : decode cX12_readLaw 155 = .ok (.getfield 279, 3) := by decide +kernel
theorem dX12_readLaw_158 : decode cX12_readLaw 158 = .ok (.iastore, 1) := by decide +kernel
theorem dX12_readLaw_159 : decode cX12_readLaw 159 = .ok (.aload_n 0, 1) := by decide +kernel
theorem dX12_readLaw_160 : decode cX12_readLaw 160 = .ok (.getfield 242, 3) := by decide +kernel
theorem dX12_readLaw_163 : decode cX12_readLaw 163 = .ok (.ifCond .ne 22, 3) := by decide +kernel
theorem dX12_readLaw_166 : decode cX12_readLaw 166 = .ok (.aload_n 0, 1) := by decide +kernel
theorem dX12_readLaw_167 : decode cX12_readLaw 167 = .ok (.ldc2_w 379, 3) := by decide +kernel
theorem dX12_readLaw_170 : decode cX12_readLaw 170 = .ok (.invokevirtual 300, 3) := by decide +kernel
theorem dX12_readLaw_173 : decode cX12_readLaw 173 = .ok (.ifCond .eq 12, 3) := by decide +kernel
theorem dX12_readLaw_176 : decode cX12_readLaw 176 = .ok (.aload_n 0, 1) := by decide +kernel
theorem dX12_readLaw_177 : decode cX12_readLaw 177 = .ok (.invokevirtual 246, 3) := by decide +kernel
theorem dX12_readLaw_180 : decode cX12_readLaw 180 = .ok (.aload_n 0, 1) := by decide +kernel
theorem dX12_readLaw_181 : decode cX12_readLaw 181 = .ok (.iconst 1, 1) := by decide +kernel
theorem dX12_readLaw_182 : decode cX12_readLaw 182 = .ok (.invokevirtual 376, 3) := by decide +kernel
theorem dX12_readLaw_185 : decode cX12_readLaw 185 = .ok (.aload_n 0, 1) := by decide +kernel
theorem dX12_readLaw_186 : decode cX12_readLaw 186 = .ok (.getfield 42, 3) := by decide +kernel
theorem dX12_readLaw_189 : decode cX12_readLaw 189 = .ok (.iload_n 2, 1) := by decide +kernel
theorem dX12_readLaw_190 : decode cX12_readLaw 190 = .ok (.bipush 6, 2) := by decide +kernel
theorem dX12_readLaw_192 : decode cX12_readLaw 192 = .ok (.iadd, 1) := by decide +kernel
theorem dX12_readLaw_193 : decode cX12_readLaw 193 = .ok (.aload_n 0, 1) := by decide +kernel
theorem dX12_readLaw_194 : decode cX12_readLaw 194 = .ok (.getfield 279, 3) := by decide +kernel
theorem dX12_readLaw_197 : decode cX12_readLaw 197 = .ok (.iastore, 1) := by decide +kernel
theorem dX12_readLaw_198 : decode cX12_readLaw 198 = .ok (.return_, 1) := by decide +kernel
theorem dX12_law_0 : decode cX12_law 0 = .ok (.aload_n 0, 1) := by decide +kernel
theorem dX12_law_1 : decode cX12_law 1 = .ok (.iconst 0, 1) := by decide +kernel
theorem dX12_law_2 : decode cX12_law 2 = .ok (.putfield 153, 3) := by decide +kernel
theorem dX12_law_5 : decode cX12_law 5 = .ok (.aload_n 0, 1) := by decide +kernel
theorem dX12_law_6 : decode cX12_law 6 = .ok (.getfield 13, 3) := by decide +kernel
theorem dX12_law_9 : decode cX12_law 9 = .ok (.iconst 2, 1) := by decide +kernel
theorem dX12_law_10 : decode cX12_law 10 = .ok (.iaload, 1) := by decide +kernel
theorem dX12_law_11 : decode cX12_law 11 = .ok (.bipush 6, 2) := by decide +kernel
theorem dX12_law_13 : decode cX12_law 13 = .ok (.if_icmp .ne 15, 3) := by decide +kernel
theorem dX12_law_16 : decode cX12_law 16 = .ok (.aload_n 0, 1) := by decide +kernel
theorem dX12_law_17 : decode cX12_law 17 = .ok (.iconst 0, 1) := by decide +kernel
theorem dX12_law_18 : decode cX12_law 18 = .ok (.putfield 230, 3) := by decide +kernel
theorem dX12_law_21 : decode cX12_law 21 = .ok (.aload_n 0, 1) := by decide +kernel
theorem dX12_law_22 : decode cX12_law 22 = .ok (.bipush (-5), 2) := by decide +kernel
theorem dX12_law_24 : decode cX12_law 24 = .ok (.invokevirtual 162, 3) := by decide +kernel
theorem dX12_law_27 : decode cX12_law 27 = .ok (.ireturn, 1) := by decide +kernel
theorem dX12_law_28 : decode cX12_law 28 = .ok (.aload_n 0, 1) := by decide +kernel
theorem dX12_law_29 : decode cX12_law 29 = .ok (.iconst 0, 1) := by decide +kernel
theorem dX12_law_30 : decode cX12_law 30 = .ok (.invokevirtual 381, 3) := by decide +kernel
theorem dX12_law_33 : decode cX12_law 33 = .ok (.aload_n 0, 1) := by decide +kernel
theorem dX12_law_34 : decode cX12_law 34 = .ok (.invokevirtual 384, 3) := by decide +kernel
theorem dX12_law_37 : decode cX12_law 37 = .ok (.aload_n 0, 1) := by decide +kernel
theorem dX12_law_38 : decode cX12_law 38 = .ok (.getfield 242, 3) := by decide +kernel
theorem dX12_law_41 : decode cX12_law 41 = .ok (.ifCond .ne 23, 3) := by decide +kernel
theorem dX12_law_44 : decode cX12_law 44 = .ok (.aload_n 0, 1) := by decide +kernel
theorem dX12_law_45 : decode cX12_law 45 = .ok (.bipush 59, 2) := by decide +kernel
theorem dX12_law_47 : decode cX12_law 47 = .ok (.invokevirtual 313, 3) := by decide +kernel
theorem dX12_law_50 : decode cX12_law 50 = .ok (.ifCond .eq 14, 3) := by decide +kernel
theorem dX12_law_53 : decode cX12_law 53 = .ok (.aload_n 0, 1) := by decide +kernel
theorem dX12_law_54 : decode cX12_law 54 = .ok (.invokevirtual 246, 3) := by decide +kernel
theorem dX12_law_57 : decode cX12_law 57 = .ok (.aload_n 0, 1) := by decide +kernel
theorem dX12_law_58 : decode cX12_law 58 = .ok (.invokevirtual 384, 3) := by decide +kernel
theorem dX12_law_61 : decode cX12_law 61 = .ok (.goto (-24), 3) := by decide +kernel
theorem dX12_law_64 : decode cX12_law 64 = .ok (.aload_n 0, 1) := by decide +kernel
theorem dX12_law_65 : decode cX12_law 65 = .ok (.invokevirtual 387, 3) := by decide +kernel
theorem dX12_law_68 : decode cX12_law 68 = .ok (.aload_n 0, 1) := by decide +kernel
theorem dX12_law_69 : decode cX12_law 69 = .ok (.getfield 242, 3) := by decide +kernel
theorem dX12_law_72 : decode cX12_law 72 = .ok (.ifCond .eq 10, 3) := by decide +kernel
theorem dX12_law_75 : decode cX12_law 75 = .ok (.aload_n 0, 1) := by decide +kernel
theorem dX12_law_76 : decode cX12_law 76 = .ok (.bipush (-6), 2) := by decide +kernel
theorem dX12_law_78 : decode cX12_law 78 = .ok (.invokevirtual 162, 3) := by decide +kernel
theorem dX12_law_81 : decode cX12_law 81 = .ok (.ireturn, 1) := by decide +kernel
theorem dX12_law_82 : decode cX12_law 82 = .ok (.bipush 75, 2) := by decide +kernel
theorem dX12_law_84 : decode cX12_law 84 = .ok (.sipush 900, 3) := by decide +kernel
theorem dX12_law_87 : decode cX12_law 87 = .ok (.aload_n 0, 1) := by decide +kernel
theorem dX12_law_88 : decode cX12_law 88 = .ok (.getfield 13, 3) := by decide +kernel
theorem dX12_law_91 : decode cX12_law 91 = .ok (.iconst 2, 1) := by decide +kernel
theorem dX12_law_92 : decode cX12_law 92 = .ok (.iaload, 1) := by decide +kernel
theorem dX12_law_93 : decode cX12_law 93 = .ok (.imul, 1) := by decide +kernel
theorem dX12_law_94 : decode cX12_law 94 = .ok (.iadd, 1) := by decide +kernel
theorem dX12_law_95 : decode cX12_law 95 = .ok (.istore_n 1, 1) := by decide +kernel
theorem dX12_law_96 : decode cX12_law 96 = .ok (.aload_n 0, 1) := by decide +kernel
theorem dX12_law_97 : decode cX12_law 97 = .ok (.getfield 13, 3) := by decide +kernel
theorem dX12_law_100 : decode cX12_law 100 = .ok (.iload_n 1, 1) := by decide +kernel
theorem dX12_law_101 : decode cX12_law 101 = .ok (.iconst 1, 1) := by decide +kernel
theorem dX12_law_102 : decode cX12_law 102 = .ok (.iadd, 1) := by decide +kernel
theorem dX12_law_103 : decode cX12_law 103 = .ok (.aload_n 0, 1) := by decide +kernel
theorem dX12_law_104 : decode cX12_law 104 = .ok (.getfield 373, 3) := by decide +kernel
theorem dX12_law_107 : decode cX12_law 107 = .ok (.iastore, 1) := by decide +kernel
theorem dX12_law_108 : decode cX12_law 108 = .ok (.iconst 0, 1) := by decide +kernel
theorem dX12_law_109 : decode cX12_law 109 = .ok (.istore_n 2, 1) := by decide +kernel
theorem dX12_law_110 : decode cX12_law 110 = .ok (.iload_n 2, 1) := by decide +kernel
theorem dX12_law_111 : decode cX12_law 111 = .ok (.bipush 8, 2) := by decide +kernel
theorem dX12_law_113 : decode cX12_law 113 = .ok (.aload_n 0, 1) := by decide +kernel
theorem dX12_law_114 : decode cX12_law 114 = .ok (.getfield 373, 3) := by decide +kernel
theorem dX12_law_117 : decode cX12_law 117 = .ok (.imul, 1) := by decide +kernel
theorem dX12_law_118 : decode cX12_law 118 = .ok (.if_icmp .ge 25, 3) := by decide +kernel
theorem dX12_law_121 : decode cX12_law 121 = .ok (.aload_n 0, 1) := by decide +kernel
theorem dX12_law_122 : decode cX12_law 122 = .ok (.getfield 13, 3) := by decide +kernel
theorem dX12_law_125 : decode cX12_law 125 = .ok (.iload_n 1, 1) := by decide +kernel
theorem dX12_law_126 : decode cX12_law 126 = .ok (.iconst 2, 1) := by decide +kernel
theorem dX12_law_127 : decode cX12_law 127 = .ok (.iadd, 1) := by decide +kernel
theorem dX12_law_128 : decode cX12_law 128 = .ok (.iload_n 2, 1) := by decide +kernel
theorem dX12_law_129 : decode cX12_law 129 = .ok (.iadd, 1) := by decide +kernel
theorem dX12_law_130 : decode cX12_law 130 = .ok (.aload_n 0, 1) := by decide +kernel
theorem dX12_law_131 : decode cX12_law 131 = .ok (.getfield 42, 3) := by decide +kernel
theorem dX12_law_134 : decode cX12_law 134 = .ok (.iload_n 2, 1) := by decide +kernel
theorem dX12_law_135 : decode cX12_law 135 = .ok (.iaload, 1) := by decide +kernel
theorem dX12_law_136 : decode cX12_law 136 = .ok (.iastore, 1) := by decide +kernel
theorem dX12_law_137 : decode cX12_law 137 = .ok (.iinc 2 1, 3) := by decide +kernel
theorem dX12_law_140 : decode cX12_law 140 = .ok (.goto (-30), 3) := by decide +kernel
theorem dX12_law_143 : decode cX12_law 143 = .ok (.iconst 0, 1) := by decide +kernel
theorem dX12_law_144 : decode cX12_law 144 = .ok (.istore_n 2, 1) := by decide +kernel
theorem dX12_law_145 : decode cX12_law 145 = .ok (.iload_n 2, 1) := by decide +kernel
theorem dX12_law_146 : decode cX12_law 146 = .ok (.aload_n 0, 1) := by decide +kernel
theorem dX12_law_147 : decode cX12_law 147 = .ok (.getfield 279, 3) := by decide +kernel
theorem dX12_law_150 : decode cX12_law 150 = .ok (.if_icmp .ge 49, 3) := by decide +kernel
theorem dX12_law_153 : decode cX12_law 153 = .ok (.aload_n 0, 1) := by decide +kernel
theorem dX12_law_154 : decode cX12_law 154 = .ok (.getfield 13, 3) := by decide +kernel
theorem dX12_law_157 : decode cX12_law 157 = .ok (.iload_n 1, 1) := by decide +kernel
theorem dX12_law_158 : decode cX12_law 158 = .ok (.bipush 98, 2) := by decide +kernel
theorem dX12_law_160 : decode cX12_law 160 = .ok (.iadd, 1) := by decide +kernel
theorem dX12_law_161 : decode cX12_law 161 = .ok (.iconst 2, 1) := by decide +kernel
theorem dX12_law_162 : decode cX12_law 162 = .ok (.iload_n 2, 1) := by decide +kernel
theorem dX12_law_163 : decode cX12_law 163 = .ok (.imul, 1) := by decide +kernel
theorem dX12_law_164 : decode cX12_law 164 = .ok (.iadd, 1) := by decide +kernel
theorem dX12_law_165 : decode cX12_law 165 = .ok (.aload_n 0, 1) := by decide +kernel
theorem dX12_law_166 : decode cX12_law 166 = .ok (.getfield 45, 3) := by decide +kernel
theorem dX12_law_169 : decode cX12_law 169 = .ok (.iload_n 2, 1) := by decide +kernel
theorem dX12_law_170 : decode cX12_law 170 = .ok (.iaload, 1) := by decide +kernel
theorem dX12_law_171 : decode cX12_law 171 = .ok (.iastore, 1) := by decide +kernel
theorem dX12_law_172 : decode cX12_law 172 = .ok (.aload_n 0, 1) := by decide +kernel
theorem dX12_law_173 : decode cX12_law 173 = .ok (.getfield 13, 3) := by decide +kernel
theorem dX12_law_176 : decode cX12_law 176 = .ok (.iload_n 1, 1) := by decide +kernel
theorem dX12_law_177 : decode cX12_law 177 = .ok (.bipush 98, 2) := by decide +kernel
theorem dX12_law_179 : decode cX12_law 179 = .ok (.iadd, 1) := by decide +kernel
theorem dX12_law_180 : decode cX12_law 180 = .ok (.iconst 2, 1) := by decide +kernel
theorem dX12_law_181 : decode cX12_law 181 = .ok (.iload_n 2, 1) := by decide +kernel
theorem dX12_law_182 : decode cX12_law 182 = .ok (.imul, 1) := by decide +kernel
theorem dX12_law_183 : decode cX12_law 183 = .ok (.iadd, 1) := by decide +kernel
theorem dX12_law_184 : decode cX12_law 184 = .ok (.iconst 1, 1) := by decide +kernel
theorem dX12_law_185 : decode cX12_law 185 = .ok (.iadd, 1) := by decide +kernel
theorem dX12_law_186 : decode cX12_law 186 = .ok (.aload_n 0, 1) := by decide +kernel
theorem dX12_law_187 : decode cX12_law 187 = .ok (.getfield 48, 3) := by decide +kernel
theorem dX12_law_190 : decode cX12_law 190 = .ok (.iload_n 2, 1) := by decide +kernel
theorem dX12_law_191 : decode cX12_law 191 = .ok (.iaload, 1) := by decide +kernel
theorem dX12_law_192 : decode cX12_law 192 = .ok (.iastore, 1) := by decide +kernel
theorem dX12_law_193 : decode cX12_law 193 = .ok (.iinc 2 1, 3) := by decide +kernel
theorem dX12_law_196 : decode cX12_law 196 = .ok (.goto (-51), 3) := by decide +kernel
theorem dX12_law_199 : decode cX12_law 199 = .ok (.aload_n 0, 1) := by decide +kernel
theorem dX12_law_200 : decode cX12_law 200 = .ok (.getfield 13, 3) := by decide +kernel
theorem dX12_law_203 : decode cX12_law 203 = .ok (.iconst 2, 1) := by decide +kernel
theorem dX12_law_204 : decode cX12_law 204 = .ok (.dup2, 1) := by decide +kernel
theorem dX12_law_205 : decode cX12_law 205 = .ok (.iaload, 1) := by decide +kernel
theorem dX12_law_206 : decode cX12_law 206 = .ok (.iconst 1, 1) := by decide +kernel
theorem dX12_law_207 : decode cX12_law 207 = .ok (.iadd, 1) := by decide +kernel
theorem dX12_law_208 : decode cX12_law 208 = .ok (.iastore, 1) := by decide +kernel
theorem dX12_law_209 : decode cX12_law 209 = .ok (.aload_n 0, 1) := by decide +kernel
theorem dX12_law_210 : decode cX12_law 210 = .ok (.aload_n 0, 1) := by decide +kernel
theorem dX12_law_211 : decode cX12_law 211 = .ok (.getfield 13, 3) := by decide +kernel
theorem dX12_law_214 : decode cX12_law 214 = .ok (.iconst 2, 1) := by decide +kernel
theorem dX12_law_215 : decode cX12_law 215 = .ok (.iaload, 1) := by decide +kernel
theorem dX12_law_216 : decode cX12_law 216 = .ok (.iconst 1, 1) := by decide +kernel
theorem dX12_law_217 : decode cX12_law 217 = .ok (.isub, 1) := by decide +kernel
theorem dX12_law_218 : decode cX12_law 218 = .ok (.invokevirtual 162, 3) := by decide +kernel
theorem dX12_law_221 : decode cX12_law 221 = .ok (.ireturn, 1) := by decide +kernel
theorem dX12_isLaw_0 : decode cX12_isLaw 0 = .ok (.iload_n 1, 1) := by decide +kernel
theorem dX12_isLaw_1 : decode cX12_isLaw 1 = .ok (.iconst (-1), 1) := by decide +kernel
theorem dX12_isLaw_2 : decode cX12_isLaw 2 = .ok (.if_icmp .eq 21, 3) := by decide +kernel
theorem dX12_isLaw_5 : decode cX12_isLaw 5 = .ok (.iload_n 1, 1) := by decide +kernel
theorem dX12_isLaw_6 : decode cX12_isLaw 6 = .ok (.i2l, 1) := by decide +kernel
theorem dX12_isLaw_7 : decode cX12_isLaw 7 = .ok (.lconst 0, 1) := by decide +kernel
theorem dX12_isLaw_8 : decode cX12_isLaw 8 = .ok (.aload_n 0, 1) := by decide +kernel
theorem dX12_isLaw_9 : decode cX12_isLaw 9 = .ok (.getfield 13, 3) := by decide +kernel
theorem dX12_isLaw_12 : decode cX12_isLaw 12 = .ok (.iconst 2, 1) := by decide +kernel
theorem dX12_isLaw_13 : decode cX12_isLaw 13 = .ok (.iaload, 1) := by decide +kernel
theorem dX12_isLaw_14 : decode cX12_isLaw 14 = .ok (.i2l, 1) := by decide +kernel
theorem dX12_isLaw_15 : decode cX12_isLaw 15 = .ok (.lconst 1, 1) := by decide +kernel
theorem dX12_isLaw_16 : decode cX12_isLaw 16 = .ok (.lsub, 1) := by decide +kernel
theorem dX12_isLaw_17 : decode cX12_isLaw 17 = .ok (.invokestatic 173, 3) := by decide +kernel
theorem dX12_isLaw_20 : decode cX12_isLaw 20 = .ok (.ifCond .eq 7, 3) := by decide +kernel
theorem dX12_isLaw_23 : decode cX12_isLaw 23 = .ok (.iconst 1, 1) := by decide +kernel
theorem dX12_isLaw_24 : decode cX12_isLaw 24 = .ok (.goto 4, 3) := by decide +kernel
theorem dX12_isLaw_27 : decode cX12_isLaw 27 = .ok (.iconst 0, 1) := by decide +kernel
theorem dX12_isLaw_28 : decode cX12_isLaw 28 = .ok (.ireturn, 1) := by decide +kernel
theorem dX12_force_0 : decode cX12_force 0 = .ok (.aload_n 0, 1) := by decide +kernel
theorem dX12_force_1 : decode cX12_force 1 = .ok (.iconst 0, 1) := by decide +kernel
theorem dX12_force_2 : decode cX12_force 2 = .ok (.putfield 153, 3) := by decide +kernel
theorem dX12_force_5 : decode cX12_force 5 = .ok (.aload_n 0, 1) := by decide +kernel
theorem dX12_force_6 : decode cX12_force 6 = .ok (.iload_n 1, 1) := by decide +kernel
theorem dX12_force_7 : decode cX12_force 7 = .ok (.invokevirtual 390, 3) := by decide +kernel
theorem dX12_force_10 : decode cX12_force 10 = .ok (.ifCond .eq 12, 3) := by decide +kernel
theorem dX12_force_13 : decode cX12_force 13 = .ok (.aload_n 0, 1) := by decide +kernel
theorem dX12_force_14 : decode cX12_force 14 = .ok (.iconst 3, 1) := by decide +kernel
theorem dX12_force_15 : decode cX12_force 15 = .ok (.iload_n 1, 1) := by decide +kernel
theorem dX12_force_16 : decode cX12_force 16 = .ok (.invokevirtual 227, 3) := by decide +kernel
theorem dX12_force_19 : decode cX12_force 19 = .ok (.goto 9, 3) := by decide +kernel
theorem dX12_force_22 : decode cX12_force 22 = .ok (.aload_n 0, 1) := by decide +kernel
theorem dX12_force_23 : decode cX12_force 23 = .ok (.bipush (-2), 2) := by decide +kernel
theorem dX12_force_25 : decode cX12_force 25 = .ok (.invokevirtual 162, 3) := by decide +kernel
theorem dX12_force_28 : decode cX12_force 28 = .ok (.ireturn, 1) := by decide +kernel
theorem dX12_reckon_0 : decode cX12_reckon 0 = .ok (.iload_n 1, 1) := by decide +kernel
theorem dX12_reckon_1 : decode cX12_reckon 1 = .ok (.tableswitch 148 20 26 #[43, 48, 53, 58, 90, 122, 135], 43) := by decide +kernel
theorem dX12_reckon_44 : decode cX12_reckon 44 = .ok (.lload_n 2, 1) := by decide +kernel
theorem dX12_reckon_45 : decode cX12_reckon 45 = .ok (.lload 4, 2) := by decide +kernel
theorem dX12_reckon_47 : decode cX12_reckon 47 = .ok (.ladd, 1) := by decide +kernel
theorem dX12_reckon_48 : decode cX12_reckon 48 = .ok (.lreturn, 1) := by decide +kernel
theorem dX12_reckon_49 : decode cX12_reckon 49 = .ok (.lload_n 2, 1) := by decide +kernel
theorem dX12_reckon_50 : decode cX12_reckon 50 = .ok (.lload 4, 2) := by decide +kernel
theorem dX12_reckon_52 : decode cX12_reckon 52 = .ok (.lsub, 1) := by decide +kernel
theorem dX12_reckon_53 : decode cX12_reckon 53 = .ok (.lreturn, 1) := by decide +kernel
theorem dX12_reckon_54 : decode cX12_reckon 54 = .ok (.lload_n 2, 1) := by decide +kernel
theorem dX12_reckon_55 : decode cX12_reckon 55 = .ok (.lload 4, 2) := by decide +kernel
theorem dX12_reckon_57 : decode cX12_reckon 57 = .ok (.lmul, 1) := by decide +kernel
theorem dX12_reckon_58 : decode cX12_reckon 58 = .ok (.lreturn, 1) := by decide +kernel
theorem dX12_reckon_59 : decode cX12_reckon 59 = .ok (.aload_n 0, 1) := by decide +kernel
theorem dX12_reckon_60 : decode cX12_reckon 60 = .ok (.lload 4, 2) := by decide +kernel
theorem dX12_reckon_62 : decode cX12_reckon 62 = .ok (.lconst 0, 1) := by decide +kernel
theorem dX12_reckon_63 : decode cX12_reckon 63 = .ok (.lcmp, 1) := by decide +kernel
theorem dX12_reckon_64 : decode cX12_reckon 64 = .ok (.ifCond .ne 7, 3) := by decide +kernel
theorem dX12_reckon_67 : decode cX12_reckon 67 = .ok (.iconst 1, 1) := by decide +kernel
theorem dX12_reckon_68 : decode cX12_reckon 68 = .ok (.goto 4, 3) := by decide +kernel
theorem dX12_reckon_71 : decode cX12_reckon 71 = .ok (.iconst 0, 1) := by decide +kernel
theorem dX12_reckon_72 : decode cX12_reckon 72 = .ok (.putfield 393, 3) := by decide +kernel
theorem dX12_reckon_75 : decode cX12_reckon 75 = .ok (.aload_n 0, 1) := by decide +kernel
theorem dX12_reckon_76 : decode cX12_reckon 76 = .ok (.getfield 393, 3) := by decide +kernel
theorem dX12_reckon_79 : decode cX12_reckon 79 = .ok (.ifCond .eq 7, 3) := by decide +kernel
theorem dX12_reckon_82 : decode cX12_reckon 82 = .ok (.lconst 0, 1) := by decide +kernel
theorem dX12_reckon_83 : decode cX12_reckon 83 = .ok (.goto 7, 3) := by decide +kernel
theorem dX12_reckon_86 : decode cX12_reckon 86 = .ok (.lload_n 2, 1) := by decide +kernel
theorem dX12_reckon_87 : decode cX12_reckon 87 = .ok (.lload 4, 2) := by decide +kernel
theorem dX12_reckon_89 : decode cX12_reckon 89 = .ok (.ldiv, 1) := by decide +kernel
theorem dX12_reckon_90 : decode cX12_reckon 90 = .ok (.lreturn, 1) := by decide +kernel
theorem dX12_reckon_91 : decode cX12_reckon 91 = .ok (.aload_n 0, 1) := by decide +kernel
theorem dX12_reckon_92 : decode cX12_reckon 92 = .ok (.lload 4, 2) := by decide +kernel
theorem dX12_reckon_94 : decode cX12_reckon 94 = .ok (.lconst 0, 1) := by decide +kernel
theorem dX12_reckon_95 : decode cX12_reckon 95 = .ok (.lcmp, 1) := by decide +kernel
theorem dX12_reckon_96 : decode cX12_reckon 96 = .ok (.ifCond .ne 7, 3) := by decide +kernel
theorem dX12_reckon_99 : decode cX12_reckon 99 = .ok (.iconst 1, 1) := by decide +kernel
theorem dX12_reckon_100 : decode cX12_reckon 100 = .ok (.goto 4, 3) := by decide +kernel
theorem dX12_reckon_103 : decode cX12_reckon 103 = .ok (.iconst 0, 1) := by decide +kernel
theorem dX12_reckon_104 : decode cX12_reckon 104 = .ok (.putfield 393, 3) := by decide +kernel
theorem dX12_reckon_107 : decode cX12_reckon 107 = .ok (.aload_n 0, 1) := by decide +kernel
theorem dX12_reckon_108 : decode cX12_reckon 108 = .ok (.getfield 393, 3) := by decide +kernel
theorem dX12_reckon_111 : decode cX12_reckon 111 = .ok (.ifCond .eq 7, 3) := by decide +kernel
theorem dX12_reckon_114 : decode cX12_reckon 114 = .ok (.lconst 0, 1) := by decide +kernel
theorem dX12_reckon_115 : decode cX12_reckon 115 = .ok (.goto 7, 3) := by decide +kernel
theorem dX12_reckon_118 : decode cX12_reckon 118 = .ok (.lload_n 2, 1) := by decide +kernel
theorem dX12_reckon_119 : decode cX12_reckon 119 = .ok (.lload 4, 2) := by decide +kernel
theorem dX12_reckon_121 : decode cX12_reckon 121 = .ok (.lrem, 1) := by decide +kernel
theorem dX12_reckon_122 : decode cX12_reckon 122 = .ok (.lreturn, 1) := by decide +kernel
theorem dX12_reckon_123 : decode cX12_reckon 123 = .ok (.lload_n 2, 1) := by decide +kernel
theorem dX12_reckon_124 : decode cX12_reckon 124 = .ok (.lload 4, 2) := by decide +kernel
theorem dX12_reckon_126 : decode cX12_reckon 126 = .ok (.lcmp, 1) := by decide +kernel
theorem dX12_reckon_127 : decode cX12_reckon 127 = .ok (.ifCond .ge 7, 3) := by decide +kernel
theorem dX12_reckon_130 : decode cX12_reckon 130 = .ok (.lconst 1, 1) := by decide +kernel
theorem dX12_reckon_131 : decode cX12_reckon 131 = .ok (.goto 4, 3) := by decide +kernel
theorem dX12_reckon_134 : decode cX12_reckon 134 = .ok (.lconst 0, 1) := by decide +kernel
theorem dX12_reckon_135 : decode cX12_reckon 135 = .ok (.lreturn, 1) := by decide +kernel
theorem dX12_reckon_136 : decode cX12_reckon 136 = .ok (.lload_n 2, 1) := by decide +kernel
theorem dX12_reckon_137 : decode cX12_reckon 137 = .ok (.lload 4, 2) := by decide +kernel
theorem dX12_reckon_139 : decode cX12_reckon 139 = .ok (.lcmp, 1) := by decide +kernel
theorem dX12_reckon_140 : decode cX12_reckon 140 = .ok (.ifCond .le 7, 3) := by decide +kernel
theorem dX12_reckon_143 : decode cX12_reckon 143 = .ok (.lconst 1, 1) := by decide +kernel
theorem dX12_reckon_144 : decode cX12_reckon 144 = .ok (.goto 4, 3) := by decide +kernel
theorem dX12_reckon_147 : decode cX12_reckon 147 = .ok (.lconst 0, 1) := by decide +kernel
theorem dX12_reckon_148 : decode cX12_reckon 148 = .ok (.lreturn, 1) := by decide +kernel
theorem dX12_reckon_149 : decode cX12_reckon 149 = .ok (.lload_n 2, 1) := by decide +kernel
theorem dX12_reckon_150 : decode cX12_reckon 150 = .ok (.lload 4, 2) := by decide +kernel
theorem dX12_reckon_152 : decode cX12_reckon 152 = .ok (.lcmp, 1) := by decide +kernel
theorem dX12_reckon_153 : decode cX12_reckon 153 = .ok (.ifCond .ne 7, 3) := by decide +kernel
theorem dX12_reckon_156 : decode cX12_reckon 156 = .ok (.lconst 1, 1) := by decide +kernel
theorem dX12_reckon_157 : decode cX12_reckon 157 = .ok (.goto 4, 3) := by decide +kernel
theorem dX12_reckon_160 : decode cX12_reckon 160 = .ok (.lconst 0, 1) := by decide +kernel
theorem dX12_reckon_161 : decode cX12_reckon 161 = .ok (.lreturn, 1) := by decide +kernel
theorem dX12_reckonAll_0 : decode cX12_reckonAll 0 = .ok (.aload_n 0, 1) := by decide +kernel
theorem dX12_reckonAll_1 : decode cX12_reckonAll 1 = .ok (.iconst 0, 1) := by decide +kernel
theorem dX12_reckonAll_2 : decode cX12_reckonAll 2 = .ok (.putfield 393, 3) := by decide +kernel
theorem dX12_reckonAll_5 : decode cX12_reckonAll 5 = .ok (.iconst 0, 1) := by decide +kernel
theorem dX12_reckonAll_6 : decode cX12_reckonAll 6 = .ok (.istore_n 3, 1) := by decide +kernel
theorem dX12_reckonAll_7 : decode cX12_reckonAll 7 = .ok (.iload_n 1, 1) := by decide +kernel
theorem dX12_reckonAll_8 : decode cX12_reckonAll 8 = .ok (.istore 4, 2) := by decide +kernel
theorem dX12_reckonAll_10 : decode cX12_reckonAll 10 = .ok (.iload 4, 2) := by decide +kernel
theorem dX12_reckonAll_12 : decode cX12_reckonAll 12 = .ok (.iload_n 2, 1) := by decide +kernel
theorem dX12_reckonAll_13 : decode cX12_reckonAll 13 = .ok (.if_icmp .ge 340, 3) := by decide +kernel
theorem dX12_reckonAll_16 : decode cX12_reckonAll 16 = .ok (.aload_n 0, 1) := by decide +kernel
theorem dX12_reckonAll_17 : decode cX12_reckonAll 17 = .ok (.getfield 393, 3) := by decide +kernel
theorem dX12_reckonAll_20 : decode cX12_reckonAll 20 = .ok (.ifCond .ne 333, 3) := by decide +kernel
theorem dX12_reckonAll_23 : decode cX12_reckonAll 23 = .ok (.aload_n 0, 1) := by decide +kernel
theorem dX12_reckonAll_24 : decode cX12_reckonAll 24 = .ok (.getfield 319, 3) := by decide +kernel
theorem dX12_reckonAll_27 : decode cX12_reckonAll 27 = .ok (.ifCond .eq 13, 3) := by decide +kernel
theorem dX12_reckonAll_30 : decode cX12_reckonAll 30 = .ok (.aload_n 0, 1) := by decide +kernel
theorem dX12_reckonAll_31 : decode cX12_reckonAll 31 = .ok (.getfield 45, 3) := by decide +kernel
theorem dX12_reckonAll_34 : decode cX12_reckonAll 34 = .ok (.iload 4, 2) := by decide +kernel
theorem dX12_reckonAll_36 : decode cX12_reckonAll 36 = .ok (.iaload, 1) := by decide +kernel
theorem dX12_reckonAll_37 : decode cX12_reckonAll 37 = .ok (.goto 20, 3) := by decide +kernel
theorem dX12_reckonAll_40 : decode cX12_reckonAll 40 = .ok (.aload_n 0, 1) := by decide +kernel
theorem dX12_reckonAll_41 : decode cX12_reckonAll 41 = .ok (.getfield 13, 3) := by decide +kernel
theorem dX12_reckonAll_44 : decode cX12_reckonAll 44 = .ok (.aload_n 0, 1) := by decide +kernel
theorem dX12_reckonAll_45 : decode cX12_reckonAll 45 = .ok (.getfield 396, 3) := by decide +kernel
theorem dX12_reckonAll_48 : decode cX12_reckonAll 48 = .ok (.bipush 98, 2) := by decide +kernel
theorem dX12_reckonAll_50 : decode cX12_reckonAll 50 = .ok (.iadd, 1) := by decide +kernel
theorem dX12_reckonAll_51 : decode cX12_reckonAll 51 = .ok (.iconst 2, 1) := by decide +kernel
theorem dX12_reckonAll_52 : decode cX12_reckonAll 52 = .ok (.iload 4, 2) := by decide +kernel
theorem dX12_reckonAll_54 : decode cX12_reckonAll 54 = .ok (.imul, 1) := by decide +kernel
theorem dX12_reckonAll_55 : decode cX12_reckonAll 55 = .ok (.iadd, 1) := by decide +kernel
theorem dX12_reckonAll_56 : decode cX12_reckonAll 56 = .ok (.iaload, 1) := by decide +kernel
theorem dX12_reckonAll_57 : decode cX12_reckonAll 57 = .ok (.istore 5, 2) := by decide +kernel
theorem dX12_reckonAll_59 : decode cX12_reckonAll 59 = .ok (.aload_n 0, 1) := by decide +kernel
theorem dX12_reckonAll_60 : decode cX12_reckonAll 60 = .ok (.getfield 319, 3) := by decide +kernel
theorem dX12_reckonAll_63 : decode cX12_reckonAll 63 = .ok (.ifCond .eq 13, 3) := by decide +kernel
theorem dX12_reckonAll_66 : decode cX12_reckonAll 66 = .ok (.aload_n 0, 1) := by decide +kernel
theorem dX12_reckonAll_67 : decode cX12_reckonAll 67 = .ok (.getfield 48, 3) := by decide +kernel
theorem dX12_reckonAll_70 : decode cX12_reckonAll 70 = .ok (.iload 4, 2) := by decide +kernel
theorem dX12_reckonAll_72 : decode cX12_reckonAll 72 = .ok (.iaload, 1) := by decide +kernel
theorem dX12_reckonAll_73 : decode cX12_reckonAll 73 = .ok (.goto 22, 3) := by decide +kernel
theorem dX12_reckonAll_76 : decode cX12_reckonAll 76 = .ok (.aload_n 0, 1) := by decide +kernel
theorem dX12_reckonAll_77 : decode cX12_reckonAll 77 = .ok (.getfield 13, 3) := by decide +kernel
theorem dX12_reckonAll_80 : decode cX12_reckonAll 80 = .ok (.aload_n 0, 1) := by decide +kernel
theorem dX12_reckonAll_81 : decode cX12_reckonAll 81 = .ok (.getfield 396, 3) := by decide +kernel
theorem dX12_reckonAll_84 : decode cX12_reckonAll 84 = .ok (.bipush 98, 2) := by decide +kernel
theorem dX12_reckonAll_86 : decode cX12_reckonAll 86 = .ok (.iadd, 1) := by decide +kernel
theorem dX12_reckonAll_87 : decode cX12_reckonAll 87 = .ok (.iconst 2, 1) := by decide +kernel
theorem dX12_reckonAll_88 : decode cX12_reckonAll 88 = .ok (.iload 4, 2) := by decide +kernel
theorem dX12_reckonAll_90 : decode cX12_reckonAll 90 = .ok (.imul, 1) := by decide +kernel
theorem dX12_reckonAll_91 : decode cX12_reckonAll 91 = .ok (.iadd, 1) := by decide +kernel
theorem dX12_reckonAll_92 : decode cX12_reckonAll 92 = .ok (.iconst 1, 1) := by decide +kernel
theorem dX12_reckonAll_93 : decode cX12_reckonAll 93 = .ok (.iadd, 1) := by decide +kernel
theorem dX12_reckonAll_94 : decode cX12_reckonAll 94 = .ok (.iaload, 1) := by decide +kernel
theorem dX12_reckonAll_95 : decode cX12_reckonAll 95 = .ok (.istore 6, 2) := by decide +kernel
theorem dX12_reckonAll_97 : decode cX12_reckonAll 97 = .ok (.iinc 4 1, 3) := by decide +kernel
theorem dX12_reckonAll_100 : decode cX12_reckonAll 100 = .ok (.iload 5, 2) := by decide +kernel
theorem dX12_reckonAll_102 : decode cX12_reckonAll 102 = .ok (.bipush 20, 2) := by decide +kernel
theorem dX12_reckonAll_104 : decode cX12_reckonAll 104 = .ok (.if_icmp .ge 107, 3) := by decide +kernel
theorem dX12_reckonAll_107 : decode cX12_reckonAll 107 = .ok (.aload_n 0, 1) := by decide +kernel
theorem dX12_reckonAll_108 : decode cX12_reckonAll 108 = .ok (.getfield 103, 3) := by decide +kernel
theorem dX12_reckonAll_111 : decode cX12_reckonAll 111 = .ok (.iload_n 3, 1) := by decide +kernel
theorem dX12_reckonAll_112 : decode cX12_reckonAll 112 = .ok (.iload 5, 2) := by decide +kernel
theorem dX12_reckonAll_114 : decode cX12_reckonAll 114 = .ok (.ifCond .ne 9, 3) := by decide +kernel
theorem dX12_reckonAll_117 : decode cX12_reckonAll 117 = .ok (.iload 6, 2) := by decide +kernel
theorem dX12_reckonAll_119 : decode cX12_reckonAll 119 = .ok (.i2l, 1) := by decide +kernel
theorem dX12_reckonAll_120 : decode cX12_reckonAll 120 = .ok (.goto 84, 3) := by decide +kernel
theorem dX12_reckonAll_123 : decode cX12_reckonAll 123 = .ok (.aload_n 0, 1) := by decide +kernel
theorem dX12_reckonAll_124 : decode cX12_reckonAll 124 = .ok (.getfield 319, 3) := by decide +kernel
theorem dX12_reckonAll_127 : decode cX12_reckonAll 127 = .ok (.ifCond .ne 13, 3) := by decide +kernel
theorem dX12_reckonAll_130 : decode cX12_reckonAll 130 = .ok (.aload_n 0, 1) := by decide +kernel
theorem dX12_reckonAll_131 : decode cX12_reckonAll 131 = .ok (.getfield 97, 3) := by decide +kernel
theorem dX12_reckonAll_134 : decode cX12_reckonAll 134 = .ok (.iload 5, 2) := by decide +kernel
theorem dX12_reckonAll_136 : decode cX12_reckonAll 136 = .ok (.laload, 1) := by decide +kernel
theorem dX12_reckonAll_137 : decode cX12_reckonAll 137 = .ok (.goto 67, 3) := by decide +kernel
theorem dX12_reckonAll_140 : decode cX12_reckonAll 140 = .ok (.iload 5, 2) := by decide +kernel
theorem dX12_reckonAll_142 : decode cX12_reckonAll 142 = .ok (.bipush 6, 2) := by decide +kernel
theorem dX12_reckonAll_144 : decode cX12_reckonAll 144 = .ok (.if_icmp .ge 13, 3) := by decide +kernel
theorem dX12_reckonAll_147 : decode cX12_reckonAll 147 = .ok (.aload_n 0, 1) := by decide +kernel
theorem dX12_reckonAll_148 : decode cX12_reckonAll 148 = .ok (.getfield 100, 3) := by decide +kernel
theorem dX12_reckonAll_151 : decode cX12_reckonAll 151 = .ok (.iload 5, 2) := by decide +kernel
theorem dX12_reckonAll_153 : decode cX12_reckonAll 153 = .ok (.laload, 1) := by decide +kernel
theorem dX12_reckonAll_154 : decode cX12_reckonAll 154 = .ok (.goto 50, 3) := by decide +kernel
theorem dX12_reckonAll_157 : decode cX12_reckonAll 157 = .ok (.iload 5, 2) := by decide +kernel
theorem dX12_reckonAll_159 : decode cX12_reckonAll 159 = .ok (.bipush 6, 2) := by decide +kernel
theorem dX12_reckonAll_161 : decode cX12_reckonAll 161 = .ok (.if_icmp .ne 17, 3) := by decide +kernel
theorem dX12_reckonAll_164 : decode cX12_reckonAll 164 = .ok (.aload_n 0, 1) := by decide +kernel
theorem dX12_reckonAll_165 : decode cX12_reckonAll 165 = .ok (.getfield 13, 3) := by decide +kernel
theorem dX12_reckonAll_168 : decode cX12_reckonAll 168 = .ok (.bipush 7, 2) := by decide +kernel
theorem dX12_reckonAll_170 : decode cX12_reckonAll 170 = .ok (.iload 6, 2) := by decide +kernel
theorem dX12_reckonAll_172 : decode cX12_reckonAll 172 = .ok (.iadd, 1) := by decide +kernel
theorem dX12_reckonAll_173 : decode cX12_reckonAll 173 = .ok (.iaload, 1) := by decide +kernel
theorem dX12_reckonAll_174 : decode cX12_reckonAll 174 = .ok (.i2l, 1) := by decide +kernel
theorem dX12_reckonAll_175 : decode cX12_reckonAll 175 = .ok (.goto 29, 3) := by decide +kernel
theorem dX12_reckonAll_178 : decode cX12_reckonAll 178 = .ok (.aload_n 0, 1) := by decide +kernel
theorem dX12_reckonAll_179 : decode cX12_reckonAll 179 = .ok (.iload 6, 2) := by decide +kernel
theorem dX12_reckonAll_181 : decode cX12_reckonAll 181 = .ok (.invokevirtual 196, 3) := by decide +kernel
theorem dX12_reckonAll_184 : decode cX12_reckonAll 184 = .ok (.ifCond .eq 17, 3) := by decide +kernel
theorem dX12_reckonAll_187 : decode cX12_reckonAll 187 = .ok (.aload_n 0, 1) := by decide +kernel
theorem dX12_reckonAll_188 : decode cX12_reckonAll 188 = .ok (.getfield 13, 3) := by decide +kernel
theorem dX12_reckonAll_191 : decode cX12_reckonAll 191 = .ok (.bipush 39, 2) := by decide +kernel
theorem dX12_reckonAll_193 : decode cX12_reckonAll 193 = .ok (.iload 6, 2) := by decide +kernel
theorem dX12_reckonAll_195 : decode cX12_reckonAll 195 = .ok (.iadd, 1) := by decide +kernel
theorem dX12_reckonAll_196 : decode cX12_reckonAll 196 = .ok (.iaload, 1) := by decide +kernel
theorem dX12_reckonAll_197 : decode cX12_reckonAll 197 = .ok (.i2l, 1) := by decide +kernel
theorem dX12_reckonAll_198 : decode cX12_reckonAll 198 = .ok (.goto 6, 3) := by decide +kernel
theorem dX12_reckonAll_201 : decode cX12_reckonAll 201 = .ok (.ldc2_w 269, 3) := by decide +kernel
theorem dX12_reckonAll_204 : decode cX12_reckonAll 204 = .ok (.lastore, 1) := by decide +kernel
theorem dX12_reckonAll_205 : decode cX12_reckonAll 205 = .ok (.iinc 3 1, 3) := by decide +kernel
theorem dX12_reckonAll_208 : decode cX12_reckonAll 208 = .ok (.goto 142, 3) := by decide +kernel
theorem dX12_reckonAll_211 : decode cX12_reckonAll 211 = .ok (.iload 5, 2) := by decide +kernel
theorem dX12_reckonAll_213 : decode cX12_reckonAll 213 = .ok (.bipush 28, 2) := by decide +kernel
theorem dX12_reckonAll_215 : decode cX12_reckonAll 215 = .ok (.if_icmp .ge 73, 3) := by decide +kernel
theorem dX12_reckonAll_218 : decode cX12_reckonAll 218 = .ok (.iinc 3 (-1), 3) := by decide +kernel
theorem dX12_reckonAll_221 : decode cX12_reckonAll 221 = .ok (.aload_n 0, 1) := by decide +kernel
theorem dX12_reckonAll_222 : decode cX12_reckonAll 222 = .ok (.getfield 103, 3) := by decide +kernel
theorem dX12_reckonAll_225 : decode cX12_reckonAll 225 = .ok (.iload_n 3, 1) := by decide +kernel
theorem dX12_reckonAll_226 : decode cX12_reckonAll 226 = .ok (.iconst 1, 1) := by decide +kernel
theorem dX12_reckonAll_227 : decode cX12_reckonAll 227 = .ok (.isub, 1) := by decide +kernel
theorem dX12_reckonAll_228 : decode cX12_reckonAll 228 = .ok (.aload_n 0, 1) := by decide +kernel
theorem dX12_reckonAll_229 : decode cX12_reckonAll 229 = .ok (.iload 5, 2) := by decide +kernel
theorem dX12_reckonAll_231 : decode cX12_reckonAll 231 = .ok (.aload_n 0, 1) := by decide +kernel
theorem dX12_reckonAll_232 : decode cX12_reckonAll 232 = .ok (.getfield 103, 3) := by decide +kernel
theorem dX12_reckonAll_235 : decode cX12_reckonAll 235 = .ok (.iload_n 3, 1) := by decide +kernel
theorem dX12_reckonAll_236 : decode cX12_reckonAll 236 = .ok (.iconst 1, 1) := by decide +kernel
theorem dX12_reckonAll_237 : decode cX12_reckonAll 237 = .ok (.isub, 1) := by decide +kernel
theorem dX12_reckonAll_238 : decode cX12_reckonAll 238 = .ok (.laload, 1) := by decide +kernel
theorem dX12_reckonAll_239 : decode cX12_reckonAll 239 = .ok (.aload_n 0, 1) := by decide +kernel
theorem dX12_reckonAll_240 : decode cX12_reckonAll 240 = .ok (.getfield 103, 3) := by decide +kernel
theorem dX12_reckonAll_243 : decode cX12_reckonAll 243 = .ok (.iload_n 3, 1) := by decide +kernel
theorem dX12_reckonAll_244 : decode cX12_reckonAll 244 = .ok (.laload, 1) := by decide +kernel
theorem dX12_reckonAll_245 : decode cX12_reckonAll 245 = .ok (.invokevirtual 399, 3) := by decide +kernel
theorem dX12_reckonAll_248 : decode cX12_reckonAll 248 = .ok (.lastore, 1) := by decide +kernel
theorem dX12_reckonAll_249 : decode cX12_reckonAll 249 = .ok (.aload_n 0, 1) := by decide +kernel
theorem dX12_reckonAll_250 : decode cX12_reckonAll 250 = .ok (.aload_n 0, 1) := by decide +kernel
theorem dX12_reckonAll_251 : decode cX12_reckonAll 251 = .ok (.getfield 393, 3) := by decide +kernel
theorem dX12_reckonAll_254 : decode cX12_reckonAll 254 = .ok (.ifCond .ne 23, 3) := by decide +kernel
theorem dX12_reckonAll_257 : decode cX12_reckonAll 257 = .ok (.aload_n 0, 1) := by decide +kernel
theorem dX12_reckonAll_258 : decode cX12_reckonAll 258 = .ok (.getfield 103, 3) := by decide +kernel
theorem dX12_reckonAll_261 : decode cX12_reckonAll 261 = .ok (.iload_n 3, 1) := by decide +kernel
theorem dX12_reckonAll_262 : decode cX12_reckonAll 262 = .ok (.iconst 1, 1) := by decide +kernel
theorem dX12_reckonAll_263 : decode cX12_reckonAll 263 = .ok (.isub, 1) := by decide +kernel
theorem dX12_reckonAll_264 : decode cX12_reckonAll 264 = .ok (.laload, 1) := by decide +kernel
theorem dX12_reckonAll_265 : decode cX12_reckonAll 265 = .ok (.ldc2_w 403, 3) := by decide +kernel
theorem dX12_reckonAll_268 : decode cX12_reckonAll 268 = .ok (.ldc2_w 405, 3) := by decide +kernel
theorem dX12_reckonAll_271 : decode cX12_reckonAll 271 = .ok (.invokestatic 173, 3) := by decide +kernel
theorem dX12_reckonAll_274 : decode cX12_reckonAll 274 = .ok (.ifCond .ne 7, 3) := by decide +kernel
theorem dX12_reckonAll_277 : decode cX12_reckonAll 277 = .ok (.iconst 1, 1) := by decide +kernel
theorem dX12_reckonAll_278 : decode cX12_reckonAll 278 = .ok (.goto 4, 3) := by decide +kernel
theorem dX12_reckonAll_281 : decode cX12_reckonAll 281 = .ok (.iconst 0, 1) := by decide +kernel
theorem dX12_reckonAll_282 : decode cX12_reckonAll 282 = .ok (.putfield 393, 3) := by decide +kernel
theorem dX12_reckonAll_285 : decode cX12_reckonAll 285 = .ok (.goto 65, 3) := by decide +kernel
theorem dX12_reckonAll_288 : decode cX12_reckonAll 288 = .ok (.iload 5, 2) := by decide +kernel
theorem dX12_reckonAll_290 : decode cX12_reckonAll 290 = .ok (.bipush 28, 2) := by decide +kernel
theorem dX12_reckonAll_292 : decode cX12_reckonAll 292 = .ok (.if_icmp .ne 24, 3) := by decide +kernel
theorem dX12_reckonAll_295 : decode cX12_reckonAll 295 = .ok (.aload_n 0, 1) := by decide +kernel
theorem dX12_reckonAll_296 : decode cX12_reckonAll 296 = .ok (.getfield 103, 3) := by decide +kernel
theorem dX12_reckonAll_299 : decode cX12_reckonAll 299 = .ok (.iload_n 3, 1) := by decide +kernel
theorem dX12_reckonAll_300 : decode cX12_reckonAll 300 = .ok (.iconst 1, 1) := by decide +kernel
theorem dX12_reckonAll_301 : decode cX12_reckonAll 301 = .ok (.isub, 1) := by decide +kernel
theorem dX12_reckonAll_302 : decode cX12_reckonAll 302 = .ok (.lconst 1, 1) := by decide +kernel
theorem dX12_reckonAll_303 : decode cX12_reckonAll 303 = .ok (.aload_n 0, 1) := by decide +kernel
theorem dX12_reckonAll_304 : decode cX12_reckonAll 304 = .ok (.getfield 103, 3) := by decide +kernel
theorem dX12_reckonAll_307 : decode cX12_reckonAll 307 = .ok (.iload_n 3, 1) := by decide +kernel
theorem dX12_reckonAll_308 : decode cX12_reckonAll 308 = .ok (.iconst 1, 1) := by decide +kernel
theorem dX12_reckonAll_309 : decode cX12_reckonAll 309 = .ok (.isub, 1) := by decide +kernel
theorem dX12_reckonAll_310 : decode cX12_reckonAll 310 = .ok (.laload, 1) := by decide +kernel
theorem dX12_reckonAll_311 : decode cX12_reckonAll 311 = .ok (.lsub, 1) := by decide +kernel
theorem dX12_reckonAll_312 : decode cX12_reckonAll 312 = .ok (.lastore, 1) := by decide +kernel
theorem dX12_reckonAll_313 : decode cX12_reckonAll 313 = .ok (.goto 37, 3) := by decide +kernel
theorem dX12_reckonAll_316 : decode cX12_reckonAll 316 = .ok (.aload_n 0, 1) := by decide +kernel
theorem dX12_reckonAll_317 : decode cX12_reckonAll 317 = .ok (.getfield 103, 3) := by decide +kernel
theorem dX12_reckonAll_320 : decode cX12_reckonAll 320 = .ok (.iload_n 3, 1) := by decide +kernel
theorem dX12_reckonAll_321 : decode cX12_reckonAll 321 = .ok (.iconst 1, 1) := by decide +kernel
theorem dX12_reckonAll_322 : decode cX12_reckonAll 322 = .ok (.isub, 1) := by decide +kernel
theorem dX12_reckonAll_323 : decode cX12_reckonAll 323 = .ok (.laload, 1) := by decide +kernel
theorem dX12_reckonAll_324 : decode cX12_reckonAll 324 = .ok (.iload 5, 2) := by decide +kernel
theorem dX12_reckonAll_326 : decode cX12_reckonAll 326 = .ok (.bipush 29, 2) := by decide +kernel
theorem dX12_reckonAll_328 : decode cX12_reckonAll 328 = .ok (.if_icmp .ne 7, 3) := by decide +kernel
theorem dX12_reckonAll_331 : decode cX12_reckonAll 331 = .ok (.lconst 0, 1) := by decide +kernel
theorem dX12_reckonAll_332 : decode cX12_reckonAll 332 = .ok (.goto 4, 3) := by decide +kernel
theorem dX12_reckonAll_335 : decode cX12_reckonAll 335 = .ok (.lconst 1, 1) := by decide +kernel
theorem dX12_reckonAll_336 : decode cX12_reckonAll 336 = .ok (.lcmp, 1) := by decide +kernel
theorem dX12_reckonAll_337 : decode cX12_reckonAll 337 = .ok (.ifCond .ne 10, 3) := by decide +kernel
theorem dX12_reckonAll_340 : decode cX12_reckonAll 340 = .ok (.iload 6, 2) := by decide +kernel
theorem dX12_reckonAll_342 : decode cX12_reckonAll 342 = .ok (.istore 4, 2) := by decide +kernel
theorem dX12_reckonAll_344 : decode cX12_reckonAll 344 = .ok (.goto 6, 3) := by decide +kernel
theorem dX12_reckonAll_347 : decode cX12_reckonAll 347 = .ok (.iinc 3 (-1), 3) := by decide +kernel
theorem dX12_reckonAll_350 : decode cX12_reckonAll 350 = .ok (.goto (-340), 3) := by decide +kernel
theorem dX12_reckonAll_353 : decode cX12_reckonAll 353 = .ok (.aload_n 0, 1) := by decide +kernel
theorem dX12_reckonAll_354 : decode cX12_reckonAll 354 = .ok (.iload_n 3, 1) := by decide +kernel
theorem dX12_reckonAll_355 : decode cX12_reckonAll 355 = .ok (.ifCond .le 12, 3) := by decide +kernel
theorem dX12_reckonAll_358 : decode cX12_reckonAll 358 = .ok (.aload_n 0, 1) := by decide +kernel
theorem dX12_reckonAll_359 : decode cX12_reckonAll 359 = .ok (.getfield 103, 3) := by decide +kernel
theorem dX12_reckonAll_362 : decode cX12_reckonAll 362 = .ok (.iconst 0, 1) := by decide +kernel
theorem dX12_reckonAll_363 : decode cX12_reckonAll 363 = .ok (.laload, 1) := by decide +kernel
theorem dX12_reckonAll_364 : decode cX12_reckonAll 364 = .ok (.goto 4, 3) := by decide +kernel
theorem dX12_reckonAll_367 : decode cX12_reckonAll 367 = .ok (.lconst 0, 1) := by decide +kernel
theorem dX12_reckonAll_368 : decode cX12_reckonAll 368 = .ok (.putfield 407, 3) := by decide +kernel
theorem dX12_reckonAll_371 : decode cX12_reckonAll 371 = .ok (.return_, 1) := by decide +kernel
theorem dX12_isSo_0 : decode cX12_isSo 0 = .ok (.aload_n 0, 1) := by decide +kernel
theorem dX12_isSo_1 : decode cX12_isSo 1 = .ok (.getfield 13, 3) := by decide +kernel
theorem dX12_isSo_4 : decode cX12_isSo 4 = .ok (.iload_n 1, 1) := by decide +kernel
theorem dX12_isSo_5 : decode cX12_isSo 5 = .ok (.iconst 5, 1) := by decide +kernel
theorem dX12_isSo_6 : decode cX12_isSo 6 = .ok (.iadd, 1) := by decide +kernel
theorem dX12_isSo_7 : decode cX12_isSo 7 = .ok (.iaload, 1) := by decide +kernel
theorem dX12_isSo_8 : decode cX12_isSo 8 = .ok (.aload_n 0, 1) := by decide +kernel
theorem dX12_isSo_9 : decode cX12_isSo 9 = .ok (.getfield 13, 3) := by decide +kernel
theorem dX12_isSo_12 : decode cX12_isSo 12 = .ok (.iload_n 1, 1) := by decide +kernel
theorem dX12_isSo_13 : decode cX12_isSo 13 = .ok (.bipush 6, 2) := by decide +kernel
theorem dX12_isSo_15 : decode cX12_isSo 15 = .ok (.iadd, 1) := by decide +kernel
theorem dX12_isSo_16 : decode cX12_isSo 16 = .ok (.iaload, 1) := by decide +kernel
theorem dX12_isSo_17 : decode cX12_isSo 17 = .ok (.if_icmp .ge 42, 3) := by decide +kernel
theorem dX12_isSo_20 : decode cX12_isSo 20 = .ok (.aload_n 0, 1) := by decide +kernel
theorem dX12_isSo_21 : decode cX12_isSo 21 = .ok (.aload_n 0, 1) := by decide +kernel
theorem dX12_isSo_22 : decode cX12_isSo 22 = .ok (.getfield 13, 3) := by decide +kernel
theorem dX12_isSo_25 : decode cX12_isSo 25 = .ok (.iload_n 1, 1) := by decide +kernel
theorem dX12_isSo_26 : decode cX12_isSo 26 = .ok (.iconst 5, 1) := by decide +kernel
theorem dX12_isSo_27 : decode cX12_isSo 27 = .ok (.iadd, 1) := by decide +kernel
theorem dX12_isSo_28 : decode cX12_isSo 28 = .ok (.iaload, 1) := by decide +kernel
theorem dX12_isSo_29 : decode cX12_isSo 29 = .ok (.aload_n 0, 1) := by decide +kernel
theorem dX12_isSo_30 : decode cX12_isSo 30 = .ok (.getfield 13, 3) := by decide +kernel
theorem dX12_isSo_33 : decode cX12_isSo 33 = .ok (.iload_n 1, 1) := by decide +kernel
theorem dX12_isSo_34 : decode cX12_isSo 34 = .ok (.bipush 6, 2) := by decide +kernel
theorem dX12_isSo_36 : decode cX12_isSo 36 = .ok (.iadd, 1) := by decide +kernel
theorem dX12_isSo_37 : decode cX12_isSo 37 = .ok (.iaload, 1) := by decide +kernel
theorem dX12_isSo_38 : decode cX12_isSo 38 = .ok (.invokevirtual 410, 3) := by decide +kernel
theorem dX12_isSo_41 : decode cX12_isSo 41 = .ok (.aload_n 0, 1) := by decide +kernel
theorem dX12_isSo_42 : decode cX12_isSo 42 = .ok (.getfield 393, 3) := by decide +kernel
theorem dX12_isSo_45 : decode cX12_isSo 45 = .ok (.ifCond .ne 12, 3) := by decide +kernel
theorem dX12_isSo_48 : decode cX12_isSo 48 = .ok (.aload_n 0, 1) := by decide +kernel
theorem dX12_isSo_49 : decode cX12_isSo 49 = .ok (.getfield 407, 3) := by decide +kernel
theorem dX12_isSo_52 : decode cX12_isSo 52 = .ok (.lconst 0, 1) := by decide +kernel
theorem dX12_isSo_53 : decode cX12_isSo 53 = .ok (.lcmp, 1) := by decide +kernel
theorem dX12_isSo_54 : decode cX12_isSo 54 = .ok (.ifCond .ne 5, 3) := by decide +kernel
theorem dX12_isSo_57 : decode cX12_isSo 57 = .ok (.iconst 0, 1) := by decide +kernel
theorem dX12_isSo_58 : decode cX12_isSo 58 = .ok (.ireturn, 1) := by decide +kernel
theorem dX12_isSo_59 : decode cX12_isSo 59 = .ok (.aload_n 0, 1) := by decide +kernel
theorem dX12_isSo_60 : decode cX12_isSo 60 = .ok (.getfield 13, 3) := by decide +kernel
theorem dX12_isSo_63 : decode cX12_isSo 63 = .ok (.iload_n 1, 1) := by decide +kernel
theorem dX12_isSo_64 : decode cX12_isSo 64 = .ok (.iaload, 1) := by decide +kernel
theorem dX12_isSo_65 : decode cX12_isSo 65 = .ok (.iconst 3, 1) := by decide +kernel
theorem dX12_isSo_66 : decode cX12_isSo 66 = .ok (.if_icmp .eq 44, 3) := by decide +kernel
theorem dX12_isSo_69 : decode cX12_isSo 69 = .ok (.aload_n 0, 1) := by decide +kernel
theorem dX12_isSo_70 : decode cX12_isSo 70 = .ok (.aload_n 0, 1) := by decide +kernel
theorem dX12_isSo_71 : decode cX12_isSo 71 = .ok (.getfield 13, 3) := by decide +kernel
theorem dX12_isSo_74 : decode cX12_isSo 74 = .ok (.iload_n 1, 1) := by decide +kernel
theorem dX12_isSo_75 : decode cX12_isSo 75 = .ok (.iconst 3, 1) := by decide +kernel
theorem dX12_isSo_76 : decode cX12_isSo 76 = .ok (.iadd, 1) := by decide +kernel
theorem dX12_isSo_77 : decode cX12_isSo 77 = .ok (.iaload, 1) := by decide +kernel
theorem dX12_isSo_78 : decode cX12_isSo 78 = .ok (.aload_n 0, 1) := by decide +kernel
theorem dX12_isSo_79 : decode cX12_isSo 79 = .ok (.getfield 13, 3) := by decide +kernel
theorem dX12_isSo_82 : decode cX12_isSo 82 = .ok (.iload_n 1, 1) := by decide +kernel
theorem dX12_isSo_83 : decode cX12_isSo 83 = .ok (.iconst 4, 1) := by decide +kernel
theorem dX12_isSo_84 : decode cX12_isSo 84 = .ok (.iadd, 1) := by decide +kernel
theorem dX12_isSo_85 : decode cX12_isSo 85 = .ok (.iaload, 1) := by decide +kernel
theorem dX12_isSo_86 : decode cX12_isSo 86 = .ok (.invokevirtual 410, 3) := by decide +kernel
theorem dX12_isSo_89 : decode cX12_isSo 89 = .ok (.aload_n 0, 1) := by decide +kernel
theorem dX12_isSo_90 : decode cX12_isSo 90 = .ok (.aload_n 0, 1) := by decide +kernel
theorem dX12_isSo_91 : decode cX12_isSo 91 = .ok (.getfield 407, 3) := by decide +kernel
theorem dX12_isSo_94 : decode cX12_isSo 94 = .ok (.putfield 413, 3) := by decide +kernel
theorem dX12_isSo_97 : decode cX12_isSo 97 = .ok (.aload_n 0, 1) := by decide +kernel
theorem dX12_isSo_98 : decode cX12_isSo 98 = .ok (.getfield 393, 3) := by decide +kernel
theorem dX12_isSo_101 : decode cX12_isSo 101 = .ok (.ifCond .ne 7, 3) := by decide +kernel
theorem dX12_isSo_104 : decode cX12_isSo 104 = .ok (.iconst 1, 1) := by decide +kernel
theorem dX12_isSo_105 : decode cX12_isSo 105 = .ok (.goto 4, 3) := by decide +kernel
theorem dX12_isSo_108 : decode cX12_isSo 108 = .ok (.iconst 0, 1) := by decide +kernel
theorem dX12_isSo_109 : decode cX12_isSo 109 = .ok (.ireturn, 1) := by decide +kernel
theorem dX12_isSo_110 : decode cX12_isSo 110 = .ok (.iconst 1, 1) := by decide +kernel
theorem dX12_isSo_111 : decode cX12_isSo 111 = .ok (.ireturn, 1) := by decide +kernel
theorem dX12_setBuilder_0 : decode cX12_setBuilder 0 = .ok (.aload_n 0, 1) := by decide +kernel
theorem dX12_setBuilder_1 : decode cX12_setBuilder 1 = .ok (.getfield 97, 3) := by decide +kernel
theorem dX12_setBuilder_4 : decode cX12_setBuilder 4 = .ok (.iconst 1, 1) := by decide +kernel
theorem dX12_setBuilder_5 : decode cX12_setBuilder 5 = .ok (.iload_n 1, 1) := by decide +kernel
theorem dX12_setBuilder_6 : decode cX12_setBuilder 6 = .ok (.i2l, 1) := by decide +kernel
theorem dX12_setBuilder_7 : decode cX12_setBuilder 7 = .ok (.lastore, 1) := by decide +kernel
theorem dX12_setBuilder_8 : decode cX12_setBuilder 8 = .ok (.aload_n 0, 1) := by decide +kernel
theorem dX12_setBuilder_9 : decode cX12_setBuilder 9 = .ok (.getfield 97, 3) := by decide +kernel
theorem dX12_setBuilder_12 : decode cX12_setBuilder 12 = .ok (.iconst 2, 1) := by decide +kernel
theorem dX12_setBuilder_13 : decode cX12_setBuilder 13 = .ok (.iload_n 1, 1) := by decide +kernel
theorem dX12_setBuilder_14 : decode cX12_setBuilder 14 = .ok (.iconst (-1), 1) := by decide +kernel
theorem dX12_setBuilder_15 : decode cX12_setBuilder 15 = .ok (.if_icmp .ne 9, 3) := by decide +kernel
theorem dX12_setBuilder_18 : decode cX12_setBuilder 18 = .ok (.ldc2_w 269, 3) := by decide +kernel
theorem dX12_setBuilder_21 : decode cX12_setBuilder 21 = .ok (.goto 5, 3) := by decide +kernel
theorem dX12_setBuilder_24 : decode cX12_setBuilder 24 = .ok (.iload_n 2, 1) := by decide +kernel
theorem dX12_setBuilder_25 : decode cX12_setBuilder 25 = .ok (.i2l, 1) := by decide +kernel
theorem dX12_setBuilder_26 : decode cX12_setBuilder 26 = .ok (.lastore, 1) := by decide +kernel
theorem dX12_setBuilder_27 : decode cX12_setBuilder 27 = .ok (.aload_n 0, 1) := by decide +kernel
theorem dX12_setBuilder_28 : decode cX12_setBuilder 28 = .ok (.getfield 97, 3) := by decide +kernel
theorem dX12_setBuilder_31 : decode cX12_setBuilder 31 = .ok (.iconst 3, 1) := by decide +kernel
theorem dX12_setBuilder_32 : decode cX12_setBuilder 32 = .ok (.iload_n 1, 1) := by decide +kernel
theorem dX12_setBuilder_33 : decode cX12_setBuilder 33 = .ok (.iconst (-1), 1) := by decide +kernel
theorem dX12_setBuilder_34 : decode cX12_setBuilder 34 = .ok (.if_icmp .ne 9, 3) := by decide +kernel
theorem dX12_setBuilder_37 : decode cX12_setBuilder 37 = .ok (.ldc2_w 269, 3) := by decide +kernel
theorem dX12_setBuilder_40 : decode cX12_setBuilder 40 = .ok (.goto 13, 3) := by decide +kernel
theorem dX12_setBuilder_43 : decode cX12_setBuilder 43 = .ok (.aload_n 0, 1) := by decide +kernel
theorem dX12_setBuilder_44 : decode cX12_setBuilder 44 = .ok (.getfield 13, 3) := by decide +kernel
theorem dX12_setBuilder_47 : decode cX12_setBuilder 47 = .ok (.bipush 57, 2) := by decide +kernel
theorem dX12_setBuilder_49 : decode cX12_setBuilder 49 = .ok (.iload_n 1, 1) := by decide +kernel
theorem dX12_setBuilder_50 : decode cX12_setBuilder 50 = .ok (.iadd, 1) := by decide +kernel
theorem dX12_setBuilder_51 : decode cX12_setBuilder 51 = .ok (.iaload, 1) := by decide +kernel
theorem dX12_setBuilder_52 : decode cX12_setBuilder 52 = .ok (.i2l, 1) := by decide +kernel
theorem dX12_setBuilder_53 : decode cX12_setBuilder 53 = .ok (.lastore, 1) := by decide +kernel
theorem dX12_setBuilder_54 : decode cX12_setBuilder 54 = .ok (.aload_n 0, 1) := by decide +kernel
theorem dX12_setBuilder_55 : decode cX12_setBuilder 55 = .ok (.getfield 97, 3) := by decide +kernel
theorem dX12_setBuilder_58 : decode cX12_setBuilder 58 = .ok (.bipush 7, 2) := by decide +kernel
theorem dX12_setBuilder_60 : decode cX12_setBuilder 60 = .ok (.iload_n 3, 1) := by decide +kernel
theorem dX12_setBuilder_61 : decode cX12_setBuilder 61 = .ok (.i2l, 1) := by decide +kernel
theorem dX12_setBuilder_62 : decode cX12_setBuilder 62 = .ok (.lastore, 1) := by decide +kernel
theorem dX12_setBuilder_63 : decode cX12_setBuilder 63 = .ok (.aload_n 0, 1) := by decide +kernel
theorem dX12_setBuilder_64 : decode cX12_setBuilder 64 = .ok (.getfield 97, 3) := by decide +kernel
theorem dX12_setBuilder_67 : decode cX12_setBuilder 67 = .ok (.bipush 8, 2) := by decide +kernel
theorem dX12_setBuilder_69 : decode cX12_setBuilder 69 = .ok (.aload_n 0, 1) := by decide +kernel
theorem dX12_setBuilder_70 : decode cX12_setBuilder 70 = .ok (.getfield 13, 3) := by decide +kernel
theorem dX12_setBuilder_73 : decode cX12_setBuilder 73 = .ok (.bipush 6, 2) := by decide +kernel
theorem dX12_setBuilder_75 : decode cX12_setBuilder 75 = .ok (.iaload, 1) := by decide +kernel
theorem dX12_setBuilder_76 : decode cX12_setBuilder 76 = .ok (.i2l, 1) := by decide +kernel
theorem dX12_setBuilder_77 : decode cX12_setBuilder 77 = .ok (.lastore, 1) := by decide +kernel
theorem dX12_setBuilder_78 : decode cX12_setBuilder 78 = .ok (.return_, 1) := by decide +kernel
theorem dX12_setPlot_0 : decode cX12_setPlot 0 = .ok (.aload_n 0, 1) := by decide +kernel
theorem dX12_setPlot_1 : decode cX12_setPlot 1 = .ok (.getfield 97, 3) := by decide +kernel
theorem dX12_setPlot_4 : decode cX12_setPlot 4 = .ok (.iconst 4, 1) := by decide +kernel
theorem dX12_setPlot_5 : decode cX12_setPlot 5 = .ok (.iload_n 1, 1) := by decide +kernel
theorem dX12_setPlot_6 : decode cX12_setPlot 6 = .ok (.i2l, 1) := by decide +kernel
theorem dX12_setPlot_7 : decode cX12_setPlot 7 = .ok (.lastore, 1) := by decide +kernel
theorem dX12_setPlot_8 : decode cX12_setPlot 8 = .ok (.aload_n 0, 1) := by decide +kernel
theorem dX12_setPlot_9 : decode cX12_setPlot 9 = .ok (.getfield 97, 3) := by decide +kernel
theorem dX12_setPlot_12 : decode cX12_setPlot 12 = .ok (.iconst 5, 1) := by decide +kernel
theorem dX12_setPlot_13 : decode cX12_setPlot 13 = .ok (.iload_n 1, 1) := by decide +kernel
theorem dX12_setPlot_14 : decode cX12_setPlot 14 = .ok (.iconst (-1), 1) := by decide +kernel
theorem dX12_setPlot_15 : decode cX12_setPlot 15 = .ok (.if_icmp .ne 9, 3) := by decide +kernel
theorem dX12_setPlot_18 : decode cX12_setPlot 18 = .ok (.ldc2_w 269, 3) := by decide +kernel
theorem dX12_setPlot_21 : decode cX12_setPlot 21 = .ok (.goto 5, 3) := by decide +kernel
theorem dX12_setPlot_24 : decode cX12_setPlot 24 = .ok (.iload_n 2, 1) := by decide +kernel
theorem dX12_setPlot_25 : decode cX12_setPlot 25 = .ok (.i2l, 1) := by decide +kernel
theorem dX12_setPlot_26 : decode cX12_setPlot 26 = .ok (.lastore, 1) := by decide +kernel
theorem dX12_setPlot_27 : decode cX12_setPlot 27 = .ok (.aload_n 0, 1) := by decide +kernel
theorem dX12_setPlot_28 : decode cX12_setPlot 28 = .ok (.getfield 97, 3) := by decide +kernel
theorem dX12_setPlot_31 : decode cX12_setPlot 31 = .ok (.bipush 6, 2) := by decide +kernel
theorem dX12_setPlot_33 : decode cX12_setPlot 33 = .ok (.iload_n 1, 1) := by decide +kernel
theorem dX12_setPlot_34 : decode cX12_setPlot 34 = .ok (.iconst (-1), 1) := by decide +kernel
theorem dX12_setPlot_35 : decode cX12_setPlot 35 = .ok (.if_icmp .ne 9, 3) := by decide +kernel
theorem dX12_setPlot_38 : decode cX12_setPlot 38 = .ok (.ldc2_w 269, 3) := by decide +kernel
theorem dX12_setPlot_41 : decode cX12_setPlot 41 = .ok (.goto 13, 3) := by decide +kernel
theorem dX12_setPlot_44 : decode cX12_setPlot 44 = .ok (.aload_n 0, 1) := by decide +kernel
theorem dX12_setPlot_45 : decode cX12_setPlot 45 = .ok (.getfield 13, 3) := by decide +kernel
theorem dX12_setPlot_48 : decode cX12_setPlot 48 = .ok (.bipush 23, 2) := by decide +kernel
theorem dX12_setPlot_50 : decode cX12_setPlot 50 = .ok (.iload_n 1, 1) := by decide +kernel
theorem dX12_setPlot_51 : decode cX12_setPlot 51 = .ok (.iadd, 1) := by decide +kernel
theorem dX12_setPlot_52 : decode cX12_setPlot 52 = .ok (.iaload, 1) := by decide +kernel
theorem dX12_setPlot_53 : decode cX12_setPlot 53 = .ok (.i2l, 1) := by decide +kernel
theorem dX12_setPlot_54 : decode cX12_setPlot 54 = .ok (.lastore, 1) := by decide +kernel
theorem dX12_setPlot_55 : decode cX12_setPlot 55 = .ok (.return_, 1) := by decide +kernel
theorem dX12_tells_0 : decode cX12_tells 0 = .ok (.aload_n 0, 1) := by decide +kernel
theorem dX12_tells_1 : decode cX12_tells 1 = .ok (.getfield 13, 3) := by decide +kernel
theorem dX12_tells_4 : decode cX12_tells 4 = .ok (.iconst 3, 1) := by decide +kernel
theorem dX12_tells_5 : decode cX12_tells 5 = .ok (.iaload, 1) := by decide +kernel
theorem dX12_tells_6 : decode cX12_tells 6 = .ok (.iconst (-1), 1) := by decide +kernel
theorem dX12_tells_7 : decode cX12_tells 7 = .ok (.if_icmp .ne 5, 3) := by decide +kernel
theorem dX12_tells_10 : decode cX12_tells 10 = .ok (.lload_n 2, 1) := by decide +kernel
theorem dX12_tells_11 : decode cX12_tells 11 = .ok (.lreturn, 1) := by decide +kernel
theorem dX12_tells_12 : decode cX12_tells 12 = .ok (.aload_n 0, 1) := by decide +kernel
theorem dX12_tells_13 : decode cX12_tells 13 = .ok (.bipush 75, 2) := by decide +kernel
theorem dX12_tells_15 : decode cX12_tells 15 = .ok (.sipush 900, 3) := by decide +kernel
theorem dX12_tells_18 : decode cX12_tells 18 = .ok (.aload_n 0, 1) := by decide +kernel
theorem dX12_tells_19 : decode cX12_tells 19 = .ok (.getfield 13, 3) := by decide +kernel
theorem dX12_tells_22 : decode cX12_tells 22 = .ok (.iconst 3, 1) := by decide +kernel
theorem dX12_tells_23 : decode cX12_tells 23 = .ok (.iaload, 1) := by decide +kernel
theorem dX12_tells_24 : decode cX12_tells 24 = .ok (.imul, 1) := by decide +kernel
theorem dX12_tells_25 : decode cX12_tells 25 = .ok (.iadd, 1) := by decide +kernel
theorem dX12_tells_26 : decode cX12_tells 26 = .ok (.putfield 396, 3) := by decide +kernel
theorem dX12_tells_29 : decode cX12_tells 29 = .ok (.lload_n 2, 1) := by decide +kernel
theorem dX12_tells_30 : decode cX12_tells 30 = .ok (.lstore 4, 2) := by decide +kernel
theorem dX12_tells_32 : decode cX12_tells 32 = .ok (.iconst 0, 1) := by decide +kernel
theorem dX12_tells_33 : decode cX12_tells 33 = .ok (.istore 6, 2) := by decide +kernel
theorem dX12_tells_35 : decode cX12_tells 35 = .ok (.iload 6, 2) := by decide +kernel
theorem dX12_tells_37 : decode cX12_tells 37 = .ok (.aload_n 0, 1) := by decide +kernel
theorem dX12_tells_38 : decode cX12_tells 38 = .ok (.getfield 13, 3) := by decide +kernel
theorem dX12_tells_41 : decode cX12_tells 41 = .ok (.aload_n 0, 1) := by decide +kernel
theorem dX12_tells_42 : decode cX12_tells 42 = .ok (.getfield 396, 3) := by decide +kernel
theorem dX12_tells_45 : decode cX12_tells 45 = .ok (.iconst 1, 1) := by decide +kernel
theorem dX12_tells_46 : decode cX12_tells 46 = .ok (.iadd, 1) := by decide +kernel
theorem dX12_tells_47 : decode cX12_tells 47 = .ok (.iaload, 1) := by decide +kernel
theorem dX12_tells_48 : decode cX12_tells 48 = .ok (.if_icmp .ge 58, 3) := by decide +kernel
theorem dX12_tells_51 : decode cX12_tells 51 = .ok (.aload_n 0, 1) := by decide +kernel
theorem dX12_tells_52 : decode cX12_tells 52 = .ok (.getfield 396, 3) := by decide +kernel
theorem dX12_tells_55 : decode cX12_tells 55 = .ok (.iconst 2, 1) := by decide +kernel
theorem dX12_tells_56 : decode cX12_tells 56 = .ok (.iadd, 1) := by decide +kernel
theorem dX12_tells_57 : decode cX12_tells 57 = .ok (.bipush 8, 2) := by decide +kernel
theorem dX12_tells_59 : decode cX12_tells 59 = .ok (.iload 6, 2) := by decide +kernel
theorem dX12_tells_61 : decode cX12_tells 61 = .ok (.imul, 1) := by decide +kernel
theorem dX12_tells_62 : decode cX12_tells 62 = .ok (.iadd, 1) := by decide +kernel
theorem dX12_tells_63 : decode cX12_tells 63 = .ok (.istore 7, 2) := by decide +kernel
theorem dX12_tells_65 : decode cX12_tells 65 = .ok (.aload_n 0, 1) := by decide +kernel
theorem dX12_tells_66 : decode cX12_tells 66 = .ok (.getfield 13, 3) := by decide +kernel
theorem dX12_tells_69 : decode cX12_tells 69 = .ok (.iload 7, 2) := by decide +kernel
theorem dX12_tells_71 : decode cX12_tells 71 = .ok (.iaload, 1) := by decide +kernel
theorem dX12_tells_72 : decode cX12_tells 72 = .ok (.iload_n 1, 1) := by decide +kernel
theorem dX12_tells_73 : decode cX12_tells 73 = .ok (.if_icmp .ne 27, 3) := by decide +kernel
theorem dX12_tells_76 : decode cX12_tells 76 = .ok (.aload_n 0, 1) := by decide +kernel
theorem dX12_tells_77 : decode cX12_tells 77 = .ok (.iload 7, 2) := by decide +kernel
theorem dX12_tells_79 : decode cX12_tells 79 = .ok (.invokevirtual 416, 3) := by decide +kernel
theorem dX12_tells_82 : decode cX12_tells 82 = .ok (.ifCond .eq 18, 3) := by decide +kernel
theorem dX12_tells_85 : decode cX12_tells 85 = .ok (.iload_n 1, 1) := by decide +kernel
theorem dX12_tells_86 : decode cX12_tells 86 = .ok (.iconst 3, 1) := by decide +kernel
theorem dX12_tells_87 : decode cX12_tells 87 = .ok (.if_icmp .ne 7, 3) := by decide +kernel
theorem dX12_tells_90 : decode cX12_tells 90 = .ok (.lconst 1, 1) := by decide +kernel
theorem dX12_tells_91 : decode cX12_tells 91 = .ok (.goto 7, 3) := by decide +kernel
theorem dX12_tells_94 : decode cX12_tells 94 = .ok (.aload_n 0, 1) := by decide +kernel
theorem dX12_tells_95 : decode cX12_tells 95 = .ok (.getfield 413, 3) := by decide +kernel
theorem dX12_tells_98 : decode cX12_tells 98 = .ok (.lstore 4, 2) := by decide +kernel
theorem dX12_tells_100 : decode cX12_tells 100 = .ok (.iinc 6 1, 3) := by decide +kernel
theorem dX12_tells_103 : decode cX12_tells 103 = .ok (.goto (-68), 3) := by decide +kernel
theorem dX12_tells_106 : decode cX12_tells 106 = .ok (.lload 4, 2) := by decide +kernel
theorem dX12_tells_108 : decode cX12_tells 108 = .ok (.lreturn, 1) := by decide +kernel
theorem dX12_diesThen_0 : decode cX12_diesThen 0 = .ok (.aload_n 0, 1) := by decide +kernel
theorem dX12_diesThen_1 : decode cX12_diesThen 1 = .ok (.iconst 0, 1) := by decide +kernel
theorem dX12_diesThen_2 : decode cX12_diesThen 2 = .ok (.aload_n 0, 1) := by decide +kernel
theorem dX12_diesThen_3 : decode cX12_diesThen 3 = .ok (.getfield 97, 3) := by decide +kernel
theorem dX12_diesThen_6 : decode cX12_diesThen 6 = .ok (.iconst 2, 1) := by decide +kernel
theorem dX12_diesThen_7 : decode cX12_diesThen 7 = .ok (.laload, 1) := by decide +kernel
theorem dX12_diesThen_8 : decode cX12_diesThen 8 = .ok (.invokevirtual 419, 3) := by decide +kernel
theorem dX12_diesThen_11 : decode cX12_diesThen 11 = .ok (.iconst 0, 1) := by decide +kernel
theorem dX12_diesThen_12 : decode cX12_diesThen 12 = .ok (.sipush 1000, 3) := by decide +kernel
theorem dX12_diesThen_15 : decode cX12_diesThen 15 = .ok (.invokestatic 423, 3) := by decide +kernel
theorem dX12_diesThen_18 : decode cX12_diesThen 18 = .ok (.ireturn, 1) := by decide +kernel
theorem dX12_laysThen_0 : decode cX12_laysThen 0 = .ok (.aload_n 0, 1) := by decide +kernel
theorem dX12_laysThen_1 : decode cX12_laysThen 1 = .ok (.iconst 1, 1) := by decide +kernel
theorem dX12_laysThen_2 : decode cX12_laysThen 2 = .ok (.aload_n 0, 1) := by decide +kernel
theorem dX12_laysThen_3 : decode cX12_laysThen 3 = .ok (.getfield 97, 3) := by decide +kernel
theorem dX12_laysThen_6 : decode cX12_laysThen 6 = .ok (.iconst 3, 1) := by decide +kernel
theorem dX12_laysThen_7 : decode cX12_laysThen 7 = .ok (.laload, 1) := by decide +kernel
theorem dX12_laysThen_8 : decode cX12_laysThen 8 = .ok (.invokevirtual 419, 3) := by decide +kernel
theorem dX12_laysThen_11 : decode cX12_laysThen 11 = .ok (.iconst 0, 1) := by decide +kernel
theorem dX12_laysThen_12 : decode cX12_laysThen 12 = .ok (.bipush 9, 2) := by decide +kernel
theorem dX12_laysThen_14 : decode cX12_laysThen 14 = .ok (.invokestatic 423, 3) := by decide +kernel
theorem dX12_laysThen_17 : decode cX12_laysThen 17 = .ok (.ireturn, 1) := by decide +kernel
theorem dX12_setNow_0 : decode cX12_setNow 0 = .ok (.aload_n 0, 1) := by decide +kernel
theorem dX12_setNow_1 : decode cX12_setNow 1 = .ok (.iload_n 1, 1) := by decide +kernel
theorem dX12_setNow_2 : decode cX12_setNow 2 = .ok (.aload_n 0, 1) := by decide +kernel
theorem dX12_setNow_3 : decode cX12_setNow 3 = .ok (.getfield 13, 3) := by decide +kernel
theorem dX12_setNow_6 : decode cX12_setNow 6 = .ok (.bipush 39, 2) := by decide +kernel
theorem dX12_setNow_8 : decode cX12_setNow 8 = .ok (.iload_n 1, 1) := by decide +kernel
theorem dX12_setNow_9 : decode cX12_setNow 9 = .ok (.iadd, 1) := by decide +kernel
theorem dX12_setNow_10 : decode cX12_setNow 10 = .ok (.iaload, 1) := by decide +kernel
theorem dX12_setNow_11 : decode cX12_setNow 11 = .ok (.aload_n 0, 1) := by decide +kernel
theorem dX12_setNow_12 : decode cX12_setNow 12 = .ok (.getfield 13, 3) := by decide +kernel
theorem dX12_setNow_15 : decode cX12_setNow 15 = .ok (.iconst 4, 1) := by decide +kernel
theorem dX12_setNow_16 : decode cX12_setNow 16 = .ok (.iaload, 1) := by decide +kernel
theorem dX12_setNow_17 : decode cX12_setNow 17 = .ok (.invokevirtual 427, 3) := by decide +kernel
theorem dX12_setNow_20 : decode cX12_setNow 20 = .ok (.aload_n 0, 1) := by decide +kernel
theorem dX12_setNow_21 : decode cX12_setNow 21 = .ok (.getfield 13, 3) := by decide +kernel
theorem dX12_setNow_24 : decode cX12_setNow 24 = .ok (.bipush 51, 2) := by decide +kernel
theorem dX12_setNow_26 : decode cX12_setNow 26 = .ok (.iload_n 1, 1) := by decide +kernel
theorem dX12_setNow_27 : decode cX12_setNow 27 = .ok (.iadd, 1) := by decide +kernel
theorem dX12_setNow_28 : decode cX12_setNow 28 = .ok (.iaload, 1) := by decide +kernel
theorem dX12_setNow_29 : decode cX12_setNow 29 = .ok (.istore_n 2, 1) := by decide +kernel
theorem dX12_setNow_30 : decode cX12_setNow 30 = .ok (.aload_n 0, 1) := by decide +kernel
theorem dX12_setNow_31 : decode cX12_setNow 31 = .ok (.iload_n 2, 1) := by decide +kernel
theorem dX12_setNow_32 : decode cX12_setNow 32 = .ok (.iload_n 2, 1) := by decide +kernel
theorem dX12_setNow_33 : decode cX12_setNow 33 = .ok (.iconst (-1), 1) := by decide +kernel
theorem dX12_setNow_34 : decode cX12_setNow 34 = .ok (.if_icmp .ne 7, 3) := by decide +kernel
theorem dX12_setNow_37 : decode cX12_setNow 37 = .ok (.iconst (-1), 1) := by decide +kernel
theorem dX12_setNow_38 : decode cX12_setNow 38 = .ok (.goto 12, 3) := by decide +kernel
theorem dX12_setNow_41 : decode cX12_setNow 41 = .ok (.aload_n 0, 1) := by decide +kernel
theorem dX12_setNow_42 : decode cX12_setNow 42 = .ok (.getfield 13, 3) := by decide +kernel
theorem dX12_setNow_45 : decode cX12_setNow 45 = .ok (.bipush 7, 2) := by decide +kernel
theorem dX12_setNow_47 : decode cX12_setNow 47 = .ok (.iload_n 2, 1) := by decide +kernel
theorem dX12_setNow_48 : decode cX12_setNow 48 = .ok (.iadd, 1) := by decide +kernel
theorem dX12_setNow_49 : decode cX12_setNow 49 = .ok (.iaload, 1) := by decide +kernel
theorem dX12_setNow_50 : decode cX12_setNow 50 = .ok (.invokevirtual 431, 3) := by decide +kernel
theorem dX12_setNow_53 : decode cX12_setNow 53 = .ok (.return_, 1) := by decide +kernel
theorem dX12_diesNow_0 : decode cX12_diesNow 0 = .ok (.aload_n 0, 1) := by decide +kernel
theorem dX12_diesNow_1 : decode cX12_diesNow 1 = .ok (.iload_n 1, 1) := by decide +kernel
theorem dX12_diesNow_2 : decode cX12_diesNow 2 = .ok (.invokevirtual 434, 3) := by decide +kernel
theorem dX12_diesNow_5 : decode cX12_diesNow 5 = .ok (.aload_n 0, 1) := by decide +kernel
theorem dX12_diesNow_6 : decode cX12_diesNow 6 = .ok (.invokevirtual 437, 3) := by decide +kernel
theorem dX12_diesNow_9 : decode cX12_diesNow 9 = .ok (.ireturn, 1) := by decide +kernel
theorem dX12_laysNow_0 : decode cX12_laysNow 0 = .ok (.aload_n 0, 1) := by decide +kernel
theorem dX12_laysNow_1 : decode cX12_laysNow 1 = .ok (.iload_n 1, 1) := by decide +kernel
theorem dX12_laysNow_2 : decode cX12_laysNow 2 = .ok (.invokevirtual 434, 3) := by decide +kernel
theorem dX12_laysNow_5 : decode cX12_laysNow 5 = .ok (.aload_n 0, 1) := by decide +kernel
theorem dX12_laysNow_6 : decode cX12_laysNow 6 = .ok (.invokevirtual 440, 3) := by decide +kernel
theorem dX12_laysNow_9 : decode cX12_laysNow 9 = .ok (.ireturn, 1) := by decide +kernel
theorem dX12_worthOf_0 : decode cX12_worthOf 0 = .ok (.aload_n 0, 1) := by decide +kernel
theorem dX12_worthOf_1 : decode cX12_worthOf 1 = .ok (.iconst (-1), 1) := by decide +kernel
theorem dX12_worthOf_2 : decode cX12_worthOf 2 = .ok (.iconst (-1), 1) := by decide +kernel
theorem dX12_worthOf_3 : decode cX12_worthOf 3 = .ok (.aload_n 0, 1) := by decide +kernel
theorem dX12_worthOf_4 : decode cX12_worthOf 4 = .ok (.getfield 13, 3) := by decide +kernel
theorem dX12_worthOf_7 : decode cX12_worthOf 7 = .ok (.iconst 4, 1) := by decide +kernel
theorem dX12_worthOf_8 : decode cX12_worthOf 8 = .ok (.iaload, 1) := by decide +kernel
theorem dX12_worthOf_9 : decode cX12_worthOf 9 = .ok (.invokevirtual 427, 3) := by decide +kernel
theorem dX12_worthOf_12 : decode cX12_worthOf 12 = .ok (.aload_n 0, 1) := by decide +kernel
theorem dX12_worthOf_13 : decode cX12_worthOf 13 = .ok (.iload_n 1, 1) := by decide +kernel
theorem dX12_worthOf_14 : decode cX12_worthOf 14 = .ok (.aload_n 0, 1) := by decide +kernel
theorem dX12_worthOf_15 : decode cX12_worthOf 15 = .ok (.getfield 13, 3) := by decide +kernel
theorem dX12_worthOf_18 : decode cX12_worthOf 18 = .ok (.bipush 7, 2) := by decide +kernel
theorem dX12_worthOf_20 : decode cX12_worthOf 20 = .ok (.iload_n 1, 1) := by decide +kernel
theorem dX12_worthOf_21 : decode cX12_worthOf 21 = .ok (.iadd, 1) := by decide +kernel
theorem dX12_worthOf_22 : decode cX12_worthOf 22 = .ok (.iaload, 1) := by decide +kernel
theorem dX12_worthOf_23 : decode cX12_worthOf 23 = .ok (.invokevirtual 431, 3) := by decide +kernel
theorem dX12_worthOf_26 : decode cX12_worthOf 26 = .ok (.aload_n 0, 1) := by decide +kernel
theorem dX12_worthOf_27 : decode cX12_worthOf 27 = .ok (.iconst 2, 1) := by decide +kernel
theorem dX12_worthOf_28 : decode cX12_worthOf 28 = .ok (.aload_n 0, 1) := by decide +kernel
theorem dX12_worthOf_29 : decode cX12_worthOf 29 = .ok (.getfield 13, 3) := by decide +kernel
theorem dX12_worthOf_32 : decode cX12_worthOf 32 = .ok (.bipush 7, 2) := by decide +kernel
theorem dX12_worthOf_34 : decode cX12_worthOf 34 = .ok (.iload_n 1, 1) := by decide +kernel
theorem dX12_worthOf_35 : decode cX12_worthOf 35 = .ok (.iadd, 1) := by decide +kernel
theorem dX12_worthOf_36 : decode cX12_worthOf 36 = .ok (.iaload, 1) := by decide +kernel
theorem dX12_worthOf_37 : decode cX12_worthOf 37 = .ok (.i2l, 1) := by decide +kernel
theorem dX12_worthOf_38 : decode cX12_worthOf 38 = .ok (.invokevirtual 419, 3) := by decide +kernel
theorem dX12_worthOf_41 : decode cX12_worthOf 41 = .ok (.iconst 0, 1) := by decide +kernel
theorem dX12_worthOf_42 : decode cX12_worthOf 42 = .ok (.bipush 99, 2) := by decide +kernel
theorem dX12_worthOf_44 : decode cX12_worthOf 44 = .ok (.invokestatic 423, 3) := by decide +kernel
theorem dX12_worthOf_47 : decode cX12_worthOf 47 = .ok (.ireturn, 1) := by decide +kernel
theorem dX12_isBarred_0 : decode cX12_isBarred 0 = .ok (.aload_n 0, 1) := by decide +kernel
theorem dX12_isBarred_1 : decode cX12_isBarred 1 = .ok (.iload_n 1, 1) := by decide +kernel
theorem dX12_isBarred_2 : decode cX12_isBarred 2 = .ok (.aload_n 0, 1) := by decide +kernel
theorem dX12_isBarred_3 : decode cX12_isBarred 3 = .ok (.getfield 13, 3) := by decide +kernel
theorem dX12_isBarred_6 : decode cX12_isBarred 6 = .ok (.bipush 39, 2) := by decide +kernel
theorem dX12_isBarred_8 : decode cX12_isBarred 8 = .ok (.iload_n 1, 1) := by decide +kernel
theorem dX12_isBarred_9 : decode cX12_isBarred 9 = .ok (.iadd, 1) := by decide +kernel
theorem dX12_isBarred_10 : decode cX12_isBarred 10 = .ok (.iaload, 1) := by decide +kernel
theorem dX12_isBarred_11 : decode cX12_isBarred 11 = .ok (.aload_n 0, 1) := by decide +kernel
theorem dX12_isBarred_12 : decode cX12_isBarred 12 = .ok (.getfield 13, 3) := by decide +kernel
theorem dX12_isBarred_15 : decode cX12_isBarred 15 = .ok (.iconst 4, 1) := by decide +kernel
theorem dX12_isBarred_16 : decode cX12_isBarred 16 = .ok (.iaload, 1) := by decide +kernel
theorem dX12_isBarred_17 : decode cX12_isBarred 17 = .ok (.invokevirtual 427, 3) := by decide +kernel
theorem dX12_isBarred_20 : decode cX12_isBarred 20 = .ok (.aload_n 0, 1) := by decide +kernel
theorem dX12_isBarred_21 : decode cX12_isBarred 21 = .ok (.iload_n 2, 1) := by decide +kernel
theorem dX12_isBarred_22 : decode cX12_isBarred 22 = .ok (.aload_n 0, 1) := by decide +kernel
theorem dX12_isBarred_23 : decode cX12_isBarred 23 = .ok (.getfield 13, 3) := by decide +kernel
theorem dX12_isBarred_26 : decode cX12_isBarred 26 = .ok (.bipush 7, 2) := by decide +kernel
theorem dX12_isBarred_28 : decode cX12_isBarred 28 = .ok (.iload_n 2, 1) := by decide +kernel
theorem dX12_isBarred_29 : decode cX12_isBarred 29 = .ok (.iadd, 1) := by decide +kernel
theorem dX12_isBarred_30 : decode cX12_isBarred 30 = .ok (.iaload, 1) := by decide +kernel
theorem dX12_isBarred_31 : decode cX12_isBarred 31 = .ok (.invokevirtual 431, 3) := by decide +kernel
theorem dX12_isBarred_34 : decode cX12_isBarred 34 = .ok (.aload_n 0, 1) := by decide +kernel
theorem dX12_isBarred_35 : decode cX12_isBarred 35 = .ok (.iconst 3, 1) := by decide +kernel
theorem dX12_isBarred_36 : decode cX12_isBarred 36 = .ok (.lconst 0, 1) := by decide +kernel
theorem dX12_isBarred_37 : decode cX12_isBarred 37 = .ok (.invokevirtual 419, 3) := by decide +kernel
theorem dX12_isBarred_40 : decode cX12_isBarred 40 = .ok (.lconst 1, 1) := by decide +kernel
theorem dX12_isBarred_41 : decode cX12_isBarred 41 = .ok (.lcmp, 1) := by decide +kernel
theorem dX12_isBarred_42 : decode cX12_isBarred 42 = .ok (.ifCond .ne 7, 3) := by decide +kernel
theorem dX12_isBarred_45 : decode cX12_isBarred 45 = .ok (.iconst 1, 1) := by decide +kernel
theorem dX12_isBarred_46 : decode cX12_isBarred 46 = .ok (.goto 4, 3) := by decide +kernel
theorem dX12_isBarred_49 : decode cX12_isBarred 49 = .ok (.iconst 0, 1) := by decide +kernel
theorem dX12_isBarred_50 : decode cX12_isBarred 50 = .ok (.ireturn, 1) := by decide +kernel
theorem dX12_beginIt_0 : decode cX12_beginIt 0 = .ok (.aload_n 0, 1) := by decide +kernel
theorem dX12_beginIt_1 : decode cX12_beginIt 1 = .ok (.getfield 13, 3) := by decide +kernel
theorem dX12_beginIt_4 : decode cX12_beginIt 4 = .ok (.bipush 51, 2) := by decide +kernel
theorem dX12_beginIt_6 : decode cX12_beginIt 6 = .ok (.iload_n 1, 1) := by decide +kernel
theorem dX12_beginIt_7 : decode cX12_beginIt 7 = .ok (.iadd, 1) := by decide +kernel
theorem dX12_beginIt_8 : decode cX12_beginIt 8 = .ok (.iload_n 2, 1) := by decide +kernel
theorem dX12_beginIt_9 : decode cX12_beginIt 9 = .ok (.iastore, 1) := by decide +kernel
theorem dX12_beginIt_10 : decode cX12_beginIt 10 = .ok (.return_, 1) := by decide +kernel
theorem dX12_beginNow_0 : decode cX12_beginNow 0 = .ok (.iload_n 2, 1) := by decide +kernel
theorem dX12_beginNow_1 : decode cX12_beginNow 1 = .ok (.invokestatic 205, 3) := by decide +kernel
theorem dX12_beginNow_4 : decode cX12_beginNow 4 = .ok (.ifCond .ne 5, 3) := by decide +kernel
theorem dX12_beginNow_7 : decode cX12_beginNow 7 = .ok (.iconst (-1), 1) := by decide +kernel
theorem dX12_beginNow_8 : decode cX12_beginNow 8 = .ok (.ireturn, 1) := by decide +kernel
theorem dX12_beginNow_9 : decode cX12_beginNow 9 = .ok (.aload_n 0, 1) := by decide +kernel
theorem dX12_beginNow_10 : decode cX12_beginNow 10 = .ok (.iload_n 1, 1) := by decide +kernel
theorem dX12_beginNow_11 : decode cX12_beginNow 11 = .ok (.invokevirtual 196, 3) := by decide +kernel
theorem dX12_beginNow_14 : decode cX12_beginNow 14 = .ok (.ifCond .ne 6, 3) := by decide +kernel
theorem dX12_beginNow_17 : decode cX12_beginNow 17 = .ok (.bipush (-2), 2) := by decide +kernel
theorem dX12_beginNow_19 : decode cX12_beginNow 19 = .ok (.ireturn, 1) := by decide +kernel
theorem dX12_beginNow_20 : decode cX12_beginNow 20 = .ok (.aload_n 0, 1) := by decide +kernel
theorem dX12_beginNow_21 : decode cX12_beginNow 21 = .ok (.iload_n 1, 1) := by decide +kernel
theorem dX12_beginNow_22 : decode cX12_beginNow 22 = .ok (.iload_n 2, 1) := by decide +kernel
theorem dX12_beginNow_23 : decode cX12_beginNow 23 = .ok (.invokevirtual 218, 3) := by decide +kernel
theorem dX12_beginNow_26 : decode cX12_beginNow 26 = .ok (.ifCond .ne 6, 3) := by decide +kernel
theorem dX12_beginNow_29 : decode cX12_beginNow 29 = .ok (.bipush (-3), 2) := by decide +kernel
theorem dX12_beginNow_31 : decode cX12_beginNow 31 = .ok (.ireturn, 1) := by decide +kernel
theorem dX12_beginNow_32 : decode cX12_beginNow 32 = .ok (.aload_n 0, 1) := by decide +kernel
theorem dX12_beginNow_33 : decode cX12_beginNow 33 = .ok (.iconst 0, 1) := by decide +kernel
theorem dX12_beginNow_34 : decode cX12_beginNow 34 = .ok (.invokevirtual 443, 3) := by decide +kernel
theorem dX12_beginNow_37 : decode cX12_beginNow 37 = .ok (.aload_n 0, 1) := by decide +kernel
theorem dX12_beginNow_38 : decode cX12_beginNow 38 = .ok (.iload_n 1, 1) := by decide +kernel
theorem dX12_beginNow_39 : decode cX12_beginNow 39 = .ok (.iload_n 2, 1) := by decide +kernel
theorem dX12_beginNow_40 : decode cX12_beginNow 40 = .ok (.invokevirtual 446, 3) := by decide +kernel
theorem dX12_beginNow_43 : decode cX12_beginNow 43 = .ok (.aload_n 0, 1) := by decide +kernel
theorem dX12_beginNow_44 : decode cX12_beginNow 44 = .ok (.invokevirtual 449, 3) := by decide +kernel
theorem dX12_beginNow_47 : decode cX12_beginNow 47 = .ok (.ireturn, 1) := by decide +kernel
theorem dX12_begin__0 : decode cX12_begin_ 0 = .ok (.aload_n 0, 1) := by decide +kernel
theorem dX12_begin__1 : decode cX12_begin_ 1 = .ok (.iconst 0, 1) := by decide +kernel
theorem dX12_begin__2 : decode cX12_begin_ 2 = .ok (.putfield 153, 3) := by decide +kernel
theorem dX12_begin__5 : decode cX12_begin_ 5 = .ok (.aload_n 0, 1) := by decide +kernel
theorem dX12_begin__6 : decode cX12_begin_ 6 = .ok (.aload_n 0, 1) := by decide +kernel
theorem dX12_begin__7 : decode cX12_begin_ 7 = .ok (.iload_n 1, 1) := by decide +kernel
theorem dX12_begin__8 : decode cX12_begin_ 8 = .ok (.iload_n 2, 1) := by decide +kernel
theorem dX12_begin__9 : decode cX12_begin_ 9 = .ok (.invokevirtual 452, 3) := by decide +kernel
theorem dX12_begin__12 : decode cX12_begin_ 12 = .ok (.invokevirtual 162, 3) := by decide +kernel
theorem dX12_begin__15 : decode cX12_begin_ 15 = .ok (.ireturn, 1) := by decide +kernel
theorem dX12_putOn_0 : decode cX12_putOn 0 = .ok (.aload_n 0, 1) := by decide +kernel
theorem dX12_putOn_1 : decode cX12_putOn 1 = .ok (.getfield 13, 3) := by decide +kernel
theorem dX12_putOn_4 : decode cX12_putOn 4 = .ok (.bipush 51, 2) := by decide +kernel
theorem dX12_putOn_6 : decode cX12_putOn 6 = .ok (.iload_n 1, 1) := by decide +kernel
theorem dX12_putOn_7 : decode cX12_putOn 7 = .ok (.iadd, 1) := by decide +kernel
theorem dX12_putOn_8 : decode cX12_putOn 8 = .ok (.iaload, 1) := by decide +kernel
theorem dX12_putOn_9 : decode cX12_putOn 9 = .ok (.istore_n 3, 1) := by decide +kernel
theorem dX12_putOn_10 : decode cX12_putOn 10 = .ok (.aload_n 0, 1) := by decide +kernel
theorem dX12_putOn_11 : decode cX12_putOn 11 = .ok (.getfield 13, 3) := by decide +kernel
theorem dX12_putOn_14 : decode cX12_putOn 14 = .ok (.bipush 7, 2) := by decide +kernel
theorem dX12_putOn_16 : decode cX12_putOn 16 = .ok (.iload_n 3, 1) := by decide +kernel
theorem dX12_putOn_17 : decode cX12_putOn 17 = .ok (.iadd, 1) := by decide +kernel
theorem dX12_putOn_18 : decode cX12_putOn 18 = .ok (.aload_n 0, 1) := by decide +kernel
theorem dX12_putOn_19 : decode cX12_putOn 19 = .ok (.getfield 13, 3) := by decide +kernel
theorem dX12_putOn_22 : decode cX12_putOn 22 = .ok (.bipush 7, 2) := by decide +kernel
theorem dX12_putOn_24 : decode cX12_putOn 24 = .ok (.iload_n 3, 1) := by decide +kernel
theorem dX12_putOn_25 : decode cX12_putOn 25 = .ok (.iadd, 1) := by decide +kernel
theorem dX12_putOn_26 : decode cX12_putOn 26 = .ok (.iaload, 1) := by decide +kernel
theorem dX12_putOn_27 : decode cX12_putOn 27 = .ok (.iload_n 2, 1) := by decide +kernel
theorem dX12_putOn_28 : decode cX12_putOn 28 = .ok (.iadd, 1) := by decide +kernel
theorem dX12_putOn_29 : decode cX12_putOn 29 = .ok (.i2l, 1) := by decide +kernel
theorem dX12_putOn_30 : decode cX12_putOn 30 = .ok (.iconst 0, 1) := by decide +kernel
theorem dX12_putOn_31 : decode cX12_putOn 31 = .ok (.bipush 9, 2) := by decide +kernel
theorem dX12_putOn_33 : decode cX12_putOn 33 = .ok (.invokestatic 423, 3) := by decide +kernel
theorem dX12_putOn_36 : decode cX12_putOn 36 = .ok (.iastore, 1) := by decide +kernel
theorem dX12_putOn_37 : decode cX12_putOn 37 = .ok (.aload_n 0, 1) := by decide +kernel
theorem dX12_putOn_38 : decode cX12_putOn 38 = .ok (.getfield 13, 3) := by decide +kernel
theorem dX12_putOn_41 : decode cX12_putOn 41 = .ok (.bipush 51, 2) := by decide +kernel
theorem dX12_putOn_43 : decode cX12_putOn 43 = .ok (.iload_n 1, 1) := by decide +kernel
theorem dX12_putOn_44 : decode cX12_putOn 44 = .ok (.iadd, 1) := by decide +kernel
theorem dX12_putOn_45 : decode cX12_putOn 45 = .ok (.aload_n 0, 1) := by decide +kernel
theorem dX12_putOn_46 : decode cX12_putOn 46 = .ok (.getfield 13, 3) := by decide +kernel
theorem dX12_putOn_49 : decode cX12_putOn 49 = .ok (.bipush 7, 2) := by decide +kernel
theorem dX12_putOn_51 : decode cX12_putOn 51 = .ok (.iload_n 3, 1) := by decide +kernel
theorem dX12_putOn_52 : decode cX12_putOn 52 = .ok (.iadd, 1) := by decide +kernel
theorem dX12_putOn_53 : decode cX12_putOn 53 = .ok (.iaload, 1) := by decide +kernel
theorem dX12_putOn_54 : decode cX12_putOn 54 = .ok (.bipush 9, 2) := by decide +kernel
theorem dX12_putOn_56 : decode cX12_putOn 56 = .ok (.if_icmp .ne 7, 3) := by decide +kernel
theorem dX12_putOn_59 : decode cX12_putOn 59 = .ok (.iconst (-1), 1) := by decide +kernel
theorem dX12_putOn_60 : decode cX12_putOn 60 = .ok (.goto 4, 3) := by decide +kernel
theorem dX12_putOn_63 : decode cX12_putOn 63 = .ok (.iload_n 3, 1) := by decide +kernel
theorem dX12_putOn_64 : decode cX12_putOn 64 = .ok (.iastore, 1) := by decide +kernel
theorem dX12_putOn_65 : decode cX12_putOn 65 = .ok (.aload_n 0, 1) := by decide +kernel
theorem dX12_putOn_66 : decode cX12_putOn 66 = .ok (.getfield 13, 3) := by decide +kernel
theorem dX12_putOn_69 : decode cX12_putOn 69 = .ok (.bipush 7, 2) := by decide +kernel
theorem dX12_putOn_71 : decode cX12_putOn 71 = .ok (.iload_n 3, 1) := by decide +kernel
theorem dX12_putOn_72 : decode cX12_putOn 72 = .ok (.iadd, 1) := by decide +kernel
theorem dX12_putOn_73 : decode cX12_putOn 73 = .ok (.iaload, 1) := by decide +kernel
theorem dX12_putOn_74 : decode cX12_putOn 74 = .ok (.ireturn, 1) := by decide +kernel
theorem dX12_layNow_0 : decode cX12_layNow 0 = .ok (.aload_n 0, 1) := by decide +kernel
theorem dX12_layNow_1 : decode cX12_layNow 1 = .ok (.iload_n 1, 1) := by decide +kernel
theorem dX12_layNow_2 : decode cX12_layNow 2 = .ok (.invokevirtual 196, 3) := by decide +kernel
theorem dX12_layNow_5 : decode cX12_layNow 5 = .ok (.ifCond .ne 6, 3) := by decide +kernel
theorem dX12_layNow_8 : decode cX12_layNow 8 = .ok (.bipush (-2), 2) := by decide +kernel
theorem dX12_layNow_10 : decode cX12_layNow 10 = .ok (.ireturn, 1) := by decide +kernel
theorem dX12_layNow_11 : decode cX12_layNow 11 = .ok (.aload_n 0, 1) := by decide +kernel
theorem dX12_layNow_12 : decode cX12_layNow 12 = .ok (.getfield 13, 3) := by decide +kernel
theorem dX12_layNow_15 : decode cX12_layNow 15 = .ok (.bipush 51, 2) := by decide +kernel
theorem dX12_layNow_17 : decode cX12_layNow 17 = .ok (.iload_n 1, 1) := by decide +kernel
theorem dX12_layNow_18 : decode cX12_layNow 18 = .ok (.iadd, 1) := by decide +kernel
theorem dX12_layNow_19 : decode cX12_layNow 19 = .ok (.iaload, 1) := by decide +kernel
theorem dX12_layNow_20 : decode cX12_layNow 20 = .ok (.iconst (-1), 1) := by decide +kernel
theorem dX12_layNow_21 : decode cX12_layNow 21 = .ok (.if_icmp .ne 6, 3) := by decide +kernel
theorem dX12_layNow_24 : decode cX12_layNow 24 = .ok (.bipush (-3), 2) := by decide +kernel
theorem dX12_layNow_26 : decode cX12_layNow 26 = .ok (.ireturn, 1) := by decide +kernel
theorem dX12_layNow_27 : decode cX12_layNow 27 = .ok (.aload_n 0, 1) := by decide +kernel
theorem dX12_layNow_28 : decode cX12_layNow 28 = .ok (.iconst 1, 1) := by decide +kernel
theorem dX12_layNow_29 : decode cX12_layNow 29 = .ok (.invokevirtual 443, 3) := by decide +kernel
theorem dX12_layNow_32 : decode cX12_layNow 32 = .ok (.aload_n 0, 1) := by decide +kernel
theorem dX12_layNow_33 : decode cX12_layNow 33 = .ok (.iload_n 1, 1) := by decide +kernel
theorem dX12_layNow_34 : decode cX12_layNow 34 = .ok (.iconst 1, 1) := by decide +kernel
theorem dX12_layNow_35 : decode cX12_layNow 35 = .ok (.invokevirtual 455, 3) := by decide +kernel
theorem dX12_layNow_38 : decode cX12_layNow 38 = .ok (.ireturn, 1) := by decide +kernel
theorem dX12_lay_0 : decode cX12_lay 0 = .ok (.aload_n 0, 1) := by decide +kernel
theorem dX12_lay_1 : decode cX12_lay 1 = .ok (.iconst 0, 1) := by decide +kernel
theorem dX12_lay_2 : decode cX12_lay 2 = .ok (.putfield 153, 3) := by decide +kernel
theorem dX12_lay_5 : decode cX12_lay 5 = .ok (.aload_n 0, 1) := by decide +kernel
theorem dX12_lay_6 : decode cX12_lay 6 = .ok (.aload_n 0, 1) := by decide +kernel
theorem dX12_lay_7 : decode cX12_lay 7 = .ok (.iload_n 1, 1) := by decide +kernel
theorem dX12_lay_8 : decode cX12_lay 8 = .ok (.invokevirtual 458, 3) := by decide +kernel
theorem dX12_lay_11 : decode cX12_lay 11 = .ok (.invokevirtual 162, 3) := by decide +kernel
theorem dX12_lay_14 : decode cX12_lay 14 = .ok (.ireturn, 1) := by decide +kernel
theorem dX12_dieIt_0 : decode cX12_dieIt 0 = .ok (.aload_n 0, 1) := by decide +kernel
theorem dX12_dieIt_1 : decode cX12_dieIt 1 = .ok (.getfield 13, 3) := by decide +kernel
theorem dX12_dieIt_4 : decode cX12_dieIt 4 = .ok (.bipush 51, 2) := by decide +kernel
theorem dX12_dieIt_6 : decode cX12_dieIt 6 = .ok (.iload_n 1, 1) := by decide +kernel
theorem dX12_dieIt_7 : decode cX12_dieIt 7 = .ok (.iadd, 1) := by decide +kernel
theorem dX12_dieIt_8 : decode cX12_dieIt 8 = .ok (.iaload, 1) := by decide +kernel
theorem dX12_dieIt_9 : decode cX12_dieIt 9 = .ok (.istore_n 2, 1) := by decide +kernel
theorem dX12_dieIt_10 : decode cX12_dieIt 10 = .ok (.aload_n 0, 1) := by decide +kernel
theorem dX12_dieIt_11 : decode cX12_dieIt 11 = .ok (.getfield 13, 3) := by decide +kernel
theorem dX12_dieIt_14 : decode cX12_dieIt 14 = .ok (.bipush 45, 2) := by decide +kernel
theorem dX12_dieIt_16 : decode cX12_dieIt 16 = .ok (.iload_n 1, 1) := by decide +kernel
theorem dX12_dieIt_17 : decode cX12_dieIt 17 = .ok (.iadd, 1) := by decide +kernel
theorem dX12_dieIt_18 : decode cX12_dieIt 18 = .ok (.iconst 0, 1) := by decide +kernel
theorem dX12_dieIt_19 : decode cX12_dieIt 19 = .ok (.iastore, 1) := by decide +kernel
theorem dX12_dieIt_20 : decode cX12_dieIt 20 = .ok (.aload_n 0, 1) := by decide +kernel
theorem dX12_dieIt_21 : decode cX12_dieIt 21 = .ok (.getfield 13, 3) := by decide +kernel
theorem dX12_dieIt_24 : decode cX12_dieIt 24 = .ok (.bipush 51, 2) := by decide +kernel
theorem dX12_dieIt_26 : decode cX12_dieIt 26 = .ok (.iload_n 1, 1) := by decide +kernel
theorem dX12_dieIt_27 : decode cX12_dieIt 27 = .ok (.iadd, 1) := by decide +kernel
theorem dX12_dieIt_28 : decode cX12_dieIt 28 = .ok (.iconst (-1), 1) := by decide +kernel
theorem dX12_dieIt_29 : decode cX12_dieIt 29 = .ok (.iastore, 1) := by decide +kernel
theorem dX12_dieIt_30 : decode cX12_dieIt 30 = .ok (.iload_n 2, 1) := by decide +kernel
theorem dX12_dieIt_31 : decode cX12_dieIt 31 = .ok (.iconst (-1), 1) := by decide +kernel
theorem dX12_dieIt_32 : decode cX12_dieIt 32 = .ok (.if_icmp .ne 5, 3) := by decide +kernel
theorem dX12_dieIt_35 : decode cX12_dieIt 35 = .ok (.iconst 0, 1) := by decide +kernel
theorem dX12_dieIt_36 : decode cX12_dieIt 36 = .ok (.ireturn, 1) := by decide +kernel
theorem dX12_dieIt_37 : decode cX12_dieIt 37 = .ok (.aload_n 0, 1) := by decide +kernel
theorem dX12_dieIt_38 : decode cX12_dieIt 38 = .ok (.getfield 13, 3) := by decide +kernel
theorem dX12_dieIt_41 : decode cX12_dieIt 41 = .ok (.bipush 23, 2) := by decide +kernel
theorem dX12_dieIt_43 : decode cX12_dieIt 43 = .ok (.iload_n 2, 1) := by decide +kernel
theorem dX12_dieIt_44 : decode cX12_dieIt 44 = .ok (.iadd, 1) := by decide +kernel
theorem dX12_dieIt_45 : decode cX12_dieIt 45 = .ok (.iconst 1, 1) := by decide +kernel
theorem dX12_dieIt_46 : decode cX12_dieIt 46 = .ok (.iastore, 1) := by decide +kernel
theorem dX12_dieIt_47 : decode cX12_dieIt 47 = .ok (.aload_n 0, 1) := by decide +kernel
theorem dX12_dieIt_48 : decode cX12_dieIt 48 = .ok (.getfield 13, 3) := by decide +kernel
theorem dX12_dieIt_51 : decode cX12_dieIt 51 = .ok (.bipush 7, 2) := by decide +kernel
theorem dX12_dieIt_53 : decode cX12_dieIt 53 = .ok (.iload_n 2, 1) := by decide +kernel
theorem dX12_dieIt_54 : decode cX12_dieIt 54 = .ok (.iadd, 1) := by decide +kernel
theorem dX12_dieIt_55 : decode cX12_dieIt 55 = .ok (.iaload, 1) := by decide +kernel
theorem dX12_dieIt_56 : decode cX12_dieIt 56 = .ok (.ireturn, 1) := by decide +kernel
theorem dX12_dieNow_0 : decode cX12_dieNow 0 = .ok (.aload_n 0, 1) := by decide +kernel
theorem dX12_dieNow_1 : decode cX12_dieNow 1 = .ok (.iload_n 1, 1) := by decide +kernel
theorem dX12_dieNow_2 : decode cX12_dieNow 2 = .ok (.invokevirtual 196, 3) := by decide +kernel
theorem dX12_dieNow_5 : decode cX12_dieNow 5 = .ok (.ifCond .ne 6, 3) := by decide +kernel
theorem dX12_dieNow_8 : decode cX12_dieNow 8 = .ok (.bipush (-2), 2) := by decide +kernel
theorem dX12_dieNow_10 : decode cX12_dieNow 10 = .ok (.ireturn, 1) := by decide +kernel
theorem dX12_dieNow_11 : decode cX12_dieNow 11 = .ok (.aload_n 0, 1) := by decide +kernel
theorem dX12_dieNow_12 : decode cX12_dieNow 12 = .ok (.iload_n 1, 1) := by decide +kernel
theorem dX12_dieNow_13 : decode cX12_dieNow 13 = .ok (.invokevirtual 182, 3) := by decide +kernel
theorem dX12_dieNow_16 : decode cX12_dieNow 16 = .ok (.ifCond .ne 6, 3) := by decide +kernel
theorem dX12_dieNow_19 : decode cX12_dieNow 19 = .ok (.bipush (-3), 2) := by decide +kernel
theorem dX12_dieNow_21 : decode cX12_dieNow 21 = .ok (.ireturn, 1) := by decide +kernel
theorem dX12_dieNow_22 : decode cX12_dieNow 22 = .ok (.aload_n 0, 1) := by decide +kernel
theorem dX12_dieNow_23 : decode cX12_dieNow 23 = .ok (.iconst 2, 1) := by decide +kernel
theorem dX12_dieNow_24 : decode cX12_dieNow 24 = .ok (.invokevirtual 443, 3) := by decide +kernel
theorem dX12_dieNow_27 : decode cX12_dieNow 27 = .ok (.aload_n 0, 1) := by decide +kernel
theorem dX12_dieNow_28 : decode cX12_dieNow 28 = .ok (.iload_n 1, 1) := by decide +kernel
theorem dX12_dieNow_29 : decode cX12_dieNow 29 = .ok (.invokevirtual 461, 3) := by decide +kernel
theorem dX12_dieNow_32 : decode cX12_dieNow 32 = .ok (.ireturn, 1) := by decide +kernel
theorem dX12_die_0 : decode cX12_die 0 = .ok (.aload_n 0, 1) := by decide +kernel
theorem dX12_die_1 : decode cX12_die 1 = .ok (.iconst 0, 1) := by decide +kernel
theorem dX12_die_2 : decode cX12_die 2 = .ok (.putfield 153, 3) := by decide +kernel
theorem dX12_die_5 : decode cX12_die 5 = .ok (.aload_n 0, 1) := by decide +kernel
theorem dX12_die_6 : decode cX12_die 6 = .ok (.aload_n 0, 1) := by decide +kernel
theorem dX12_die_7 : decode cX12_die 7 = .ok (.iload_n 1, 1) := by decide +kernel
theorem dX12_die_8 : decode cX12_die 8 = .ok (.invokevirtual 464, 3) := by decide +kernel
theorem dX12_die_11 : decode cX12_die 11 = .ok (.invokevirtual 162, 3) := by decide +kernel
theorem dX12_die_14 : decode cX12_die 14 = .ok (.ireturn, 1) := by decide +kernel
theorem dX12_passIt_0 : decode cX12_passIt 0 = .ok (.iconst 0, 1) := by decide +kernel
theorem dX12_passIt_1 : decode cX12_passIt 1 = .ok (.istore_n 1, 1) := by decide +kernel
theorem dX12_passIt_2 : decode cX12_passIt 2 = .ok (.iconst 0, 1) := by decide +kernel
theorem dX12_passIt_3 : decode cX12_passIt 3 = .ok (.istore_n 2, 1) := by decide +kernel
theorem dX12_passIt_4 : decode cX12_passIt 4 = .ok (.iload_n 2, 1) := by decide +kernel
theorem dX12_passIt_5 : decode cX12_passIt 5 = .ok (.aload_n 0, 1) := by decide +kernel
theorem dX12_passIt_6 : decode cX12_passIt 6 = .ok (.getfield 13, 3) := by decide +kernel
theorem dX12_passIt_9 : decode cX12_passIt 9 = .ok (.iconst 0, 1) := by decide +kernel
theorem dX12_passIt_10 : decode cX12_passIt 10 = .ok (.iaload, 1) := by decide +kernel
theorem dX12_passIt_11 : decode cX12_passIt 11 = .ok (.if_icmp .ge 51, 3) := by decide +kernel
theorem dX12_passIt_14 : decode cX12_passIt 14 = .ok (.aload_n 0, 1) := by decide +kernel
theorem dX12_passIt_15 : decode cX12_passIt 15 = .ok (.getfield 13, 3) := by decide +kernel
theorem dX12_passIt_18 : decode cX12_passIt 18 = .ok (.bipush 51, 2) := by decide +kernel
theorem dX12_passIt_20 : decode cX12_passIt 20 = .ok (.iload_n 2, 1) := by decide +kernel
theorem dX12_passIt_21 : decode cX12_passIt 21 = .ok (.iadd, 1) := by decide +kernel
theorem dX12_passIt_22 : decode cX12_passIt 22 = .ok (.iaload, 1) := by decide +kernel
theorem dX12_passIt_23 : decode cX12_passIt 23 = .ok (.istore_n 3, 1) := by decide +kernel
theorem dX12_passIt_24 : decode cX12_passIt 24 = .ok (.iload_n 3, 1) := by decide +kernel
theorem dX12_passIt_25 : decode cX12_passIt 25 = .ok (.iconst (-1), 1) := by decide +kernel
theorem dX12_passIt_26 : decode cX12_passIt 26 = .ok (.if_icmp .eq 30, 3) := by decide +kernel
theorem dX12_passIt_29 : decode cX12_passIt 29 = .ok (.aload_n 0, 1) := by decide +kernel
theorem dX12_passIt_30 : decode cX12_passIt 30 = .ok (.getfield 13, 3) := by decide +kernel
theorem dX12_passIt_33 : decode cX12_passIt 33 = .ok (.bipush 7, 2) := by decide +kernel
theorem dX12_passIt_35 : decode cX12_passIt 35 = .ok (.iload_n 3, 1) := by decide +kernel
theorem dX12_passIt_36 : decode cX12_passIt 36 = .ok (.iadd, 1) := by decide +kernel
theorem dX12_passIt_37 : decode cX12_passIt 37 = .ok (.iaload, 1) := by decide +kernel
theorem dX12_passIt_38 : decode cX12_passIt 38 = .ok (.istore 4, 2) := by decide +kernel
theorem dX12_passIt_40 : decode cX12_passIt 40 = .ok (.iload_n 1, 1) := by decide +kernel
theorem dX12_passIt_41 : decode cX12_passIt 41 = .ok (.aload_n 0, 1) := by decide +kernel
theorem dX12_passIt_42 : decode cX12_passIt 42 = .ok (.iload_n 2, 1) := by decide +kernel
theorem dX12_passIt_43 : decode cX12_passIt 43 = .ok (.aload_n 0, 1) := by decide +kernel
theorem dX12_passIt_44 : decode cX12_passIt 44 = .ok (.iload_n 2, 1) := by decide +kernel
theorem dX12_passIt_45 : decode cX12_passIt 45 = .ok (.invokevirtual 202, 3) := by decide +kernel
theorem dX12_passIt_48 : decode cX12_passIt 48 = .ok (.invokevirtual 455, 3) := by decide +kernel
theorem dX12_passIt_51 : decode cX12_passIt 51 = .ok (.iload 4, 2) := by decide +kernel
theorem dX12_passIt_53 : decode cX12_passIt 53 = .ok (.isub, 1) := by decide +kernel
theorem dX12_passIt_54 : decode cX12_passIt 54 = .ok (.iadd, 1) := by decide +kernel
theorem dX12_passIt_55 : decode cX12_passIt 55 = .ok (.istore_n 1, 1) := by decide +kernel
theorem dX12_passIt_56 : decode cX12_passIt 56 = .ok (.iinc 2 1, 3) := by decide +kernel
theorem dX12_passIt_59 : decode cX12_passIt 59 = .ok (.goto (-55), 3) := by decide +kernel
theorem dX12_passIt_62 : decode cX12_passIt 62 = .ok (.iconst 0, 1) := by decide +kernel
theorem dX12_passIt_63 : decode cX12_passIt 63 = .ok (.istore_n 2, 1) := by decide +kernel
theorem dX12_passIt_64 : decode cX12_passIt 64 = .ok (.iload_n 2, 1) := by decide +kernel
theorem dX12_passIt_65 : decode cX12_passIt 65 = .ok (.aload_n 0, 1) := by decide +kernel
theorem dX12_passIt_66 : decode cX12_passIt 66 = .ok (.getfield 13, 3) := by decide +kernel
theorem dX12_passIt_69 : decode cX12_passIt 69 = .ok (.iconst 0, 1) := by decide +kernel
theorem dX12_passIt_70 : decode cX12_passIt 70 = .ok (.iaload, 1) := by decide +kernel
theorem dX12_passIt_71 : decode cX12_passIt 71 = .ok (.if_icmp .ge 48, 3) := by decide +kernel
theorem dX12_passIt_74 : decode cX12_passIt 74 = .ok (.aload_n 0, 1) := by decide +kernel
theorem dX12_passIt_75 : decode cX12_passIt 75 = .ok (.getfield 13, 3) := by decide +kernel
theorem dX12_passIt_78 : decode cX12_passIt 78 = .ok (.bipush 39, 2) := by decide +kernel
theorem dX12_passIt_80 : decode cX12_passIt 80 = .ok (.iload_n 2, 1) := by decide +kernel
theorem dX12_passIt_81 : decode cX12_passIt 81 = .ok (.iadd, 1) := by decide +kernel
theorem dX12_passIt_82 : decode cX12_passIt 82 = .ok (.dup2, 1) := by decide +kernel
theorem dX12_passIt_83 : decode cX12_passIt 83 = .ok (.iaload, 1) := by decide +kernel
theorem dX12_passIt_84 : decode cX12_passIt 84 = .ok (.aload_n 0, 1) := by decide +kernel
theorem dX12_passIt_85 : decode cX12_passIt 85 = .ok (.iload_n 2, 1) := by decide +kernel
theorem dX12_passIt_86 : decode cX12_passIt 86 = .ok (.invokevirtual 182, 3) := by decide +kernel
theorem dX12_passIt_89 : decode cX12_passIt 89 = .ok (.ifCond .eq 21, 3) := by decide +kernel
theorem dX12_passIt_92 : decode cX12_passIt 92 = .ok (.aload_n 0, 1) := by decide +kernel
theorem dX12_passIt_93 : decode cX12_passIt 93 = .ok (.getfield 13, 3) := by decide +kernel
theorem dX12_passIt_96 : decode cX12_passIt 96 = .ok (.bipush 39, 2) := by decide +kernel
theorem dX12_passIt_98 : decode cX12_passIt 98 = .ok (.iload_n 2, 1) := by decide +kernel
theorem dX12_passIt_99 : decode cX12_passIt 99 = .ok (.iadd, 1) := by decide +kernel
theorem dX12_passIt_100 : decode cX12_passIt 100 = .ok (.iaload, 1) := by decide +kernel
theorem dX12_passIt_101 : decode cX12_passIt 101 = .ok (.bipush 99, 2) := by decide +kernel
theorem dX12_passIt_103 : decode cX12_passIt 103 = .ok (.if_icmp .ge 7, 3) := by decide +kernel
theorem dX12_passIt_106 : decode cX12_passIt 106 = .ok (.iconst 1, 1) := by decide +kernel
theorem dX12_passIt_107 : decode cX12_passIt 107 = .ok (.goto 4, 3) := by decide +kernel
theorem dX12_passIt_110 : decode cX12_passIt 110 = .ok (.iconst 0, 1) := by decide +kernel
theorem dX12_passIt_111 : decode cX12_passIt 111 = .ok (.iadd, 1) := by decide +kernel
theorem dX12_passIt_112 : decode cX12_passIt 112 = .ok (.iastore, 1) := by decide +kernel
theorem dX12_passIt_113 : decode cX12_passIt 113 = .ok (.iinc 2 1, 3) := by decide +kernel
theorem dX12_passIt_116 : decode cX12_passIt 116 = .ok (.goto (-52), 3) := by decide +kernel
theorem dX12_passIt_119 : decode cX12_passIt 119 = .ok (.aload_n 0, 1) := by decide +kernel
theorem dX12_passIt_120 : decode cX12_passIt 120 = .ok (.getfield 13, 3) := by decide +kernel
theorem dX12_passIt_123 : decode cX12_passIt 123 = .ok (.iconst 4, 1) := by decide +kernel
theorem dX12_passIt_124 : decode cX12_passIt 124 = .ok (.dup2, 1) := by decide +kernel
theorem dX12_passIt_125 : decode cX12_passIt 125 = .ok (.iaload, 1) := by decide +kernel
theorem dX12_passIt_126 : decode cX12_passIt 126 = .ok (.iconst 1, 1) := by decide +kernel
theorem dX12_passIt_127 : decode cX12_passIt 127 = .ok (.iadd, 1) := by decide +kernel
theorem dX12_passIt_128 : decode cX12_passIt 128 = .ok (.iastore, 1) := by decide +kernel
theorem dX12_passIt_129 : decode cX12_passIt 129 = .ok (.iload_n 1, 1) := by decide +kernel
theorem dX12_passIt_130 : decode cX12_passIt 130 = .ok (.ireturn, 1) := by decide +kernel
theorem dX12_passNow_0 : decode cX12_passNow 0 = .ok (.aload_n 0, 1) := by decide +kernel
theorem dX12_passNow_1 : decode cX12_passNow 1 = .ok (.getfield 13, 3) := by decide +kernel
theorem dX12_passNow_4 : decode cX12_passNow 4 = .ok (.iconst 4, 1) := by decide +kernel
theorem dX12_passNow_5 : decode cX12_passNow 5 = .ok (.iaload, 1) := by decide +kernel
theorem dX12_passNow_6 : decode cX12_passNow 6 = .ok (.sipush 999, 3) := by decide +kernel
theorem dX12_passNow_9 : decode cX12_passNow 9 = .ok (.if_icmp .ne 6, 3) := by decide +kernel
theorem dX12_passNow_12 : decode cX12_passNow 12 = .ok (.bipush (-3), 2) := by decide +kernel
theorem dX12_passNow_14 : decode cX12_passNow 14 = .ok (.ireturn, 1) := by decide +kernel
theorem dX12_passNow_15 : decode cX12_passNow 15 = .ok (.aload_n 0, 1) := by decide +kernel
theorem dX12_passNow_16 : decode cX12_passNow 16 = .ok (.iconst 3, 1) := by decide +kernel
theorem dX12_passNow_17 : decode cX12_passNow 17 = .ok (.invokevirtual 443, 3) := by decide +kernel
theorem dX12_passNow_20 : decode cX12_passNow 20 = .ok (.aload_n 0, 1) := by decide +kernel
theorem dX12_passNow_21 : decode cX12_passNow 21 = .ok (.invokevirtual 467, 3) := by decide +kernel
theorem dX12_passNow_24 : decode cX12_passNow 24 = .ok (.ireturn, 1) := by decide +kernel
theorem dX12_pass_0 : decode cX12_pass 0 = .ok (.aload_n 0, 1) := by decide +kernel
theorem dX12_pass_1 : decode cX12_pass 1 = .ok (.iconst 0, 1) := by decide +kernel
theorem dX12_pass_2 : decode cX12_pass 2 = .ok (.putfield 153, 3) := by decide +kernel
theorem dX12_pass_5 : decode cX12_pass 5 = .ok (.aload_n 0, 1) := by decide +kernel
theorem dX12_pass_6 : decode cX12_pass 6 = .ok (.aload_n 0, 1) := by decide +kernel
theorem dX12_pass_7 : decode cX12_pass 7 = .ok (.invokevirtual 470, 3) := by decide +kernel
theorem dX12_pass_10 : decode cX12_pass 10 = .ok (.invokevirtual 162, 3) := by decide +kernel
theorem dX12_pass_13 : decode cX12_pass 13 = .ok (.ireturn, 1) := by decide +kernel
theorem dX12_ageIn_0 : decode cX12_ageIn 0 = .ok (.aload_n 0, 1) := by decide +kernel
theorem dX12_ageIn_1 : decode cX12_ageIn 1 = .ok (.getfield 13, 3) := by decide +kernel
theorem dX12_ageIn_4 : decode cX12_ageIn 4 = .ok (.bipush 39, 2) := by decide +kernel
theorem dX12_ageIn_6 : decode cX12_ageIn 6 = .ok (.iload_n 1, 1) := by decide +kernel
theorem dX12_ageIn_7 : decode cX12_ageIn 7 = .ok (.iadd, 1) := by decide +kernel
theorem dX12_ageIn_8 : decode cX12_ageIn 8 = .ok (.iaload, 1) := by decide +kernel
theorem dX12_ageIn_9 : decode cX12_ageIn 9 = .ok (.i2l, 1) := by decide +kernel
theorem dX12_ageIn_10 : decode cX12_ageIn 10 = .ok (.iload_n 2, 1) := by decide +kernel
theorem dX12_ageIn_11 : decode cX12_ageIn 11 = .ok (.i2l, 1) := by decide +kernel
theorem dX12_ageIn_12 : decode cX12_ageIn 12 = .ok (.ladd, 1) := by decide +kernel
theorem dX12_ageIn_13 : decode cX12_ageIn 13 = .ok (.iconst 0, 1) := by decide +kernel
theorem dX12_ageIn_14 : decode cX12_ageIn 14 = .ok (.bipush 99, 2) := by decide +kernel
theorem dX12_ageIn_16 : decode cX12_ageIn 16 = .ok (.invokestatic 423, 3) := by decide +kernel
theorem dX12_ageIn_19 : decode cX12_ageIn 19 = .ok (.ireturn, 1) := by decide +kernel
theorem dX12_staying_0 : decode cX12_staying 0 = .ok (.lload_n 0, 1) := by decide +kernel
theorem dX12_staying_1 : decode cX12_staying 1 = .ok (.sipush 1000, 3) := by decide +kernel
theorem dX12_staying_4 : decode cX12_staying 4 = .ok (.iload_n 2, 1) := by decide +kernel
theorem dX12_staying_5 : decode cX12_staying 5 = .ok (.isub, 1) := by decide +kernel
theorem dX12_staying_6 : decode cX12_staying 6 = .ok (.i2l, 1) := by decide +kernel
theorem dX12_staying_7 : decode cX12_staying 7 = .ok (.lmul, 1) := by decide +kernel
theorem dX12_staying_8 : decode cX12_staying 8 = .ok (.ldc2_w 329, 3) := by decide +kernel
theorem dX12_staying_11 : decode cX12_staying 11 = .ok (.ldiv, 1) := by decide +kernel
theorem dX12_staying_12 : decode cX12_staying 12 = .ok (.lreturn, 1) := by decide +kernel
theorem dX12_liveOn_0 : decode cX12_liveOn 0 = .ok (.ldc2_w 473, 3) := by decide +kernel
theorem dX12_liveOn_3 : decode cX12_liveOn 3 = .ok (.lstore_n 3, 1) := by decide +kernel
theorem dX12_liveOn_4 : decode cX12_liveOn 4 = .ok (.aload_n 0, 1) := by decide +kernel
theorem dX12_liveOn_5 : decode cX12_liveOn 5 = .ok (.getfield 13, 3) := by decide +kernel
theorem dX12_liveOn_8 : decode cX12_liveOn 8 = .ok (.bipush 7, 2) := by decide +kernel
theorem dX12_liveOn_10 : decode cX12_liveOn 10 = .ok (.iload_n 2, 1) := by decide +kernel
theorem dX12_liveOn_11 : decode cX12_liveOn 11 = .ok (.iadd, 1) := by decide +kernel
theorem dX12_liveOn_12 : decode cX12_liveOn 12 = .ok (.iaload, 1) := by decide +kernel
theorem dX12_liveOn_13 : decode cX12_liveOn 13 = .ok (.istore 5, 2) := by decide +kernel
theorem dX12_liveOn_15 : decode cX12_liveOn 15 = .ok (.aload_n 0, 1) := by decide +kernel
theorem dX12_liveOn_16 : decode cX12_liveOn 16 = .ok (.iload 5, 2) := by decide +kernel
theorem dX12_liveOn_18 : decode cX12_liveOn 18 = .ok (.bipush 9, 2) := by decide +kernel
theorem dX12_liveOn_20 : decode cX12_liveOn 20 = .ok (.if_icmp .ne 7, 3) := by decide +kernel
theorem dX12_liveOn_23 : decode cX12_liveOn 23 = .ok (.iconst 0, 1) := by decide +kernel
theorem dX12_liveOn_24 : decode cX12_liveOn 24 = .ok (.goto 4, 3) := by decide +kernel
theorem dX12_liveOn_27 : decode cX12_liveOn 27 = .ok (.iconst (-1), 1) := by decide +kernel
theorem dX12_liveOn_28 : decode cX12_liveOn 28 = .ok (.putfield 475, 3) := by decide +kernel
theorem dX12_liveOn_31 : decode cX12_liveOn 31 = .ok (.iconst 0, 1) := by decide +kernel
theorem dX12_liveOn_32 : decode cX12_liveOn 32 = .ok (.istore 6, 2) := by decide +kernel
theorem dX12_liveOn_34 : decode cX12_liveOn 34 = .ok (.iload 6, 2) := by decide +kernel
theorem dX12_liveOn_36 : decode cX12_liveOn 36 = .ok (.bipush 99, 2) := by decide +kernel
theorem dX12_liveOn_38 : decode cX12_liveOn 38 = .ok (.if_icmp .ge 90, 3) := by decide +kernel
theorem dX12_liveOn_41 : decode cX12_liveOn 41 = .ok (.aload_n 0, 1) := by decide +kernel
theorem dX12_liveOn_42 : decode cX12_liveOn 42 = .ok (.getfield 475, 3) := by decide +kernel
theorem dX12_liveOn_45 : decode cX12_liveOn 45 = .ok (.iconst (-1), 1) := by decide +kernel
theorem dX12_liveOn_46 : decode cX12_liveOn 46 = .ok (.if_icmp .ne 82, 3) := by decide +kernel
theorem dX12_liveOn_49 : decode cX12_liveOn 49 = .ok (.aload_n 0, 1) := by decide +kernel
theorem dX12_liveOn_50 : decode cX12_liveOn 50 = .ok (.iload_n 1, 1) := by decide +kernel
theorem dX12_liveOn_51 : decode cX12_liveOn 51 = .ok (.aload_n 0, 1) := by decide +kernel
theorem dX12_liveOn_52 : decode cX12_liveOn 52 = .ok (.iload_n 1, 1) := by decide +kernel
theorem dX12_liveOn_53 : decode cX12_liveOn 53 = .ok (.iload 6, 2) := by decide +kernel
theorem dX12_liveOn_55 : decode cX12_liveOn 55 = .ok (.invokevirtual 478, 3) := by decide +kernel
theorem dX12_liveOn_58 : decode cX12_liveOn 58 = .ok (.aload_n 0, 1) := by decide +kernel
theorem dX12_liveOn_59 : decode cX12_liveOn 59 = .ok (.getfield 13, 3) := by decide +kernel
theorem dX12_liveOn_62 : decode cX12_liveOn 62 = .ok (.iconst 4, 1) := by decide +kernel
theorem dX12_liveOn_63 : decode cX12_liveOn 63 = .ok (.iaload, 1) := by decide +kernel
theorem dX12_liveOn_64 : decode cX12_liveOn 64 = .ok (.iload 6, 2) := by decide +kernel
theorem dX12_liveOn_66 : decode cX12_liveOn 66 = .ok (.iadd, 1) := by decide +kernel
theorem dX12_liveOn_67 : decode cX12_liveOn 67 = .ok (.invokevirtual 427, 3) := by decide +kernel
theorem dX12_liveOn_70 : decode cX12_liveOn 70 = .ok (.aload_n 0, 1) := by decide +kernel
theorem dX12_liveOn_71 : decode cX12_liveOn 71 = .ok (.iload_n 2, 1) := by decide +kernel
theorem dX12_liveOn_72 : decode cX12_liveOn 72 = .ok (.iload 5, 2) := by decide +kernel
theorem dX12_liveOn_74 : decode cX12_liveOn 74 = .ok (.invokevirtual 431, 3) := by decide +kernel
theorem dX12_liveOn_77 : decode cX12_liveOn 77 = .ok (.lload_n 3, 1) := by decide +kernel
theorem dX12_liveOn_78 : decode cX12_liveOn 78 = .ok (.aload_n 0, 1) := by decide +kernel
theorem dX12_liveOn_79 : decode cX12_liveOn 79 = .ok (.invokevirtual 437, 3) := by decide +kernel
theorem dX12_liveOn_82 : decode cX12_liveOn 82 = .ok (.invokestatic 481, 3) := by decide +kernel
theorem dX12_liveOn_85 : decode cX12_liveOn 85 = .ok (.lstore_n 3, 1) := by decide +kernel
theorem dX12_liveOn_86 : decode cX12_liveOn 86 = .ok (.iload 5, 2) := by decide +kernel
theorem dX12_liveOn_88 : decode cX12_liveOn 88 = .ok (.i2l, 1) := by decide +kernel
theorem dX12_liveOn_89 : decode cX12_liveOn 89 = .ok (.aload_n 0, 1) := by decide +kernel
theorem dX12_liveOn_90 : decode cX12_liveOn 90 = .ok (.invokevirtual 440, 3) := by decide +kernel
theorem dX12_liveOn_93 : decode cX12_liveOn 93 = .ok (.i2l, 1) := by decide +kernel
theorem dX12_liveOn_94 : decode cX12_liveOn 94 = .ok (.ladd, 1) := by decide +kernel
theorem dX12_liveOn_95 : decode cX12_liveOn 95 = .ok (.iconst 0, 1) := by decide +kernel
theorem dX12_liveOn_96 : decode cX12_liveOn 96 = .ok (.bipush 9, 2) := by decide +kernel
theorem dX12_liveOn_98 : decode cX12_liveOn 98 = .ok (.invokestatic 423, 3) := by decide +kernel
theorem dX12_liveOn_101 : decode cX12_liveOn 101 = .ok (.istore 5, 2) := by decide +kernel
theorem dX12_liveOn_103 : decode cX12_liveOn 103 = .ok (.aload_n 0, 1) := by decide +kernel
theorem dX12_liveOn_104 : decode cX12_liveOn 104 = .ok (.iload 5, 2) := by decide +kernel
theorem dX12_liveOn_106 : decode cX12_liveOn 106 = .ok (.bipush 9, 2) := by decide +kernel
theorem dX12_liveOn_108 : decode cX12_liveOn 108 = .ok (.if_icmp .ne 10, 3) := by decide +kernel
theorem dX12_liveOn_111 : decode cX12_liveOn 111 = .ok (.iload 6, 2) := by decide +kernel
theorem dX12_liveOn_113 : decode cX12_liveOn 113 = .ok (.iconst 1, 1) := by decide +kernel
theorem dX12_liveOn_114 : decode cX12_liveOn 114 = .ok (.iadd, 1) := by decide +kernel
theorem dX12_liveOn_115 : decode cX12_liveOn 115 = .ok (.goto 4, 3) := by decide +kernel
theorem dX12_liveOn_118 : decode cX12_liveOn 118 = .ok (.iconst (-1), 1) := by decide +kernel
theorem dX12_liveOn_119 : decode cX12_liveOn 119 = .ok (.putfield 475, 3) := by decide +kernel
theorem dX12_liveOn_122 : decode cX12_liveOn 122 = .ok (.iinc 6 1, 3) := by decide +kernel
theorem dX12_liveOn_125 : decode cX12_liveOn 125 = .ok (.goto (-91), 3) := by decide +kernel
theorem dX12_liveOn_128 : decode cX12_liveOn 128 = .ok (.aload_n 0, 1) := by decide +kernel
theorem dX12_liveOn_129 : decode cX12_liveOn 129 = .ok (.getfield 475, 3) := by decide +kernel
theorem dX12_liveOn_132 : decode cX12_liveOn 132 = .ok (.iconst (-1), 1) := by decide +kernel
theorem dX12_liveOn_133 : decode cX12_liveOn 133 = .ok (.if_icmp .ne 7, 3) := by decide +kernel
theorem dX12_liveOn_136 : decode cX12_liveOn 136 = .ok (.lconst 0, 1) := by decide +kernel
theorem dX12_liveOn_137 : decode cX12_liveOn 137 = .ok (.goto 4, 3) := by decide +kernel
theorem dX12_liveOn_140 : decode cX12_liveOn 140 = .ok (.lload_n 3, 1) := by decide +kernel
theorem dX12_liveOn_141 : decode cX12_liveOn 141 = .ok (.lreturn, 1) := by decide +kernel
theorem dX12_chance_0 : decode cX12_chance 0 = .ok (.aload_n 0, 1) := by decide +kernel
theorem dX12_chance_1 : decode cX12_chance 1 = .ok (.iconst 0, 1) := by decide +kernel
theorem dX12_chance_2 : decode cX12_chance 2 = .ok (.putfield 153, 3) := by decide +kernel
theorem dX12_chance_5 : decode cX12_chance 5 = .ok (.aload_n 0, 1) := by decide +kernel
theorem dX12_chance_6 : decode cX12_chance 6 = .ok (.iload_n 1, 1) := by decide +kernel
theorem dX12_chance_7 : decode cX12_chance 7 = .ok (.invokevirtual 196, 3) := by decide +kernel
theorem dX12_chance_10 : decode cX12_chance 10 = .ok (.ifCond .eq 10, 3) := by decide +kernel
theorem dX12_chance_13 : decode cX12_chance 13 = .ok (.iload_n 2, 1) := by decide +kernel
theorem dX12_chance_14 : decode cX12_chance 14 = .ok (.invokestatic 205, 3) := by decide +kernel
theorem dX12_chance_17 : decode cX12_chance 17 = .ok (.ifCond .ne 7, 3) := by decide +kernel
theorem dX12_chance_20 : decode cX12_chance 20 = .ok (.ldc2_w 269, 3) := by decide +kernel
theorem dX12_chance_23 : decode cX12_chance 23 = .ok (.lreturn, 1) := by decide +kernel
theorem dX12_chance_24 : decode cX12_chance 24 = .ok (.aload_n 0, 1) := by decide +kernel
theorem dX12_chance_25 : decode cX12_chance 25 = .ok (.iload_n 1, 1) := by decide +kernel
theorem dX12_chance_26 : decode cX12_chance 26 = .ok (.invokevirtual 182, 3) := by decide +kernel
theorem dX12_chance_29 : decode cX12_chance 29 = .ok (.ifCond .eq 12, 3) := by decide +kernel
theorem dX12_chance_32 : decode cX12_chance 32 = .ok (.aload_n 0, 1) := by decide +kernel
theorem dX12_chance_33 : decode cX12_chance 33 = .ok (.iload_n 1, 1) := by decide +kernel
theorem dX12_chance_34 : decode cX12_chance 34 = .ok (.iload_n 2, 1) := by decide +kernel
theorem dX12_chance_35 : decode cX12_chance 35 = .ok (.invokevirtual 485, 3) := by decide +kernel
theorem dX12_chance_38 : decode cX12_chance 38 = .ok (.goto 4, 3) := by decide +kernel
theorem dX12_chance_41 : decode cX12_chance 41 = .ok (.lconst 0, 1) := by decide +kernel
theorem dX12_chance_42 : decode cX12_chance 42 = .ok (.lreturn, 1) := by decide +kernel
theorem dX12_years_0 : decode cX12_years 0 = .ok (.aload_n 0, 1) := by decide +kernel
theorem dX12_years_1 : decode cX12_years 1 = .ok (.iconst 0, 1) := by decide +kernel
theorem dX12_years_2 : decode cX12_years 2 = .ok (.putfield 153, 3) := by decide +kernel
theorem dX12_years_5 : decode cX12_years 5 = .ok (.aload_n 0, 1) := by decide +kernel
theorem dX12_years_6 : decode cX12_years 6 = .ok (.iload_n 1, 1) := by decide +kernel
theorem dX12_years_7 : decode cX12_years 7 = .ok (.invokevirtual 196, 3) := by decide +kernel
theorem dX12_years_10 : decode cX12_years 10 = .ok (.ifCond .eq 18, 3) := by decide +kernel
theorem dX12_years_13 : decode cX12_years 13 = .ok (.iload_n 2, 1) := by decide +kernel
theorem dX12_years_14 : decode cX12_years 14 = .ok (.invokestatic 205, 3) := by decide +kernel
theorem dX12_years_17 : decode cX12_years 17 = .ok (.ifCond .eq 11, 3) := by decide +kernel
theorem dX12_years_20 : decode cX12_years 20 = .ok (.aload_n 0, 1) := by decide +kernel
theorem dX12_years_21 : decode cX12_years 21 = .ok (.iload_n 1, 1) := by decide +kernel
theorem dX12_years_22 : decode cX12_years 22 = .ok (.invokevirtual 182, 3) := by decide +kernel
theorem dX12_years_25 : decode cX12_years 25 = .ok (.ifCond .ne 5, 3) := by decide +kernel
theorem dX12_years_28 : decode cX12_years 28 = .ok (.iconst (-1), 1) := by decide +kernel
theorem dX12_years_29 : decode cX12_years 29 = .ok (.ireturn, 1) := by decide +kernel
theorem dX12_years_30 : decode cX12_years 30 = .ok (.aload_n 0, 1) := by decide +kernel
theorem dX12_years_31 : decode cX12_years 31 = .ok (.iload_n 1, 1) := by decide +kernel
theorem dX12_years_32 : decode cX12_years 32 = .ok (.iload_n 2, 1) := by decide +kernel
theorem dX12_years_33 : decode cX12_years 33 = .ok (.invokevirtual 485, 3) := by decide +kernel
theorem dX12_years_36 : decode cX12_years 36 = .ok (.pop2, 1) := by decide +kernel
theorem dX12_years_37 : decode cX12_years 37 = .ok (.aload_n 0, 1) := by decide +kernel
theorem dX12_years_38 : decode cX12_years 38 = .ok (.getfield 475, 3) := by decide +kernel
theorem dX12_years_41 : decode cX12_years 41 = .ok (.ireturn, 1) := by decide +kernel
theorem dX12_lives_0 : decode cX12_lives 0 = .ok (.aload_n 0, 1) := by decide +kernel
theorem dX12_lives_1 : decode cX12_lives 1 = .ok (.iconst 0, 1) := by decide +kernel
theorem dX12_lives_2 : decode cX12_lives 2 = .ok (.putfield 153, 3) := by decide +kernel
theorem dX12_lives_5 : decode cX12_lives 5 = .ok (.aload_n 0, 1) := by decide +kernel
theorem dX12_lives_6 : decode cX12_lives 6 = .ok (.iload_n 1, 1) := by decide +kernel
theorem dX12_lives_7 : decode cX12_lives 7 = .ok (.invokevirtual 196, 3) := by decide +kernel
theorem dX12_lives_10 : decode cX12_lives 10 = .ok (.ifCond .eq 15, 3) := by decide +kernel
theorem dX12_lives_13 : decode cX12_lives 13 = .ok (.iload_n 2, 1) := by decide +kernel
theorem dX12_lives_14 : decode cX12_lives 14 = .ok (.i2l, 1) := by decide +kernel
theorem dX12_lives_15 : decode cX12_lives 15 = .ok (.lconst 0, 1) := by decide +kernel
theorem dX12_lives_16 : decode cX12_lives 16 = .ok (.ldc2_w 188, 3) := by decide +kernel
theorem dX12_lives_19 : decode cX12_lives 19 = .ok (.invokestatic 173, 3) := by decide +kernel
theorem dX12_lives_22 : decode cX12_lives 22 = .ok (.ifCond .ne 7, 3) := by decide +kernel
theorem dX12_lives_25 : decode cX12_lives 25 = .ok (.ldc2_w 269, 3) := by decide +kernel
theorem dX12_lives_28 : decode cX12_lives 28 = .ok (.lreturn, 1) := by decide +kernel
theorem dX12_lives_29 : decode cX12_lives 29 = .ok (.aload_n 0, 1) := by decide +kernel
theorem dX12_lives_30 : decode cX12_lives 30 = .ok (.iload_n 1, 1) := by decide +kernel
theorem dX12_lives_31 : decode cX12_lives 31 = .ok (.invokevirtual 182, 3) := by decide +kernel
theorem dX12_lives_34 : decode cX12_lives 34 = .ok (.ifCond .eq 9, 3) := by decide +kernel
theorem dX12_lives_37 : decode cX12_lives 37 = .ok (.ldc2_w 473, 3) := by decide +kernel
theorem dX12_lives_40 : decode cX12_lives 40 = .ok (.goto 4, 3) := by decide +kernel
theorem dX12_lives_43 : decode cX12_lives 43 = .ok (.lconst 0, 1) := by decide +kernel
theorem dX12_lives_44 : decode cX12_lives 44 = .ok (.lstore_n 3, 1) := by decide +kernel
theorem dX12_lives_45 : decode cX12_lives 45 = .ok (.aload_n 0, 1) := by decide +kernel
theorem dX12_lives_46 : decode cX12_lives 46 = .ok (.getfield 13, 3) := by decide +kernel
theorem dX12_lives_49 : decode cX12_lives 49 = .ok (.bipush 51, 2) := by decide +kernel
theorem dX12_lives_51 : decode cX12_lives 51 = .ok (.iload_n 1, 1) := by decide +kernel
theorem dX12_lives_52 : decode cX12_lives 52 = .ok (.iadd, 1) := by decide +kernel
theorem dX12_lives_53 : decode cX12_lives 53 = .ok (.iaload, 1) := by decide +kernel
theorem dX12_lives_54 : decode cX12_lives 54 = .ok (.istore 5, 2) := by decide +kernel
theorem dX12_lives_56 : decode cX12_lives 56 = .ok (.iconst 0, 1) := by decide +kernel
theorem dX12_lives_57 : decode cX12_lives 57 = .ok (.istore 6, 2) := by decide +kernel
theorem dX12_lives_59 : decode cX12_lives 59 = .ok (.iload 6, 2) := by decide +kernel
theorem dX12_lives_61 : decode cX12_lives 61 = .ok (.iload_n 2, 1) := by decide +kernel
theorem dX12_lives_62 : decode cX12_lives 62 = .ok (.if_icmp .ge 65, 3) := by decide +kernel
theorem dX12_lives_65 : decode cX12_lives 65 = .ok (.aload_n 0, 1) := by decide +kernel
theorem dX12_lives_66 : decode cX12_lives 66 = .ok (.iload_n 1, 1) := by decide +kernel
theorem dX12_lives_67 : decode cX12_lives 67 = .ok (.aload_n 0, 1) := by decide +kernel
theorem dX12_lives_68 : decode cX12_lives 68 = .ok (.iload_n 1, 1) := by decide +kernel
theorem dX12_lives_69 : decode cX12_lives 69 = .ok (.iload 6, 2) := by decide +kernel
theorem dX12_lives_71 : decode cX12_lives 71 = .ok (.invokevirtual 478, 3) := by decide +kernel
theorem dX12_lives_74 : decode cX12_lives 74 = .ok (.aload_n 0, 1) := by decide +kernel
theorem dX12_lives_75 : decode cX12_lives 75 = .ok (.getfield 13, 3) := by decide +kernel
theorem dX12_lives_78 : decode cX12_lives 78 = .ok (.iconst 4, 1) := by decide +kernel
theorem dX12_lives_79 : decode cX12_lives 79 = .ok (.iaload, 1) := by decide +kernel
theorem dX12_lives_80 : decode cX12_lives 80 = .ok (.iload 6, 2) := by decide +kernel
theorem dX12_lives_82 : decode cX12_lives 82 = .ok (.iadd, 1) := by decide +kernel
theorem dX12_lives_83 : decode cX12_lives 83 = .ok (.invokevirtual 427, 3) := by decide +kernel
theorem dX12_lives_86 : decode cX12_lives 86 = .ok (.aload_n 0, 1) := by decide +kernel
theorem dX12_lives_87 : decode cX12_lives 87 = .ok (.iload 5, 2) := by decide +kernel
theorem dX12_lives_89 : decode cX12_lives 89 = .ok (.iload 5, 2) := by decide +kernel
theorem dX12_lives_91 : decode cX12_lives 91 = .ok (.iconst (-1), 1) := by decide +kernel
theorem dX12_lives_92 : decode cX12_lives 92 = .ok (.if_icmp .ne 7, 3) := by decide +kernel
theorem dX12_lives_95 : decode cX12_lives 95 = .ok (.iconst (-1), 1) := by decide +kernel
theorem dX12_lives_96 : decode cX12_lives 96 = .ok (.goto 13, 3) := by decide +kernel
theorem dX12_lives_99 : decode cX12_lives 99 = .ok (.aload_n 0, 1) := by decide +kernel
theorem dX12_lives_100 : decode cX12_lives 100 = .ok (.getfield 13, 3) := by decide +kernel
theorem dX12_lives_103 : decode cX12_lives 103 = .ok (.bipush 7, 2) := by decide +kernel
theorem dX12_lives_105 : decode cX12_lives 105 = .ok (.iload 5, 2) := by decide +kernel
theorem dX12_lives_107 : decode cX12_lives 107 = .ok (.iadd, 1) := by decide +kernel
theorem dX12_lives_108 : decode cX12_lives 108 = .ok (.iaload, 1) := by decide +kernel
theorem dX12_lives_109 : decode cX12_lives 109 = .ok (.invokevirtual 431, 3) := by decide +kernel
theorem dX12_lives_112 : decode cX12_lives 112 = .ok (.lload_n 3, 1) := by decide +kernel
theorem dX12_lives_113 : decode cX12_lives 113 = .ok (.aload_n 0, 1) := by decide +kernel
theorem dX12_lives_114 : decode cX12_lives 114 = .ok (.invokevirtual 437, 3) := by decide +kernel
theorem dX12_lives_117 : decode cX12_lives 117 = .ok (.invokestatic 481, 3) := by decide +kernel
theorem dX12_lives_120 : decode cX12_lives 120 = .ok (.lstore_n 3, 1) := by decide +kernel
theorem dX12_lives_121 : decode cX12_lives 121 = .ok (.iinc 6 1, 3) := by decide +kernel
theorem dX12_lives_124 : decode cX12_lives 124 = .ok (.goto (-65), 3) := by decide +kernel
theorem dX12_lives_127 : decode cX12_lives 127 = .ok (.lload_n 3, 1) := by decide +kernel
theorem dX12_lives_128 : decode cX12_lives 128 = .ok (.lreturn, 1) := by decide +kernel
theorem dX12_layPlots_0 : decode cX12_layPlots 0 = .ok (.aload_n 0, 1) := by decide +kernel
theorem dX12_layPlots_1 : decode cX12_layPlots 1 = .ok (.iconst 0, 1) := by decide +kernel
theorem dX12_layPlots_2 : decode cX12_layPlots 2 = .ok (.putfield 489, 3) := by decide +kernel
theorem dX12_layPlots_5 : decode cX12_layPlots 5 = .ok (.iconst 0, 1) := by decide +kernel
theorem dX12_layPlots_6 : decode cX12_layPlots 6 = .ok (.istore_n 2, 1) := by decide +kernel
theorem dX12_layPlots_7 : decode cX12_layPlots 7 = .ok (.iload_n 2, 1) := by decide +kernel
theorem dX12_layPlots_8 : decode cX12_layPlots 8 = .ok (.bipush 16, 2) := by decide +kernel
theorem dX12_layPlots_10 : decode cX12_layPlots 10 = .ok (.if_icmp .ge 37, 3) := by decide +kernel
theorem dX12_layPlots_13 : decode cX12_layPlots 13 = .ok (.iload_n 1, 1) := by decide +kernel
theorem dX12_layPlots_14 : decode cX12_layPlots 14 = .ok (.iload_n 2, 1) := by decide +kernel
theorem dX12_layPlots_15 : decode cX12_layPlots 15 = .ok (.invokestatic 492, 3) := by decide +kernel
theorem dX12_layPlots_18 : decode cX12_layPlots 18 = .ok (.ifCond .eq 23, 3) := by decide +kernel
theorem dX12_layPlots_21 : decode cX12_layPlots 21 = .ok (.aload_n 0, 1) := by decide +kernel
theorem dX12_layPlots_22 : decode cX12_layPlots 22 = .ok (.getfield 106, 3) := by decide +kernel
theorem dX12_layPlots_25 : decode cX12_layPlots 25 = .ok (.aload_n 0, 1) := by decide +kernel
theorem dX12_layPlots_26 : decode cX12_layPlots 26 = .ok (.getfield 489, 3) := by decide +kernel
theorem dX12_layPlots_29 : decode cX12_layPlots 29 = .ok (.iload_n 2, 1) := by decide +kernel
theorem dX12_layPlots_30 : decode cX12_layPlots 30 = .ok (.iastore, 1) := by decide +kernel
theorem dX12_layPlots_31 : decode cX12_layPlots 31 = .ok (.aload_n 0, 1) := by decide +kernel
theorem dX12_layPlots_32 : decode cX12_layPlots 32 = .ok (.dup, 1) := by decide +kernel
theorem dX12_layPlots_33 : decode cX12_layPlots 33 = .ok (.getfield 489, 3) := by decide +kernel
theorem dX12_layPlots_36 : decode cX12_layPlots 36 = .ok (.iconst 1, 1) := by decide +kernel
theorem dX12_layPlots_37 : decode cX12_layPlots 37 = .ok (.iadd, 1) := by decide +kernel
theorem dX12_layPlots_38 : decode cX12_layPlots 38 = .ok (.putfield 489, 3) := by decide +kernel
theorem dX12_layPlots_41 : decode cX12_layPlots 41 = .ok (.iinc 2 1, 3) := by decide +kernel
theorem dX12_layPlots_44 : decode cX12_layPlots 44 = .ok (.goto (-37), 3) := by decide +kernel
theorem dX12_layPlots_47 : decode cX12_layPlots 47 = .ok (.iconst 0, 1) := by decide +kernel
theorem dX12_layPlots_48 : decode cX12_layPlots 48 = .ok (.istore_n 2, 1) := by decide +kernel
theorem dX12_layPlots_49 : decode cX12_layPlots 49 = .ok (.iload_n 2, 1) := by decide +kernel
theorem dX12_layPlots_50 : decode cX12_layPlots 50 = .ok (.aload_n 0, 1) := by decide +kernel
theorem dX12_layPlots_51 : decode cX12_layPlots 51 = .ok (.getfield 13, 3) := by decide +kernel
theorem dX12_layPlots_54 : decode cX12_layPlots 54 = .ok (.iconst 0, 1) := by decide +kernel
theorem dX12_layPlots_55 : decode cX12_layPlots 55 = .ok (.iaload, 1) := by decide +kernel
theorem dX12_layPlots_56 : decode cX12_layPlots 56 = .ok (.if_icmp .ge 87, 3) := by decide +kernel
theorem dX12_layPlots_59 : decode cX12_layPlots 59 = .ok (.iconst 0, 1) := by decide +kernel
theorem dX12_layPlots_60 : decode cX12_layPlots 60 = .ok (.istore_n 3, 1) := by decide +kernel
theorem dX12_layPlots_61 : decode cX12_layPlots 61 = .ok (.iload_n 3, 1) := by decide +kernel
theorem dX12_layPlots_62 : decode cX12_layPlots 62 = .ok (.aload_n 0, 1) := by decide +kernel
theorem dX12_layPlots_63 : decode cX12_layPlots 63 = .ok (.getfield 489, 3) := by decide +kernel
theorem dX12_layPlots_66 : decode cX12_layPlots 66 = .ok (.if_icmp .ge 71, 3) := by decide +kernel
theorem dX12_layPlots_69 : decode cX12_layPlots 69 = .ok (.aload_n 0, 1) := by decide +kernel
theorem dX12_layPlots_70 : decode cX12_layPlots 70 = .ok (.getfield 112, 3) := by decide +kernel
theorem dX12_layPlots_73 : decode cX12_layPlots 73 = .ok (.bipush 6, 2) := by decide +kernel
theorem dX12_layPlots_75 : decode cX12_layPlots 75 = .ok (.iload_n 2, 1) := by decide +kernel
theorem dX12_layPlots_76 : decode cX12_layPlots 76 = .ok (.imul, 1) := by decide +kernel
theorem dX12_layPlots_77 : decode cX12_layPlots 77 = .ok (.iload_n 3, 1) := by decide +kernel
theorem dX12_layPlots_78 : decode cX12_layPlots 78 = .ok (.iadd, 1) := by decide +kernel
theorem dX12_layPlots_79 : decode cX12_layPlots 79 = .ok (.aload_n 0, 1) := by decide +kernel
theorem dX12_layPlots_80 : decode cX12_layPlots 80 = .ok (.iload_n 2, 1) := by decide +kernel
theorem dX12_layPlots_81 : decode cX12_layPlots 81 = .ok (.aload_n 0, 1) := by decide +kernel
theorem dX12_layPlots_82 : decode cX12_layPlots 82 = .ok (.getfield 106, 3) := by decide +kernel
theorem dX12_layPlots_85 : decode cX12_layPlots 85 = .ok (.iload_n 3, 1) := by decide +kernel
theorem dX12_layPlots_86 : decode cX12_layPlots 86 = .ok (.iaload, 1) := by decide +kernel
theorem dX12_layPlots_87 : decode cX12_layPlots 87 = .ok (.invokevirtual 218, 3) := by decide +kernel
theorem dX12_layPlots_90 : decode cX12_layPlots 90 = .ok (.bastore, 1) := by decide +kernel
theorem dX12_layPlots_91 : decode cX12_layPlots 91 = .ok (.aload_n 0, 1) := by decide +kernel
theorem dX12_layPlots_92 : decode cX12_layPlots 92 = .ok (.getfield 109, 3) := by decide +kernel
theorem dX12_layPlots_95 : decode cX12_layPlots 95 = .ok (.bipush 6, 2) := by decide +kernel
theorem dX12_layPlots_97 : decode cX12_layPlots 97 = .ok (.iload_n 2, 1) := by decide +kernel
theorem dX12_layPlots_98 : decode cX12_layPlots 98 = .ok (.imul, 1) := by decide +kernel
theorem dX12_layPlots_99 : decode cX12_layPlots 99 = .ok (.iload_n 3, 1) := by decide +kernel
theorem dX12_layPlots_100 : decode cX12_layPlots 100 = .ok (.iadd, 1) := by decide +kernel
theorem dX12_layPlots_101 : decode cX12_layPlots 101 = .ok (.aload_n 0, 1) := by decide +kernel
theorem dX12_layPlots_102 : decode cX12_layPlots 102 = .ok (.getfield 112, 3) := by decide +kernel
theorem dX12_layPlots_105 : decode cX12_layPlots 105 = .ok (.bipush 6, 2) := by decide +kernel
theorem dX12_layPlots_107 : decode cX12_layPlots 107 = .ok (.iload_n 2, 1) := by decide +kernel
theorem dX12_layPlots_108 : decode cX12_layPlots 108 = .ok (.imul, 1) := by decide +kernel
theorem dX12_layPlots_109 : decode cX12_layPlots 109 = .ok (.iload_n 3, 1) := by decide +kernel
theorem dX12_layPlots_110 : decode cX12_layPlots 110 = .ok (.iadd, 1) := by decide +kernel
theorem dX12_layPlots_111 : decode cX12_layPlots 111 = .ok (.baload, 1) := by decide +kernel
theorem dX12_layPlots_112 : decode cX12_layPlots 112 = .ok (.ifCond .eq 17, 3) := by decide +kernel
theorem dX12_layPlots_115 : decode cX12_layPlots 115 = .ok (.aload_n 0, 1) := by decide +kernel
theorem dX12_layPlots_116 : decode cX12_layPlots 116 = .ok (.iload_n 2, 1) := by decide +kernel
theorem dX12_layPlots_117 : decode cX12_layPlots 117 = .ok (.aload_n 0, 1) := by decide +kernel
theorem dX12_layPlots_118 : decode cX12_layPlots 118 = .ok (.getfield 106, 3) := by decide +kernel
theorem dX12_layPlots_121 : decode cX12_layPlots 121 = .ok (.iload_n 3, 1) := by decide +kernel
theorem dX12_layPlots_122 : decode cX12_layPlots 122 = .ok (.iaload, 1) := by decide +kernel
theorem dX12_layPlots_123 : decode cX12_layPlots 123 = .ok (.invokevirtual 485, 3) := by decide +kernel
theorem dX12_layPlots_126 : decode cX12_layPlots 126 = .ok (.goto 4, 3) := by decide +kernel
theorem dX12_layPlots_129 : decode cX12_layPlots 129 = .ok (.lconst 0, 1) := by decide +kernel
theorem dX12_layPlots_130 : decode cX12_layPlots 130 = .ok (.lastore, 1) := by decide +kernel
theorem dX12_layPlots_131 : decode cX12_layPlots 131 = .ok (.iinc 3 1, 3) := by decide +kernel
theorem dX12_layPlots_134 : decode cX12_layPlots 134 = .ok (.goto (-73), 3) := by decide +kernel
theorem dX12_layPlots_137 : decode cX12_layPlots 137 = .ok (.iinc 2 1, 3) := by decide +kernel
theorem dX12_layPlots_140 : decode cX12_layPlots 140 = .ok (.goto (-91), 3) := by decide +kernel
theorem dX12_layPlots_143 : decode cX12_layPlots 143 = .ok (.return_, 1) := by decide +kernel
theorem dX12_layPlan_0 : decode cX12_layPlan 0 = .ok (.aload_n 0, 1) := by decide +kernel
theorem dX12_layPlan_1 : decode cX12_layPlan 1 = .ok (.getfield 13, 3) := by decide +kernel
theorem dX12_layPlan_4 : decode cX12_layPlan 4 = .ok (.iconst 0, 1) := by decide +kernel
theorem dX12_layPlan_5 : decode cX12_layPlan 5 = .ok (.iaload, 1) := by decide +kernel
theorem dX12_layPlan_6 : decode cX12_layPlan 6 = .ok (.istore_n 1, 1) := by decide +kernel
theorem dX12_layPlan_7 : decode cX12_layPlan 7 = .ok (.iload_n 1, 1) := by decide +kernel
theorem dX12_layPlan_8 : decode cX12_layPlan 8 = .ok (.istore_n 2, 1) := by decide +kernel
theorem dX12_layPlan_9 : decode cX12_layPlan 9 = .ok (.iload_n 2, 1) := by decide +kernel
theorem dX12_layPlan_10 : decode cX12_layPlan 10 = .ok (.ifCond .lt 157, 3) := by decide +kernel
theorem dX12_layPlan_13 : decode cX12_layPlan 13 = .ok (.iconst 0, 1) := by decide +kernel
theorem dX12_layPlan_14 : decode cX12_layPlan 14 = .ok (.istore_n 3, 1) := by decide +kernel
theorem dX12_layPlan_15 : decode cX12_layPlan 15 = .ok (.iload_n 3, 1) := by decide +kernel
theorem dX12_layPlan_16 : decode cX12_layPlan 16 = .ok (.bipush 64, 2) := by decide +kernel
theorem dX12_layPlan_18 : decode cX12_layPlan 18 = .ok (.if_icmp .ge 143, 3) := by decide +kernel
theorem dX12_layPlan_21 : decode cX12_layPlan 21 = .ok (.iload_n 2, 1) := by decide +kernel
theorem dX12_layPlan_22 : decode cX12_layPlan 22 = .ok (.iload_n 1, 1) := by decide +kernel
theorem dX12_layPlan_23 : decode cX12_layPlan 23 = .ok (.if_icmp .ne 7, 3) := by decide +kernel
theorem dX12_layPlan_26 : decode cX12_layPlan 26 = .ok (.lconst 0, 1) := by decide +kernel
theorem dX12_layPlan_27 : decode cX12_layPlan 27 = .ok (.goto 16, 3) := by decide +kernel
theorem dX12_layPlan_30 : decode cX12_layPlan 30 = .ok (.aload_n 0, 1) := by decide +kernel
theorem dX12_layPlan_31 : decode cX12_layPlan 31 = .ok (.getfield 115, 3) := by decide +kernel
theorem dX12_layPlan_34 : decode cX12_layPlan 34 = .ok (.bipush 64, 2) := by decide +kernel
theorem dX12_layPlan_36 : decode cX12_layPlan 36 = .ok (.iload_n 2, 1) := by decide +kernel
theorem dX12_layPlan_37 : decode cX12_layPlan 37 = .ok (.iconst 1, 1) := by decide +kernel
theorem dX12_layPlan_38 : decode cX12_layPlan 38 = .ok (.iadd, 1) := by decide +kernel
theorem dX12_layPlan_39 : decode cX12_layPlan 39 = .ok (.imul, 1) := by decide +kernel
theorem dX12_layPlan_40 : decode cX12_layPlan 40 = .ok (.iload_n 3, 1) := by decide +kernel
theorem dX12_layPlan_41 : decode cX12_layPlan 41 = .ok (.iadd, 1) := by decide +kernel
theorem dX12_layPlan_42 : decode cX12_layPlan 42 = .ok (.laload, 1) := by decide +kernel
theorem dX12_layPlan_43 : decode cX12_layPlan 43 = .ok (.lstore 4, 2) := by decide +kernel
theorem dX12_layPlan_45 : decode cX12_layPlan 45 = .ok (.iconst 0, 1) := by decide +kernel
theorem dX12_layPlan_46 : decode cX12_layPlan 46 = .ok (.istore 6, 2) := by decide +kernel
theorem dX12_layPlan_48 : decode cX12_layPlan 48 = .ok (.iload 6, 2) := by decide +kernel
theorem dX12_layPlan_50 : decode cX12_layPlan 50 = .ok (.aload_n 0, 1) := by decide +kernel
theorem dX12_layPlan_51 : decode cX12_layPlan 51 = .ok (.getfield 489, 3) := by decide +kernel
theorem dX12_layPlan_54 : decode cX12_layPlan 54 = .ok (.if_icmp .ge 88, 3) := by decide +kernel
theorem dX12_layPlan_57 : decode cX12_layPlan 57 = .ok (.iload_n 2, 1) := by decide +kernel
theorem dX12_layPlan_58 : decode cX12_layPlan 58 = .ok (.iload_n 1, 1) := by decide +kernel
theorem dX12_layPlan_59 : decode cX12_layPlan 59 = .ok (.if_icmp .ge 83, 3) := by decide +kernel
theorem dX12_layPlan_62 : decode cX12_layPlan 62 = .ok (.aload_n 0, 1) := by decide +kernel
theorem dX12_layPlan_63 : decode cX12_layPlan 63 = .ok (.getfield 112, 3) := by decide +kernel
theorem dX12_layPlan_66 : decode cX12_layPlan 66 = .ok (.bipush 6, 2) := by decide +kernel
theorem dX12_layPlan_68 : decode cX12_layPlan 68 = .ok (.iload_n 2, 1) := by decide +kernel
theorem dX12_layPlan_69 : decode cX12_layPlan 69 = .ok (.imul, 1) := by decide +kernel
theorem dX12_layPlan_70 : decode cX12_layPlan 70 = .ok (.iload 6, 2) := by decide +kernel
theorem dX12_layPlan_72 : decode cX12_layPlan 72 = .ok (.iadd, 1) := by decide +kernel
theorem dX12_layPlan_73 : decode cX12_layPlan 73 = .ok (.baload, 1) := by decide +kernel
theorem dX12_layPlan_74 : decode cX12_layPlan 74 = .ok (.ifCond .eq 62, 3) := by decide +kernel
theorem dX12_layPlan_77 : decode cX12_layPlan 77 = .ok (.iload_n 3, 1) := by decide +kernel
theorem dX12_layPlan_78 : decode cX12_layPlan 78 = .ok (.iload 6, 2) := by decide +kernel
theorem dX12_layPlan_80 : decode cX12_layPlan 80 = .ok (.invokestatic 492, 3) := by decide +kernel
theorem dX12_layPlan_83 : decode cX12_layPlan 83 = .ok (.ifCond .ne 53, 3) := by decide +kernel
theorem dX12_layPlan_86 : decode cX12_layPlan 86 = .ok (.aload_n 0, 1) := by decide +kernel
theorem dX12_layPlan_87 : decode cX12_layPlan 87 = .ok (.getfield 109, 3) := by decide +kernel
theorem dX12_layPlan_90 : decode cX12_layPlan 90 = .ok (.bipush 6, 2) := by decide +kernel
theorem dX12_layPlan_92 : decode cX12_layPlan 92 = .ok (.iload_n 2, 1) := by decide +kernel
theorem dX12_layPlan_93 : decode cX12_layPlan 93 = .ok (.imul, 1) := by decide +kernel
theorem dX12_layPlan_94 : decode cX12_layPlan 94 = .ok (.iload 6, 2) := by decide +kernel
theorem dX12_layPlan_96 : decode cX12_layPlan 96 = .ok (.iadd, 1) := by decide +kernel
theorem dX12_layPlan_97 : decode cX12_layPlan 97 = .ok (.laload, 1) := by decide +kernel
theorem dX12_layPlan_98 : decode cX12_layPlan 98 = .ok (.aload_n 0, 1) := by decide +kernel
theorem dX12_layPlan_99 : decode cX12_layPlan 99 = .ok (.getfield 115, 3) := by decide +kernel
theorem dX12_layPlan_102 : decode cX12_layPlan 102 = .ok (.bipush 64, 2) := by decide +kernel
theorem dX12_layPlan_104 : decode cX12_layPlan 104 = .ok (.iload_n 2, 1) := by decide +kernel
theorem dX12_layPlan_105 : decode cX12_layPlan 105 = .ok (.iconst 1, 1) := by decide +kernel
theorem dX12_layPlan_106 : decode cX12_layPlan 106 = .ok (.iadd, 1) := by decide +kernel
theorem dX12_layPlan_107 : decode cX12_layPlan 107 = .ok (.imul, 1) := by decide +kernel
theorem dX12_layPlan_108 : decode cX12_layPlan 108 = .ok (.iload_n 3, 1) := by decide +kernel
theorem dX12_layPlan_109 : decode cX12_layPlan 109 = .ok (.iconst 1, 1) := by decide +kernel
theorem dX12_layPlan_110 : decode cX12_layPlan 110 = .ok (.iload 6, 2) := by decide +kernel
theorem dX12_layPlan_112 : decode cX12_layPlan 112 = .ok (.ishl, 1) := by decide +kernel
theorem dX12_layPlan_113 : decode cX12_layPlan 113 = .ok (.ior, 1) := by decide +kernel
theorem dX12_layPlan_114 : decode cX12_layPlan 114 = .ok (.iadd, 1) := by decide +kernel
theorem dX12_layPlan_115 : decode cX12_layPlan 115 = .ok (.laload, 1) := by decide +kernel
theorem dX12_layPlan_116 : decode cX12_layPlan 116 = .ok (.ladd, 1) := by decide +kernel
theorem dX12_layPlan_117 : decode cX12_layPlan 117 = .ok (.lstore 7, 2) := by decide +kernel
theorem dX12_layPlan_119 : decode cX12_layPlan 119 = .ok (.lload 7, 2) := by decide +kernel
theorem dX12_layPlan_121 : decode cX12_layPlan 121 = .ok (.lload 4, 2) := by decide +kernel
theorem dX12_layPlan_123 : decode cX12_layPlan 123 = .ok (.lcmp, 1) := by decide +kernel
theorem dX12_layPlan_124 : decode cX12_layPlan 124 = .ok (.ifCond .le 8, 3) := by decide +kernel
theorem dX12_layPlan_127 : decode cX12_layPlan 127 = .ok (.lload 7, 2) := by decide +kernel
theorem dX12_layPlan_129 : decode cX12_layPlan 129 = .ok (.goto 5, 3) := by decide +kernel
theorem dX12_layPlan_132 : decode cX12_layPlan 132 = .ok (.lload 4, 2) := by decide +kernel
theorem dX12_layPlan_134 : decode cX12_layPlan 134 = .ok (.lstore 4, 2) := by decide +kernel
theorem dX12_layPlan_136 : decode cX12_layPlan 136 = .ok (.iinc 6 1, 3) := by decide +kernel
theorem dX12_layPlan_139 : decode cX12_layPlan 139 = .ok (.goto (-91), 3) := by decide +kernel
theorem dX12_layPlan_142 : decode cX12_layPlan 142 = .ok (.aload_n 0, 1) := by decide +kernel
theorem dX12_layPlan_143 : decode cX12_layPlan 143 = .ok (.getfield 115, 3) := by decide +kernel
theorem dX12_layPlan_146 : decode cX12_layPlan 146 = .ok (.bipush 64, 2) := by decide +kernel
theorem dX12_layPlan_148 : decode cX12_layPlan 148 = .ok (.iload_n 2, 1) := by decide +kernel
theorem dX12_layPlan_149 : decode cX12_layPlan 149 = .ok (.imul, 1) := by decide +kernel
theorem dX12_layPlan_150 : decode cX12_layPlan 150 = .ok (.iload_n 3, 1) := by decide +kernel
theorem dX12_layPlan_151 : decode cX12_layPlan 151 = .ok (.iadd, 1) := by decide +kernel
theorem dX12_layPlan_152 : decode cX12_layPlan 152 = .ok (.lload 4, 2) := by decide +kernel
theorem dX12_layPlan_154 : decode cX12_layPlan 154 = .ok (.lastore, 1) := by decide +kernel
theorem dX12_layPlan_155 : decode cX12_layPlan 155 = .ok (.iinc 3 1, 3) := by decide +kernel
theorem dX12_layPlan_158 : decode cX12_layPlan 158 = .ok (.goto (-143), 3) := by decide +kernel
theorem dX12_layPlan_161 : decode cX12_layPlan 161 = .ok (.iinc 2 (-1), 3) := by decide +kernel
theorem dX12_layPlan_164 : decode cX12_layPlan 164 = .ok (.goto (-155), 3) := by decide +kernel
theorem dX12_layPlan_167 : decode cX12_layPlan 167 = .ok (.return_, 1) := by decide +kernel
theorem dX12_planOf_0 : decode cX12_planOf 0 = .ok (.iconst 0, 1) := by decide +kernel
theorem dX12_planOf_1 : decode cX12_planOf 1 = .ok (.istore_n 2, 1) := by decide +kernel
theorem dX12_planOf_2 : decode cX12_planOf 2 = .ok (.iconst (-1), 1) := by decide +kernel
theorem dX12_planOf_3 : decode cX12_planOf 3 = .ok (.istore_n 3, 1) := by decide +kernel
theorem dX12_planOf_4 : decode cX12_planOf 4 = .ok (.iconst 0, 1) := by decide +kernel
theorem dX12_planOf_5 : decode cX12_planOf 5 = .ok (.istore 4, 2) := by decide +kernel
theorem dX12_planOf_7 : decode cX12_planOf 7 = .ok (.iload 4, 2) := by decide +kernel
theorem dX12_planOf_9 : decode cX12_planOf 9 = .ok (.iload_n 1, 1) := by decide +kernel
theorem dX12_planOf_10 : decode cX12_planOf 10 = .ok (.if_icmp .gt 122, 3) := by decide +kernel
theorem dX12_planOf_13 : decode cX12_planOf 13 = .ok (.iconst (-1), 1) := by decide +kernel
theorem dX12_planOf_14 : decode cX12_planOf 14 = .ok (.istore_n 3, 1) := by decide +kernel
theorem dX12_planOf_15 : decode cX12_planOf 15 = .ok (.aload_n 0, 1) := by decide +kernel
theorem dX12_planOf_16 : decode cX12_planOf 16 = .ok (.getfield 489, 3) := by decide +kernel
theorem dX12_planOf_19 : decode cX12_planOf 19 = .ok (.iconst 1, 1) := by decide +kernel
theorem dX12_planOf_20 : decode cX12_planOf 20 = .ok (.isub, 1) := by decide +kernel
theorem dX12_planOf_21 : decode cX12_planOf 21 = .ok (.istore 5, 2) := by decide +kernel
theorem dX12_planOf_23 : decode cX12_planOf 23 = .ok (.iload 5, 2) := by decide +kernel
theorem dX12_planOf_25 : decode cX12_planOf 25 = .ok (.ifCond .lt 86, 3) := by decide +kernel
theorem dX12_planOf_28 : decode cX12_planOf 28 = .ok (.aload_n 0, 1) := by decide +kernel
