theorem dX12_planOf_29 : decode cX12_planOf 29 = .ok (.getfield 112, 3) := by decide +kernel
theorem dX12_planOf_32 : decode cX12_planOf 32 = .ok (.bipush 6, 2) := by decide +kernel
theorem dX12_planOf_34 : decode cX12_planOf 34 = .ok (.iload 4, 2) := by decide +kernel
theorem dX12_planOf_36 : decode cX12_planOf 36 = .ok (.imul, 1) := by decide +kernel
theorem dX12_planOf_37 : decode cX12_planOf 37 = .ok (.iload 5, 2) := by decide +kernel
theorem dX12_planOf_39 : decode cX12_planOf 39 = .ok (.iadd, 1) := by decide +kernel
theorem dX12_planOf_40 : decode cX12_planOf 40 = .ok (.baload, 1) := by decide +kernel
theorem dX12_planOf_41 : decode cX12_planOf 41 = .ok (.ifCond .eq 64, 3) := by decide +kernel
theorem dX12_planOf_44 : decode cX12_planOf 44 = .ok (.iload_n 2, 1) := by decide +kernel
theorem dX12_planOf_45 : decode cX12_planOf 45 = .ok (.iload 5, 2) := by decide +kernel
theorem dX12_planOf_47 : decode cX12_planOf 47 = .ok (.invokestatic 492, 3) := by decide +kernel
theorem dX12_planOf_50 : decode cX12_planOf 50 = .ok (.ifCond .ne 55, 3) := by decide +kernel
theorem dX12_planOf_53 : decode cX12_planOf 53 = .ok (.aload_n 0, 1) := by decide +kernel
theorem dX12_planOf_54 : decode cX12_planOf 54 = .ok (.getfield 109, 3) := by decide +kernel
theorem dX12_planOf_57 : decode cX12_planOf 57 = .ok (.bipush 6, 2) := by decide +kernel
theorem dX12_planOf_59 : decode cX12_planOf 59 = .ok (.iload 4, 2) := by decide +kernel
theorem dX12_planOf_61 : decode cX12_planOf 61 = .ok (.imul, 1) := by decide +kernel
theorem dX12_planOf_62 : decode cX12_planOf 62 = .ok (.iload 5, 2) := by decide +kernel
theorem dX12_planOf_64 : decode cX12_planOf 64 = .ok (.iadd, 1) := by decide +kernel
theorem dX12_planOf_65 : decode cX12_planOf 65 = .ok (.laload, 1) := by decide +kernel
theorem dX12_planOf_66 : decode cX12_planOf 66 = .ok (.aload_n 0, 1) := by decide +kernel
theorem dX12_planOf_67 : decode cX12_planOf 67 = .ok (.getfield 115, 3) := by decide +kernel
theorem dX12_planOf_70 : decode cX12_planOf 70 = .ok (.bipush 64, 2) := by decide +kernel
theorem dX12_planOf_72 : decode cX12_planOf 72 = .ok (.iload 4, 2) := by decide +kernel
theorem dX12_planOf_74 : decode cX12_planOf 74 = .ok (.iconst 1, 1) := by decide +kernel
theorem dX12_planOf_75 : decode cX12_planOf 75 = .ok (.iadd, 1) := by decide +kernel
theorem dX12_planOf_76 : decode cX12_planOf 76 = .ok (.imul, 1) := by decide +kernel
theorem dX12_planOf_77 : decode cX12_planOf 77 = .ok (.iload_n 2, 1) := by decide +kernel
theorem dX12_planOf_78 : decode cX12_planOf 78 = .ok (.iconst 1, 1) := by decide +kernel
theorem dX12_planOf_79 : decode cX12_planOf 79 = .ok (.iload 5, 2) := by decide +kernel
theorem dX12_planOf_81 : decode cX12_planOf 81 = .ok (.ishl, 1) := by decide +kernel
theorem dX12_planOf_82 : decode cX12_planOf 82 = .ok (.ior, 1) := by decide +kernel
theorem dX12_planOf_83 : decode cX12_planOf 83 = .ok (.iadd, 1) := by decide +kernel
theorem dX12_planOf_84 : decode cX12_planOf 84 = .ok (.laload, 1) := by decide +kernel
theorem dX12_planOf_85 : decode cX12_planOf 85 = .ok (.ladd, 1) := by decide +kernel
theorem dX12_planOf_86 : decode cX12_planOf 86 = .ok (.aload_n 0, 1) := by decide +kernel
theorem dX12_planOf_87 : decode cX12_planOf 87 = .ok (.getfield 115, 3) := by decide +kernel
theorem dX12_planOf_90 : decode cX12_planOf 90 = .ok (.bipush 64, 2) := by decide +kernel
theorem dX12_planOf_92 : decode cX12_planOf 92 = .ok (.iload 4, 2) := by decide +kernel
theorem dX12_planOf_94 : decode cX12_planOf 94 = .ok (.imul, 1) := by decide +kernel
theorem dX12_planOf_95 : decode cX12_planOf 95 = .ok (.iload_n 2, 1) := by decide +kernel
theorem dX12_planOf_96 : decode cX12_planOf 96 = .ok (.iadd, 1) := by decide +kernel
theorem dX12_planOf_97 : decode cX12_planOf 97 = .ok (.laload, 1) := by decide +kernel
theorem dX12_planOf_98 : decode cX12_planOf 98 = .ok (.lcmp, 1) := by decide +kernel
theorem dX12_planOf_99 : decode cX12_planOf 99 = .ok (.ifCond .ne 6, 3) := by decide +kernel
theorem dX12_planOf_102 : decode cX12_planOf 102 = .ok (.iload 5, 2) := by decide +kernel
theorem dX12_planOf_104 : decode cX12_planOf 104 = .ok (.istore_n 3, 1) := by decide +kernel
theorem dX12_planOf_105 : decode cX12_planOf 105 = .ok (.iinc 5 (-1), 3) := by decide +kernel
theorem dX12_planOf_108 : decode cX12_planOf 108 = .ok (.goto (-85), 3) := by decide +kernel
theorem dX12_planOf_111 : decode cX12_planOf 111 = .ok (.iload_n 2, 1) := by decide +kernel
theorem dX12_planOf_112 : decode cX12_planOf 112 = .ok (.iload_n 3, 1) := by decide +kernel
theorem dX12_planOf_113 : decode cX12_planOf 113 = .ok (.iconst (-1), 1) := by decide +kernel
theorem dX12_planOf_114 : decode cX12_planOf 114 = .ok (.if_icmp .ne 7, 3) := by decide +kernel
theorem dX12_planOf_117 : decode cX12_planOf 117 = .ok (.iconst 0, 1) := by decide +kernel
theorem dX12_planOf_118 : decode cX12_planOf 118 = .ok (.goto 6, 3) := by decide +kernel
theorem dX12_planOf_121 : decode cX12_planOf 121 = .ok (.iconst 1, 1) := by decide +kernel
theorem dX12_planOf_122 : decode cX12_planOf 122 = .ok (.iload_n 3, 1) := by decide +kernel
theorem dX12_planOf_123 : decode cX12_planOf 123 = .ok (.ishl, 1) := by decide +kernel
theorem dX12_planOf_124 : decode cX12_planOf 124 = .ok (.ior, 1) := by decide +kernel
theorem dX12_planOf_125 : decode cX12_planOf 125 = .ok (.istore_n 2, 1) := by decide +kernel
theorem dX12_planOf_126 : decode cX12_planOf 126 = .ok (.iinc 4 1, 3) := by decide +kernel
theorem dX12_planOf_129 : decode cX12_planOf 129 = .ok (.goto (-122), 3) := by decide +kernel
theorem dX12_planOf_132 : decode cX12_planOf 132 = .ok (.iload_n 3, 1) := by decide +kernel
theorem dX12_planOf_133 : decode cX12_planOf 133 = .ok (.iconst (-1), 1) := by decide +kernel
theorem dX12_planOf_134 : decode cX12_planOf 134 = .ok (.if_icmp .ne 7, 3) := by decide +kernel
theorem dX12_planOf_137 : decode cX12_planOf 137 = .ok (.iconst (-1), 1) := by decide +kernel
theorem dX12_planOf_138 : decode cX12_planOf 138 = .ok (.goto 9, 3) := by decide +kernel
theorem dX12_planOf_141 : decode cX12_planOf 141 = .ok (.aload_n 0, 1) := by decide +kernel
theorem dX12_planOf_142 : decode cX12_planOf 142 = .ok (.getfield 106, 3) := by decide +kernel
theorem dX12_planOf_145 : decode cX12_planOf 145 = .ok (.iload_n 3, 1) := by decide +kernel
theorem dX12_planOf_146 : decode cX12_planOf 146 = .ok (.iaload, 1) := by decide +kernel
theorem dX12_planOf_147 : decode cX12_planOf 147 = .ok (.ireturn, 1) := by decide +kernel
theorem dX12_plan_0 : decode cX12_plan 0 = .ok (.aload_n 0, 1) := by decide +kernel
theorem dX12_plan_1 : decode cX12_plan 1 = .ok (.iconst 0, 1) := by decide +kernel
theorem dX12_plan_2 : decode cX12_plan 2 = .ok (.putfield 153, 3) := by decide +kernel
theorem dX12_plan_5 : decode cX12_plan 5 = .ok (.iload_n 1, 1) := by decide +kernel
theorem dX12_plan_6 : decode cX12_plan 6 = .ok (.i2l, 1) := by decide +kernel
theorem dX12_plan_7 : decode cX12_plan 7 = .ok (.lconst 0, 1) := by decide +kernel
theorem dX12_plan_8 : decode cX12_plan 8 = .ok (.ldc2_w 495, 3) := by decide +kernel
theorem dX12_plan_11 : decode cX12_plan 11 = .ok (.invokestatic 173, 3) := by decide +kernel
theorem dX12_plan_14 : decode cX12_plan 14 = .ok (.ifCond .eq 25, 3) := by decide +kernel
theorem dX12_plan_17 : decode cX12_plan 17 = .ok (.iload_n 1, 1) := by decide +kernel
theorem dX12_plan_18 : decode cX12_plan 18 = .ok (.invokestatic 497, 3) := by decide +kernel
theorem dX12_plan_21 : decode cX12_plan 21 = .ok (.bipush 6, 2) := by decide +kernel
theorem dX12_plan_23 : decode cX12_plan 23 = .ok (.if_icmp .gt 16, 3) := by decide +kernel
theorem dX12_plan_26 : decode cX12_plan 26 = .ok (.iload_n 2, 1) := by decide +kernel
theorem dX12_plan_27 : decode cX12_plan 27 = .ok (.iconst (-1), 1) := by decide +kernel
theorem dX12_plan_28 : decode cX12_plan 28 = .ok (.if_icmp .eq 15, 3) := by decide +kernel
theorem dX12_plan_31 : decode cX12_plan 31 = .ok (.aload_n 0, 1) := by decide +kernel
theorem dX12_plan_32 : decode cX12_plan 32 = .ok (.iload_n 2, 1) := by decide +kernel
theorem dX12_plan_33 : decode cX12_plan 33 = .ok (.invokevirtual 196, 3) := by decide +kernel
theorem dX12_plan_36 : decode cX12_plan 36 = .ok (.ifCond .ne 7, 3) := by decide +kernel
theorem dX12_plan_39 : decode cX12_plan 39 = .ok (.ldc2_w 269, 3) := by decide +kernel
theorem dX12_plan_42 : decode cX12_plan 42 = .ok (.lreturn, 1) := by decide +kernel
theorem dX12_plan_43 : decode cX12_plan 43 = .ok (.aload_n 0, 1) := by decide +kernel
theorem dX12_plan_44 : decode cX12_plan 44 = .ok (.iload_n 1, 1) := by decide +kernel
theorem dX12_plan_45 : decode cX12_plan 45 = .ok (.invokevirtual 500, 3) := by decide +kernel
theorem dX12_plan_48 : decode cX12_plan 48 = .ok (.aload_n 0, 1) := by decide +kernel
theorem dX12_plan_49 : decode cX12_plan 49 = .ok (.invokevirtual 503, 3) := by decide +kernel
theorem dX12_plan_52 : decode cX12_plan 52 = .ok (.iload_n 2, 1) := by decide +kernel
theorem dX12_plan_53 : decode cX12_plan 53 = .ok (.iconst (-1), 1) := by decide +kernel
theorem dX12_plan_54 : decode cX12_plan 54 = .ok (.if_icmp .ne 12, 3) := by decide +kernel
theorem dX12_plan_57 : decode cX12_plan 57 = .ok (.aload_n 0, 1) := by decide +kernel
theorem dX12_plan_58 : decode cX12_plan 58 = .ok (.getfield 115, 3) := by decide +kernel
theorem dX12_plan_61 : decode cX12_plan 61 = .ok (.iconst 0, 1) := by decide +kernel
theorem dX12_plan_62 : decode cX12_plan 62 = .ok (.laload, 1) := by decide +kernel
theorem dX12_plan_63 : decode cX12_plan 63 = .ok (.goto 9, 3) := by decide +kernel
theorem dX12_plan_66 : decode cX12_plan 66 = .ok (.aload_n 0, 1) := by decide +kernel
theorem dX12_plan_67 : decode cX12_plan 67 = .ok (.iload_n 2, 1) := by decide +kernel
theorem dX12_plan_68 : decode cX12_plan 68 = .ok (.invokevirtual 506, 3) := by decide +kernel
theorem dX12_plan_71 : decode cX12_plan 71 = .ok (.i2l, 1) := by decide +kernel
theorem dX12_plan_72 : decode cX12_plan 72 = .ok (.lreturn, 1) := by decide +kernel
theorem dX12_bring_0 : decode cX12_bring 0 = .ok (.iload_n 2, 1) := by decide +kernel
theorem dX12_bring_1 : decode cX12_bring 1 = .ok (.aload_n 0, 1) := by decide +kernel
theorem dX12_bring_2 : decode cX12_bring 2 = .ok (.getfield 509, 3) := by decide +kernel
theorem dX12_bring_5 : decode cX12_bring 5 = .ok (.if_icmp .lt 16, 3) := by decide +kernel
theorem dX12_bring_8 : decode cX12_bring 8 = .ok (.aload_n 0, 1) := by decide +kernel
theorem dX12_bring_9 : decode cX12_bring 9 = .ok (.dup, 1) := by decide +kernel
theorem dX12_bring_10 : decode cX12_bring 10 = .ok (.getfield 512, 3) := by decide +kernel
theorem dX12_bring_13 : decode cX12_bring 13 = .ok (.lload_n 3, 1) := by decide +kernel
theorem dX12_bring_14 : decode cX12_bring 14 = .ok (.ladd, 1) := by decide +kernel
theorem dX12_bring_15 : decode cX12_bring 15 = .ok (.putfield 512, 3) := by decide +kernel
theorem dX12_bring_18 : decode cX12_bring 18 = .ok (.goto 18, 3) := by decide +kernel
theorem dX12_bring_21 : decode cX12_bring 21 = .ok (.aload_n 0, 1) := by decide +kernel
theorem dX12_bring_22 : decode cX12_bring 22 = .ok (.getfield 121, 3) := by decide +kernel
theorem dX12_bring_25 : decode cX12_bring 25 = .ok (.bipush 40, 2) := by decide +kernel
theorem dX12_bring_27 : decode cX12_bring 27 = .ok (.iload_n 1, 1) := by decide +kernel
theorem dX12_bring_28 : decode cX12_bring 28 = .ok (.imul, 1) := by decide +kernel
theorem dX12_bring_29 : decode cX12_bring 29 = .ok (.iload_n 2, 1) := by decide +kernel
theorem dX12_bring_30 : decode cX12_bring 30 = .ok (.iadd, 1) := by decide +kernel
theorem dX12_bring_31 : decode cX12_bring 31 = .ok (.dup2, 1) := by decide +kernel
theorem dX12_bring_32 : decode cX12_bring 32 = .ok (.laload, 1) := by decide +kernel
theorem dX12_bring_33 : decode cX12_bring 33 = .ok (.lload_n 3, 1) := by decide +kernel
theorem dX12_bring_34 : decode cX12_bring 34 = .ok (.ladd, 1) := by decide +kernel
theorem dX12_bring_35 : decode cX12_bring 35 = .ok (.lastore, 1) := by decide +kernel
theorem dX12_bring_36 : decode cX12_bring 36 = .ok (.return_, 1) := by decide +kernel
theorem dX12_bridgeYear_0 : decode cX12_bridgeYear 0 = .ok (.iconst 0, 1) := by decide +kernel
theorem dX12_bridgeYear_1 : decode cX12_bridgeYear 1 = .ok (.istore 4, 2) := by decide +kernel
theorem dX12_bridgeYear_3 : decode cX12_bridgeYear 3 = .ok (.iload 4, 2) := by decide +kernel
theorem dX12_bridgeYear_5 : decode cX12_bridgeYear 5 = .ok (.bipush 120, 2) := by decide +kernel
theorem dX12_bridgeYear_7 : decode cX12_bridgeYear 7 = .ok (.if_icmp .ge 17, 3) := by decide +kernel
theorem dX12_bridgeYear_10 : decode cX12_bridgeYear 10 = .ok (.aload_n 0, 1) := by decide +kernel
theorem dX12_bridgeYear_11 : decode cX12_bridgeYear 11 = .ok (.getfield 121, 3) := by decide +kernel
theorem dX12_bridgeYear_14 : decode cX12_bridgeYear 14 = .ok (.iload 4, 2) := by decide +kernel
theorem dX12_bridgeYear_16 : decode cX12_bridgeYear 16 = .ok (.lconst 0, 1) := by decide +kernel
theorem dX12_bridgeYear_17 : decode cX12_bridgeYear 17 = .ok (.lastore, 1) := by decide +kernel
theorem dX12_bridgeYear_18 : decode cX12_bridgeYear 18 = .ok (.iinc 4 1, 3) := by decide +kernel
theorem dX12_bridgeYear_21 : decode cX12_bridgeYear 21 = .ok (.goto (-18), 3) := by decide +kernel
theorem dX12_bridgeYear_24 : decode cX12_bridgeYear 24 = .ok (.aload_n 0, 1) := by decide +kernel
theorem dX12_bridgeYear_25 : decode cX12_bridgeYear 25 = .ok (.getfield 13, 3) := by decide +kernel
theorem dX12_bridgeYear_28 : decode cX12_bridgeYear 28 = .ok (.iconst 4, 1) := by decide +kernel
theorem dX12_bridgeYear_29 : decode cX12_bridgeYear 29 = .ok (.iaload, 1) := by decide +kernel
theorem dX12_bridgeYear_30 : decode cX12_bridgeYear 30 = .ok (.iload_n 3, 1) := by decide +kernel
theorem dX12_bridgeYear_31 : decode cX12_bridgeYear 31 = .ok (.iadd, 1) := by decide +kernel
theorem dX12_bridgeYear_32 : decode cX12_bridgeYear 32 = .ok (.istore 4, 2) := by decide +kernel
theorem dX12_bridgeYear_34 : decode cX12_bridgeYear 34 = .ok (.aload_n 0, 1) := by decide +kernel
theorem dX12_bridgeYear_35 : decode cX12_bridgeYear 35 = .ok (.iconst (-1), 1) := by decide +kernel
theorem dX12_bridgeYear_36 : decode cX12_bridgeYear 36 = .ok (.iconst (-1), 1) := by decide +kernel
theorem dX12_bridgeYear_37 : decode cX12_bridgeYear 37 = .ok (.invokevirtual 431, 3) := by decide +kernel
theorem dX12_bridgeYear_40 : decode cX12_bridgeYear 40 = .ok (.aload_n 0, 1) := by decide +kernel
theorem dX12_bridgeYear_41 : decode cX12_bridgeYear 41 = .ok (.iload_n 1, 1) := by decide +kernel
theorem dX12_bridgeYear_42 : decode cX12_bridgeYear 42 = .ok (.aload_n 0, 1) := by decide +kernel
theorem dX12_bridgeYear_43 : decode cX12_bridgeYear 43 = .ok (.iload_n 1, 1) := by decide +kernel
theorem dX12_bridgeYear_44 : decode cX12_bridgeYear 44 = .ok (.iload_n 3, 1) := by decide +kernel
theorem dX12_bridgeYear_45 : decode cX12_bridgeYear 45 = .ok (.invokevirtual 478, 3) := by decide +kernel
theorem dX12_bridgeYear_48 : decode cX12_bridgeYear 48 = .ok (.iload 4, 2) := by decide +kernel
theorem dX12_bridgeYear_50 : decode cX12_bridgeYear 50 = .ok (.invokevirtual 427, 3) := by decide +kernel
theorem dX12_bridgeYear_53 : decode cX12_bridgeYear 53 = .ok (.aload_n 0, 1) := by decide +kernel
theorem dX12_bridgeYear_54 : decode cX12_bridgeYear 54 = .ok (.invokevirtual 437, 3) := by decide +kernel
theorem dX12_bridgeYear_57 : decode cX12_bridgeYear 57 = .ok (.istore 5, 2) := by decide +kernel
theorem dX12_bridgeYear_59 : decode cX12_bridgeYear 59 = .ok (.aload_n 0, 1) := by decide +kernel
theorem dX12_bridgeYear_60 : decode cX12_bridgeYear 60 = .ok (.invokevirtual 440, 3) := by decide +kernel
theorem dX12_bridgeYear_63 : decode cX12_bridgeYear 63 = .ok (.istore 6, 2) := by decide +kernel
theorem dX12_bridgeYear_65 : decode cX12_bridgeYear 65 = .ok (.aload_n 0, 1) := by decide +kernel
theorem dX12_bridgeYear_66 : decode cX12_bridgeYear 66 = .ok (.iload_n 2, 1) := by decide +kernel
theorem dX12_bridgeYear_67 : decode cX12_bridgeYear 67 = .ok (.aload_n 0, 1) := by decide +kernel
theorem dX12_bridgeYear_68 : decode cX12_bridgeYear 68 = .ok (.iload_n 2, 1) := by decide +kernel
theorem dX12_bridgeYear_69 : decode cX12_bridgeYear 69 = .ok (.iload_n 3, 1) := by decide +kernel
theorem dX12_bridgeYear_70 : decode cX12_bridgeYear 70 = .ok (.invokevirtual 478, 3) := by decide +kernel
theorem dX12_bridgeYear_73 : decode cX12_bridgeYear 73 = .ok (.iload 4, 2) := by decide +kernel
theorem dX12_bridgeYear_75 : decode cX12_bridgeYear 75 = .ok (.invokevirtual 427, 3) := by decide +kernel
theorem dX12_bridgeYear_78 : decode cX12_bridgeYear 78 = .ok (.aload_n 0, 1) := by decide +kernel
theorem dX12_bridgeYear_79 : decode cX12_bridgeYear 79 = .ok (.invokevirtual 437, 3) := by decide +kernel
theorem dX12_bridgeYear_82 : decode cX12_bridgeYear 82 = .ok (.istore 7, 2) := by decide +kernel
theorem dX12_bridgeYear_84 : decode cX12_bridgeYear 84 = .ok (.aload_n 0, 1) := by decide +kernel
theorem dX12_bridgeYear_85 : decode cX12_bridgeYear 85 = .ok (.invokevirtual 440, 3) := by decide +kernel
theorem dX12_bridgeYear_88 : decode cX12_bridgeYear 88 = .ok (.istore 8, 2) := by decide +kernel
theorem dX12_bridgeYear_90 : decode cX12_bridgeYear 90 = .ok (.iconst 0, 1) := by decide +kernel
theorem dX12_bridgeYear_91 : decode cX12_bridgeYear 91 = .ok (.istore 9, 2) := by decide +kernel
theorem dX12_bridgeYear_93 : decode cX12_bridgeYear 93 = .ok (.iload 9, 2) := by decide +kernel
theorem dX12_bridgeYear_95 : decode cX12_bridgeYear 95 = .ok (.aload_n 0, 1) := by decide +kernel
theorem dX12_bridgeYear_96 : decode cX12_bridgeYear 96 = .ok (.getfield 509, 3) := by decide +kernel
theorem dX12_bridgeYear_99 : decode cX12_bridgeYear 99 = .ok (.if_icmp .ge 136, 3) := by decide +kernel
theorem dX12_bridgeYear_102 : decode cX12_bridgeYear 102 = .ok (.aload_n 0, 1) := by decide +kernel
theorem dX12_bridgeYear_103 : decode cX12_bridgeYear 103 = .ok (.getfield 118, 3) := by decide +kernel
theorem dX12_bridgeYear_106 : decode cX12_bridgeYear 106 = .ok (.iload 9, 2) := by decide +kernel
theorem dX12_bridgeYear_108 : decode cX12_bridgeYear 108 = .ok (.laload, 1) := by decide +kernel
theorem dX12_bridgeYear_109 : decode cX12_bridgeYear 109 = .ok (.lstore 10, 2) := by decide +kernel
theorem dX12_bridgeYear_111 : decode cX12_bridgeYear 111 = .ok (.lload 10, 2) := by decide +kernel
theorem dX12_bridgeYear_113 : decode cX12_bridgeYear 113 = .ok (.iload 5, 2) := by decide +kernel
theorem dX12_bridgeYear_115 : decode cX12_bridgeYear 115 = .ok (.invokestatic 481, 3) := by decide +kernel
theorem dX12_bridgeYear_118 : decode cX12_bridgeYear 118 = .ok (.lstore 12, 2) := by decide +kernel
theorem dX12_bridgeYear_120 : decode cX12_bridgeYear 120 = .ok (.lload 12, 2) := by decide +kernel
theorem dX12_bridgeYear_122 : decode cX12_bridgeYear 122 = .ok (.iload 7, 2) := by decide +kernel
theorem dX12_bridgeYear_124 : decode cX12_bridgeYear 124 = .ok (.invokestatic 481, 3) := by decide +kernel
theorem dX12_bridgeYear_127 : decode cX12_bridgeYear 127 = .ok (.lstore 14, 2) := by decide +kernel
theorem dX12_bridgeYear_129 : decode cX12_bridgeYear 129 = .ok (.aload_n 0, 1) := by decide +kernel
theorem dX12_bridgeYear_130 : decode cX12_bridgeYear 130 = .ok (.iconst 0, 1) := by decide +kernel
theorem dX12_bridgeYear_131 : decode cX12_bridgeYear 131 = .ok (.iload 9, 2) := by decide +kernel
theorem dX12_bridgeYear_133 : decode cX12_bridgeYear 133 = .ok (.iload 6, 2) := by decide +kernel
theorem dX12_bridgeYear_135 : decode cX12_bridgeYear 135 = .ok (.iadd, 1) := by decide +kernel
theorem dX12_bridgeYear_136 : decode cX12_bridgeYear 136 = .ok (.iload 8, 2) := by decide +kernel
theorem dX12_bridgeYear_138 : decode cX12_bridgeYear 138 = .ok (.iadd, 1) := by decide +kernel
theorem dX12_bridgeYear_139 : decode cX12_bridgeYear 139 = .ok (.lload 14, 2) := by decide +kernel
theorem dX12_bridgeYear_141 : decode cX12_bridgeYear 141 = .ok (.invokevirtual 515, 3) := by decide +kernel
theorem dX12_bridgeYear_144 : decode cX12_bridgeYear 144 = .ok (.aload_n 0, 1) := by decide +kernel
theorem dX12_bridgeYear_145 : decode cX12_bridgeYear 145 = .ok (.iconst 1, 1) := by decide +kernel
theorem dX12_bridgeYear_146 : decode cX12_bridgeYear 146 = .ok (.iload 9, 2) := by decide +kernel
theorem dX12_bridgeYear_148 : decode cX12_bridgeYear 148 = .ok (.iload 6, 2) := by decide +kernel
theorem dX12_bridgeYear_150 : decode cX12_bridgeYear 150 = .ok (.iadd, 1) := by decide +kernel
theorem dX12_bridgeYear_151 : decode cX12_bridgeYear 151 = .ok (.lload 12, 2) := by decide +kernel
theorem dX12_bridgeYear_153 : decode cX12_bridgeYear 153 = .ok (.lload 14, 2) := by decide +kernel
theorem dX12_bridgeYear_155 : decode cX12_bridgeYear 155 = .ok (.lsub, 1) := by decide +kernel
theorem dX12_bridgeYear_156 : decode cX12_bridgeYear 156 = .ok (.invokevirtual 515, 3) := by decide +kernel
theorem dX12_bridgeYear_159 : decode cX12_bridgeYear 159 = .ok (.aload_n 0, 1) := by decide +kernel
theorem dX12_bridgeYear_160 : decode cX12_bridgeYear 160 = .ok (.iconst 2, 1) := by decide +kernel
theorem dX12_bridgeYear_161 : decode cX12_bridgeYear 161 = .ok (.iload 9, 2) := by decide +kernel
theorem dX12_bridgeYear_163 : decode cX12_bridgeYear 163 = .ok (.iload 8, 2) := by decide +kernel
theorem dX12_bridgeYear_165 : decode cX12_bridgeYear 165 = .ok (.iadd, 1) := by decide +kernel
theorem dX12_bridgeYear_166 : decode cX12_bridgeYear 166 = .ok (.lload 10, 2) := by decide +kernel
theorem dX12_bridgeYear_168 : decode cX12_bridgeYear 168 = .ok (.lload 12, 2) := by decide +kernel
theorem dX12_bridgeYear_170 : decode cX12_bridgeYear 170 = .ok (.lsub, 1) := by decide +kernel
theorem dX12_bridgeYear_171 : decode cX12_bridgeYear 171 = .ok (.iload 7, 2) := by decide +kernel
theorem dX12_bridgeYear_173 : decode cX12_bridgeYear 173 = .ok (.invokestatic 481, 3) := by decide +kernel
theorem dX12_bridgeYear_176 : decode cX12_bridgeYear 176 = .ok (.invokevirtual 515, 3) := by decide +kernel
theorem dX12_bridgeYear_179 : decode cX12_bridgeYear 179 = .ok (.aload_n 0, 1) := by decide +kernel
theorem dX12_bridgeYear_180 : decode cX12_bridgeYear 180 = .ok (.iconst 1, 1) := by decide +kernel
theorem dX12_bridgeYear_181 : decode cX12_bridgeYear 181 = .ok (.iload 9, 2) := by decide +kernel
theorem dX12_bridgeYear_183 : decode cX12_bridgeYear 183 = .ok (.iload 6, 2) := by decide +kernel
theorem dX12_bridgeYear_185 : decode cX12_bridgeYear 185 = .ok (.iadd, 1) := by decide +kernel
theorem dX12_bridgeYear_186 : decode cX12_bridgeYear 186 = .ok (.aload_n 0, 1) := by decide +kernel
theorem dX12_bridgeYear_187 : decode cX12_bridgeYear 187 = .ok (.getfield 118, 3) := by decide +kernel
theorem dX12_bridgeYear_190 : decode cX12_bridgeYear 190 = .ok (.bipush 40, 2) := by decide +kernel
theorem dX12_bridgeYear_192 : decode cX12_bridgeYear 192 = .ok (.iload 9, 2) := by decide +kernel
theorem dX12_bridgeYear_194 : decode cX12_bridgeYear 194 = .ok (.iadd, 1) := by decide +kernel
theorem dX12_bridgeYear_195 : decode cX12_bridgeYear 195 = .ok (.laload, 1) := by decide +kernel
theorem dX12_bridgeYear_196 : decode cX12_bridgeYear 196 = .ok (.iload 5, 2) := by decide +kernel
theorem dX12_bridgeYear_198 : decode cX12_bridgeYear 198 = .ok (.invokestatic 481, 3) := by decide +kernel
theorem dX12_bridgeYear_201 : decode cX12_bridgeYear 201 = .ok (.invokevirtual 515, 3) := by decide +kernel
theorem dX12_bridgeYear_204 : decode cX12_bridgeYear 204 = .ok (.aload_n 0, 1) := by decide +kernel
theorem dX12_bridgeYear_205 : decode cX12_bridgeYear 205 = .ok (.iconst 2, 1) := by decide +kernel
theorem dX12_bridgeYear_206 : decode cX12_bridgeYear 206 = .ok (.iload 9, 2) := by decide +kernel
theorem dX12_bridgeYear_208 : decode cX12_bridgeYear 208 = .ok (.iload 8, 2) := by decide +kernel
theorem dX12_bridgeYear_210 : decode cX12_bridgeYear 210 = .ok (.iadd, 1) := by decide +kernel
theorem dX12_bridgeYear_211 : decode cX12_bridgeYear 211 = .ok (.aload_n 0, 1) := by decide +kernel
theorem dX12_bridgeYear_212 : decode cX12_bridgeYear 212 = .ok (.getfield 118, 3) := by decide +kernel
theorem dX12_bridgeYear_215 : decode cX12_bridgeYear 215 = .ok (.bipush 80, 2) := by decide +kernel
theorem dX12_bridgeYear_217 : decode cX12_bridgeYear 217 = .ok (.iload 9, 2) := by decide +kernel
theorem dX12_bridgeYear_219 : decode cX12_bridgeYear 219 = .ok (.iadd, 1) := by decide +kernel
theorem dX12_bridgeYear_220 : decode cX12_bridgeYear 220 = .ok (.laload, 1) := by decide +kernel
theorem dX12_bridgeYear_221 : decode cX12_bridgeYear 221 = .ok (.iload 7, 2) := by decide +kernel
theorem dX12_bridgeYear_223 : decode cX12_bridgeYear 223 = .ok (.invokestatic 481, 3) := by decide +kernel
theorem dX12_bridgeYear_226 : decode cX12_bridgeYear 226 = .ok (.invokevirtual 515, 3) := by decide +kernel
theorem dX12_bridgeYear_229 : decode cX12_bridgeYear 229 = .ok (.iinc 9 1, 3) := by decide +kernel
theorem dX12_bridgeYear_232 : decode cX12_bridgeYear 232 = .ok (.goto (-139), 3) := by decide +kernel
theorem dX12_bridgeYear_235 : decode cX12_bridgeYear 235 = .ok (.iconst 0, 1) := by decide +kernel
theorem dX12_bridgeYear_236 : decode cX12_bridgeYear 236 = .ok (.istore 9, 2) := by decide +kernel
theorem dX12_bridgeYear_238 : decode cX12_bridgeYear 238 = .ok (.iload 9, 2) := by decide +kernel
theorem dX12_bridgeYear_240 : decode cX12_bridgeYear 240 = .ok (.bipush 120, 2) := by decide +kernel
theorem dX12_bridgeYear_242 : decode cX12_bridgeYear 242 = .ok (.if_icmp .ge 23, 3) := by decide +kernel
theorem dX12_bridgeYear_245 : decode cX12_bridgeYear 245 = .ok (.aload_n 0, 1) := by decide +kernel
theorem dX12_bridgeYear_246 : decode cX12_bridgeYear 246 = .ok (.getfield 118, 3) := by decide +kernel
theorem dX12_bridgeYear_249 : decode cX12_bridgeYear 249 = .ok (.iload 9, 2) := by decide +kernel
theorem dX12_bridgeYear_251 : decode cX12_bridgeYear 251 = .ok (.aload_n 0, 1) := by decide +kernel
theorem dX12_bridgeYear_252 : decode cX12_bridgeYear 252 = .ok (.getfield 121, 3) := by decide +kernel
theorem dX12_bridgeYear_255 : decode cX12_bridgeYear 255 = .ok (.iload 9, 2) := by decide +kernel
theorem dX12_bridgeYear_257 : decode cX12_bridgeYear 257 = .ok (.laload, 1) := by decide +kernel
theorem dX12_bridgeYear_258 : decode cX12_bridgeYear 258 = .ok (.lastore, 1) := by decide +kernel
theorem dX12_bridgeYear_259 : decode cX12_bridgeYear 259 = .ok (.iinc 9 1, 3) := by decide +kernel
theorem dX12_bridgeYear_262 : decode cX12_bridgeYear 262 = .ok (.goto (-24), 3) := by decide +kernel
theorem dX12_bridgeYear_265 : decode cX12_bridgeYear 265 = .ok (.return_, 1) := by decide +kernel
theorem dX12_bridge_0 : decode cX12_bridge 0 = .ok (.aload_n 0, 1) := by decide +kernel
theorem dX12_bridge_1 : decode cX12_bridge 1 = .ok (.iconst 0, 1) := by decide +kernel
theorem dX12_bridge_2 : decode cX12_bridge 2 = .ok (.putfield 153, 3) := by decide +kernel
theorem dX12_bridge_5 : decode cX12_bridge 5 = .ok (.aload_n 0, 1) := by decide +kernel
theorem dX12_bridge_6 : decode cX12_bridge 6 = .ok (.iload_n 1, 1) := by decide +kernel
theorem dX12_bridge_7 : decode cX12_bridge 7 = .ok (.invokevirtual 196, 3) := by decide +kernel
theorem dX12_bridge_10 : decode cX12_bridge 10 = .ok (.ifCond .eq 28, 3) := by decide +kernel
theorem dX12_bridge_13 : decode cX12_bridge 13 = .ok (.aload_n 0, 1) := by decide +kernel
theorem dX12_bridge_14 : decode cX12_bridge 14 = .ok (.iload_n 2, 1) := by decide +kernel
theorem dX12_bridge_15 : decode cX12_bridge 15 = .ok (.invokevirtual 196, 3) := by decide +kernel
theorem dX12_bridge_18 : decode cX12_bridge 18 = .ok (.ifCond .eq 20, 3) := by decide +kernel
theorem dX12_bridge_21 : decode cX12_bridge 21 = .ok (.iload_n 1, 1) := by decide +kernel
theorem dX12_bridge_22 : decode cX12_bridge 22 = .ok (.iload_n 2, 1) := by decide +kernel
theorem dX12_bridge_23 : decode cX12_bridge 23 = .ok (.if_icmp .eq 15, 3) := by decide +kernel
theorem dX12_bridge_26 : decode cX12_bridge 26 = .ok (.iload_n 3, 1) := by decide +kernel
theorem dX12_bridge_27 : decode cX12_bridge 27 = .ok (.i2l, 1) := by decide +kernel
theorem dX12_bridge_28 : decode cX12_bridge 28 = .ok (.lconst 1, 1) := by decide +kernel
theorem dX12_bridge_29 : decode cX12_bridge 29 = .ok (.ldc2_w 519, 3) := by decide +kernel
theorem dX12_bridge_32 : decode cX12_bridge 32 = .ok (.invokestatic 173, 3) := by decide +kernel
theorem dX12_bridge_35 : decode cX12_bridge 35 = .ok (.ifCond .ne 7, 3) := by decide +kernel
theorem dX12_bridge_38 : decode cX12_bridge 38 = .ok (.ldc2_w 269, 3) := by decide +kernel
theorem dX12_bridge_41 : decode cX12_bridge 41 = .ok (.lreturn, 1) := by decide +kernel
theorem dX12_bridge_42 : decode cX12_bridge 42 = .ok (.iconst 0, 1) := by decide +kernel
theorem dX12_bridge_43 : decode cX12_bridge 43 = .ok (.istore 4, 2) := by decide +kernel
theorem dX12_bridge_45 : decode cX12_bridge 45 = .ok (.iload 4, 2) := by decide +kernel
theorem dX12_bridge_47 : decode cX12_bridge 47 = .ok (.bipush 120, 2) := by decide +kernel
theorem dX12_bridge_49 : decode cX12_bridge 49 = .ok (.if_icmp .ge 17, 3) := by decide +kernel
theorem dX12_bridge_52 : decode cX12_bridge 52 = .ok (.aload_n 0, 1) := by decide +kernel
theorem dX12_bridge_53 : decode cX12_bridge 53 = .ok (.getfield 118, 3) := by decide +kernel
theorem dX12_bridge_56 : decode cX12_bridge 56 = .ok (.iload 4, 2) := by decide +kernel
theorem dX12_bridge_58 : decode cX12_bridge 58 = .ok (.lconst 0, 1) := by decide +kernel
theorem dX12_bridge_59 : decode cX12_bridge 59 = .ok (.lastore, 1) := by decide +kernel
theorem dX12_bridge_60 : decode cX12_bridge 60 = .ok (.iinc 4 1, 3) := by decide +kernel
theorem dX12_bridge_63 : decode cX12_bridge 63 = .ok (.goto (-18), 3) := by decide +kernel
theorem dX12_bridge_66 : decode cX12_bridge 66 = .ok (.aload_n 0, 1) := by decide +kernel
theorem dX12_bridge_67 : decode cX12_bridge 67 = .ok (.iload_n 1, 1) := by decide +kernel
theorem dX12_bridge_68 : decode cX12_bridge 68 = .ok (.invokevirtual 182, 3) := by decide +kernel
theorem dX12_bridge_71 : decode cX12_bridge 71 = .ok (.ifCond .ne 11, 3) := by decide +kernel
theorem dX12_bridge_74 : decode cX12_bridge 74 = .ok (.aload_n 0, 1) := by decide +kernel
theorem dX12_bridge_75 : decode cX12_bridge 75 = .ok (.iload_n 2, 1) := by decide +kernel
theorem dX12_bridge_76 : decode cX12_bridge 76 = .ok (.invokevirtual 182, 3) := by decide +kernel
theorem dX12_bridge_79 : decode cX12_bridge 79 = .ok (.ifCond .eq 46, 3) := by decide +kernel
theorem dX12_bridge_82 : decode cX12_bridge 82 = .ok (.aload_n 0, 1) := by decide +kernel
theorem dX12_bridge_83 : decode cX12_bridge 83 = .ok (.getfield 118, 3) := by decide +kernel
theorem dX12_bridge_86 : decode cX12_bridge 86 = .ok (.aload_n 0, 1) := by decide +kernel
theorem dX12_bridge_87 : decode cX12_bridge 87 = .ok (.iload_n 1, 1) := by decide +kernel
theorem dX12_bridge_88 : decode cX12_bridge 88 = .ok (.invokevirtual 182, 3) := by decide +kernel
theorem dX12_bridge_91 : decode cX12_bridge 91 = .ok (.ifCond .eq 15, 3) := by decide +kernel
theorem dX12_bridge_94 : decode cX12_bridge 94 = .ok (.aload_n 0, 1) := by decide +kernel
theorem dX12_bridge_95 : decode cX12_bridge 95 = .ok (.iload_n 2, 1) := by decide +kernel
theorem dX12_bridge_96 : decode cX12_bridge 96 = .ok (.invokevirtual 182, 3) := by decide +kernel
theorem dX12_bridge_99 : decode cX12_bridge 99 = .ok (.ifCond .eq 7, 3) := by decide +kernel
theorem dX12_bridge_102 : decode cX12_bridge 102 = .ok (.iconst 0, 1) := by decide +kernel
theorem dX12_bridge_103 : decode cX12_bridge 103 = .ok (.goto 18, 3) := by decide +kernel
theorem dX12_bridge_106 : decode cX12_bridge 106 = .ok (.aload_n 0, 1) := by decide +kernel
theorem dX12_bridge_107 : decode cX12_bridge 107 = .ok (.iload_n 1, 1) := by decide +kernel
theorem dX12_bridge_108 : decode cX12_bridge 108 = .ok (.invokevirtual 182, 3) := by decide +kernel
theorem dX12_bridge_111 : decode cX12_bridge 111 = .ok (.ifCond .eq 8, 3) := by decide +kernel
theorem dX12_bridge_114 : decode cX12_bridge 114 = .ok (.bipush 40, 2) := by decide +kernel
theorem dX12_bridge_116 : decode cX12_bridge 116 = .ok (.goto 5, 3) := by decide +kernel
theorem dX12_bridge_119 : decode cX12_bridge 119 = .ok (.bipush 80, 2) := by decide +kernel
theorem dX12_bridge_121 : decode cX12_bridge 121 = .ok (.ldc2_w 473, 3) := by decide +kernel
theorem dX12_bridge_124 : decode cX12_bridge 124 = .ok (.lastore, 1) := by decide +kernel
theorem dX12_bridge_125 : decode cX12_bridge 125 = .ok (.aload_n 0, 1) := by decide +kernel
theorem dX12_bridge_126 : decode cX12_bridge 126 = .ok (.lconst 0, 1) := by decide +kernel
theorem dX12_bridge_127 : decode cX12_bridge 127 = .ok (.putfield 512, 3) := by decide +kernel
theorem dX12_bridge_130 : decode cX12_bridge 130 = .ok (.aload_n 0, 1) := by decide +kernel
theorem dX12_bridge_131 : decode cX12_bridge 131 = .ok (.iload_n 3, 1) := by decide +kernel
theorem dX12_bridge_132 : decode cX12_bridge 132 = .ok (.putfield 509, 3) := by decide +kernel
theorem dX12_bridge_135 : decode cX12_bridge 135 = .ok (.iconst 0, 1) := by decide +kernel
theorem dX12_bridge_136 : decode cX12_bridge 136 = .ok (.istore 4, 2) := by decide +kernel
theorem dX12_bridge_138 : decode cX12_bridge 138 = .ok (.iload 4, 2) := by decide +kernel
theorem dX12_bridge_140 : decode cX12_bridge 140 = .ok (.bipush 99, 2) := by decide +kernel
theorem dX12_bridge_142 : decode cX12_bridge 142 = .ok (.if_icmp .ge 17, 3) := by decide +kernel
theorem dX12_bridge_145 : decode cX12_bridge 145 = .ok (.aload_n 0, 1) := by decide +kernel
theorem dX12_bridge_146 : decode cX12_bridge 146 = .ok (.iload_n 1, 1) := by decide +kernel
theorem dX12_bridge_147 : decode cX12_bridge 147 = .ok (.iload_n 2, 1) := by decide +kernel
theorem dX12_bridge_148 : decode cX12_bridge 148 = .ok (.iload 4, 2) := by decide +kernel
theorem dX12_bridge_150 : decode cX12_bridge 150 = .ok (.invokevirtual 521, 3) := by decide +kernel
theorem dX12_bridge_153 : decode cX12_bridge 153 = .ok (.iinc 4 1, 3) := by decide +kernel
theorem dX12_bridge_156 : decode cX12_bridge 156 = .ok (.goto (-18), 3) := by decide +kernel
theorem dX12_bridge_159 : decode cX12_bridge 159 = .ok (.aload_n 0, 1) := by decide +kernel
theorem dX12_bridge_160 : decode cX12_bridge 160 = .ok (.getfield 512, 3) := by decide +kernel
theorem dX12_bridge_163 : decode cX12_bridge 163 = .ok (.lreturn, 1) := by decide +kernel
theorem dX12_stair_0 : decode cX12_stair 0 = .ok (.aload_n 0, 1) := by decide +kernel
theorem dX12_stair_1 : decode cX12_stair 1 = .ok (.iconst 0, 1) := by decide +kernel
theorem dX12_stair_2 : decode cX12_stair 2 = .ok (.putfield 153, 3) := by decide +kernel
theorem dX12_stair_5 : decode cX12_stair 5 = .ok (.iconst 0, 1) := by decide +kernel
theorem dX12_stair_6 : decode cX12_stair 6 = .ok (.istore_n 2, 1) := by decide +kernel
theorem dX12_stair_7 : decode cX12_stair 7 = .ok (.iconst (-1), 1) := by decide +kernel
theorem dX12_stair_8 : decode cX12_stair 8 = .ok (.istore_n 3, 1) := by decide +kernel
theorem dX12_stair_9 : decode cX12_stair 9 = .ok (.iconst 0, 1) := by decide +kernel
theorem dX12_stair_10 : decode cX12_stair 10 = .ok (.istore 4, 2) := by decide +kernel
theorem dX12_stair_12 : decode cX12_stair 12 = .ok (.iconst 0, 1) := by decide +kernel
theorem dX12_stair_13 : decode cX12_stair 13 = .ok (.istore 5, 2) := by decide +kernel
theorem dX12_stair_15 : decode cX12_stair 15 = .ok (.iload 5, 2) := by decide +kernel
theorem dX12_stair_17 : decode cX12_stair 17 = .ok (.bipush 16, 2) := by decide +kernel
theorem dX12_stair_19 : decode cX12_stair 19 = .ok (.if_icmp .ge 82, 3) := by decide +kernel
theorem dX12_stair_22 : decode cX12_stair 22 = .ok (.iload 5, 2) := by decide +kernel
theorem dX12_stair_24 : decode cX12_stair 24 = .ok (.ifCond .le 37, 3) := by decide +kernel
theorem dX12_stair_27 : decode cX12_stair 27 = .ok (.aload_n 0, 1) := by decide +kernel
theorem dX12_stair_28 : decode cX12_stair 28 = .ok (.getfield 13, 3) := by decide +kernel
theorem dX12_stair_31 : decode cX12_stair 31 = .ok (.bipush 7, 2) := by decide +kernel
theorem dX12_stair_33 : decode cX12_stair 33 = .ok (.iload 5, 2) := by decide +kernel
theorem dX12_stair_35 : decode cX12_stair 35 = .ok (.iadd, 1) := by decide +kernel
theorem dX12_stair_36 : decode cX12_stair 36 = .ok (.iaload, 1) := by decide +kernel
theorem dX12_stair_37 : decode cX12_stair 37 = .ok (.aload_n 0, 1) := by decide +kernel
theorem dX12_stair_38 : decode cX12_stair 38 = .ok (.getfield 13, 3) := by decide +kernel
theorem dX12_stair_41 : decode cX12_stair 41 = .ok (.bipush 7, 2) := by decide +kernel
theorem dX12_stair_43 : decode cX12_stair 43 = .ok (.iload 5, 2) := by decide +kernel
theorem dX12_stair_45 : decode cX12_stair 45 = .ok (.iadd, 1) := by decide +kernel
theorem dX12_stair_46 : decode cX12_stair 46 = .ok (.iconst 1, 1) := by decide +kernel
theorem dX12_stair_47 : decode cX12_stair 47 = .ok (.isub, 1) := by decide +kernel
theorem dX12_stair_48 : decode cX12_stair 48 = .ok (.iaload, 1) := by decide +kernel
theorem dX12_stair_49 : decode cX12_stair 49 = .ok (.iconst 1, 1) := by decide +kernel
theorem dX12_stair_50 : decode cX12_stair 50 = .ok (.iadd, 1) := by decide +kernel
theorem dX12_stair_51 : decode cX12_stair 51 = .ok (.if_icmp .ne 10, 3) := by decide +kernel
theorem dX12_stair_54 : decode cX12_stair 54 = .ok (.iload 4, 2) := by decide +kernel
theorem dX12_stair_56 : decode cX12_stair 56 = .ok (.iconst 1, 1) := by decide +kernel
theorem dX12_stair_57 : decode cX12_stair 57 = .ok (.iadd, 1) := by decide +kernel
theorem dX12_stair_58 : decode cX12_stair 58 = .ok (.goto 4, 3) := by decide +kernel
theorem dX12_stair_61 : decode cX12_stair 61 = .ok (.iconst 1, 1) := by decide +kernel
theorem dX12_stair_62 : decode cX12_stair 62 = .ok (.istore 4, 2) := by decide +kernel
theorem dX12_stair_64 : decode cX12_stair 64 = .ok (.iload 4, 2) := by decide +kernel
theorem dX12_stair_66 : decode cX12_stair 66 = .ok (.iload_n 2, 1) := by decide +kernel
theorem dX12_stair_67 : decode cX12_stair 67 = .ok (.if_icmp .le 13, 3) := by decide +kernel
theorem dX12_stair_70 : decode cX12_stair 70 = .ok (.iload 5, 2) := by decide +kernel
theorem dX12_stair_72 : decode cX12_stair 72 = .ok (.iload 4, 2) := by decide +kernel
theorem dX12_stair_74 : decode cX12_stair 74 = .ok (.isub, 1) := by decide +kernel
theorem dX12_stair_75 : decode cX12_stair 75 = .ok (.iconst 1, 1) := by decide +kernel
theorem dX12_stair_76 : decode cX12_stair 76 = .ok (.iadd, 1) := by decide +kernel
theorem dX12_stair_77 : decode cX12_stair 77 = .ok (.goto 4, 3) := by decide +kernel
theorem dX12_stair_80 : decode cX12_stair 80 = .ok (.iload_n 3, 1) := by decide +kernel
theorem dX12_stair_81 : decode cX12_stair 81 = .ok (.istore_n 3, 1) := by decide +kernel
theorem dX12_stair_82 : decode cX12_stair 82 = .ok (.iload 4, 2) := by decide +kernel
theorem dX12_stair_84 : decode cX12_stair 84 = .ok (.iload_n 2, 1) := by decide +kernel
theorem dX12_stair_85 : decode cX12_stair 85 = .ok (.if_icmp .le 8, 3) := by decide +kernel
theorem dX12_stair_88 : decode cX12_stair 88 = .ok (.iload 4, 2) := by decide +kernel
theorem dX12_stair_90 : decode cX12_stair 90 = .ok (.goto 4, 3) := by decide +kernel
theorem dX12_stair_93 : decode cX12_stair 93 = .ok (.iload_n 2, 1) := by decide +kernel
theorem dX12_stair_94 : decode cX12_stair 94 = .ok (.istore_n 2, 1) := by decide +kernel
theorem dX12_stair_95 : decode cX12_stair 95 = .ok (.iinc 5 1, 3) := by decide +kernel
theorem dX12_stair_98 : decode cX12_stair 98 = .ok (.goto (-83), 3) := by decide +kernel
theorem dX12_stair_101 : decode cX12_stair 101 = .ok (.iload_n 1, 1) := by decide +kernel
theorem dX12_stair_102 : decode cX12_stair 102 = .ok (.ifCond .ne 7, 3) := by decide +kernel
theorem dX12_stair_105 : decode cX12_stair 105 = .ok (.iload_n 2, 1) := by decide +kernel
theorem dX12_stair_106 : decode cX12_stair 106 = .ok (.goto 13, 3) := by decide +kernel
theorem dX12_stair_109 : decode cX12_stair 109 = .ok (.iload_n 1, 1) := by decide +kernel
theorem dX12_stair_110 : decode cX12_stair 110 = .ok (.iconst 1, 1) := by decide +kernel
theorem dX12_stair_111 : decode cX12_stair 111 = .ok (.if_icmp .ne 7, 3) := by decide +kernel
theorem dX12_stair_114 : decode cX12_stair 114 = .ok (.iload_n 3, 1) := by decide +kernel
theorem dX12_stair_115 : decode cX12_stair 115 = .ok (.goto 4, 3) := by decide +kernel
theorem dX12_stair_118 : decode cX12_stair 118 = .ok (.iconst (-1), 1) := by decide +kernel
theorem dX12_stair_119 : decode cX12_stair 119 = .ok (.ireturn, 1) := by decide +kernel
theorem dX12_stretch_0 : decode cX12_stretch 0 = .ok (.aload_n 0, 1) := by decide +kernel
theorem dX12_stretch_1 : decode cX12_stretch 1 = .ok (.iconst 0, 1) := by decide +kernel
theorem dX12_stretch_2 : decode cX12_stretch 2 = .ok (.putfield 153, 3) := by decide +kernel
theorem dX12_stretch_5 : decode cX12_stretch 5 = .ok (.iload_n 1, 1) := by decide +kernel
theorem dX12_stretch_6 : decode cX12_stretch 6 = .ok (.i2l, 1) := by decide +kernel
theorem dX12_stretch_7 : decode cX12_stretch 7 = .ok (.lconst 1, 1) := by decide +kernel
theorem dX12_stretch_8 : decode cX12_stretch 8 = .ok (.ldc2_w 225, 3) := by decide +kernel
theorem dX12_stretch_11 : decode cX12_stretch 11 = .ok (.invokestatic 173, 3) := by decide +kernel
theorem dX12_stretch_14 : decode cX12_stretch 14 = .ok (.ifCond .ne 5, 3) := by decide +kernel
theorem dX12_stretch_17 : decode cX12_stretch 17 = .ok (.iconst (-1), 1) := by decide +kernel
theorem dX12_stretch_18 : decode cX12_stretch 18 = .ok (.ireturn, 1) := by decide +kernel
theorem dX12_stretch_19 : decode cX12_stretch 19 = .ok (.iconst 0, 1) := by decide +kernel
theorem dX12_stretch_20 : decode cX12_stretch 20 = .ok (.istore_n 3, 1) := by decide +kernel
theorem dX12_stretch_21 : decode cX12_stretch 21 = .ok (.iconst (-1), 1) := by decide +kernel
theorem dX12_stretch_22 : decode cX12_stretch 22 = .ok (.istore 4, 2) := by decide +kernel
theorem dX12_stretch_24 : decode cX12_stretch 24 = .ok (.iconst 0, 1) := by decide +kernel
theorem dX12_stretch_25 : decode cX12_stretch 25 = .ok (.istore 5, 2) := by decide +kernel
theorem dX12_stretch_27 : decode cX12_stretch 27 = .ok (.iconst 0, 1) := by decide +kernel
theorem dX12_stretch_28 : decode cX12_stretch 28 = .ok (.istore 6, 2) := by decide +kernel
theorem dX12_stretch_30 : decode cX12_stretch 30 = .ok (.iload 6, 2) := by decide +kernel
theorem dX12_stretch_32 : decode cX12_stretch 32 = .ok (.bipush 16, 2) := by decide +kernel
theorem dX12_stretch_34 : decode cX12_stretch 34 = .ok (.if_icmp .ge 66, 3) := by decide +kernel
theorem dX12_stretch_37 : decode cX12_stretch 37 = .ok (.aload_n 0, 1) := by decide +kernel
theorem dX12_stretch_38 : decode cX12_stretch 38 = .ok (.getfield 13, 3) := by decide +kernel
theorem dX12_stretch_41 : decode cX12_stretch 41 = .ok (.bipush 7, 2) := by decide +kernel
theorem dX12_stretch_43 : decode cX12_stretch 43 = .ok (.iload 6, 2) := by decide +kernel
theorem dX12_stretch_45 : decode cX12_stretch 45 = .ok (.iadd, 1) := by decide +kernel
theorem dX12_stretch_46 : decode cX12_stretch 46 = .ok (.iaload, 1) := by decide +kernel
theorem dX12_stretch_47 : decode cX12_stretch 47 = .ok (.iload_n 1, 1) := by decide +kernel
theorem dX12_stretch_48 : decode cX12_stretch 48 = .ok (.if_icmp .ge 10, 3) := by decide +kernel
theorem dX12_stretch_51 : decode cX12_stretch 51 = .ok (.iload 5, 2) := by decide +kernel
theorem dX12_stretch_53 : decode cX12_stretch 53 = .ok (.iconst 1, 1) := by decide +kernel
theorem dX12_stretch_54 : decode cX12_stretch 54 = .ok (.iadd, 1) := by decide +kernel
theorem dX12_stretch_55 : decode cX12_stretch 55 = .ok (.goto 4, 3) := by decide +kernel
theorem dX12_stretch_58 : decode cX12_stretch 58 = .ok (.iconst 0, 1) := by decide +kernel
theorem dX12_stretch_59 : decode cX12_stretch 59 = .ok (.istore 5, 2) := by decide +kernel
theorem dX12_stretch_61 : decode cX12_stretch 61 = .ok (.iload 5, 2) := by decide +kernel
theorem dX12_stretch_63 : decode cX12_stretch 63 = .ok (.iload_n 3, 1) := by decide +kernel
theorem dX12_stretch_64 : decode cX12_stretch 64 = .ok (.if_icmp .le 13, 3) := by decide +kernel
theorem dX12_stretch_67 : decode cX12_stretch 67 = .ok (.iload 6, 2) := by decide +kernel
theorem dX12_stretch_69 : decode cX12_stretch 69 = .ok (.iload 5, 2) := by decide +kernel
theorem dX12_stretch_71 : decode cX12_stretch 71 = .ok (.isub, 1) := by decide +kernel
theorem dX12_stretch_72 : decode cX12_stretch 72 = .ok (.iconst 1, 1) := by decide +kernel
theorem dX12_stretch_73 : decode cX12_stretch 73 = .ok (.iadd, 1) := by decide +kernel
theorem dX12_stretch_74 : decode cX12_stretch 74 = .ok (.goto 5, 3) := by decide +kernel
theorem dX12_stretch_77 : decode cX12_stretch 77 = .ok (.iload 4, 2) := by decide +kernel
theorem dX12_stretch_79 : decode cX12_stretch 79 = .ok (.istore 4, 2) := by decide +kernel
theorem dX12_stretch_81 : decode cX12_stretch 81 = .ok (.iload 5, 2) := by decide +kernel
theorem dX12_stretch_83 : decode cX12_stretch 83 = .ok (.iload_n 3, 1) := by decide +kernel
theorem dX12_stretch_84 : decode cX12_stretch 84 = .ok (.if_icmp .le 8, 3) := by decide +kernel
theorem dX12_stretch_87 : decode cX12_stretch 87 = .ok (.iload 5, 2) := by decide +kernel
theorem dX12_stretch_89 : decode cX12_stretch 89 = .ok (.goto 4, 3) := by decide +kernel
theorem dX12_stretch_92 : decode cX12_stretch 92 = .ok (.iload_n 3, 1) := by decide +kernel
theorem dX12_stretch_93 : decode cX12_stretch 93 = .ok (.istore_n 3, 1) := by decide +kernel
theorem dX12_stretch_94 : decode cX12_stretch 94 = .ok (.iinc 6 1, 3) := by decide +kernel
theorem dX12_stretch_97 : decode cX12_stretch 97 = .ok (.goto (-67), 3) := by decide +kernel
theorem dX12_stretch_100 : decode cX12_stretch 100 = .ok (.iload_n 2, 1) := by decide +kernel
theorem dX12_stretch_101 : decode cX12_stretch 101 = .ok (.ifCond .ne 7, 3) := by decide +kernel
theorem dX12_stretch_104 : decode cX12_stretch 104 = .ok (.iload_n 3, 1) := by decide +kernel
theorem dX12_stretch_105 : decode cX12_stretch 105 = .ok (.goto 14, 3) := by decide +kernel
theorem dX12_stretch_108 : decode cX12_stretch 108 = .ok (.iload_n 2, 1) := by decide +kernel
theorem dX12_stretch_109 : decode cX12_stretch 109 = .ok (.iconst 1, 1) := by decide +kernel
theorem dX12_stretch_110 : decode cX12_stretch 110 = .ok (.if_icmp .ne 8, 3) := by decide +kernel
theorem dX12_stretch_113 : decode cX12_stretch 113 = .ok (.iload 4, 2) := by decide +kernel
theorem dX12_stretch_115 : decode cX12_stretch 115 = .ok (.goto 4, 3) := by decide +kernel
theorem dX12_stretch_118 : decode cX12_stretch 118 = .ok (.iconst (-1), 1) := by decide +kernel
theorem dX12_stretch_119 : decode cX12_stretch 119 = .ok (.ireturn, 1) := by decide +kernel
theorem dX12_rooms_0 : decode cX12_rooms 0 = .ok (.aload_n 0, 1) := by decide +kernel
theorem dX12_rooms_1 : decode cX12_rooms 1 = .ok (.iconst 0, 1) := by decide +kernel
theorem dX12_rooms_2 : decode cX12_rooms 2 = .ok (.putfield 153, 3) := by decide +kernel
theorem dX12_rooms_5 : decode cX12_rooms 5 = .ok (.iload_n 1, 1) := by decide +kernel
theorem dX12_rooms_6 : decode cX12_rooms 6 = .ok (.i2l, 1) := by decide +kernel
theorem dX12_rooms_7 : decode cX12_rooms 7 = .ok (.lconst 1, 1) := by decide +kernel
theorem dX12_rooms_8 : decode cX12_rooms 8 = .ok (.ldc2_w 225, 3) := by decide +kernel
theorem dX12_rooms_11 : decode cX12_rooms 11 = .ok (.invokestatic 173, 3) := by decide +kernel
theorem dX12_rooms_14 : decode cX12_rooms 14 = .ok (.ifCond .ne 5, 3) := by decide +kernel
theorem dX12_rooms_17 : decode cX12_rooms 17 = .ok (.iconst (-1), 1) := by decide +kernel
theorem dX12_rooms_18 : decode cX12_rooms 18 = .ok (.ireturn, 1) := by decide +kernel
theorem dX12_rooms_19 : decode cX12_rooms 19 = .ok (.iconst 0, 1) := by decide +kernel
theorem dX12_rooms_20 : decode cX12_rooms 20 = .ok (.istore_n 2, 1) := by decide +kernel
theorem dX12_rooms_21 : decode cX12_rooms 21 = .ok (.iconst 0, 1) := by decide +kernel
theorem dX12_rooms_22 : decode cX12_rooms 22 = .ok (.istore_n 3, 1) := by decide +kernel
theorem dX12_rooms_23 : decode cX12_rooms 23 = .ok (.iload_n 3, 1) := by decide +kernel
theorem dX12_rooms_24 : decode cX12_rooms 24 = .ok (.bipush 16, 2) := by decide +kernel
theorem dX12_rooms_26 : decode cX12_rooms 26 = .ok (.if_icmp .ge 49, 3) := by decide +kernel
theorem dX12_rooms_29 : decode cX12_rooms 29 = .ok (.iload_n 2, 1) := by decide +kernel
theorem dX12_rooms_30 : decode cX12_rooms 30 = .ok (.aload_n 0, 1) := by decide +kernel
theorem dX12_rooms_31 : decode cX12_rooms 31 = .ok (.getfield 13, 3) := by decide +kernel
theorem dX12_rooms_34 : decode cX12_rooms 34 = .ok (.bipush 7, 2) := by decide +kernel
theorem dX12_rooms_36 : decode cX12_rooms 36 = .ok (.iload_n 3, 1) := by decide +kernel
theorem dX12_rooms_37 : decode cX12_rooms 37 = .ok (.iadd, 1) := by decide +kernel
theorem dX12_rooms_38 : decode cX12_rooms 38 = .ok (.iaload, 1) := by decide +kernel
theorem dX12_rooms_39 : decode cX12_rooms 39 = .ok (.iload_n 1, 1) := by decide +kernel
theorem dX12_rooms_40 : decode cX12_rooms 40 = .ok (.if_icmp .ge 26, 3) := by decide +kernel
theorem dX12_rooms_43 : decode cX12_rooms 43 = .ok (.iload_n 3, 1) := by decide +kernel
theorem dX12_rooms_44 : decode cX12_rooms 44 = .ok (.ifCond .eq 18, 3) := by decide +kernel
theorem dX12_rooms_47 : decode cX12_rooms 47 = .ok (.aload_n 0, 1) := by decide +kernel
theorem dX12_rooms_48 : decode cX12_rooms 48 = .ok (.getfield 13, 3) := by decide +kernel
theorem dX12_rooms_51 : decode cX12_rooms 51 = .ok (.bipush 7, 2) := by decide +kernel
theorem dX12_rooms_53 : decode cX12_rooms 53 = .ok (.iload_n 3, 1) := by decide +kernel
theorem dX12_rooms_54 : decode cX12_rooms 54 = .ok (.iadd, 1) := by decide +kernel
theorem dX12_rooms_55 : decode cX12_rooms 55 = .ok (.iconst 1, 1) := by decide +kernel
theorem dX12_rooms_56 : decode cX12_rooms 56 = .ok (.isub, 1) := by decide +kernel
theorem dX12_rooms_57 : decode cX12_rooms 57 = .ok (.iaload, 1) := by decide +kernel
theorem dX12_rooms_58 : decode cX12_rooms 58 = .ok (.iload_n 1, 1) := by decide +kernel
theorem dX12_rooms_59 : decode cX12_rooms 59 = .ok (.if_icmp .lt 7, 3) := by decide +kernel
theorem dX12_rooms_62 : decode cX12_rooms 62 = .ok (.iconst 1, 1) := by decide +kernel
theorem dX12_rooms_63 : decode cX12_rooms 63 = .ok (.goto 4, 3) := by decide +kernel
theorem dX12_rooms_66 : decode cX12_rooms 66 = .ok (.iconst 0, 1) := by decide +kernel
theorem dX12_rooms_67 : decode cX12_rooms 67 = .ok (.iadd, 1) := by decide +kernel
theorem dX12_rooms_68 : decode cX12_rooms 68 = .ok (.istore_n 2, 1) := by decide +kernel
theorem dX12_rooms_69 : decode cX12_rooms 69 = .ok (.iinc 3 1, 3) := by decide +kernel
theorem dX12_rooms_72 : decode cX12_rooms 72 = .ok (.goto (-49), 3) := by decide +kernel
theorem dX12_rooms_75 : decode cX12_rooms 75 = .ok (.iload_n 2, 1) := by decide +kernel
theorem dX12_rooms_76 : decode cX12_rooms 76 = .ok (.ireturn, 1) := by decide +kernel
theorem dX12_seat_0 : decode cX12_seat 0 = .ok (.aload_n 0, 1) := by decide +kernel
theorem dX12_seat_1 : decode cX12_seat 1 = .ok (.iconst 0, 1) := by decide +kernel
theorem dX12_seat_2 : decode cX12_seat 2 = .ok (.putfield 153, 3) := by decide +kernel
theorem dX12_seat_5 : decode cX12_seat 5 = .ok (.iconst (-1), 1) := by decide +kernel
theorem dX12_seat_6 : decode cX12_seat 6 = .ok (.istore_n 1, 1) := by decide +kernel
theorem dX12_seat_7 : decode cX12_seat 7 = .ok (.iconst (-1), 1) := by decide +kernel
theorem dX12_seat_8 : decode cX12_seat 8 = .ok (.istore_n 2, 1) := by decide +kernel
theorem dX12_seat_9 : decode cX12_seat 9 = .ok (.iconst 0, 1) := by decide +kernel
theorem dX12_seat_10 : decode cX12_seat 10 = .ok (.istore_n 3, 1) := by decide +kernel
theorem dX12_seat_11 : decode cX12_seat 11 = .ok (.iload_n 3, 1) := by decide +kernel
theorem dX12_seat_12 : decode cX12_seat 12 = .ok (.bipush 16, 2) := by decide +kernel
theorem dX12_seat_14 : decode cX12_seat 14 = .ok (.if_icmp .ge 58, 3) := by decide +kernel
theorem dX12_seat_17 : decode cX12_seat 17 = .ok (.aload_n 0, 1) := by decide +kernel
theorem dX12_seat_18 : decode cX12_seat 18 = .ok (.getfield 13, 3) := by decide +kernel
theorem dX12_seat_21 : decode cX12_seat 21 = .ok (.bipush 23, 2) := by decide +kernel
theorem dX12_seat_23 : decode cX12_seat 23 = .ok (.iload_n 3, 1) := by decide +kernel
theorem dX12_seat_24 : decode cX12_seat 24 = .ok (.iadd, 1) := by decide +kernel
theorem dX12_seat_25 : decode cX12_seat 25 = .ok (.iaload, 1) := by decide +kernel
theorem dX12_seat_26 : decode cX12_seat 26 = .ok (.iconst 1, 1) := by decide +kernel
theorem dX12_seat_27 : decode cX12_seat 27 = .ok (.if_icmp .ne 11, 3) := by decide +kernel
theorem dX12_seat_30 : decode cX12_seat 30 = .ok (.aload_n 0, 1) := by decide +kernel
theorem dX12_seat_31 : decode cX12_seat 31 = .ok (.iload_n 3, 1) := by decide +kernel
theorem dX12_seat_32 : decode cX12_seat 32 = .ok (.invokevirtual 211, 3) := by decide +kernel
theorem dX12_seat_35 : decode cX12_seat 35 = .ok (.goto 4, 3) := by decide +kernel
theorem dX12_seat_38 : decode cX12_seat 38 = .ok (.iconst (-1), 1) := by decide +kernel
theorem dX12_seat_39 : decode cX12_seat 39 = .ok (.istore 4, 2) := by decide +kernel
theorem dX12_seat_41 : decode cX12_seat 41 = .ok (.iload 4, 2) := by decide +kernel
theorem dX12_seat_43 : decode cX12_seat 43 = .ok (.iload_n 1, 1) := by decide +kernel
theorem dX12_seat_44 : decode cX12_seat 44 = .ok (.if_icmp .le 7, 3) := by decide +kernel
theorem dX12_seat_47 : decode cX12_seat 47 = .ok (.iload_n 3, 1) := by decide +kernel
theorem dX12_seat_48 : decode cX12_seat 48 = .ok (.goto 4, 3) := by decide +kernel
theorem dX12_seat_51 : decode cX12_seat 51 = .ok (.iload_n 2, 1) := by decide +kernel
theorem dX12_seat_52 : decode cX12_seat 52 = .ok (.istore_n 2, 1) := by decide +kernel
theorem dX12_seat_53 : decode cX12_seat 53 = .ok (.iload 4, 2) := by decide +kernel
theorem dX12_seat_55 : decode cX12_seat 55 = .ok (.iload_n 1, 1) := by decide +kernel
theorem dX12_seat_56 : decode cX12_seat 56 = .ok (.if_icmp .le 8, 3) := by decide +kernel
theorem dX12_seat_59 : decode cX12_seat 59 = .ok (.iload 4, 2) := by decide +kernel
theorem dX12_seat_61 : decode cX12_seat 61 = .ok (.goto 4, 3) := by decide +kernel
theorem dX12_seat_64 : decode cX12_seat 64 = .ok (.iload_n 1, 1) := by decide +kernel
theorem dX12_seat_65 : decode cX12_seat 65 = .ok (.istore_n 1, 1) := by decide +kernel
theorem dX12_seat_66 : decode cX12_seat 66 = .ok (.iinc 3 1, 3) := by decide +kernel
theorem dX12_seat_69 : decode cX12_seat 69 = .ok (.goto (-58), 3) := by decide +kernel
theorem dX12_seat_72 : decode cX12_seat 72 = .ok (.iload_n 2, 1) := by decide +kernel
theorem dX12_seat_73 : decode cX12_seat 73 = .ok (.ireturn, 1) := by decide +kernel
theorem dX12_compare_0 : decode cX12_compare 0 = .ok (.aload_n 0, 1) := by decide +kernel
theorem dX12_compare_1 : decode cX12_compare 1 = .ok (.iconst 0, 1) := by decide +kernel
theorem dX12_compare_2 : decode cX12_compare 2 = .ok (.putfield 153, 3) := by decide +kernel
theorem dX12_compare_5 : decode cX12_compare 5 = .ok (.aload_n 0, 1) := by decide +kernel
theorem dX12_compare_6 : decode cX12_compare 6 = .ok (.iload_n 1, 1) := by decide +kernel
theorem dX12_compare_7 : decode cX12_compare 7 = .ok (.invokevirtual 390, 3) := by decide +kernel
theorem dX12_compare_10 : decode cX12_compare 10 = .ok (.ifCond .eq 11, 3) := by decide +kernel
theorem dX12_compare_13 : decode cX12_compare 13 = .ok (.aload_n 0, 1) := by decide +kernel
theorem dX12_compare_14 : decode cX12_compare 14 = .ok (.iload_n 2, 1) := by decide +kernel
theorem dX12_compare_15 : decode cX12_compare 15 = .ok (.invokevirtual 196, 3) := by decide +kernel
theorem dX12_compare_18 : decode cX12_compare 18 = .ok (.ifCond .ne 5, 3) := by decide +kernel
theorem dX12_compare_21 : decode cX12_compare 21 = .ok (.iconst (-1), 1) := by decide +kernel
theorem dX12_compare_22 : decode cX12_compare 22 = .ok (.ireturn, 1) := by decide +kernel
theorem dX12_compare_23 : decode cX12_compare 23 = .ok (.aload_n 0, 1) := by decide +kernel
theorem dX12_compare_24 : decode cX12_compare 24 = .ok (.getfield 13, 3) := by decide +kernel
theorem dX12_compare_27 : decode cX12_compare 27 = .ok (.iconst 3, 1) := by decide +kernel
theorem dX12_compare_28 : decode cX12_compare 28 = .ok (.iaload, 1) := by decide +kernel
theorem dX12_compare_29 : decode cX12_compare 29 = .ok (.istore_n 3, 1) := by decide +kernel
theorem dX12_compare_30 : decode cX12_compare 30 = .ok (.aload_n 0, 1) := by decide +kernel
theorem dX12_compare_31 : decode cX12_compare 31 = .ok (.getfield 13, 3) := by decide +kernel
theorem dX12_compare_34 : decode cX12_compare 34 = .ok (.iconst 3, 1) := by decide +kernel
theorem dX12_compare_35 : decode cX12_compare 35 = .ok (.iload_n 1, 1) := by decide +kernel
theorem dX12_compare_36 : decode cX12_compare 36 = .ok (.iastore, 1) := by decide +kernel
theorem dX12_compare_37 : decode cX12_compare 37 = .ok (.aload_n 0, 1) := by decide +kernel
theorem dX12_compare_38 : decode cX12_compare 38 = .ok (.iload_n 2, 1) := by decide +kernel
theorem dX12_compare_39 : decode cX12_compare 39 = .ok (.invokevirtual 199, 3) := by decide +kernel
theorem dX12_compare_42 : decode cX12_compare 42 = .ok (.istore 4, 2) := by decide +kernel
theorem dX12_compare_44 : decode cX12_compare 44 = .ok (.aload_n 0, 1) := by decide +kernel
theorem dX12_compare_45 : decode cX12_compare 45 = .ok (.getfield 13, 3) := by decide +kernel
theorem dX12_compare_48 : decode cX12_compare 48 = .ok (.iconst 3, 1) := by decide +kernel
theorem dX12_compare_49 : decode cX12_compare 49 = .ok (.iload_n 3, 1) := by decide +kernel
theorem dX12_compare_50 : decode cX12_compare 50 = .ok (.iastore, 1) := by decide +kernel
theorem dX12_compare_51 : decode cX12_compare 51 = .ok (.iload 4, 2) := by decide +kernel
theorem dX12_compare_53 : decode cX12_compare 53 = .ok (.ireturn, 1) := by decide +kernel
theorem dX12_seen_0 : decode cX12_seen 0 = .ok (.aload_n 0, 1) := by decide +kernel
theorem dX12_seen_1 : decode cX12_seen 1 = .ok (.iconst 0, 1) := by decide +kernel
theorem dX12_seen_2 : decode cX12_seen 2 = .ok (.putfield 153, 3) := by decide +kernel
theorem dX12_seen_5 : decode cX12_seen 5 = .ok (.iload_n 1, 1) := by decide +kernel
theorem dX12_seen_6 : decode cX12_seen 6 = .ok (.i2l, 1) := by decide +kernel
theorem dX12_seen_7 : decode cX12_seen 7 = .ok (.lconst 0, 1) := by decide +kernel
theorem dX12_seen_8 : decode cX12_seen 8 = .ok (.ldc2_w 292, 3) := by decide +kernel
theorem dX12_seen_11 : decode cX12_seen 11 = .ok (.invokestatic 173, 3) := by decide +kernel
theorem dX12_seen_14 : decode cX12_seen 14 = .ok (.ifCond .eq 15, 3) := by decide +kernel
theorem dX12_seen_17 : decode cX12_seen 17 = .ok (.iload_n 2, 1) := by decide +kernel
theorem dX12_seen_18 : decode cX12_seen 18 = .ok (.i2l, 1) := by decide +kernel
theorem dX12_seen_19 : decode cX12_seen 19 = .ok (.lconst 0, 1) := by decide +kernel
theorem dX12_seen_20 : decode cX12_seen 20 = .ok (.ldc2_w 524, 3) := by decide +kernel
theorem dX12_seen_23 : decode cX12_seen 23 = .ok (.invokestatic 173, 3) := by decide +kernel
theorem dX12_seen_26 : decode cX12_seen 26 = .ok (.ifCond .ne 9, 3) := by decide +kernel
theorem dX12_seen_29 : decode cX12_seen 29 = .ok (.aload_n 0, 1) := by decide +kernel
theorem dX12_seen_30 : decode cX12_seen 30 = .ok (.iconst (-1), 1) := by decide +kernel
theorem dX12_seen_31 : decode cX12_seen 31 = .ok (.invokevirtual 162, 3) := by decide +kernel
theorem dX12_seen_34 : decode cX12_seen 34 = .ok (.ireturn, 1) := by decide +kernel
theorem dX12_seen_35 : decode cX12_seen 35 = .ok (.aload_n 0, 1) := by decide +kernel
theorem dX12_seen_36 : decode cX12_seen 36 = .ok (.getfield 13, 3) := by decide +kernel
theorem dX12_seen_39 : decode cX12_seen 39 = .ok (.iconst 1, 1) := by decide +kernel
theorem dX12_seen_40 : decode cX12_seen 40 = .ok (.iaload, 1) := by decide +kernel
theorem dX12_seen_41 : decode cX12_seen 41 = .ok (.istore_n 3, 1) := by decide +kernel
theorem dX12_seen_42 : decode cX12_seen 42 = .ok (.iload_n 3, 1) := by decide +kernel
theorem dX12_seen_43 : decode cX12_seen 43 = .ok (.bipush 6, 2) := by decide +kernel
theorem dX12_seen_45 : decode cX12_seen 45 = .ok (.if_icmp .ne 10, 3) := by decide +kernel
theorem dX12_seen_48 : decode cX12_seen 48 = .ok (.aload_n 0, 1) := by decide +kernel
theorem dX12_seen_49 : decode cX12_seen 49 = .ok (.bipush (-5), 2) := by decide +kernel
theorem dX12_seen_51 : decode cX12_seen 51 = .ok (.invokevirtual 162, 3) := by decide +kernel
theorem dX12_seen_54 : decode cX12_seen 54 = .ok (.ireturn, 1) := by decide +kernel
theorem dX12_seen_55 : decode cX12_seen 55 = .ok (.aload_n 0, 1) := by decide +kernel
theorem dX12_seen_56 : decode cX12_seen 56 = .ok (.getfield 13, 3) := by decide +kernel
theorem dX12_seen_59 : decode cX12_seen 59 = .ok (.bipush 63, 2) := by decide +kernel
theorem dX12_seen_61 : decode cX12_seen 61 = .ok (.iconst 2, 1) := by decide +kernel
theorem dX12_seen_62 : decode cX12_seen 62 = .ok (.iload_n 3, 1) := by decide +kernel
theorem dX12_seen_63 : decode cX12_seen 63 = .ok (.imul, 1) := by decide +kernel
theorem dX12_seen_64 : decode cX12_seen 64 = .ok (.iadd, 1) := by decide +kernel
theorem dX12_seen_65 : decode cX12_seen 65 = .ok (.iload_n 1, 1) := by decide +kernel
theorem dX12_seen_66 : decode cX12_seen 66 = .ok (.iastore, 1) := by decide +kernel
theorem dX12_seen_67 : decode cX12_seen 67 = .ok (.aload_n 0, 1) := by decide +kernel
theorem dX12_seen_68 : decode cX12_seen 68 = .ok (.getfield 13, 3) := by decide +kernel
theorem dX12_seen_71 : decode cX12_seen 71 = .ok (.bipush 63, 2) := by decide +kernel
theorem dX12_seen_73 : decode cX12_seen 73 = .ok (.iconst 2, 1) := by decide +kernel
theorem dX12_seen_74 : decode cX12_seen 74 = .ok (.iload_n 3, 1) := by decide +kernel
theorem dX12_seen_75 : decode cX12_seen 75 = .ok (.imul, 1) := by decide +kernel
theorem dX12_seen_76 : decode cX12_seen 76 = .ok (.iadd, 1) := by decide +kernel
theorem dX12_seen_77 : decode cX12_seen 77 = .ok (.iconst 1, 1) := by decide +kernel
theorem dX12_seen_78 : decode cX12_seen 78 = .ok (.iadd, 1) := by decide +kernel
theorem dX12_seen_79 : decode cX12_seen 79 = .ok (.iload_n 2, 1) := by decide +kernel
theorem dX12_seen_80 : decode cX12_seen 80 = .ok (.iastore, 1) := by decide +kernel
theorem dX12_seen_81 : decode cX12_seen 81 = .ok (.aload_n 0, 1) := by decide +kernel
theorem dX12_seen_82 : decode cX12_seen 82 = .ok (.getfield 13, 3) := by decide +kernel
theorem dX12_seen_85 : decode cX12_seen 85 = .ok (.iconst 1, 1) := by decide +kernel
theorem dX12_seen_86 : decode cX12_seen 86 = .ok (.dup2, 1) := by decide +kernel
theorem dX12_seen_87 : decode cX12_seen 87 = .ok (.iaload, 1) := by decide +kernel
theorem dX12_seen_88 : decode cX12_seen 88 = .ok (.iconst 1, 1) := by decide +kernel
theorem dX12_seen_89 : decode cX12_seen 89 = .ok (.iadd, 1) := by decide +kernel
theorem dX12_seen_90 : decode cX12_seen 90 = .ok (.iastore, 1) := by decide +kernel
theorem dX12_seen_91 : decode cX12_seen 91 = .ok (.aload_n 0, 1) := by decide +kernel
theorem dX12_seen_92 : decode cX12_seen 92 = .ok (.iload_n 3, 1) := by decide +kernel
theorem dX12_seen_93 : decode cX12_seen 93 = .ok (.iconst 1, 1) := by decide +kernel
theorem dX12_seen_94 : decode cX12_seen 94 = .ok (.iadd, 1) := by decide +kernel
theorem dX12_seen_95 : decode cX12_seen 95 = .ok (.invokevirtual 162, 3) := by decide +kernel
theorem dX12_seen_98 : decode cX12_seen 98 = .ok (.ireturn, 1) := by decide +kernel
theorem dX12_forget_0 : decode cX12_forget 0 = .ok (.aload_n 0, 1) := by decide +kernel
theorem dX12_forget_1 : decode cX12_forget 1 = .ok (.iconst 0, 1) := by decide +kernel
theorem dX12_forget_2 : decode cX12_forget 2 = .ok (.putfield 153, 3) := by decide +kernel
theorem dX12_forget_5 : decode cX12_forget 5 = .ok (.aload_n 0, 1) := by decide +kernel
theorem dX12_forget_6 : decode cX12_forget 6 = .ok (.getfield 13, 3) := by decide +kernel
theorem dX12_forget_9 : decode cX12_forget 9 = .ok (.iconst 1, 1) := by decide +kernel
theorem dX12_forget_10 : decode cX12_forget 10 = .ok (.iaload, 1) := by decide +kernel
theorem dX12_forget_11 : decode cX12_forget 11 = .ok (.istore_n 1, 1) := by decide +kernel
theorem dX12_forget_12 : decode cX12_forget 12 = .ok (.aload_n 0, 1) := by decide +kernel
theorem dX12_forget_13 : decode cX12_forget 13 = .ok (.getfield 13, 3) := by decide +kernel
theorem dX12_forget_16 : decode cX12_forget 16 = .ok (.iconst 1, 1) := by decide +kernel
theorem dX12_forget_17 : decode cX12_forget 17 = .ok (.iconst 0, 1) := by decide +kernel
theorem dX12_forget_18 : decode cX12_forget 18 = .ok (.iastore, 1) := by decide +kernel
theorem dX12_forget_19 : decode cX12_forget 19 = .ok (.iload_n 1, 1) := by decide +kernel
theorem dX12_forget_20 : decode cX12_forget 20 = .ok (.ireturn, 1) := by decide +kernel
theorem dX12_laidIn_0 : decode cX12_laidIn 0 = .ok (.iconst 0, 1) := by decide +kernel
theorem dX12_laidIn_1 : decode cX12_laidIn 1 = .ok (.istore_n 3, 1) := by decide +kernel
theorem dX12_laidIn_2 : decode cX12_laidIn 2 = .ok (.iconst 0, 1) := by decide +kernel
theorem dX12_laidIn_3 : decode cX12_laidIn 3 = .ok (.istore 4, 2) := by decide +kernel
theorem dX12_laidIn_5 : decode cX12_laidIn 5 = .ok (.iload 4, 2) := by decide +kernel
theorem dX12_laidIn_7 : decode cX12_laidIn 7 = .ok (.iload_n 2, 1) := by decide +kernel
theorem dX12_laidIn_8 : decode cX12_laidIn 8 = .ok (.if_icmp .ge 43, 3) := by decide +kernel
theorem dX12_laidIn_11 : decode cX12_laidIn 11 = .ok (.aload_n 0, 1) := by decide +kernel
theorem dX12_laidIn_12 : decode cX12_laidIn 12 = .ok (.iload_n 1, 1) := by decide +kernel
theorem dX12_laidIn_13 : decode cX12_laidIn 13 = .ok (.aload_n 0, 1) := by decide +kernel
theorem dX12_laidIn_14 : decode cX12_laidIn 14 = .ok (.iload_n 1, 1) := by decide +kernel
theorem dX12_laidIn_15 : decode cX12_laidIn 15 = .ok (.iload 4, 2) := by decide +kernel
theorem dX12_laidIn_17 : decode cX12_laidIn 17 = .ok (.invokevirtual 478, 3) := by decide +kernel
theorem dX12_laidIn_20 : decode cX12_laidIn 20 = .ok (.aload_n 0, 1) := by decide +kernel
theorem dX12_laidIn_21 : decode cX12_laidIn 21 = .ok (.getfield 13, 3) := by decide +kernel
theorem dX12_laidIn_24 : decode cX12_laidIn 24 = .ok (.iconst 4, 1) := by decide +kernel
theorem dX12_laidIn_25 : decode cX12_laidIn 25 = .ok (.iaload, 1) := by decide +kernel
theorem dX12_laidIn_26 : decode cX12_laidIn 26 = .ok (.iload 4, 2) := by decide +kernel
theorem dX12_laidIn_28 : decode cX12_laidIn 28 = .ok (.iadd, 1) := by decide +kernel
theorem dX12_laidIn_29 : decode cX12_laidIn 29 = .ok (.invokevirtual 427, 3) := by decide +kernel
theorem dX12_laidIn_32 : decode cX12_laidIn 32 = .ok (.aload_n 0, 1) := by decide +kernel
theorem dX12_laidIn_33 : decode cX12_laidIn 33 = .ok (.iconst (-1), 1) := by decide +kernel
theorem dX12_laidIn_34 : decode cX12_laidIn 34 = .ok (.iconst (-1), 1) := by decide +kernel
theorem dX12_laidIn_35 : decode cX12_laidIn 35 = .ok (.invokevirtual 431, 3) := by decide +kernel
theorem dX12_laidIn_38 : decode cX12_laidIn 38 = .ok (.iload_n 3, 1) := by decide +kernel
theorem dX12_laidIn_39 : decode cX12_laidIn 39 = .ok (.aload_n 0, 1) := by decide +kernel
theorem dX12_laidIn_40 : decode cX12_laidIn 40 = .ok (.invokevirtual 440, 3) := by decide +kernel
theorem dX12_laidIn_43 : decode cX12_laidIn 43 = .ok (.iadd, 1) := by decide +kernel
theorem dX12_laidIn_44 : decode cX12_laidIn 44 = .ok (.istore_n 3, 1) := by decide +kernel
theorem dX12_laidIn_45 : decode cX12_laidIn 45 = .ok (.iinc 4 1, 3) := by decide +kernel
theorem dX12_laidIn_48 : decode cX12_laidIn 48 = .ok (.goto (-43), 3) := by decide +kernel
theorem dX12_laidIn_51 : decode cX12_laidIn 51 = .ok (.iload_n 3, 1) := by decide +kernel
theorem dX12_laidIn_52 : decode cX12_laidIn 52 = .ok (.ireturn, 1) := by decide +kernel
theorem dX12_thatCanBe_0 : decode cX12_thatCanBe 0 = .ok (.iconst 0, 1) := by decide +kernel
theorem dX12_thatCanBe_1 : decode cX12_thatCanBe 1 = .ok (.istore_n 1, 1) := by decide +kernel
theorem dX12_thatCanBe_2 : decode cX12_thatCanBe 2 = .ok (.iconst 0, 1) := by decide +kernel
theorem dX12_thatCanBe_3 : decode cX12_thatCanBe 3 = .ok (.istore_n 2, 1) := by decide +kernel
theorem dX12_thatCanBe_4 : decode cX12_thatCanBe 4 = .ok (.iload_n 2, 1) := by decide +kernel
theorem dX12_thatCanBe_5 : decode cX12_thatCanBe 5 = .ok (.aload_n 0, 1) := by decide +kernel
theorem dX12_thatCanBe_6 : decode cX12_thatCanBe 6 = .ok (.getfield 13, 3) := by decide +kernel
theorem dX12_thatCanBe_9 : decode cX12_thatCanBe 9 = .ok (.iconst 0, 1) := by decide +kernel
theorem dX12_thatCanBe_10 : decode cX12_thatCanBe 10 = .ok (.iaload, 1) := by decide +kernel
theorem dX12_thatCanBe_11 : decode cX12_thatCanBe 11 = .ok (.if_icmp .ge 93, 3) := by decide +kernel
theorem dX12_thatCanBe_14 : decode cX12_thatCanBe 14 = .ok (.aload_n 0, 1) := by decide +kernel
theorem dX12_thatCanBe_15 : decode cX12_thatCanBe 15 = .ok (.iload_n 2, 1) := by decide +kernel
theorem dX12_thatCanBe_16 : decode cX12_thatCanBe 16 = .ok (.invokevirtual 182, 3) := by decide +kernel
theorem dX12_thatCanBe_19 : decode cX12_thatCanBe 19 = .ok (.istore_n 3, 1) := by decide +kernel
theorem dX12_thatCanBe_20 : decode cX12_thatCanBe 20 = .ok (.iconst 0, 1) := by decide +kernel
theorem dX12_thatCanBe_21 : decode cX12_thatCanBe 21 = .ok (.istore 4, 2) := by decide +kernel
theorem dX12_thatCanBe_23 : decode cX12_thatCanBe 23 = .ok (.iload 4, 2) := by decide +kernel
theorem dX12_thatCanBe_25 : decode cX12_thatCanBe 25 = .ok (.aload_n 0, 1) := by decide +kernel
theorem dX12_thatCanBe_26 : decode cX12_thatCanBe 26 = .ok (.getfield 13, 3) := by decide +kernel
theorem dX12_thatCanBe_29 : decode cX12_thatCanBe 29 = .ok (.iconst 1, 1) := by decide +kernel
theorem dX12_thatCanBe_30 : decode cX12_thatCanBe 30 = .ok (.iaload, 1) := by decide +kernel
theorem dX12_thatCanBe_31 : decode cX12_thatCanBe 31 = .ok (.if_icmp .ge 53, 3) := by decide +kernel
theorem dX12_thatCanBe_34 : decode cX12_thatCanBe 34 = .ok (.iload_n 3, 1) := by decide +kernel
theorem dX12_thatCanBe_35 : decode cX12_thatCanBe 35 = .ok (.ifCond .eq 49, 3) := by decide +kernel
theorem dX12_thatCanBe_38 : decode cX12_thatCanBe 38 = .ok (.aload_n 0, 1) := by decide +kernel
theorem dX12_thatCanBe_39 : decode cX12_thatCanBe 39 = .ok (.iload_n 2, 1) := by decide +kernel
theorem dX12_thatCanBe_40 : decode cX12_thatCanBe 40 = .ok (.aload_n 0, 1) := by decide +kernel
theorem dX12_thatCanBe_41 : decode cX12_thatCanBe 41 = .ok (.getfield 13, 3) := by decide +kernel
theorem dX12_thatCanBe_44 : decode cX12_thatCanBe 44 = .ok (.bipush 63, 2) := by decide +kernel
theorem dX12_thatCanBe_46 : decode cX12_thatCanBe 46 = .ok (.iconst 2, 1) := by decide +kernel
theorem dX12_thatCanBe_47 : decode cX12_thatCanBe 47 = .ok (.iload 4, 2) := by decide +kernel
theorem dX12_thatCanBe_49 : decode cX12_thatCanBe 49 = .ok (.imul, 1) := by decide +kernel
theorem dX12_thatCanBe_50 : decode cX12_thatCanBe 50 = .ok (.iadd, 1) := by decide +kernel
theorem dX12_thatCanBe_51 : decode cX12_thatCanBe 51 = .ok (.iaload, 1) := by decide +kernel
theorem dX12_thatCanBe_52 : decode cX12_thatCanBe 52 = .ok (.invokevirtual 526, 3) := by decide +kernel
theorem dX12_thatCanBe_55 : decode cX12_thatCanBe 55 = .ok (.aload_n 0, 1) := by decide +kernel
theorem dX12_thatCanBe_56 : decode cX12_thatCanBe 56 = .ok (.getfield 13, 3) := by decide +kernel
theorem dX12_thatCanBe_59 : decode cX12_thatCanBe 59 = .ok (.bipush 63, 2) := by decide +kernel
theorem dX12_thatCanBe_61 : decode cX12_thatCanBe 61 = .ok (.iconst 2, 1) := by decide +kernel
theorem dX12_thatCanBe_62 : decode cX12_thatCanBe 62 = .ok (.iload 4, 2) := by decide +kernel
theorem dX12_thatCanBe_64 : decode cX12_thatCanBe 64 = .ok (.imul, 1) := by decide +kernel
theorem dX12_thatCanBe_65 : decode cX12_thatCanBe 65 = .ok (.iadd, 1) := by decide +kernel
theorem dX12_thatCanBe_66 : decode cX12_thatCanBe 66 = .ok (.iconst 1, 1) := by decide +kernel
theorem dX12_thatCanBe_67 : decode cX12_thatCanBe 67 = .ok (.iadd, 1) := by decide +kernel
theorem dX12_thatCanBe_68 : decode cX12_thatCanBe 68 = .ok (.iaload, 1) := by decide +kernel
theorem dX12_thatCanBe_69 : decode cX12_thatCanBe 69 = .ok (.if_icmp .ne 7, 3) := by decide +kernel
theorem dX12_thatCanBe_72 : decode cX12_thatCanBe 72 = .ok (.iconst 1, 1) := by decide +kernel
theorem dX12_thatCanBe_73 : decode cX12_thatCanBe 73 = .ok (.goto 4, 3) := by decide +kernel
theorem dX12_thatCanBe_76 : decode cX12_thatCanBe 76 = .ok (.iconst 0, 1) := by decide +kernel
theorem dX12_thatCanBe_77 : decode cX12_thatCanBe 77 = .ok (.istore_n 3, 1) := by decide +kernel
theorem dX12_thatCanBe_78 : decode cX12_thatCanBe 78 = .ok (.iinc 4 1, 3) := by decide +kernel
theorem dX12_thatCanBe_81 : decode cX12_thatCanBe 81 = .ok (.goto (-58), 3) := by decide +kernel
theorem dX12_thatCanBe_84 : decode cX12_thatCanBe 84 = .ok (.iload_n 1, 1) := by decide +kernel
theorem dX12_thatCanBe_85 : decode cX12_thatCanBe 85 = .ok (.iload_n 3, 1) := by decide +kernel
theorem dX12_thatCanBe_86 : decode cX12_thatCanBe 86 = .ok (.ifCond .eq 9, 3) := by decide +kernel
theorem dX12_thatCanBe_89 : decode cX12_thatCanBe 89 = .ok (.iconst 1, 1) := by decide +kernel
theorem dX12_thatCanBe_90 : decode cX12_thatCanBe 90 = .ok (.iload_n 2, 1) := by decide +kernel
theorem dX12_thatCanBe_91 : decode cX12_thatCanBe 91 = .ok (.ishl, 1) := by decide +kernel
theorem dX12_thatCanBe_92 : decode cX12_thatCanBe 92 = .ok (.goto 4, 3) := by decide +kernel
theorem dX12_thatCanBe_95 : decode cX12_thatCanBe 95 = .ok (.iconst 0, 1) := by decide +kernel
theorem dX12_thatCanBe_96 : decode cX12_thatCanBe 96 = .ok (.ior, 1) := by decide +kernel
theorem dX12_thatCanBe_97 : decode cX12_thatCanBe 97 = .ok (.istore_n 1, 1) := by decide +kernel
theorem dX12_thatCanBe_98 : decode cX12_thatCanBe 98 = .ok (.iinc 2 1, 3) := by decide +kernel
theorem dX12_thatCanBe_101 : decode cX12_thatCanBe 101 = .ok (.goto (-97), 3) := by decide +kernel
theorem dX12_thatCanBe_104 : decode cX12_thatCanBe 104 = .ok (.iload_n 1, 1) := by decide +kernel
theorem dX12_thatCanBe_105 : decode cX12_thatCanBe 105 = .ok (.ireturn, 1) := by decide +kernel
theorem dX12_canBe_0 : decode cX12_canBe 0 = .ok (.aload_n 0, 1) := by decide +kernel
theorem dX12_canBe_1 : decode cX12_canBe 1 = .ok (.iconst 0, 1) := by decide +kernel
theorem dX12_canBe_2 : decode cX12_canBe 2 = .ok (.putfield 153, 3) := by decide +kernel
theorem dX12_canBe_5 : decode cX12_canBe 5 = .ok (.aload_n 0, 1) := by decide +kernel
theorem dX12_canBe_6 : decode cX12_canBe 6 = .ok (.invokevirtual 529, 3) := by decide +kernel
theorem dX12_canBe_9 : decode cX12_canBe 9 = .ok (.ireturn, 1) := by decide +kernel
theorem dX12_mostAlike_0 : decode cX12_mostAlike 0 = .ok (.iconst 0, 1) := by decide +kernel
theorem dX12_mostAlike_1 : decode cX12_mostAlike 1 = .ok (.istore_n 3, 1) := by decide +kernel
theorem dX12_mostAlike_2 : decode cX12_mostAlike 2 = .ok (.iload_n 3, 1) := by decide +kernel
theorem dX12_mostAlike_3 : decode cX12_mostAlike 3 = .ok (.aload_n 0, 1) := by decide +kernel
theorem dX12_mostAlike_4 : decode cX12_mostAlike 4 = .ok (.getfield 13, 3) := by decide +kernel
theorem dX12_mostAlike_7 : decode cX12_mostAlike 7 = .ok (.iconst 0, 1) := by decide +kernel
theorem dX12_mostAlike_8 : decode cX12_mostAlike 8 = .ok (.iaload, 1) := by decide +kernel
theorem dX12_mostAlike_9 : decode cX12_mostAlike 9 = .ok (.if_icmp .ge 21, 3) := by decide +kernel
theorem dX12_mostAlike_12 : decode cX12_mostAlike 12 = .ok (.aload_n 0, 1) := by decide +kernel
theorem dX12_mostAlike_13 : decode cX12_mostAlike 13 = .ok (.getfield 124, 3) := by decide +kernel
theorem dX12_mostAlike_16 : decode cX12_mostAlike 16 = .ok (.iload_n 3, 1) := by decide +kernel
theorem dX12_mostAlike_17 : decode cX12_mostAlike 17 = .ok (.aload_n 0, 1) := by decide +kernel
theorem dX12_mostAlike_18 : decode cX12_mostAlike 18 = .ok (.iload_n 3, 1) := by decide +kernel
theorem dX12_mostAlike_19 : decode cX12_mostAlike 19 = .ok (.iload_n 2, 1) := by decide +kernel
theorem dX12_mostAlike_20 : decode cX12_mostAlike 20 = .ok (.invokevirtual 526, 3) := by decide +kernel
theorem dX12_mostAlike_23 : decode cX12_mostAlike 23 = .ok (.iastore, 1) := by decide +kernel
theorem dX12_mostAlike_24 : decode cX12_mostAlike 24 = .ok (.iinc 3 1, 3) := by decide +kernel
theorem dX12_mostAlike_27 : decode cX12_mostAlike 27 = .ok (.goto (-25), 3) := by decide +kernel
theorem dX12_mostAlike_30 : decode cX12_mostAlike 30 = .ok (.iconst 0, 1) := by decide +kernel
theorem dX12_mostAlike_31 : decode cX12_mostAlike 31 = .ok (.istore_n 3, 1) := by decide +kernel
theorem dX12_mostAlike_32 : decode cX12_mostAlike 32 = .ok (.iconst 0, 1) := by decide +kernel
theorem dX12_mostAlike_33 : decode cX12_mostAlike 33 = .ok (.istore 4, 2) := by decide +kernel
theorem dX12_mostAlike_35 : decode cX12_mostAlike 35 = .ok (.iload 4, 2) := by decide +kernel
theorem dX12_mostAlike_37 : decode cX12_mostAlike 37 = .ok (.aload_n 0, 1) := by decide +kernel
theorem dX12_mostAlike_38 : decode cX12_mostAlike 38 = .ok (.getfield 13, 3) := by decide +kernel
theorem dX12_mostAlike_41 : decode cX12_mostAlike 41 = .ok (.iconst 0, 1) := by decide +kernel
theorem dX12_mostAlike_42 : decode cX12_mostAlike 42 = .ok (.iaload, 1) := by decide +kernel
theorem dX12_mostAlike_43 : decode cX12_mostAlike 43 = .ok (.if_icmp .ge 90, 3) := by decide +kernel
theorem dX12_mostAlike_46 : decode cX12_mostAlike 46 = .ok (.iconst 0, 1) := by decide +kernel
theorem dX12_mostAlike_47 : decode cX12_mostAlike 47 = .ok (.istore 5, 2) := by decide +kernel
theorem dX12_mostAlike_49 : decode cX12_mostAlike 49 = .ok (.iconst 0, 1) := by decide +kernel
theorem dX12_mostAlike_50 : decode cX12_mostAlike 50 = .ok (.istore 6, 2) := by decide +kernel
theorem dX12_mostAlike_52 : decode cX12_mostAlike 52 = .ok (.iload 6, 2) := by decide +kernel
theorem dX12_mostAlike_54 : decode cX12_mostAlike 54 = .ok (.aload_n 0, 1) := by decide +kernel
theorem dX12_mostAlike_55 : decode cX12_mostAlike 55 = .ok (.getfield 13, 3) := by decide +kernel
theorem dX12_mostAlike_58 : decode cX12_mostAlike 58 = .ok (.iconst 0, 1) := by decide +kernel
theorem dX12_mostAlike_59 : decode cX12_mostAlike 59 = .ok (.iaload, 1) := by decide +kernel
theorem dX12_mostAlike_60 : decode cX12_mostAlike 60 = .ok (.if_icmp .ge 54, 3) := by decide +kernel
theorem dX12_mostAlike_63 : decode cX12_mostAlike 63 = .ok (.iload 5, 2) := by decide +kernel
theorem dX12_mostAlike_65 : decode cX12_mostAlike 65 = .ok (.iload_n 1, 1) := by decide +kernel
theorem dX12_mostAlike_66 : decode cX12_mostAlike 66 = .ok (.iload 4, 2) := by decide +kernel
theorem dX12_mostAlike_68 : decode cX12_mostAlike 68 = .ok (.invokestatic 492, 3) := by decide +kernel
theorem dX12_mostAlike_71 : decode cX12_mostAlike 71 = .ok (.ifCond .eq 33, 3) := by decide +kernel
theorem dX12_mostAlike_74 : decode cX12_mostAlike 74 = .ok (.iload_n 1, 1) := by decide +kernel
theorem dX12_mostAlike_75 : decode cX12_mostAlike 75 = .ok (.iload 6, 2) := by decide +kernel
theorem dX12_mostAlike_77 : decode cX12_mostAlike 77 = .ok (.invokestatic 492, 3) := by decide +kernel
theorem dX12_mostAlike_80 : decode cX12_mostAlike 80 = .ok (.ifCond .eq 24, 3) := by decide +kernel
theorem dX12_mostAlike_83 : decode cX12_mostAlike 83 = .ok (.aload_n 0, 1) := by decide +kernel
theorem dX12_mostAlike_84 : decode cX12_mostAlike 84 = .ok (.getfield 124, 3) := by decide +kernel
theorem dX12_mostAlike_87 : decode cX12_mostAlike 87 = .ok (.iload 4, 2) := by decide +kernel
theorem dX12_mostAlike_89 : decode cX12_mostAlike 89 = .ok (.iaload, 1) := by decide +kernel
theorem dX12_mostAlike_90 : decode cX12_mostAlike 90 = .ok (.aload_n 0, 1) := by decide +kernel
theorem dX12_mostAlike_91 : decode cX12_mostAlike 91 = .ok (.getfield 124, 3) := by decide +kernel
theorem dX12_mostAlike_94 : decode cX12_mostAlike 94 = .ok (.iload 6, 2) := by decide +kernel
theorem dX12_mostAlike_96 : decode cX12_mostAlike 96 = .ok (.iaload, 1) := by decide +kernel
theorem dX12_mostAlike_97 : decode cX12_mostAlike 97 = .ok (.if_icmp .ne 7, 3) := by decide +kernel
theorem dX12_mostAlike_100 : decode cX12_mostAlike 100 = .ok (.iconst 1, 1) := by decide +kernel
theorem dX12_mostAlike_101 : decode cX12_mostAlike 101 = .ok (.goto 4, 3) := by decide +kernel
theorem dX12_mostAlike_104 : decode cX12_mostAlike 104 = .ok (.iconst 0, 1) := by decide +kernel
theorem dX12_mostAlike_105 : decode cX12_mostAlike 105 = .ok (.iadd, 1) := by decide +kernel
theorem dX12_mostAlike_106 : decode cX12_mostAlike 106 = .ok (.istore 5, 2) := by decide +kernel
theorem dX12_mostAlike_108 : decode cX12_mostAlike 108 = .ok (.iinc 6 1, 3) := by decide +kernel
theorem dX12_mostAlike_111 : decode cX12_mostAlike 111 = .ok (.goto (-59), 3) := by decide +kernel
theorem dX12_mostAlike_114 : decode cX12_mostAlike 114 = .ok (.iload 5, 2) := by decide +kernel
theorem dX12_mostAlike_116 : decode cX12_mostAlike 116 = .ok (.iload_n 3, 1) := by decide +kernel
theorem dX12_mostAlike_117 : decode cX12_mostAlike 117 = .ok (.if_icmp .le 8, 3) := by decide +kernel
theorem dX12_mostAlike_120 : decode cX12_mostAlike 120 = .ok (.iload 5, 2) := by decide +kernel
theorem dX12_mostAlike_122 : decode cX12_mostAlike 122 = .ok (.goto 4, 3) := by decide +kernel
theorem dX12_mostAlike_125 : decode cX12_mostAlike 125 = .ok (.iload_n 3, 1) := by decide +kernel
theorem dX12_mostAlike_126 : decode cX12_mostAlike 126 = .ok (.istore_n 3, 1) := by decide +kernel
theorem dX12_mostAlike_127 : decode cX12_mostAlike 127 = .ok (.iinc 4 1, 3) := by decide +kernel
theorem dX12_mostAlike_130 : decode cX12_mostAlike 130 = .ok (.goto (-95), 3) := by decide +kernel
theorem dX12_mostAlike_133 : decode cX12_mostAlike 133 = .ok (.iload_n 3, 1) := by decide +kernel
theorem dX12_mostAlike_134 : decode cX12_mostAlike 134 = .ok (.ireturn, 1) := by decide +kernel
theorem dX12_look_0 : decode cX12_look 0 = .ok (.aload_n 0, 1) := by decide +kernel
theorem dX12_look_1 : decode cX12_look 1 = .ok (.iconst 0, 1) := by decide +kernel
theorem dX12_look_2 : decode cX12_look 2 = .ok (.putfield 153, 3) := by decide +kernel
theorem dX12_look_5 : decode cX12_look 5 = .ok (.aload_n 0, 1) := by decide +kernel
theorem dX12_look_6 : decode cX12_look 6 = .ok (.invokevirtual 529, 3) := by decide +kernel
theorem dX12_look_9 : decode cX12_look 9 = .ok (.istore_n 2, 1) := by decide +kernel
theorem dX12_look_10 : decode cX12_look 10 = .ok (.iload_n 1, 1) := by decide +kernel
theorem dX12_look_11 : decode cX12_look 11 = .ok (.i2l, 1) := by decide +kernel
theorem dX12_look_12 : decode cX12_look 12 = .ok (.lconst 0, 1) := by decide +kernel
theorem dX12_look_13 : decode cX12_look 13 = .ok (.lconst 1, 1) := by decide +kernel
theorem dX12_look_14 : decode cX12_look 14 = .ok (.invokestatic 173, 3) := by decide +kernel
theorem dX12_look_17 : decode cX12_look 17 = .ok (.ifCond .eq 7, 3) := by decide +kernel
theorem dX12_look_20 : decode cX12_look 20 = .ok (.iload_n 2, 1) := by decide +kernel
theorem dX12_look_21 : decode cX12_look 21 = .ok (.ifCond .ne 5, 3) := by decide +kernel
theorem dX12_look_24 : decode cX12_look 24 = .ok (.iconst (-1), 1) := by decide +kernel
theorem dX12_look_25 : decode cX12_look 25 = .ok (.ireturn, 1) := by decide +kernel
theorem dX12_look_26 : decode cX12_look 26 = .ok (.ldc_w 532, 3) := by decide +kernel
theorem dX12_look_29 : decode cX12_look 29 = .ok (.istore_n 3, 1) := by decide +kernel
theorem dX12_look_30 : decode cX12_look 30 = .ok (.iconst (-1), 1) := by decide +kernel
theorem dX12_look_31 : decode cX12_look 31 = .ok (.istore 4, 2) := by decide +kernel
theorem dX12_look_33 : decode cX12_look 33 = .ok (.iconst 0, 1) := by decide +kernel
theorem dX12_look_34 : decode cX12_look 34 = .ok (.istore 5, 2) := by decide +kernel
theorem dX12_look_36 : decode cX12_look 36 = .ok (.iload 5, 2) := by decide +kernel
theorem dX12_look_38 : decode cX12_look 38 = .ok (.bipush 20, 2) := by decide +kernel
theorem dX12_look_40 : decode cX12_look 40 = .ok (.if_icmp .gt 46, 3) := by decide +kernel
theorem dX12_look_43 : decode cX12_look 43 = .ok (.aload_n 0, 1) := by decide +kernel
theorem dX12_look_44 : decode cX12_look 44 = .ok (.iload_n 2, 1) := by decide +kernel
theorem dX12_look_45 : decode cX12_look 45 = .ok (.iload 5, 2) := by decide +kernel
theorem dX12_look_47 : decode cX12_look 47 = .ok (.invokevirtual 533, 3) := by decide +kernel
theorem dX12_look_50 : decode cX12_look 50 = .ok (.istore 6, 2) := by decide +kernel
theorem dX12_look_52 : decode cX12_look 52 = .ok (.iload 6, 2) := by decide +kernel
theorem dX12_look_54 : decode cX12_look 54 = .ok (.iload_n 3, 1) := by decide +kernel
theorem dX12_look_55 : decode cX12_look 55 = .ok (.if_icmp .ge 8, 3) := by decide +kernel
theorem dX12_look_58 : decode cX12_look 58 = .ok (.iload 5, 2) := by decide +kernel
theorem dX12_look_60 : decode cX12_look 60 = .ok (.goto 5, 3) := by decide +kernel
theorem dX12_look_63 : decode cX12_look 63 = .ok (.iload 4, 2) := by decide +kernel
theorem dX12_look_65 : decode cX12_look 65 = .ok (.istore 4, 2) := by decide +kernel
theorem dX12_look_67 : decode cX12_look 67 = .ok (.iload 6, 2) := by decide +kernel
theorem dX12_look_69 : decode cX12_look 69 = .ok (.iload_n 3, 1) := by decide +kernel
theorem dX12_look_70 : decode cX12_look 70 = .ok (.if_icmp .ge 8, 3) := by decide +kernel
theorem dX12_look_73 : decode cX12_look 73 = .ok (.iload 6, 2) := by decide +kernel
theorem dX12_look_75 : decode cX12_look 75 = .ok (.goto 4, 3) := by decide +kernel
theorem dX12_look_78 : decode cX12_look 78 = .ok (.iload_n 3, 1) := by decide +kernel
theorem dX12_look_79 : decode cX12_look 79 = .ok (.istore_n 3, 1) := by decide +kernel
theorem dX12_look_80 : decode cX12_look 80 = .ok (.iinc 5 1, 3) := by decide +kernel
theorem dX12_look_83 : decode cX12_look 83 = .ok (.goto (-47), 3) := by decide +kernel
theorem dX12_look_86 : decode cX12_look 86 = .ok (.iload_n 1, 1) := by decide +kernel
theorem dX12_look_87 : decode cX12_look 87 = .ok (.ifCond .ne 8, 3) := by decide +kernel
theorem dX12_look_90 : decode cX12_look 90 = .ok (.iload 4, 2) := by decide +kernel
theorem dX12_look_92 : decode cX12_look 92 = .ok (.goto 4, 3) := by decide +kernel
theorem dX12_look_95 : decode cX12_look 95 = .ok (.iload_n 3, 1) := by decide +kernel
theorem dX12_look_96 : decode cX12_look 96 = .ok (.ireturn, 1) := by decide +kernel
theorem dX12_few_0 : decode cX12_few 0 = .ok (.aload_n 0, 1) := by decide +kernel
theorem dX12_few_1 : decode cX12_few 1 = .ok (.iconst 0, 1) := by decide +kernel
theorem dX12_few_2 : decode cX12_few 2 = .ok (.putfield 153, 3) := by decide +kernel
theorem dX12_few_5 : decode cX12_few 5 = .ok (.iload_n 1, 1) := by decide +kernel
theorem dX12_few_6 : decode cX12_few 6 = .ok (.i2l, 1) := by decide +kernel
theorem dX12_few_7 : decode cX12_few 7 = .ok (.lconst 1, 1) := by decide +kernel
theorem dX12_few_8 : decode cX12_few 8 = .ok (.ldc2_w 292, 3) := by decide +kernel
theorem dX12_few_11 : decode cX12_few 11 = .ok (.invokestatic 173, 3) := by decide +kernel
theorem dX12_few_14 : decode cX12_few 14 = .ok (.ifCond .eq 15, 3) := by decide +kernel
theorem dX12_few_17 : decode cX12_few 17 = .ok (.iload_n 2, 1) := by decide +kernel
theorem dX12_few_18 : decode cX12_few 18 = .ok (.i2l, 1) := by decide +kernel
theorem dX12_few_19 : decode cX12_few 19 = .ok (.lconst 0, 1) := by decide +kernel
theorem dX12_few_20 : decode cX12_few 20 = .ok (.ldc2_w 188, 3) := by decide +kernel
theorem dX12_few_23 : decode cX12_few 23 = .ok (.invokestatic 173, 3) := by decide +kernel
theorem dX12_few_26 : decode cX12_few 26 = .ok (.ifCond .ne 7, 3) := by decide +kernel
theorem dX12_few_29 : decode cX12_few 29 = .ok (.ldc2_w 269, 3) := by decide +kernel
theorem dX12_few_32 : decode cX12_few 32 = .ok (.lreturn, 1) := by decide +kernel
theorem dX12_few_33 : decode cX12_few 33 = .ok (.iconst 0, 1) := by decide +kernel
theorem dX12_few_34 : decode cX12_few 34 = .ok (.istore_n 3, 1) := by decide +kernel
theorem dX12_few_35 : decode cX12_few 35 = .ok (.iload_n 3, 1) := by decide +kernel
theorem dX12_few_36 : decode cX12_few 36 = .ok (.bipush 21, 2) := by decide +kernel
theorem dX12_few_38 : decode cX12_few 38 = .ok (.if_icmp .ge 26, 3) := by decide +kernel
theorem dX12_few_41 : decode cX12_few 41 = .ok (.aload_n 0, 1) := by decide +kernel
theorem dX12_few_42 : decode cX12_few 42 = .ok (.getfield 127, 3) := by decide +kernel
theorem dX12_few_45 : decode cX12_few 45 = .ok (.iload_n 3, 1) := by decide +kernel
theorem dX12_few_46 : decode cX12_few 46 = .ok (.iload_n 3, 1) := by decide +kernel
theorem dX12_few_47 : decode cX12_few 47 = .ok (.ifCond .ne 9, 3) := by decide +kernel
theorem dX12_few_50 : decode cX12_few 50 = .ok (.ldc2_w 473, 3) := by decide +kernel
theorem dX12_few_53 : decode cX12_few 53 = .ok (.goto 4, 3) := by decide +kernel
theorem dX12_few_56 : decode cX12_few 56 = .ok (.lconst 0, 1) := by decide +kernel
theorem dX12_few_57 : decode cX12_few 57 = .ok (.lastore, 1) := by decide +kernel
theorem dX12_few_58 : decode cX12_few 58 = .ok (.iinc 3 1, 3) := by decide +kernel
theorem dX12_few_61 : decode cX12_few 61 = .ok (.goto (-26), 3) := by decide +kernel
theorem dX12_few_64 : decode cX12_few 64 = .ok (.aload_n 0, 1) := by decide +kernel
theorem dX12_few_65 : decode cX12_few 65 = .ok (.getfield 13, 3) := by decide +kernel
theorem dX12_few_68 : decode cX12_few 68 = .ok (.iconst 5, 1) := by decide +kernel
theorem dX12_few_69 : decode cX12_few 69 = .ok (.iaload, 1) := by decide +kernel
theorem dX12_few_70 : decode cX12_few 70 = .ok (.istore_n 3, 1) := by decide +kernel
theorem dX12_few_71 : decode cX12_few 71 = .ok (.iconst 0, 1) := by decide +kernel
theorem dX12_few_72 : decode cX12_few 72 = .ok (.istore 4, 2) := by decide +kernel
theorem dX12_few_74 : decode cX12_few 74 = .ok (.iload 4, 2) := by decide +kernel
theorem dX12_few_76 : decode cX12_few 76 = .ok (.iload_n 2, 1) := by decide +kernel
theorem dX12_few_77 : decode cX12_few 77 = .ok (.if_icmp .ge 74, 3) := by decide +kernel
theorem dX12_few_80 : decode cX12_few 80 = .ok (.iload_n 1, 1) := by decide +kernel
theorem dX12_few_81 : decode cX12_few 81 = .ok (.iconst 1, 1) := by decide +kernel
theorem dX12_few_82 : decode cX12_few 82 = .ok (.isub, 1) := by decide +kernel
theorem dX12_few_83 : decode cX12_few 83 = .ok (.istore 5, 2) := by decide +kernel
theorem dX12_few_85 : decode cX12_few 85 = .ok (.iload 5, 2) := by decide +kernel
theorem dX12_few_87 : decode cX12_few 87 = .ok (.ifCond .lt 58, 3) := by decide +kernel
theorem dX12_few_90 : decode cX12_few 90 = .ok (.aload_n 0, 1) := by decide +kernel
theorem dX12_few_91 : decode cX12_few 91 = .ok (.getfield 127, 3) := by decide +kernel
theorem dX12_few_94 : decode cX12_few 94 = .ok (.iload 5, 2) := by decide +kernel
theorem dX12_few_96 : decode cX12_few 96 = .ok (.laload, 1) := by decide +kernel
theorem dX12_few_97 : decode cX12_few 97 = .ok (.lstore 6, 2) := by decide +kernel
theorem dX12_few_99 : decode cX12_few 99 = .ok (.aload_n 0, 1) := by decide +kernel
theorem dX12_few_100 : decode cX12_few 100 = .ok (.getfield 127, 3) := by decide +kernel
theorem dX12_few_103 : decode cX12_few 103 = .ok (.iload 5, 2) := by decide +kernel
theorem dX12_few_105 : decode cX12_few 105 = .ok (.lload 6, 2) := by decide +kernel
theorem dX12_few_107 : decode cX12_few 107 = .ok (.bipush 10, 2) := by decide +kernel
theorem dX12_few_109 : decode cX12_few 109 = .ok (.iload_n 3, 1) := by decide +kernel
theorem dX12_few_110 : decode cX12_few 110 = .ok (.isub, 1) := by decide +kernel
theorem dX12_few_111 : decode cX12_few 111 = .ok (.i2l, 1) := by decide +kernel
theorem dX12_few_112 : decode cX12_few 112 = .ok (.lmul, 1) := by decide +kernel
theorem dX12_few_113 : decode cX12_few 113 = .ok (.ldc2_w 223, 3) := by decide +kernel
theorem dX12_few_116 : decode cX12_few 116 = .ok (.ldiv, 1) := by decide +kernel
theorem dX12_few_117 : decode cX12_few 117 = .ok (.lastore, 1) := by decide +kernel
theorem dX12_few_118 : decode cX12_few 118 = .ok (.aload_n 0, 1) := by decide +kernel
theorem dX12_few_119 : decode cX12_few 119 = .ok (.getfield 127, 3) := by decide +kernel
theorem dX12_few_122 : decode cX12_few 122 = .ok (.iload 5, 2) := by decide +kernel
theorem dX12_few_124 : decode cX12_few 124 = .ok (.iconst 1, 1) := by decide +kernel
theorem dX12_few_125 : decode cX12_few 125 = .ok (.iadd, 1) := by decide +kernel
theorem dX12_few_126 : decode cX12_few 126 = .ok (.dup2, 1) := by decide +kernel
theorem dX12_few_127 : decode cX12_few 127 = .ok (.laload, 1) := by decide +kernel
theorem dX12_few_128 : decode cX12_few 128 = .ok (.lload 6, 2) := by decide +kernel
theorem dX12_few_130 : decode cX12_few 130 = .ok (.iload_n 3, 1) := by decide +kernel
theorem dX12_few_131 : decode cX12_few 131 = .ok (.i2l, 1) := by decide +kernel
theorem dX12_few_132 : decode cX12_few 132 = .ok (.lmul, 1) := by decide +kernel
theorem dX12_few_133 : decode cX12_few 133 = .ok (.ldc2_w 223, 3) := by decide +kernel
theorem dX12_few_136 : decode cX12_few 136 = .ok (.ldiv, 1) := by decide +kernel
theorem dX12_few_137 : decode cX12_few 137 = .ok (.ladd, 1) := by decide +kernel
theorem dX12_few_138 : decode cX12_few 138 = .ok (.lastore, 1) := by decide +kernel
theorem dX12_few_139 : decode cX12_few 139 = .ok (.iinc 5 (-1), 3) := by decide +kernel
theorem dX12_few_142 : decode cX12_few 142 = .ok (.goto (-57), 3) := by decide +kernel
theorem dX12_few_145 : decode cX12_few 145 = .ok (.iinc 4 1, 3) := by decide +kernel
theorem dX12_few_148 : decode cX12_few 148 = .ok (.goto (-74), 3) := by decide +kernel
theorem dX12_few_151 : decode cX12_few 151 = .ok (.lconst 0, 1) := by decide +kernel
theorem dX12_few_152 : decode cX12_few 152 = .ok (.lstore 4, 2) := by decide +kernel
theorem dX12_few_154 : decode cX12_few 154 = .ok (.iconst 0, 1) := by decide +kernel
theorem dX12_few_155 : decode cX12_few 155 = .ok (.istore 6, 2) := by decide +kernel
theorem dX12_few_157 : decode cX12_few 157 = .ok (.iload 6, 2) := by decide +kernel
theorem dX12_few_159 : decode cX12_few 159 = .ok (.iload_n 1, 1) := by decide +kernel
theorem dX12_few_160 : decode cX12_few 160 = .ok (.if_icmp .ge 21, 3) := by decide +kernel
theorem dX12_few_163 : decode cX12_few 163 = .ok (.lload 4, 2) := by decide +kernel
theorem dX12_few_165 : decode cX12_few 165 = .ok (.aload_n 0, 1) := by decide +kernel
theorem dX12_few_166 : decode cX12_few 166 = .ok (.getfield 127, 3) := by decide +kernel
theorem dX12_few_169 : decode cX12_few 169 = .ok (.iload 6, 2) := by decide +kernel
theorem dX12_few_171 : decode cX12_few 171 = .ok (.laload, 1) := by decide +kernel
theorem dX12_few_172 : decode cX12_few 172 = .ok (.ladd, 1) := by decide +kernel
theorem dX12_few_173 : decode cX12_few 173 = .ok (.lstore 4, 2) := by decide +kernel
theorem dX12_few_175 : decode cX12_few 175 = .ok (.iinc 6 1, 3) := by decide +kernel
theorem dX12_few_178 : decode cX12_few 178 = .ok (.goto (-21), 3) := by decide +kernel
theorem dX12_few_181 : decode cX12_few 181 = .ok (.lload 4, 2) := by decide +kernel
theorem dX12_few_183 : decode cX12_few 183 = .ok (.lreturn, 1) := by decide +kernel
theorem dX12_readSum_0 : decode cX12_readSum 0 = .ok (.aload_n 0, 1) := by decide +kernel
theorem dX12_readSum_1 : decode cX12_readSum 1 = .ok (.getfield 141, 3) := by decide +kernel
theorem dX12_readSum_4 : decode cX12_readSum 4 = .ok (.iload_n 1, 1) := by decide +kernel
theorem dX12_readSum_5 : decode cX12_readSum 5 = .ok (.aload_n 0, 1) := by decide +kernel
theorem dX12_readSum_6 : decode cX12_readSum 6 = .ok (.getfield 279, 3) := by decide +kernel
theorem dX12_readSum_9 : decode cX12_readSum 9 = .ok (.iastore, 1) := by decide +kernel
theorem dX12_readSum_10 : decode cX12_readSum 10 = .ok (.aload_n 0, 1) := by decide +kernel
theorem dX12_readSum_11 : decode cX12_readSum 11 = .ok (.getfield 242, 3) := by decide +kernel
theorem dX12_readSum_14 : decode cX12_readSum 14 = .ok (.ifCond .ne 8, 3) := by decide +kernel
theorem dX12_readSum_17 : decode cX12_readSum 17 = .ok (.aload_n 0, 1) := by decide +kernel
theorem dX12_readSum_18 : decode cX12_readSum 18 = .ok (.iconst 0, 1) := by decide +kernel
theorem dX12_readSum_19 : decode cX12_readSum 19 = .ok (.invokevirtual 376, 3) := by decide +kernel
theorem dX12_readSum_22 : decode cX12_readSum 22 = .ok (.aload_n 0, 1) := by decide +kernel
theorem dX12_readSum_23 : decode cX12_readSum 23 = .ok (.getfield 141, 3) := by decide +kernel
theorem dX12_readSum_26 : decode cX12_readSum 26 = .ok (.iload_n 1, 1) := by decide +kernel
theorem dX12_readSum_27 : decode cX12_readSum 27 = .ok (.iconst 1, 1) := by decide +kernel
theorem dX12_readSum_28 : decode cX12_readSum 28 = .ok (.iadd, 1) := by decide +kernel
theorem dX12_readSum_29 : decode cX12_readSum 29 = .ok (.aload_n 0, 1) := by decide +kernel
theorem dX12_readSum_30 : decode cX12_readSum 30 = .ok (.getfield 279, 3) := by decide +kernel
theorem dX12_readSum_33 : decode cX12_readSum 33 = .ok (.iastore, 1) := by decide +kernel
theorem dX12_readSum_34 : decode cX12_readSum 34 = .ok (.return_, 1) := by decide +kernel
theorem dX12_readOrder_0 : decode cX12_readOrder 0 = .ok (.iconst (-1), 1) := by decide +kernel
theorem dX12_readOrder_1 : decode cX12_readOrder 1 = .ok (.istore_n 1, 1) := by decide +kernel
theorem dX12_readOrder_2 : decode cX12_readOrder 2 = .ok (.iconst 0, 1) := by decide +kernel
theorem dX12_readOrder_3 : decode cX12_readOrder 3 = .ok (.istore_n 2, 1) := by decide +kernel
theorem dX12_readOrder_4 : decode cX12_readOrder 4 = .ok (.iload_n 2, 1) := by decide +kernel
theorem dX12_readOrder_5 : decode cX12_readOrder 5 = .ok (.iconst 4, 1) := by decide +kernel
theorem dX12_readOrder_6 : decode cX12_readOrder 6 = .ok (.if_icmp .ge 28, 3) := by decide +kernel
theorem dX12_readOrder_9 : decode cX12_readOrder 9 = .ok (.aload_n 0, 1) := by decide +kernel
theorem dX12_readOrder_10 : decode cX12_readOrder 10 = .ok (.aload_n 0, 1) := by decide +kernel
theorem dX12_readOrder_11 : decode cX12_readOrder 11 = .ok (.getfield 138, 3) := by decide +kernel
theorem dX12_readOrder_14 : decode cX12_readOrder 14 = .ok (.iload_n 2, 1) := by decide +kernel
theorem dX12_readOrder_15 : decode cX12_readOrder 15 = .ok (.laload, 1) := by decide +kernel
theorem dX12_readOrder_16 : decode cX12_readOrder 16 = .ok (.invokevirtual 300, 3) := by decide +kernel
theorem dX12_readOrder_19 : decode cX12_readOrder 19 = .ok (.ifCond .eq 7, 3) := by decide +kernel
theorem dX12_readOrder_22 : decode cX12_readOrder 22 = .ok (.iload_n 2, 1) := by decide +kernel
theorem dX12_readOrder_23 : decode cX12_readOrder 23 = .ok (.goto 4, 3) := by decide +kernel
theorem dX12_readOrder_26 : decode cX12_readOrder 26 = .ok (.iload_n 1, 1) := by decide +kernel
theorem dX12_readOrder_27 : decode cX12_readOrder 27 = .ok (.istore_n 1, 1) := by decide +kernel
theorem dX12_readOrder_28 : decode cX12_readOrder 28 = .ok (.iinc 2 1, 3) := by decide +kernel
theorem dX12_readOrder_31 : decode cX12_readOrder 31 = .ok (.goto (-27), 3) := by decide +kernel
theorem dX12_readOrder_34 : decode cX12_readOrder 34 = .ok (.aload_n 0, 1) := by decide +kernel
theorem dX12_readOrder_35 : decode cX12_readOrder 35 = .ok (.iload_n 1, 1) := by decide +kernel
theorem dX12_readOrder_36 : decode cX12_readOrder 36 = .ok (.iconst (-1), 1) := by decide +kernel
theorem dX12_readOrder_37 : decode cX12_readOrder 37 = .ok (.if_icmp .eq 16, 3) := by decide +kernel
theorem dX12_readOrder_40 : decode cX12_readOrder 40 = .ok (.aload_n 0, 1) := by decide +kernel
theorem dX12_readOrder_41 : decode cX12_readOrder 41 = .ok (.getfield 373, 3) := by decide +kernel
theorem dX12_readOrder_44 : decode cX12_readOrder 44 = .ok (.bipush 12, 2) := by decide +kernel
theorem dX12_readOrder_46 : decode cX12_readOrder 46 = .ok (.if_icmp .ge 7, 3) := by decide +kernel
theorem dX12_readOrder_49 : decode cX12_readOrder 49 = .ok (.iconst 1, 1) := by decide +kernel
theorem dX12_readOrder_50 : decode cX12_readOrder 50 = .ok (.goto 4, 3) := by decide +kernel
theorem dX12_readOrder_53 : decode cX12_readOrder 53 = .ok (.iconst 0, 1) := by decide +kernel
theorem dX12_readOrder_54 : decode cX12_readOrder 54 = .ok (.invokevirtual 275, 3) := by decide +kernel
theorem dX12_readOrder_57 : decode cX12_readOrder 57 = .ok (.aload_n 0, 1) := by decide +kernel
theorem dX12_readOrder_58 : decode cX12_readOrder 58 = .ok (.getfield 242, 3) := by decide +kernel
theorem dX12_readOrder_61 : decode cX12_readOrder 61 = .ok (.ifCond .eq 4, 3) := by decide +kernel
theorem dX12_readOrder_64 : decode cX12_readOrder 64 = .ok (.return_, 1) := by decide +kernel
theorem dX12_readOrder_65 : decode cX12_readOrder 65 = .ok (.bipush 8, 2) := by decide +kernel
theorem dX12_readOrder_67 : decode cX12_readOrder 67 = .ok (.aload_n 0, 1) := by decide +kernel
theorem dX12_readOrder_68 : decode cX12_readOrder 68 = .ok (.getfield 373, 3) := by decide +kernel
theorem dX12_readOrder_71 : decode cX12_readOrder 71 = .ok (.imul, 1) := by decide +kernel
theorem dX12_readOrder_72 : decode cX12_readOrder 72 = .ok (.istore_n 2, 1) := by decide +kernel
theorem dX12_readOrder_73 : decode cX12_readOrder 73 = .ok (.aload_n 0, 1) := by decide +kernel
theorem dX12_readOrder_74 : decode cX12_readOrder 74 = .ok (.dup, 1) := by decide +kernel
theorem dX12_readOrder_75 : decode cX12_readOrder 75 = .ok (.getfield 373, 3) := by decide +kernel
theorem dX12_readOrder_78 : decode cX12_readOrder 78 = .ok (.iconst 1, 1) := by decide +kernel
theorem dX12_readOrder_79 : decode cX12_readOrder 79 = .ok (.iadd, 1) := by decide +kernel
theorem dX12_readOrder_80 : decode cX12_readOrder 80 = .ok (.putfield 373, 3) := by decide +kernel
theorem dX12_readOrder_83 : decode cX12_readOrder 83 = .ok (.iconst 0, 1) := by decide +kernel
theorem dX12_readOrder_84 : decode cX12_readOrder 84 = .ok (.istore_n 3, 1) := by decide +kernel
theorem dX12_readOrder_85 : decode cX12_readOrder 85 = .ok (.iload_n 3, 1) := by decide +kernel
theorem dX12_readOrder_86 : decode cX12_readOrder 86 = .ok (.bipush 8, 2) := by decide +kernel
theorem dX12_readOrder_88 : decode cX12_readOrder 88 = .ok (.if_icmp .ge 18, 3) := by decide +kernel
theorem dX12_readOrder_91 : decode cX12_readOrder 91 = .ok (.aload_n 0, 1) := by decide +kernel
theorem dX12_readOrder_92 : decode cX12_readOrder 92 = .ok (.getfield 141, 3) := by decide +kernel
theorem dX12_readOrder_95 : decode cX12_readOrder 95 = .ok (.iload_n 2, 1) := by decide +kernel
theorem dX12_readOrder_96 : decode cX12_readOrder 96 = .ok (.iload_n 3, 1) := by decide +kernel
theorem dX12_readOrder_97 : decode cX12_readOrder 97 = .ok (.iadd, 1) := by decide +kernel
theorem dX12_readOrder_98 : decode cX12_readOrder 98 = .ok (.iconst 0, 1) := by decide +kernel
theorem dX12_readOrder_99 : decode cX12_readOrder 99 = .ok (.iastore, 1) := by decide +kernel
theorem dX12_readOrder_100 : decode cX12_readOrder 100 = .ok (.iinc 3 1, 3) := by decide +kernel
theorem dX12_readOrder_103 : decode cX12_readOrder 103 = .ok (.goto (-18), 3) := by decide +kernel
theorem dX12_readOrder_106 : decode cX12_readOrder 106 = .ok (.aload_n 0, 1) := by decide +kernel
theorem dX12_readOrder_107 : decode cX12_readOrder 107 = .ok (.getfield 141, 3) := by decide +kernel
theorem dX12_readOrder_110 : decode cX12_readOrder 110 = .ok (.iload_n 2, 1) := by decide +kernel
theorem dX12_readOrder_111 : decode cX12_readOrder 111 = .ok (.iload_n 1, 1) := by decide +kernel
theorem dX12_readOrder_112 : decode cX12_readOrder 112 = .ok (.iastore, 1) := by decide +kernel
theorem dX12_readOrder_113 : decode cX12_readOrder 113 = .ok (.iload_n 1, 1) := by decide +kernel
theorem dX12_readOrder_114 : decode cX12_readOrder 114 = .ok (.iconst 3, 1) := by decide +kernel
theorem dX12_readOrder_115 : decode cX12_readOrder 115 = .ok (.if_icmp .eq 10, 3) := by decide +kernel
theorem dX12_readOrder_118 : decode cX12_readOrder 118 = .ok (.aload_n 0, 1) := by decide +kernel
theorem dX12_readOrder_119 : decode cX12_readOrder 119 = .ok (.iload_n 2, 1) := by decide +kernel
theorem dX12_readOrder_120 : decode cX12_readOrder 120 = .ok (.iconst 1, 1) := by decide +kernel
theorem dX12_readOrder_121 : decode cX12_readOrder 121 = .ok (.iadd, 1) := by decide +kernel
theorem dX12_readOrder_122 : decode cX12_readOrder 122 = .ok (.invokevirtual 536, 3) := by decide +kernel
theorem dX12_readOrder_125 : decode cX12_readOrder 125 = .ok (.iload_n 1, 1) := by decide +kernel
theorem dX12_readOrder_126 : decode cX12_readOrder 126 = .ok (.ifCond .ne 28, 3) := by decide +kernel
theorem dX12_readOrder_129 : decode cX12_readOrder 129 = .ok (.aload_n 0, 1) := by decide +kernel
theorem dX12_readOrder_130 : decode cX12_readOrder 130 = .ok (.getfield 242, 3) := by decide +kernel
theorem dX12_readOrder_133 : decode cX12_readOrder 133 = .ok (.ifCond .ne 14, 3) := by decide +kernel
theorem dX12_readOrder_136 : decode cX12_readOrder 136 = .ok (.aload_n 0, 1) := by decide +kernel
theorem dX12_readOrder_137 : decode cX12_readOrder 137 = .ok (.aload_n 0, 1) := by decide +kernel
theorem dX12_readOrder_138 : decode cX12_readOrder 138 = .ok (.ldc2_w 539, 3) := by decide +kernel
theorem dX12_readOrder_141 : decode cX12_readOrder 141 = .ok (.invokevirtual 300, 3) := by decide +kernel
theorem dX12_readOrder_144 : decode cX12_readOrder 144 = .ok (.invokevirtual 275, 3) := by decide +kernel
theorem dX12_readOrder_147 : decode cX12_readOrder 147 = .ok (.aload_n 0, 1) := by decide +kernel
theorem dX12_readOrder_148 : decode cX12_readOrder 148 = .ok (.iload_n 2, 1) := by decide +kernel
theorem dX12_readOrder_149 : decode cX12_readOrder 149 = .ok (.iconst 3, 1) := by decide +kernel
theorem dX12_readOrder_150 : decode cX12_readOrder 150 = .ok (.iadd, 1) := by decide +kernel
theorem dX12_readOrder_151 : decode cX12_readOrder 151 = .ok (.invokevirtual 536, 3) := by decide +kernel
theorem dX12_readOrder_154 : decode cX12_readOrder 154 = .ok (.aload_n 0, 1) := by decide +kernel
theorem dX12_readOrder_155 : decode cX12_readOrder 155 = .ok (.getfield 141, 3) := by decide +kernel
theorem dX12_readOrder_158 : decode cX12_readOrder 158 = .ok (.iload_n 2, 1) := by decide +kernel
theorem dX12_readOrder_159 : decode cX12_readOrder 159 = .ok (.bipush 7, 2) := by decide +kernel
theorem dX12_readOrder_161 : decode cX12_readOrder 161 = .ok (.iadd, 1) := by decide +kernel
theorem dX12_readOrder_162 : decode cX12_readOrder 162 = .ok (.iconst 1, 1) := by decide +kernel
theorem dX12_readOrder_163 : decode cX12_readOrder 163 = .ok (.iastore, 1) := by decide +kernel
theorem dX12_readOrder_164 : decode cX12_readOrder 164 = .ok (.aload_n 0, 1) := by decide +kernel
theorem dX12_readOrder_165 : decode cX12_readOrder 165 = .ok (.getfield 242, 3) := by decide +kernel
theorem dX12_readOrder_168 : decode cX12_readOrder 168 = .ok (.ifCond .ne 34, 3) := by decide +kernel
theorem dX12_readOrder_171 : decode cX12_readOrder 171 = .ok (.aload_n 0, 1) := by decide +kernel
theorem dX12_readOrder_172 : decode cX12_readOrder 172 = .ok (.ldc2_w 541, 3) := by decide +kernel
theorem dX12_readOrder_175 : decode cX12_readOrder 175 = .ok (.invokevirtual 300, 3) := by decide +kernel
theorem dX12_readOrder_178 : decode cX12_readOrder 178 = .ok (.ifCond .eq 24, 3) := by decide +kernel
theorem dX12_readOrder_181 : decode cX12_readOrder 181 = .ok (.aload_n 0, 1) := by decide +kernel
theorem dX12_readOrder_182 : decode cX12_readOrder 182 = .ok (.invokevirtual 246, 3) := by decide +kernel
theorem dX12_readOrder_185 : decode cX12_readOrder 185 = .ok (.aload_n 0, 1) := by decide +kernel
theorem dX12_readOrder_186 : decode cX12_readOrder 186 = .ok (.getfield 141, 3) := by decide +kernel
theorem dX12_readOrder_189 : decode cX12_readOrder 189 = .ok (.iload_n 2, 1) := by decide +kernel
theorem dX12_readOrder_190 : decode cX12_readOrder 190 = .ok (.bipush 7, 2) := by decide +kernel
theorem dX12_readOrder_192 : decode cX12_readOrder 192 = .ok (.iadd, 1) := by decide +kernel
theorem dX12_readOrder_193 : decode cX12_readOrder 193 = .ok (.aload_n 0, 1) := by decide +kernel
theorem dX12_readOrder_194 : decode cX12_readOrder 194 = .ok (.lconst 1, 1) := by decide +kernel
theorem dX12_readOrder_195 : decode cX12_readOrder 195 = .ok (.ldc2_w 292, 3) := by decide +kernel
theorem dX12_readOrder_198 : decode cX12_readOrder 198 = .ok (.invokevirtual 337, 3) := by decide +kernel
theorem dX12_readOrder_201 : decode cX12_readOrder 201 = .ok (.iastore, 1) := by decide +kernel
theorem dX12_readOrder_202 : decode cX12_readOrder 202 = .ok (.aload_n 0, 1) := by decide +kernel
theorem dX12_readOrder_203 : decode cX12_readOrder 203 = .ok (.getfield 141, 3) := by decide +kernel
theorem dX12_readOrder_206 : decode cX12_readOrder 206 = .ok (.iload_n 2, 1) := by decide +kernel
theorem dX12_readOrder_207 : decode cX12_readOrder 207 = .ok (.iconst 5, 1) := by decide +kernel
theorem dX12_readOrder_208 : decode cX12_readOrder 208 = .ok (.iadd, 1) := by decide +kernel
theorem dX12_readOrder_209 : decode cX12_readOrder 209 = .ok (.aload_n 0, 1) := by decide +kernel
theorem dX12_readOrder_210 : decode cX12_readOrder 210 = .ok (.getfield 279, 3) := by decide +kernel
theorem dX12_readOrder_213 : decode cX12_readOrder 213 = .ok (.iastore, 1) := by decide +kernel
theorem dX12_readOrder_214 : decode cX12_readOrder 214 = .ok (.aload_n 0, 1) := by decide +kernel
theorem dX12_readOrder_215 : decode cX12_readOrder 215 = .ok (.getfield 242, 3) := by decide +kernel
theorem dX12_readOrder_218 : decode cX12_readOrder 218 = .ok (.ifCond .ne 22, 3) := by decide +kernel
theorem dX12_readOrder_221 : decode cX12_readOrder 221 = .ok (.aload_n 0, 1) := by decide +kernel
theorem dX12_readOrder_222 : decode cX12_readOrder 222 = .ok (.ldc2_w 379, 3) := by decide +kernel
theorem dX12_readOrder_225 : decode cX12_readOrder 225 = .ok (.invokevirtual 300, 3) := by decide +kernel
theorem dX12_readOrder_228 : decode cX12_readOrder 228 = .ok (.ifCond .eq 12, 3) := by decide +kernel
theorem dX12_readOrder_231 : decode cX12_readOrder 231 = .ok (.aload_n 0, 1) := by decide +kernel
theorem dX12_readOrder_232 : decode cX12_readOrder 232 = .ok (.invokevirtual 246, 3) := by decide +kernel
theorem dX12_readOrder_235 : decode cX12_readOrder 235 = .ok (.aload_n 0, 1) := by decide +kernel
theorem dX12_readOrder_236 : decode cX12_readOrder 236 = .ok (.iconst 1, 1) := by decide +kernel
theorem dX12_readOrder_237 : decode cX12_readOrder 237 = .ok (.invokevirtual 376, 3) := by decide +kernel
theorem dX12_readOrder_240 : decode cX12_readOrder 240 = .ok (.aload_n 0, 1) := by decide +kernel
theorem dX12_readOrder_241 : decode cX12_readOrder 241 = .ok (.getfield 141, 3) := by decide +kernel
theorem dX12_readOrder_244 : decode cX12_readOrder 244 = .ok (.iload_n 2, 1) := by decide +kernel
theorem dX12_readOrder_245 : decode cX12_readOrder 245 = .ok (.bipush 6, 2) := by decide +kernel
theorem dX12_readOrder_247 : decode cX12_readOrder 247 = .ok (.iadd, 1) := by decide +kernel
theorem dX12_readOrder_248 : decode cX12_readOrder 248 = .ok (.aload_n 0, 1) := by decide +kernel
theorem dX12_readOrder_249 : decode cX12_readOrder 249 = .ok (.getfield 279, 3) := by decide +kernel
theorem dX12_readOrder_252 : decode cX12_readOrder 252 = .ok (.iastore, 1) := by decide +kernel
theorem dX12_readOrder_253 : decode cX12_readOrder 253 = .ok (.return_, 1) := by decide +kernel
theorem dX12_sumOf_0 : decode cX12_sumOf 0 = .ok (.aload_n 0, 1) := by decide +kernel
theorem dX12_sumOf_1 : decode cX12_sumOf 1 = .ok (.getfield 543, 3) := by decide +kernel
theorem dX12_sumOf_4 : decode cX12_sumOf 4 = .ok (.ifCond .ne 20, 3) := by decide +kernel
theorem dX12_sumOf_7 : decode cX12_sumOf 7 = .ok (.aload_n 0, 1) := by decide +kernel
theorem dX12_sumOf_8 : decode cX12_sumOf 8 = .ok (.getfield 141, 3) := by decide +kernel
theorem dX12_sumOf_11 : decode cX12_sumOf 11 = .ok (.iload_n 1, 1) := by decide +kernel
theorem dX12_sumOf_12 : decode cX12_sumOf 12 = .ok (.iaload, 1) := by decide +kernel
theorem dX12_sumOf_13 : decode cX12_sumOf 13 = .ok (.aload_n 0, 1) := by decide +kernel
theorem dX12_sumOf_14 : decode cX12_sumOf 14 = .ok (.getfield 141, 3) := by decide +kernel
theorem dX12_sumOf_17 : decode cX12_sumOf 17 = .ok (.iload_n 1, 1) := by decide +kernel
theorem dX12_sumOf_18 : decode cX12_sumOf 18 = .ok (.iconst 1, 1) := by decide +kernel
theorem dX12_sumOf_19 : decode cX12_sumOf 19 = .ok (.iadd, 1) := by decide +kernel
theorem dX12_sumOf_20 : decode cX12_sumOf 20 = .ok (.iaload, 1) := by decide +kernel
theorem dX12_sumOf_21 : decode cX12_sumOf 21 = .ok (.if_icmp .ne 5, 3) := by decide +kernel
theorem dX12_sumOf_24 : decode cX12_sumOf 24 = .ok (.iconst (-1), 1) := by decide +kernel
theorem dX12_sumOf_25 : decode cX12_sumOf 25 = .ok (.ireturn, 1) := by decide +kernel
theorem dX12_sumOf_26 : decode cX12_sumOf 26 = .ok (.aload_n 0, 1) := by decide +kernel
theorem dX12_sumOf_27 : decode cX12_sumOf 27 = .ok (.iconst 1, 1) := by decide +kernel
theorem dX12_sumOf_28 : decode cX12_sumOf 28 = .ok (.putfield 319, 3) := by decide +kernel
theorem dX12_sumOf_31 : decode cX12_sumOf 31 = .ok (.aload_n 0, 1) := by decide +kernel
theorem dX12_sumOf_32 : decode cX12_sumOf 32 = .ok (.aload_n 0, 1) := by decide +kernel
theorem dX12_sumOf_33 : decode cX12_sumOf 33 = .ok (.getfield 141, 3) := by decide +kernel
theorem dX12_sumOf_36 : decode cX12_sumOf 36 = .ok (.iload_n 1, 1) := by decide +kernel
theorem dX12_sumOf_37 : decode cX12_sumOf 37 = .ok (.iaload, 1) := by decide +kernel
theorem dX12_sumOf_38 : decode cX12_sumOf 38 = .ok (.aload_n 0, 1) := by decide +kernel
theorem dX12_sumOf_39 : decode cX12_sumOf 39 = .ok (.getfield 141, 3) := by decide +kernel
theorem dX12_sumOf_42 : decode cX12_sumOf 42 = .ok (.iload_n 1, 1) := by decide +kernel
theorem dX12_sumOf_43 : decode cX12_sumOf 43 = .ok (.iconst 1, 1) := by decide +kernel
theorem dX12_sumOf_44 : decode cX12_sumOf 44 = .ok (.iadd, 1) := by decide +kernel
theorem dX12_sumOf_45 : decode cX12_sumOf 45 = .ok (.iaload, 1) := by decide +kernel
theorem dX12_sumOf_46 : decode cX12_sumOf 46 = .ok (.invokevirtual 410, 3) := by decide +kernel
theorem dX12_sumOf_49 : decode cX12_sumOf 49 = .ok (.aload_n 0, 1) := by decide +kernel
theorem dX12_sumOf_50 : decode cX12_sumOf 50 = .ok (.iconst 0, 1) := by decide +kernel
theorem dX12_sumOf_51 : decode cX12_sumOf 51 = .ok (.putfield 319, 3) := by decide +kernel
theorem dX12_sumOf_54 : decode cX12_sumOf 54 = .ok (.aload_n 0, 1) := by decide +kernel
theorem dX12_sumOf_55 : decode cX12_sumOf 55 = .ok (.aload_n 0, 1) := by decide +kernel
theorem dX12_sumOf_56 : decode cX12_sumOf 56 = .ok (.getfield 393, 3) := by decide +kernel
theorem dX12_sumOf_59 : decode cX12_sumOf 59 = .ok (.putfield 543, 3) := by decide +kernel
theorem dX12_sumOf_62 : decode cX12_sumOf 62 = .ok (.aload_n 0, 1) := by decide +kernel
theorem dX12_sumOf_63 : decode cX12_sumOf 63 = .ok (.getfield 407, 3) := by decide +kernel
theorem dX12_sumOf_66 : decode cX12_sumOf 66 = .ok (.l2i, 1) := by decide +kernel
theorem dX12_sumOf_67 : decode cX12_sumOf 67 = .ok (.ireturn, 1) := by decide +kernel
theorem dX12_act_0 : decode cX12_act 0 = .ok (.iload_n 1, 1) := by decide +kernel
theorem dX12_act_1 : decode cX12_act 1 = .ok (.tableswitch 46 0 2 #[27, 34, 40], 27) := by decide +kernel
theorem dX12_act_28 : decode cX12_act 28 = .ok (.aload_n 0, 1) := by decide +kernel
theorem dX12_act_29 : decode cX12_act 29 = .ok (.iload_n 2, 1) := by decide +kernel
theorem dX12_act_30 : decode cX12_act 30 = .ok (.iload_n 3, 1) := by decide +kernel
theorem dX12_act_31 : decode cX12_act 31 = .ok (.invokevirtual 452, 3) := by decide +kernel
theorem dX12_act_34 : decode cX12_act 34 = .ok (.ireturn, 1) := by decide +kernel
theorem dX12_act_35 : decode cX12_act 35 = .ok (.aload_n 0, 1) := by decide +kernel
theorem dX12_act_36 : decode cX12_act 36 = .ok (.iload_n 2, 1) := by decide +kernel
theorem dX12_act_37 : decode cX12_act 37 = .ok (.invokevirtual 458, 3) := by decide +kernel
theorem dX12_act_40 : decode cX12_act 40 = .ok (.ireturn, 1) := by decide +kernel
theorem dX12_act_41 : decode cX12_act 41 = .ok (.aload_n 0, 1) := by decide +kernel
theorem dX12_act_42 : decode cX12_act 42 = .ok (.iload_n 2, 1) := by decide +kernel
theorem dX12_act_43 : decode cX12_act 43 = .ok (.invokevirtual 464, 3) := by decide +kernel
theorem dX12_act_46 : decode cX12_act 46 = .ok (.ireturn, 1) := by decide +kernel
theorem dX12_act_47 : decode cX12_act 47 = .ok (.aload_n 0, 1) := by decide +kernel
theorem dX12_act_48 : decode cX12_act 48 = .ok (.invokevirtual 470, 3) := by decide +kernel
theorem dX12_act_51 : decode cX12_act 51 = .ok (.ireturn, 1) := by decide +kernel
theorem dX12_run_0 : decode cX12_run 0 = .ok (.aload_n 0, 1) := by decide +kernel
theorem dX12_run_1 : decode cX12_run 1 = .ok (.getfield 100, 3) := by decide +kernel
theorem dX12_run_4 : decode cX12_run 4 = .ok (.iconst 1, 1) := by decide +kernel
theorem dX12_run_5 : decode cX12_run 5 = .ok (.aload_n 0, 1) := by decide +kernel
theorem dX12_run_6 : decode cX12_run 6 = .ok (.getfield 13, 3) := by decide +kernel
theorem dX12_run_9 : decode cX12_run 9 = .ok (.iconst 4, 1) := by decide +kernel
theorem dX12_run_10 : decode cX12_run 10 = .ok (.iaload, 1) := by decide +kernel
theorem dX12_run_11 : decode cX12_run 11 = .ok (.i2l, 1) := by decide +kernel
theorem dX12_run_12 : decode cX12_run 12 = .ok (.lastore, 1) := by decide +kernel
theorem dX12_run_13 : decode cX12_run 13 = .ok (.aload_n 0, 1) := by decide +kernel
theorem dX12_run_14 : decode cX12_run 14 = .ok (.getfield 100, 3) := by decide +kernel
theorem dX12_run_17 : decode cX12_run 17 = .ok (.iconst 2, 1) := by decide +kernel
theorem dX12_run_18 : decode cX12_run 18 = .ok (.aload_n 0, 1) := by decide +kernel
theorem dX12_run_19 : decode cX12_run 19 = .ok (.getfield 546, 3) := by decide +kernel
theorem dX12_run_22 : decode cX12_run 22 = .ok (.i2l, 1) := by decide +kernel
theorem dX12_run_23 : decode cX12_run 23 = .ok (.lastore, 1) := by decide +kernel
theorem dX12_run_24 : decode cX12_run 24 = .ok (.aload_n 0, 1) := by decide +kernel
theorem dX12_run_25 : decode cX12_run 25 = .ok (.getfield 100, 3) := by decide +kernel
theorem dX12_run_28 : decode cX12_run 28 = .ok (.iconst 3, 1) := by decide +kernel
theorem dX12_run_29 : decode cX12_run 29 = .ok (.aload_n 0, 1) := by decide +kernel
theorem dX12_run_30 : decode cX12_run 30 = .ok (.getfield 549, 3) := by decide +kernel
theorem dX12_run_33 : decode cX12_run 33 = .ok (.i2l, 1) := by decide +kernel
theorem dX12_run_34 : decode cX12_run 34 = .ok (.lastore, 1) := by decide +kernel
theorem dX12_run_35 : decode cX12_run 35 = .ok (.aload_n 0, 1) := by decide +kernel
theorem dX12_run_36 : decode cX12_run 36 = .ok (.getfield 100, 3) := by decide +kernel
theorem dX12_run_39 : decode cX12_run 39 = .ok (.iconst 4, 1) := by decide +kernel
theorem dX12_run_40 : decode cX12_run 40 = .ok (.aload_n 0, 1) := by decide +kernel
theorem dX12_run_41 : decode cX12_run 41 = .ok (.invokevirtual 552, 3) := by decide +kernel
theorem dX12_run_44 : decode cX12_run 44 = .ok (.invokestatic 497, 3) := by decide +kernel
theorem dX12_run_47 : decode cX12_run 47 = .ok (.i2l, 1) := by decide +kernel
theorem dX12_run_48 : decode cX12_run 48 = .ok (.lastore, 1) := by decide +kernel
theorem dX12_run_49 : decode cX12_run 49 = .ok (.aload_n 0, 1) := by decide +kernel
theorem dX12_run_50 : decode cX12_run 50 = .ok (.getfield 100, 3) := by decide +kernel
theorem dX12_run_53 : decode cX12_run 53 = .ok (.iconst 5, 1) := by decide +kernel
theorem dX12_run_54 : decode cX12_run 54 = .ok (.aload_n 0, 1) := by decide +kernel
theorem dX12_run_55 : decode cX12_run 55 = .ok (.invokevirtual 449, 3) := by decide +kernel
theorem dX12_run_58 : decode cX12_run 58 = .ok (.i2l, 1) := by decide +kernel
theorem dX12_run_59 : decode cX12_run 59 = .ok (.lastore, 1) := by decide +kernel
theorem dX12_run_60 : decode cX12_run 60 = .ok (.aload_n 0, 1) := by decide +kernel
theorem dX12_run_61 : decode cX12_run 61 = .ok (.iconst 0, 1) := by decide +kernel
theorem dX12_run_62 : decode cX12_run 62 = .ok (.putfield 543, 3) := by decide +kernel
theorem dX12_run_65 : decode cX12_run 65 = .ok (.aload_n 0, 1) := by decide +kernel
theorem dX12_run_66 : decode cX12_run 66 = .ok (.getfield 141, 3) := by decide +kernel
theorem dX12_run_69 : decode cX12_run 69 = .ok (.iload_n 1, 1) := by decide +kernel
theorem dX12_run_70 : decode cX12_run 70 = .ok (.iconst 5, 1) := by decide +kernel
theorem dX12_run_71 : decode cX12_run 71 = .ok (.iadd, 1) := by decide +kernel
theorem dX12_run_72 : decode cX12_run 72 = .ok (.iaload, 1) := by decide +kernel
theorem dX12_run_73 : decode cX12_run 73 = .ok (.aload_n 0, 1) := by decide +kernel
theorem dX12_run_74 : decode cX12_run 74 = .ok (.getfield 141, 3) := by decide +kernel
theorem dX12_run_77 : decode cX12_run 77 = .ok (.iload_n 1, 1) := by decide +kernel
theorem dX12_run_78 : decode cX12_run 78 = .ok (.bipush 6, 2) := by decide +kernel
theorem dX12_run_80 : decode cX12_run 80 = .ok (.iadd, 1) := by decide +kernel
theorem dX12_run_81 : decode cX12_run 81 = .ok (.iaload, 1) := by decide +kernel
theorem dX12_run_82 : decode cX12_run 82 = .ok (.if_icmp .ge 24, 3) := by decide +kernel
theorem dX12_run_85 : decode cX12_run 85 = .ok (.aload_n 0, 1) := by decide +kernel
theorem dX12_run_86 : decode cX12_run 86 = .ok (.iload_n 1, 1) := by decide +kernel
theorem dX12_run_87 : decode cX12_run 87 = .ok (.iconst 5, 1) := by decide +kernel
theorem dX12_run_88 : decode cX12_run 88 = .ok (.iadd, 1) := by decide +kernel
theorem dX12_run_89 : decode cX12_run 89 = .ok (.invokevirtual 555, 3) := by decide +kernel
theorem dX12_run_92 : decode cX12_run 92 = .ok (.istore_n 2, 1) := by decide +kernel
theorem dX12_run_93 : decode cX12_run 93 = .ok (.aload_n 0, 1) := by decide +kernel
theorem dX12_run_94 : decode cX12_run 94 = .ok (.getfield 543, 3) := by decide +kernel
theorem dX12_run_97 : decode cX12_run 97 = .ok (.ifCond .ne 7, 3) := by decide +kernel
theorem dX12_run_100 : decode cX12_run 100 = .ok (.iload_n 2, 1) := by decide +kernel
theorem dX12_run_101 : decode cX12_run 101 = .ok (.ifCond .ne 5, 3) := by decide +kernel
theorem dX12_run_104 : decode cX12_run 104 = .ok (.iconst 0, 1) := by decide +kernel
theorem dX12_run_105 : decode cX12_run 105 = .ok (.ireturn, 1) := by decide +kernel
theorem dX12_run_106 : decode cX12_run 106 = .ok (.aload_n 0, 1) := by decide +kernel
theorem dX12_run_107 : decode cX12_run 107 = .ok (.iload_n 1, 1) := by decide +kernel
theorem dX12_run_108 : decode cX12_run 108 = .ok (.iconst 1, 1) := by decide +kernel
theorem dX12_run_109 : decode cX12_run 109 = .ok (.iadd, 1) := by decide +kernel
theorem dX12_run_110 : decode cX12_run 110 = .ok (.invokevirtual 555, 3) := by decide +kernel
theorem dX12_run_113 : decode cX12_run 113 = .ok (.istore_n 2, 1) := by decide +kernel
theorem dX12_run_114 : decode cX12_run 114 = .ok (.aload_n 0, 1) := by decide +kernel
theorem dX12_run_115 : decode cX12_run 115 = .ok (.iload_n 1, 1) := by decide +kernel
theorem dX12_run_116 : decode cX12_run 116 = .ok (.iconst 3, 1) := by decide +kernel
theorem dX12_run_117 : decode cX12_run 117 = .ok (.iadd, 1) := by decide +kernel
theorem dX12_run_118 : decode cX12_run 118 = .ok (.invokevirtual 555, 3) := by decide +kernel
theorem dX12_run_121 : decode cX12_run 121 = .ok (.istore_n 3, 1) := by decide +kernel
theorem dX12_run_122 : decode cX12_run 122 = .ok (.aload_n 0, 1) := by decide +kernel
theorem dX12_run_123 : decode cX12_run 123 = .ok (.getfield 543, 3) := by decide +kernel
theorem dX12_run_126 : decode cX12_run 126 = .ok (.ifCond .eq 6, 3) := by decide +kernel
theorem dX12_run_129 : decode cX12_run 129 = .ok (.bipush (-3), 2) := by decide +kernel
theorem dX12_run_131 : decode cX12_run 131 = .ok (.ireturn, 1) := by decide +kernel
theorem dX12_run_132 : decode cX12_run 132 = .ok (.aload_n 0, 1) := by decide +kernel
theorem dX12_run_133 : decode cX12_run 133 = .ok (.aload_n 0, 1) := by decide +kernel
theorem dX12_run_134 : decode cX12_run 134 = .ok (.getfield 141, 3) := by decide +kernel
theorem dX12_run_137 : decode cX12_run 137 = .ok (.iload_n 1, 1) := by decide +kernel
theorem dX12_run_138 : decode cX12_run 138 = .ok (.iaload, 1) := by decide +kernel
theorem dX12_run_139 : decode cX12_run 139 = .ok (.iload_n 2, 1) := by decide +kernel
theorem dX12_run_140 : decode cX12_run 140 = .ok (.iload_n 3, 1) := by decide +kernel
theorem dX12_run_141 : decode cX12_run 141 = .ok (.invokevirtual 558, 3) := by decide +kernel
theorem dX12_run_144 : decode cX12_run 144 = .ok (.istore 4, 2) := by decide +kernel
theorem dX12_run_146 : decode cX12_run 146 = .ok (.iload 4, 2) := by decide +kernel
theorem dX12_run_148 : decode cX12_run 148 = .ok (.ifCond .ge 6, 3) := by decide +kernel
theorem dX12_run_151 : decode cX12_run 151 = .ok (.bipush (-3), 2) := by decide +kernel
theorem dX12_run_153 : decode cX12_run 153 = .ok (.ireturn, 1) := by decide +kernel
theorem dX12_run_154 : decode cX12_run 154 = .ok (.aload_n 0, 1) := by decide +kernel
theorem dX12_run_155 : decode cX12_run 155 = .ok (.aload_n 0, 1) := by decide +kernel
theorem dX12_run_156 : decode cX12_run 156 = .ok (.getfield 141, 3) := by decide +kernel
theorem dX12_run_159 : decode cX12_run 159 = .ok (.iload_n 1, 1) := by decide +kernel
theorem dX12_run_160 : decode cX12_run 160 = .ok (.iaload, 1) := by decide +kernel
theorem dX12_run_161 : decode cX12_run 161 = .ok (.iconst 3, 1) := by decide +kernel
theorem dX12_run_162 : decode cX12_run 162 = .ok (.if_icmp .ne 8, 3) := by decide +kernel
theorem dX12_run_165 : decode cX12_run 165 = .ok (.iload 4, 2) := by decide +kernel
theorem dX12_run_167 : decode cX12_run 167 = .ok (.goto 7, 3) := by decide +kernel
theorem dX12_run_170 : decode cX12_run 170 = .ok (.aload_n 0, 1) := by decide +kernel
theorem dX12_run_171 : decode cX12_run 171 = .ok (.getfield 549, 3) := by decide +kernel
theorem dX12_run_174 : decode cX12_run 174 = .ok (.putfield 549, 3) := by decide +kernel
theorem dX12_run_177 : decode cX12_run 177 = .ok (.aload_n 0, 1) := by decide +kernel
theorem dX12_run_178 : decode cX12_run 178 = .ok (.dup, 1) := by decide +kernel
theorem dX12_run_179 : decode cX12_run 179 = .ok (.getfield 546, 3) := by decide +kernel
theorem dX12_run_182 : decode cX12_run 182 = .ok (.iconst 1, 1) := by decide +kernel
theorem dX12_run_183 : decode cX12_run 183 = .ok (.iadd, 1) := by decide +kernel
theorem dX12_run_184 : decode cX12_run 184 = .ok (.putfield 546, 3) := by decide +kernel
theorem dX12_run_187 : decode cX12_run 187 = .ok (.iconst 0, 1) := by decide +kernel
theorem dX12_run_188 : decode cX12_run 188 = .ok (.ireturn, 1) := by decide +kernel
theorem dX12_orders_0 : decode cX12_orders 0 = .ok (.aload_n 0, 1) := by decide +kernel
theorem dX12_orders_1 : decode cX12_orders 1 = .ok (.iconst 0, 1) := by decide +kernel
theorem dX12_orders_2 : decode cX12_orders 2 = .ok (.putfield 153, 3) := by decide +kernel
theorem dX12_orders_5 : decode cX12_orders 5 = .ok (.aload_n 0, 1) := by decide +kernel
theorem dX12_orders_6 : decode cX12_orders 6 = .ok (.iconst (-1), 1) := by decide +kernel
theorem dX12_orders_7 : decode cX12_orders 7 = .ok (.putfield 144, 3) := by decide +kernel
theorem dX12_orders_10 : decode cX12_orders 10 = .ok (.aload_n 0, 1) := by decide +kernel
theorem dX12_orders_11 : decode cX12_orders 11 = .ok (.iconst 1, 1) := by decide +kernel
theorem dX12_orders_12 : decode cX12_orders 12 = .ok (.invokevirtual 381, 3) := by decide +kernel
theorem dX12_orders_15 : decode cX12_orders 15 = .ok (.aload_n 0, 1) := by decide +kernel
theorem dX12_orders_16 : decode cX12_orders 16 = .ok (.invokevirtual 562, 3) := by decide +kernel
theorem dX12_orders_19 : decode cX12_orders 19 = .ok (.aload_n 0, 1) := by decide +kernel
theorem dX12_orders_20 : decode cX12_orders 20 = .ok (.getfield 242, 3) := by decide +kernel
theorem dX12_orders_23 : decode cX12_orders 23 = .ok (.ifCond .ne 23, 3) := by decide +kernel
theorem dX12_orders_26 : decode cX12_orders 26 = .ok (.aload_n 0, 1) := by decide +kernel
theorem dX12_orders_27 : decode cX12_orders 27 = .ok (.bipush 59, 2) := by decide +kernel
theorem dX12_orders_29 : decode cX12_orders 29 = .ok (.invokevirtual 313, 3) := by decide +kernel
theorem dX12_orders_32 : decode cX12_orders 32 = .ok (.ifCond .eq 14, 3) := by decide +kernel
theorem dX12_orders_35 : decode cX12_orders 35 = .ok (.aload_n 0, 1) := by decide +kernel
theorem dX12_orders_36 : decode cX12_orders 36 = .ok (.invokevirtual 246, 3) := by decide +kernel
theorem dX12_orders_39 : decode cX12_orders 39 = .ok (.aload_n 0, 1) := by decide +kernel
theorem dX12_orders_40 : decode cX12_orders 40 = .ok (.invokevirtual 562, 3) := by decide +kernel
theorem dX12_orders_43 : decode cX12_orders 43 = .ok (.goto (-24), 3) := by decide +kernel
theorem dX12_orders_46 : decode cX12_orders 46 = .ok (.aload_n 0, 1) := by decide +kernel
theorem dX12_orders_47 : decode cX12_orders 47 = .ok (.invokevirtual 387, 3) := by decide +kernel
theorem dX12_orders_50 : decode cX12_orders 50 = .ok (.aload_n 0, 1) := by decide +kernel
theorem dX12_orders_51 : decode cX12_orders 51 = .ok (.getfield 242, 3) := by decide +kernel
theorem dX12_orders_54 : decode cX12_orders 54 = .ok (.ifCond .eq 10, 3) := by decide +kernel
theorem dX12_orders_57 : decode cX12_orders 57 = .ok (.aload_n 0, 1) := by decide +kernel
theorem dX12_orders_58 : decode cX12_orders 58 = .ok (.bipush (-6), 2) := by decide +kernel
theorem dX12_orders_60 : decode cX12_orders 60 = .ok (.invokevirtual 162, 3) := by decide +kernel
theorem dX12_orders_63 : decode cX12_orders 63 = .ok (.ireturn, 1) := by decide +kernel
theorem dX12_orders_64 : decode cX12_orders 64 = .ok (.aload_n 0, 1) := by decide +kernel
theorem dX12_orders_65 : decode cX12_orders 65 = .ok (.bipush 17, 2) := by decide +kernel
theorem dX12_orders_67 : decode cX12_orders 67 = .ok (.invokevirtual 166, 3) := by decide +kernel
theorem dX12_orders_70 : decode cX12_orders 70 = .ok (.aload_n 0, 1) := by decide +kernel
theorem dX12_orders_71 : decode cX12_orders 71 = .ok (.getfield 159, 3) := by decide +kernel
theorem dX12_orders_74 : decode cX12_orders 74 = .ok (.istore_n 1, 1) := by decide +kernel
theorem dX12_orders_75 : decode cX12_orders 75 = .ok (.iconst 0, 1) := by decide +kernel
theorem dX12_orders_76 : decode cX12_orders 76 = .ok (.istore_n 2, 1) := by decide +kernel
theorem dX12_orders_77 : decode cX12_orders 77 = .ok (.iload_n 2, 1) := by decide +kernel
theorem dX12_orders_78 : decode cX12_orders 78 = .ok (.sipush 848, 3) := by decide +kernel
theorem dX12_orders_81 : decode cX12_orders 81 = .ok (.if_icmp .ge 21, 3) := by decide +kernel
theorem dX12_orders_84 : decode cX12_orders 84 = .ok (.aload_n 0, 1) := by decide +kernel
theorem dX12_orders_85 : decode cX12_orders 85 = .ok (.getfield 29, 3) := by decide +kernel
theorem dX12_orders_88 : decode cX12_orders 88 = .ok (.iload_n 2, 1) := by decide +kernel
theorem dX12_orders_89 : decode cX12_orders 89 = .ok (.aload_n 0, 1) := by decide +kernel
theorem dX12_orders_90 : decode cX12_orders 90 = .ok (.getfield 23, 3) := by decide +kernel
theorem dX12_orders_93 : decode cX12_orders 93 = .ok (.iload_n 2, 1) := by decide +kernel
theorem dX12_orders_94 : decode cX12_orders 94 = .ok (.iaload, 1) := by decide +kernel
theorem dX12_orders_95 : decode cX12_orders 95 = .ok (.iastore, 1) := by decide +kernel
theorem dX12_orders_96 : decode cX12_orders 96 = .ok (.iinc 2 1, 3) := by decide +kernel
theorem dX12_orders_99 : decode cX12_orders 99 = .ok (.goto (-22), 3) := by decide +kernel
theorem dX12_orders_102 : decode cX12_orders 102 = .ok (.iconst 0, 1) := by decide +kernel
theorem dX12_orders_103 : decode cX12_orders 103 = .ok (.istore_n 2, 1) := by decide +kernel
theorem dX12_orders_104 : decode cX12_orders 104 = .ok (.iload_n 2, 1) := by decide +kernel
theorem dX12_orders_105 : decode cX12_orders 105 = .ok (.bipush 16, 2) := by decide +kernel
theorem dX12_orders_107 : decode cX12_orders 107 = .ok (.if_icmp .ge 21, 3) := by decide +kernel
theorem dX12_orders_110 : decode cX12_orders 110 = .ok (.aload_n 0, 1) := by decide +kernel
theorem dX12_orders_111 : decode cX12_orders 111 = .ok (.getfield 32, 3) := by decide +kernel
theorem dX12_orders_114 : decode cX12_orders 114 = .ok (.iload_n 2, 1) := by decide +kernel
theorem dX12_orders_115 : decode cX12_orders 115 = .ok (.aload_n 0, 1) := by decide +kernel
theorem dX12_orders_116 : decode cX12_orders 116 = .ok (.getfield 26, 3) := by decide +kernel
theorem dX12_orders_119 : decode cX12_orders 119 = .ok (.iload_n 2, 1) := by decide +kernel
theorem dX12_orders_120 : decode cX12_orders 120 = .ok (.iaload, 1) := by decide +kernel
theorem dX12_orders_121 : decode cX12_orders 121 = .ok (.iastore, 1) := by decide +kernel
theorem dX12_orders_122 : decode cX12_orders 122 = .ok (.iinc 2 1, 3) := by decide +kernel
theorem dX12_orders_125 : decode cX12_orders 125 = .ok (.goto (-21), 3) := by decide +kernel
theorem dX12_orders_128 : decode cX12_orders 128 = .ok (.aload_n 0, 1) := by decide +kernel
theorem dX12_orders_129 : decode cX12_orders 129 = .ok (.iconst 0, 1) := by decide +kernel
theorem dX12_orders_130 : decode cX12_orders 130 = .ok (.putfield 546, 3) := by decide +kernel
theorem dX12_orders_133 : decode cX12_orders 133 = .ok (.aload_n 0, 1) := by decide +kernel
theorem dX12_orders_134 : decode cX12_orders 134 = .ok (.iconst (-1), 1) := by decide +kernel
theorem dX12_orders_135 : decode cX12_orders 135 = .ok (.putfield 549, 3) := by decide +kernel
theorem dX12_orders_138 : decode cX12_orders 138 = .ok (.iconst 0, 1) := by decide +kernel
theorem dX12_orders_139 : decode cX12_orders 139 = .ok (.istore_n 2, 1) := by decide +kernel
theorem dX12_orders_140 : decode cX12_orders 140 = .ok (.iload_n 2, 1) := by decide +kernel
theorem dX12_orders_141 : decode cX12_orders 141 = .ok (.aload_n 0, 1) := by decide +kernel
theorem dX12_orders_142 : decode cX12_orders 142 = .ok (.getfield 373, 3) := by decide +kernel
theorem dX12_orders_145 : decode cX12_orders 145 = .ok (.if_icmp .ge 61, 3) := by decide +kernel
theorem dX12_orders_148 : decode cX12_orders 148 = .ok (.iconst 0, 1) := by decide +kernel
theorem dX12_orders_149 : decode cX12_orders 149 = .ok (.istore_n 3, 1) := by decide +kernel
theorem dX12_orders_150 : decode cX12_orders 150 = .ok (.iload_n 3, 1) := by decide +kernel
theorem dX12_orders_151 : decode cX12_orders 151 = .ok (.aload_n 0, 1) := by decide +kernel
theorem dX12_orders_152 : decode cX12_orders 152 = .ok (.getfield 141, 3) := by decide +kernel
theorem dX12_orders_155 : decode cX12_orders 155 = .ok (.bipush 8, 2) := by decide +kernel
theorem dX12_orders_157 : decode cX12_orders 157 = .ok (.iload_n 2, 1) := by decide +kernel
theorem dX12_orders_158 : decode cX12_orders 158 = .ok (.imul, 1) := by decide +kernel
theorem dX12_orders_159 : decode cX12_orders 159 = .ok (.bipush 7, 2) := by decide +kernel
theorem dX12_orders_161 : decode cX12_orders 161 = .ok (.iadd, 1) := by decide +kernel
theorem dX12_orders_162 : decode cX12_orders 162 = .ok (.iaload, 1) := by decide +kernel
theorem dX12_orders_163 : decode cX12_orders 163 = .ok (.if_icmp .ge 37, 3) := by decide +kernel
theorem dX12_orders_166 : decode cX12_orders 166 = .ok (.aload_n 0, 1) := by decide +kernel
theorem dX12_orders_167 : decode cX12_orders 167 = .ok (.bipush 8, 2) := by decide +kernel
theorem dX12_orders_169 : decode cX12_orders 169 = .ok (.iload_n 2, 1) := by decide +kernel
theorem dX12_orders_170 : decode cX12_orders 170 = .ok (.imul, 1) := by decide +kernel
theorem dX12_orders_171 : decode cX12_orders 171 = .ok (.invokevirtual 565, 3) := by decide +kernel
theorem dX12_orders_174 : decode cX12_orders 174 = .ok (.ifCond .ge 20, 3) := by decide +kernel
theorem dX12_orders_177 : decode cX12_orders 177 = .ok (.aload_n 0, 1) := by decide +kernel
theorem dX12_orders_178 : decode cX12_orders 178 = .ok (.iload_n 1, 1) := by decide +kernel
theorem dX12_orders_179 : decode cX12_orders 179 = .ok (.invokevirtual 568, 3) := by decide +kernel
theorem dX12_orders_182 : decode cX12_orders 182 = .ok (.aload_n 0, 1) := by decide +kernel
theorem dX12_orders_183 : decode cX12_orders 183 = .ok (.iload_n 2, 1) := by decide +kernel
theorem dX12_orders_184 : decode cX12_orders 184 = .ok (.putfield 144, 3) := by decide +kernel
theorem dX12_orders_187 : decode cX12_orders 187 = .ok (.aload_n 0, 1) := by decide +kernel
theorem dX12_orders_188 : decode cX12_orders 188 = .ok (.bipush (-3), 2) := by decide +kernel
theorem dX12_orders_190 : decode cX12_orders 190 = .ok (.invokevirtual 162, 3) := by decide +kernel
theorem dX12_orders_193 : decode cX12_orders 193 = .ok (.ireturn, 1) := by decide +kernel
theorem dX12_orders_194 : decode cX12_orders 194 = .ok (.iinc 3 1, 3) := by decide +kernel
theorem dX12_orders_197 : decode cX12_orders 197 = .ok (.goto (-47), 3) := by decide +kernel
theorem dX12_orders_200 : decode cX12_orders 200 = .ok (.iinc 2 1, 3) := by decide +kernel
theorem dX12_orders_203 : decode cX12_orders 203 = .ok (.goto (-63), 3) := by decide +kernel
theorem dX12_orders_206 : decode cX12_orders 206 = .ok (.aload_n 0, 1) := by decide +kernel
theorem dX12_orders_207 : decode cX12_orders 207 = .ok (.aload_n 0, 1) := by decide +kernel
theorem dX12_orders_208 : decode cX12_orders 208 = .ok (.getfield 546, 3) := by decide +kernel
theorem dX12_orders_211 : decode cX12_orders 211 = .ok (.invokevirtual 162, 3) := by decide +kernel
theorem dX12_orders_214 : decode cX12_orders 214 = .ok (.ireturn, 1) := by decide +kernel
theorem dX12_giveBack_0 : decode cX12_giveBack 0 = .ok (.aload_n 0, 1) := by decide +kernel
theorem dX12_giveBack_1 : decode cX12_giveBack 1 = .ok (.bipush 17, 2) := by decide +kernel
theorem dX12_giveBack_3 : decode cX12_giveBack 3 = .ok (.invokevirtual 170, 3) := by decide +kernel
theorem dX12_giveBack_6 : decode cX12_giveBack 6 = .ok (.iconst 0, 1) := by decide +kernel
theorem dX12_giveBack_7 : decode cX12_giveBack 7 = .ok (.istore_n 2, 1) := by decide +kernel
theorem dX12_giveBack_8 : decode cX12_giveBack 8 = .ok (.iload_n 2, 1) := by decide +kernel
theorem dX12_giveBack_9 : decode cX12_giveBack 9 = .ok (.sipush 848, 3) := by decide +kernel
theorem dX12_giveBack_12 : decode cX12_giveBack 12 = .ok (.if_icmp .ge 21, 3) := by decide +kernel
theorem dX12_giveBack_15 : decode cX12_giveBack 15 = .ok (.aload_n 0, 1) := by decide +kernel
theorem dX12_giveBack_16 : decode cX12_giveBack 16 = .ok (.getfield 23, 3) := by decide +kernel
theorem dX12_giveBack_19 : decode cX12_giveBack 19 = .ok (.iload_n 2, 1) := by decide +kernel
theorem dX12_giveBack_20 : decode cX12_giveBack 20 = .ok (.aload_n 0, 1) := by decide +kernel
theorem dX12_giveBack_21 : decode cX12_giveBack 21 = .ok (.getfield 29, 3) := by decide +kernel
theorem dX12_giveBack_24 : decode cX12_giveBack 24 = .ok (.iload_n 2, 1) := by decide +kernel
theorem dX12_giveBack_25 : decode cX12_giveBack 25 = .ok (.iaload, 1) := by decide +kernel
theorem dX12_giveBack_26 : decode cX12_giveBack 26 = .ok (.iastore, 1) := by decide +kernel
theorem dX12_giveBack_27 : decode cX12_giveBack 27 = .ok (.iinc 2 1, 3) := by decide +kernel
theorem dX12_giveBack_30 : decode cX12_giveBack 30 = .ok (.goto (-22), 3) := by decide +kernel
theorem dX12_giveBack_33 : decode cX12_giveBack 33 = .ok (.iconst 0, 1) := by decide +kernel
theorem dX12_giveBack_34 : decode cX12_giveBack 34 = .ok (.istore_n 2, 1) := by decide +kernel
theorem dX12_giveBack_35 : decode cX12_giveBack 35 = .ok (.iload_n 2, 1) := by decide +kernel
theorem dX12_giveBack_36 : decode cX12_giveBack 36 = .ok (.bipush 16, 2) := by decide +kernel
theorem dX12_giveBack_38 : decode cX12_giveBack 38 = .ok (.if_icmp .ge 21, 3) := by decide +kernel
theorem dX12_giveBack_41 : decode cX12_giveBack 41 = .ok (.aload_n 0, 1) := by decide +kernel
theorem dX12_giveBack_42 : decode cX12_giveBack 42 = .ok (.getfield 26, 3) := by decide +kernel
theorem dX12_giveBack_45 : decode cX12_giveBack 45 = .ok (.iload_n 2, 1) := by decide +kernel
theorem dX12_giveBack_46 : decode cX12_giveBack 46 = .ok (.aload_n 0, 1) := by decide +kernel
theorem dX12_giveBack_47 : decode cX12_giveBack 47 = .ok (.getfield 32, 3) := by decide +kernel
theorem dX12_giveBack_50 : decode cX12_giveBack 50 = .ok (.iload_n 2, 1) := by decide +kernel
theorem dX12_giveBack_51 : decode cX12_giveBack 51 = .ok (.iaload, 1) := by decide +kernel
theorem dX12_giveBack_52 : decode cX12_giveBack 52 = .ok (.iastore, 1) := by decide +kernel
theorem dX12_giveBack_53 : decode cX12_giveBack 53 = .ok (.iinc 2 1, 3) := by decide +kernel
theorem dX12_giveBack_56 : decode cX12_giveBack 56 = .ok (.goto (-21), 3) := by decide +kernel
theorem dX12_giveBack_59 : decode cX12_giveBack 59 = .ok (.aload_n 0, 1) := by decide +kernel
theorem dX12_giveBack_60 : decode cX12_giveBack 60 = .ok (.iload_n 1, 1) := by decide +kernel
theorem dX12_giveBack_61 : decode cX12_giveBack 61 = .ok (.putfield 159, 3) := by decide +kernel
theorem dX12_giveBack_64 : decode cX12_giveBack 64 = .ok (.return_, 1) := by decide +kernel
theorem dX12_stopped_0 : decode cX12_stopped 0 = .ok (.aload_n 0, 1) := by decide +kernel
theorem dX12_stopped_1 : decode cX12_stopped 1 = .ok (.iconst 0, 1) := by decide +kernel
theorem dX12_stopped_2 : decode cX12_stopped 2 = .ok (.putfield 153, 3) := by decide +kernel
theorem dX12_stopped_5 : decode cX12_stopped 5 = .ok (.aload_n 0, 1) := by decide +kernel
theorem dX12_stopped_6 : decode cX12_stopped 6 = .ok (.getfield 144, 3) := by decide +kernel
theorem dX12_stopped_9 : decode cX12_stopped 9 = .ok (.ireturn, 1) := by decide +kernel
theorem dX12_draw_0 : decode cX12_draw 0 = .ok (.aload_n 0, 1) := by decide +kernel
theorem dX12_draw_1 : decode cX12_draw 1 = .ok (.aload_n 0, 1) := by decide +kernel
theorem dX12_draw_2 : decode cX12_draw 2 = .ok (.getfield 571, 3) := by decide +kernel
theorem dX12_draw_5 : decode cX12_draw 5 = .ok (.ldc2_w 574, 3) := by decide +kernel
theorem dX12_draw_8 : decode cX12_draw 8 = .ok (.lmul, 1) := by decide +kernel
theorem dX12_draw_9 : decode cX12_draw 9 = .ok (.ldc2_w 132, 3) := by decide +kernel
theorem dX12_draw_12 : decode cX12_draw 12 = .ok (.ladd, 1) := by decide +kernel
theorem dX12_draw_13 : decode cX12_draw 13 = .ok (.ldc2_w 576, 3) := by decide +kernel
theorem dX12_draw_16 : decode cX12_draw 16 = .ok (.lrem, 1) := by decide +kernel
theorem dX12_draw_17 : decode cX12_draw 17 = .ok (.putfield 571, 3) := by decide +kernel
theorem dX12_draw_20 : decode cX12_draw 20 = .ok (.aload_n 0, 1) := by decide +kernel
theorem dX12_draw_21 : decode cX12_draw 21 = .ok (.getfield 571, 3) := by decide +kernel
theorem dX12_draw_24 : decode cX12_draw 24 = .ok (.iload_n 1, 1) := by decide +kernel
theorem dX12_draw_25 : decode cX12_draw 25 = .ok (.i2l, 1) := by decide +kernel
theorem dX12_draw_26 : decode cX12_draw 26 = .ok (.lrem, 1) := by decide +kernel
theorem dX12_draw_27 : decode cX12_draw 27 = .ok (.l2i, 1) := by decide +kernel
theorem dX12_draw_28 : decode cX12_draw 28 = .ok (.ireturn, 1) := by decide +kernel
theorem dX12_drawnFate_0 : decode cX12_drawnFate 0 = .ok (.aload_n 0, 1) := by decide +kernel
theorem dX12_drawnFate_1 : decode cX12_drawnFate 1 = .ok (.sipush 1000, 3) := by decide +kernel
theorem dX12_drawnFate_4 : decode cX12_drawnFate 4 = .ok (.invokevirtual 578, 3) := by decide +kernel
theorem dX12_drawnFate_7 : decode cX12_drawnFate 7 = .ok (.aload_n 0, 1) := by decide +kernel
theorem dX12_drawnFate_8 : decode cX12_drawnFate 8 = .ok (.iload_n 1, 1) := by decide +kernel
theorem dX12_drawnFate_9 : decode cX12_drawnFate 9 = .ok (.invokevirtual 199, 3) := by decide +kernel
theorem dX12_drawnFate_12 : decode cX12_drawnFate 12 = .ok (.if_icmp .ge 12, 3) := by decide +kernel
theorem dX12_drawnFate_15 : decode cX12_drawnFate 15 = .ok (.aload_n 0, 1) := by decide +kernel
theorem dX12_drawnFate_16 : decode cX12_drawnFate 16 = .ok (.iload_n 1, 1) := by decide +kernel
theorem dX12_drawnFate_17 : decode cX12_drawnFate 17 = .ok (.invokevirtual 461, 3) := by decide +kernel
theorem dX12_drawnFate_20 : decode cX12_drawnFate 20 = .ok (.pop, 1) := by decide +kernel
theorem dX12_drawnFate_21 : decode cX12_drawnFate 21 = .ok (.goto 38, 3) := by decide +kernel
theorem dX12_drawnFate_24 : decode cX12_drawnFate 24 = .ok (.aload_n 0, 1) := by decide +kernel
theorem dX12_drawnFate_25 : decode cX12_drawnFate 25 = .ok (.getfield 13, 3) := by decide +kernel
theorem dX12_drawnFate_28 : decode cX12_drawnFate 28 = .ok (.bipush 51, 2) := by decide +kernel
theorem dX12_drawnFate_30 : decode cX12_drawnFate 30 = .ok (.iload_n 1, 1) := by decide +kernel
theorem dX12_drawnFate_31 : decode cX12_drawnFate 31 = .ok (.iadd, 1) := by decide +kernel
theorem dX12_drawnFate_32 : decode cX12_drawnFate 32 = .ok (.iaload, 1) := by decide +kernel
theorem dX12_drawnFate_33 : decode cX12_drawnFate 33 = .ok (.iconst (-1), 1) := by decide +kernel
theorem dX12_drawnFate_34 : decode cX12_drawnFate 34 = .ok (.if_icmp .ne 25, 3) := by decide +kernel
theorem dX12_drawnFate_37 : decode cX12_drawnFate 37 = .ok (.aload_n 0, 1) := by decide +kernel
theorem dX12_drawnFate_38 : decode cX12_drawnFate 38 = .ok (.bipush 16, 2) := by decide +kernel
theorem dX12_drawnFate_40 : decode cX12_drawnFate 40 = .ok (.invokevirtual 578, 3) := by decide +kernel
theorem dX12_drawnFate_43 : decode cX12_drawnFate 43 = .ok (.istore_n 2, 1) := by decide +kernel
theorem dX12_drawnFate_44 : decode cX12_drawnFate 44 = .ok (.aload_n 0, 1) := by decide +kernel
theorem dX12_drawnFate_45 : decode cX12_drawnFate 45 = .ok (.iload_n 1, 1) := by decide +kernel
theorem dX12_drawnFate_46 : decode cX12_drawnFate 46 = .ok (.iload_n 2, 1) := by decide +kernel
theorem dX12_drawnFate_47 : decode cX12_drawnFate 47 = .ok (.invokevirtual 218, 3) := by decide +kernel
theorem dX12_drawnFate_50 : decode cX12_drawnFate 50 = .ok (.ifCond .eq 9, 3) := by decide +kernel
theorem dX12_drawnFate_53 : decode cX12_drawnFate 53 = .ok (.aload_n 0, 1) := by decide +kernel
theorem dX12_drawnFate_54 : decode cX12_drawnFate 54 = .ok (.iload_n 1, 1) := by decide +kernel
theorem dX12_drawnFate_55 : decode cX12_drawnFate 55 = .ok (.iload_n 2, 1) := by decide +kernel
theorem dX12_drawnFate_56 : decode cX12_drawnFate 56 = .ok (.invokevirtual 446, 3) := by decide +kernel
theorem dX12_drawnFate_59 : decode cX12_drawnFate 59 = .ok (.return_, 1) := by decide +kernel
theorem dX12_centuries_0 : decode cX12_centuries 0 = .ok (.aload_n 0, 1) := by decide +kernel
theorem dX12_centuries_1 : decode cX12_centuries 1 = .ok (.iconst 0, 1) := by decide +kernel
theorem dX12_centuries_2 : decode cX12_centuries 2 = .ok (.putfield 153, 3) := by decide +kernel
theorem dX12_centuries_5 : decode cX12_centuries 5 = .ok (.iload_n 1, 1) := by decide +kernel
theorem dX12_centuries_6 : decode cX12_centuries 6 = .ok (.i2l, 1) := by decide +kernel
theorem dX12_centuries_7 : decode cX12_centuries 7 = .ok (.lconst 0, 1) := by decide +kernel
theorem dX12_centuries_8 : decode cX12_centuries 8 = .ok (.ldc2_w 271, 3) := by decide +kernel
theorem dX12_centuries_11 : decode cX12_centuries 11 = .ok (.invokestatic 173, 3) := by decide +kernel
theorem dX12_centuries_14 : decode cX12_centuries 14 = .ok (.ifCond .eq 15, 3) := by decide +kernel
theorem dX12_centuries_17 : decode cX12_centuries 17 = .ok (.iload_n 2, 1) := by decide +kernel
theorem dX12_centuries_18 : decode cX12_centuries 18 = .ok (.i2l, 1) := by decide +kernel
theorem dX12_centuries_19 : decode cX12_centuries 19 = .ok (.lconst 1, 1) := by decide +kernel
theorem dX12_centuries_20 : decode cX12_centuries 20 = .ok (.ldc2_w 581, 3) := by decide +kernel
theorem dX12_centuries_23 : decode cX12_centuries 23 = .ok (.invokestatic 173, 3) := by decide +kernel
theorem dX12_centuries_26 : decode cX12_centuries 26 = .ok (.ifCond .ne 9, 3) := by decide +kernel
theorem dX12_centuries_29 : decode cX12_centuries 29 = .ok (.aload_n 0, 1) := by decide +kernel
theorem dX12_centuries_30 : decode cX12_centuries 30 = .ok (.iconst (-1), 1) := by decide +kernel
theorem dX12_centuries_31 : decode cX12_centuries 31 = .ok (.invokevirtual 162, 3) := by decide +kernel
theorem dX12_centuries_34 : decode cX12_centuries 34 = .ok (.ireturn, 1) := by decide +kernel
theorem dX12_centuries_35 : decode cX12_centuries 35 = .ok (.aload_n 0, 1) := by decide +kernel
theorem dX12_centuries_36 : decode cX12_centuries 36 = .ok (.getfield 13, 3) := by decide +kernel
theorem dX12_centuries_39 : decode cX12_centuries 39 = .ok (.iconst 0, 1) := by decide +kernel
theorem dX12_centuries_40 : decode cX12_centuries 40 = .ok (.iaload, 1) := by decide +kernel
theorem dX12_centuries_41 : decode cX12_centuries 41 = .ok (.ifCond .ne 10, 3) := by decide +kernel
theorem dX12_centuries_44 : decode cX12_centuries 44 = .ok (.aload_n 0, 1) := by decide +kernel
theorem dX12_centuries_45 : decode cX12_centuries 45 = .ok (.bipush (-3), 2) := by decide +kernel
theorem dX12_centuries_47 : decode cX12_centuries 47 = .ok (.invokevirtual 162, 3) := by decide +kernel
theorem dX12_centuries_50 : decode cX12_centuries 50 = .ok (.ireturn, 1) := by decide +kernel
theorem dX12_centuries_51 : decode cX12_centuries 51 = .ok (.aload_n 0, 1) := by decide +kernel
theorem dX12_centuries_52 : decode cX12_centuries 52 = .ok (.bipush 16, 2) := by decide +kernel
theorem dX12_centuries_54 : decode cX12_centuries 54 = .ok (.invokevirtual 166, 3) := by decide +kernel
theorem dX12_centuries_57 : decode cX12_centuries 57 = .ok (.aload_n 0, 1) := by decide +kernel
theorem dX12_centuries_58 : decode cX12_centuries 58 = .ok (.iload_n 1, 1) := by decide +kernel
theorem dX12_centuries_59 : decode cX12_centuries 59 = .ok (.i2l, 1) := by decide +kernel
theorem dX12_centuries_60 : decode cX12_centuries 60 = .ok (.putfield 571, 3) := by decide +kernel
theorem dX12_centuries_63 : decode cX12_centuries 63 = .ok (.iconst 0, 1) := by decide +kernel
theorem dX12_centuries_64 : decode cX12_centuries 64 = .ok (.istore_n 3, 1) := by decide +kernel
theorem dX12_centuries_65 : decode cX12_centuries 65 = .ok (.iload_n 3, 1) := by decide +kernel
theorem dX12_centuries_66 : decode cX12_centuries 66 = .ok (.iload_n 2, 1) := by decide +kernel
theorem dX12_centuries_67 : decode cX12_centuries 67 = .ok (.if_icmp .ge 61, 3) := by decide +kernel
theorem dX12_centuries_70 : decode cX12_centuries 70 = .ok (.aload_n 0, 1) := by decide +kernel
theorem dX12_centuries_71 : decode cX12_centuries 71 = .ok (.getfield 13, 3) := by decide +kernel
theorem dX12_centuries_74 : decode cX12_centuries 74 = .ok (.iconst 4, 1) := by decide +kernel
theorem dX12_centuries_75 : decode cX12_centuries 75 = .ok (.iaload, 1) := by decide +kernel
theorem dX12_centuries_76 : decode cX12_centuries 76 = .ok (.sipush 999, 3) := by decide +kernel
theorem dX12_centuries_79 : decode cX12_centuries 79 = .ok (.if_icmp .ge 49, 3) := by decide +kernel
theorem dX12_centuries_82 : decode cX12_centuries 82 = .ok (.iconst 0, 1) := by decide +kernel
theorem dX12_centuries_83 : decode cX12_centuries 83 = .ok (.istore 4, 2) := by decide +kernel
theorem dX12_centuries_85 : decode cX12_centuries 85 = .ok (.iload 4, 2) := by decide +kernel
theorem dX12_centuries_87 : decode cX12_centuries 87 = .ok (.aload_n 0, 1) := by decide +kernel
theorem dX12_centuries_88 : decode cX12_centuries 88 = .ok (.getfield 13, 3) := by decide +kernel
theorem dX12_centuries_91 : decode cX12_centuries 91 = .ok (.iconst 0, 1) := by decide +kernel
theorem dX12_centuries_92 : decode cX12_centuries 92 = .ok (.iaload, 1) := by decide +kernel
theorem dX12_centuries_93 : decode cX12_centuries 93 = .ok (.if_icmp .ge 24, 3) := by decide +kernel
theorem dX12_centuries_96 : decode cX12_centuries 96 = .ok (.aload_n 0, 1) := by decide +kernel
theorem dX12_centuries_97 : decode cX12_centuries 97 = .ok (.iload 4, 2) := by decide +kernel
theorem dX12_centuries_99 : decode cX12_centuries 99 = .ok (.invokevirtual 182, 3) := by decide +kernel
theorem dX12_centuries_102 : decode cX12_centuries 102 = .ok (.ifCond .eq 9, 3) := by decide +kernel
theorem dX12_centuries_105 : decode cX12_centuries 105 = .ok (.aload_n 0, 1) := by decide +kernel
theorem dX12_centuries_106 : decode cX12_centuries 106 = .ok (.iload 4, 2) := by decide +kernel
theorem dX12_centuries_108 : decode cX12_centuries 108 = .ok (.invokevirtual 583, 3) := by decide +kernel
theorem dX12_centuries_111 : decode cX12_centuries 111 = .ok (.iinc 4 1, 3) := by decide +kernel
theorem dX12_centuries_114 : decode cX12_centuries 114 = .ok (.goto (-29), 3) := by decide +kernel
theorem dX12_centuries_117 : decode cX12_centuries 117 = .ok (.aload_n 0, 1) := by decide +kernel
theorem dX12_centuries_118 : decode cX12_centuries 118 = .ok (.invokevirtual 467, 3) := by decide +kernel
theorem dX12_centuries_121 : decode cX12_centuries 121 = .ok (.pop, 1) := by decide +kernel
theorem dX12_centuries_122 : decode cX12_centuries 122 = .ok (.iinc 3 1, 3) := by decide +kernel
theorem dX12_centuries_125 : decode cX12_centuries 125 = .ok (.goto (-60), 3) := by decide +kernel
theorem dX12_centuries_128 : decode cX12_centuries 128 = .ok (.aload_n 0, 1) := by decide +kernel
theorem dX12_centuries_129 : decode cX12_centuries 129 = .ok (.invokevirtual 552, 3) := by decide +kernel
theorem dX12_centuries_132 : decode cX12_centuries 132 = .ok (.invokestatic 497, 3) := by decide +kernel
theorem dX12_centuries_135 : decode cX12_centuries 135 = .ok (.istore_n 3, 1) := by decide +kernel
theorem dX12_centuries_136 : decode cX12_centuries 136 = .ok (.iconst 0, 1) := by decide +kernel
theorem dX12_centuries_137 : decode cX12_centuries 137 = .ok (.istore 4, 2) := by decide +kernel
theorem dX12_centuries_139 : decode cX12_centuries 139 = .ok (.iload 4, 2) := by decide +kernel
theorem dX12_centuries_141 : decode cX12_centuries 141 = .ok (.bipush 53, 2) := by decide +kernel
theorem dX12_centuries_143 : decode cX12_centuries 143 = .ok (.if_icmp .ge 25, 3) := by decide +kernel
theorem dX12_centuries_146 : decode cX12_centuries 146 = .ok (.aload_n 0, 1) := by decide +kernel
theorem dX12_centuries_147 : decode cX12_centuries 147 = .ok (.getfield 147, 3) := by decide +kernel
theorem dX12_centuries_150 : decode cX12_centuries 150 = .ok (.iload 4, 2) := by decide +kernel
theorem dX12_centuries_152 : decode cX12_centuries 152 = .ok (.aload_n 0, 1) := by decide +kernel
theorem dX12_centuries_153 : decode cX12_centuries 153 = .ok (.getfield 13, 3) := by decide +kernel
theorem dX12_centuries_156 : decode cX12_centuries 156 = .ok (.iconst 4, 1) := by decide +kernel
theorem dX12_centuries_157 : decode cX12_centuries 157 = .ok (.iload 4, 2) := by decide +kernel
theorem dX12_centuries_159 : decode cX12_centuries 159 = .ok (.iadd, 1) := by decide +kernel
theorem dX12_centuries_160 : decode cX12_centuries 160 = .ok (.iaload, 1) := by decide +kernel
theorem dX12_centuries_161 : decode cX12_centuries 161 = .ok (.iastore, 1) := by decide +kernel
theorem dX12_centuries_162 : decode cX12_centuries 162 = .ok (.iinc 4 1, 3) := by decide +kernel
theorem dX12_centuries_165 : decode cX12_centuries 165 = .ok (.goto (-26), 3) := by decide +kernel
theorem dX12_centuries_168 : decode cX12_centuries 168 = .ok (.aload_n 0, 1) := by decide +kernel
theorem dX12_centuries_169 : decode cX12_centuries 169 = .ok (.aload_n 0, 1) := by decide +kernel
theorem dX12_centuries_170 : decode cX12_centuries 170 = .ok (.getfield 13, 3) := by decide +kernel
theorem dX12_centuries_173 : decode cX12_centuries 173 = .ok (.iconst 0, 1) := by decide +kernel
theorem dX12_centuries_174 : decode cX12_centuries 174 = .ok (.iaload, 1) := by decide +kernel
theorem dX12_centuries_175 : decode cX12_centuries 175 = .ok (.putfield 150, 3) := by decide +kernel
theorem dX12_centuries_178 : decode cX12_centuries 178 = .ok (.aload_n 0, 1) := by decide +kernel
theorem dX12_centuries_179 : decode cX12_centuries 179 = .ok (.bipush 16, 2) := by decide +kernel
theorem dX12_centuries_181 : decode cX12_centuries 181 = .ok (.invokevirtual 170, 3) := by decide +kernel
theorem dX12_centuries_184 : decode cX12_centuries 184 = .ok (.aload_n 0, 1) := by decide +kernel
theorem dX12_centuries_185 : decode cX12_centuries 185 = .ok (.iload_n 3, 1) := by decide +kernel
theorem dX12_centuries_186 : decode cX12_centuries 186 = .ok (.invokevirtual 162, 3) := by decide +kernel
theorem dX12_centuries_189 : decode cX12_centuries 189 = .ok (.ireturn, 1) := by decide +kernel
theorem dX12_drawn_0 : decode cX12_drawn 0 = .ok (.aload_n 0, 1) := by decide +kernel
theorem dX12_drawn_1 : decode cX12_drawn 1 = .ok (.iconst 0, 1) := by decide +kernel
theorem dX12_drawn_2 : decode cX12_drawn 2 = .ok (.putfield 153, 3) := by decide +kernel
theorem dX12_drawn_5 : decode cX12_drawn 5 = .ok (.aload_n 0, 1) := by decide +kernel
theorem dX12_drawn_6 : decode cX12_drawn 6 = .ok (.getfield 150, 3) := by decide +kernel
theorem dX12_drawn_9 : decode cX12_drawn 9 = .ok (.iconst (-1), 1) := by decide +kernel
theorem dX12_drawn_10 : decode cX12_drawn 10 = .ok (.if_icmp .eq 42, 3) := by decide +kernel
theorem dX12_drawn_13 : decode cX12_drawn 13 = .ok (.iload_n 2, 1) := by decide +kernel
theorem dX12_drawn_14 : decode cX12_drawn 14 = .ok (.i2l, 1) := by decide +kernel
theorem dX12_drawn_15 : decode cX12_drawn 15 = .ok (.lconst 0, 1) := by decide +kernel
theorem dX12_drawn_16 : decode cX12_drawn 16 = .ok (.ldc2_w 586, 3) := by decide +kernel
theorem dX12_drawn_19 : decode cX12_drawn 19 = .ok (.invokestatic 173, 3) := by decide +kernel
theorem dX12_drawn_22 : decode cX12_drawn 22 = .ok (.ifCond .eq 30, 3) := by decide +kernel
theorem dX12_drawn_25 : decode cX12_drawn 25 = .ok (.iload_n 1, 1) := by decide +kernel
theorem dX12_drawn_26 : decode cX12_drawn 26 = .ok (.i2l, 1) := by decide +kernel
theorem dX12_drawn_27 : decode cX12_drawn 27 = .ok (.lconst 0, 1) := by decide +kernel
theorem dX12_drawn_28 : decode cX12_drawn 28 = .ok (.iload_n 2, 1) := by decide +kernel
theorem dX12_drawn_29 : decode cX12_drawn 29 = .ok (.iconst 2, 1) := by decide +kernel
theorem dX12_drawn_30 : decode cX12_drawn 30 = .ok (.if_icmp .ne 13, 3) := by decide +kernel
theorem dX12_drawn_33 : decode cX12_drawn 33 = .ok (.aload_n 0, 1) := by decide +kernel
theorem dX12_drawn_34 : decode cX12_drawn 34 = .ok (.getfield 150, 3) := by decide +kernel
theorem dX12_drawn_37 : decode cX12_drawn 37 = .ok (.i2l, 1) := by decide +kernel
theorem dX12_drawn_38 : decode cX12_drawn 38 = .ok (.lconst 1, 1) := by decide +kernel
theorem dX12_drawn_39 : decode cX12_drawn 39 = .ok (.lsub, 1) := by decide +kernel
theorem dX12_drawn_40 : decode cX12_drawn 40 = .ok (.goto 6, 3) := by decide +kernel
theorem dX12_drawn_43 : decode cX12_drawn 43 = .ok (.ldc2_w 180, 3) := by decide +kernel
theorem dX12_drawn_46 : decode cX12_drawn 46 = .ok (.invokestatic 173, 3) := by decide +kernel
theorem dX12_drawn_49 : decode cX12_drawn 49 = .ok (.ifCond .ne 5, 3) := by decide +kernel
theorem dX12_drawn_52 : decode cX12_drawn 52 = .ok (.iconst (-1), 1) := by decide +kernel
theorem dX12_drawn_53 : decode cX12_drawn 53 = .ok (.ireturn, 1) := by decide +kernel
theorem dX12_drawn_54 : decode cX12_drawn 54 = .ok (.aload_n 0, 1) := by decide +kernel
theorem dX12_drawn_55 : decode cX12_drawn 55 = .ok (.getfield 147, 3) := by decide +kernel
theorem dX12_drawn_58 : decode cX12_drawn 58 = .ok (.iload_n 2, 1) := by decide +kernel
theorem dX12_drawn_59 : decode cX12_drawn 59 = .ok (.ifCond .ne 8, 3) := by decide +kernel
theorem dX12_drawn_62 : decode cX12_drawn 62 = .ok (.bipush 7, 2) := by decide +kernel
theorem dX12_drawn_64 : decode cX12_drawn 64 = .ok (.goto 15, 3) := by decide +kernel
theorem dX12_drawn_67 : decode cX12_drawn 67 = .ok (.iload_n 2, 1) := by decide +kernel
theorem dX12_drawn_68 : decode cX12_drawn 68 = .ok (.iconst 1, 1) := by decide +kernel
theorem dX12_drawn_69 : decode cX12_drawn 69 = .ok (.if_icmp .ne 8, 3) := by decide +kernel
theorem dX12_drawn_72 : decode cX12_drawn 72 = .ok (.bipush 23, 2) := by decide +kernel
theorem dX12_drawn_74 : decode cX12_drawn 74 = .ok (.goto 5, 3) := by decide +kernel
theorem dX12_drawn_77 : decode cX12_drawn 77 = .ok (.bipush 45, 2) := by decide +kernel
theorem dX12_drawn_79 : decode cX12_drawn 79 = .ok (.iconst 4, 1) := by decide +kernel
theorem dX12_drawn_80 : decode cX12_drawn 80 = .ok (.isub, 1) := by decide +kernel
theorem dX12_drawn_81 : decode cX12_drawn 81 = .ok (.iload_n 1, 1) := by decide +kernel
theorem dX12_drawn_82 : decode cX12_drawn 82 = .ok (.iadd, 1) := by decide +kernel
theorem dX12_drawn_83 : decode cX12_drawn 83 = .ok (.iaload, 1) := by decide +kernel
theorem dX12_drawn_84 : decode cX12_drawn 84 = .ok (.ireturn, 1) := by decide +kernel
theorem dX12_doneBits_0 : decode cX12_doneBits 0 = .ok (.iconst 0, 1) := by decide +kernel
theorem dX12_doneBits_1 : decode cX12_doneBits 1 = .ok (.istore_n 1, 1) := by decide +kernel
theorem dX12_doneBits_2 : decode cX12_doneBits 2 = .ok (.iconst 0, 1) := by decide +kernel
theorem dX12_doneBits_3 : decode cX12_doneBits 3 = .ok (.istore_n 2, 1) := by decide +kernel
theorem dX12_doneBits_4 : decode cX12_doneBits 4 = .ok (.iload_n 2, 1) := by decide +kernel
theorem dX12_doneBits_5 : decode cX12_doneBits 5 = .ok (.bipush 16, 2) := by decide +kernel
theorem dX12_doneBits_7 : decode cX12_doneBits 7 = .ok (.if_icmp .ge 33, 3) := by decide +kernel
theorem dX12_doneBits_10 : decode cX12_doneBits 10 = .ok (.iload_n 1, 1) := by decide +kernel
theorem dX12_doneBits_11 : decode cX12_doneBits 11 = .ok (.aload_n 0, 1) := by decide +kernel
theorem dX12_doneBits_12 : decode cX12_doneBits 12 = .ok (.getfield 13, 3) := by decide +kernel
theorem dX12_doneBits_15 : decode cX12_doneBits 15 = .ok (.bipush 7, 2) := by decide +kernel
theorem dX12_doneBits_17 : decode cX12_doneBits 17 = .ok (.iload_n 2, 1) := by decide +kernel
theorem dX12_doneBits_18 : decode cX12_doneBits 18 = .ok (.iadd, 1) := by decide +kernel
theorem dX12_doneBits_19 : decode cX12_doneBits 19 = .ok (.iaload, 1) := by decide +kernel
theorem dX12_doneBits_20 : decode cX12_doneBits 20 = .ok (.bipush 9, 2) := by decide +kernel
theorem dX12_doneBits_22 : decode cX12_doneBits 22 = .ok (.if_icmp .ne 9, 3) := by decide +kernel
theorem dX12_doneBits_25 : decode cX12_doneBits 25 = .ok (.iconst 1, 1) := by decide +kernel
theorem dX12_doneBits_26 : decode cX12_doneBits 26 = .ok (.iload_n 2, 1) := by decide +kernel
theorem dX12_doneBits_27 : decode cX12_doneBits 27 = .ok (.ishl, 1) := by decide +kernel
theorem dX12_doneBits_28 : decode cX12_doneBits 28 = .ok (.goto 4, 3) := by decide +kernel
theorem dX12_doneBits_31 : decode cX12_doneBits 31 = .ok (.iconst 0, 1) := by decide +kernel
theorem dX12_doneBits_32 : decode cX12_doneBits 32 = .ok (.ior, 1) := by decide +kernel
theorem dX12_doneBits_33 : decode cX12_doneBits 33 = .ok (.istore_n 1, 1) := by decide +kernel
theorem dX12_doneBits_34 : decode cX12_doneBits 34 = .ok (.iinc 2 1, 3) := by decide +kernel
theorem dX12_doneBits_37 : decode cX12_doneBits 37 = .ok (.goto (-33), 3) := by decide +kernel
theorem dX12_doneBits_40 : decode cX12_doneBits 40 = .ok (.iload_n 1, 1) := by decide +kernel
theorem dX12_doneBits_41 : decode cX12_doneBits 41 = .ok (.ireturn, 1) := by decide +kernel
theorem dX12_aliveOnes_0 : decode cX12_aliveOnes 0 = .ok (.iconst 0, 1) := by decide +kernel
theorem dX12_aliveOnes_1 : decode cX12_aliveOnes 1 = .ok (.istore_n 1, 1) := by decide +kernel
theorem dX12_aliveOnes_2 : decode cX12_aliveOnes 2 = .ok (.iconst 0, 1) := by decide +kernel
theorem dX12_aliveOnes_3 : decode cX12_aliveOnes 3 = .ok (.istore_n 2, 1) := by decide +kernel
theorem dX12_aliveOnes_4 : decode cX12_aliveOnes 4 = .ok (.iload_n 2, 1) := by decide +kernel
theorem dX12_aliveOnes_5 : decode cX12_aliveOnes 5 = .ok (.aload_n 0, 1) := by decide +kernel
theorem dX12_aliveOnes_6 : decode cX12_aliveOnes 6 = .ok (.getfield 13, 3) := by decide +kernel
theorem dX12_aliveOnes_9 : decode cX12_aliveOnes 9 = .ok (.iconst 0, 1) := by decide +kernel
theorem dX12_aliveOnes_10 : decode cX12_aliveOnes 10 = .ok (.iaload, 1) := by decide +kernel
theorem dX12_aliveOnes_11 : decode cX12_aliveOnes 11 = .ok (.if_icmp .ge 21, 3) := by decide +kernel
theorem dX12_aliveOnes_14 : decode cX12_aliveOnes 14 = .ok (.iload_n 1, 1) := by decide +kernel
theorem dX12_aliveOnes_15 : decode cX12_aliveOnes 15 = .ok (.aload_n 0, 1) := by decide +kernel
theorem dX12_aliveOnes_16 : decode cX12_aliveOnes 16 = .ok (.getfield 13, 3) := by decide +kernel
theorem dX12_aliveOnes_19 : decode cX12_aliveOnes 19 = .ok (.bipush 45, 2) := by decide +kernel
theorem dX12_aliveOnes_21 : decode cX12_aliveOnes 21 = .ok (.iload_n 2, 1) := by decide +kernel
theorem dX12_aliveOnes_22 : decode cX12_aliveOnes 22 = .ok (.iadd, 1) := by decide +kernel
theorem dX12_aliveOnes_23 : decode cX12_aliveOnes 23 = .ok (.iaload, 1) := by decide +kernel
theorem dX12_aliveOnes_24 : decode cX12_aliveOnes 24 = .ok (.iadd, 1) := by decide +kernel
theorem dX12_aliveOnes_25 : decode cX12_aliveOnes 25 = .ok (.istore_n 1, 1) := by decide +kernel
theorem dX12_aliveOnes_26 : decode cX12_aliveOnes 26 = .ok (.iinc 2 1, 3) := by decide +kernel
theorem dX12_aliveOnes_29 : decode cX12_aliveOnes 29 = .ok (.goto (-25), 3) := by decide +kernel
theorem dX12_aliveOnes_32 : decode cX12_aliveOnes 32 = .ok (.iload_n 1, 1) := by decide +kernel
theorem dX12_aliveOnes_33 : decode cX12_aliveOnes 33 = .ok (.ireturn, 1) := by decide +kernel
theorem dX12_count_0 : decode cX12_count 0 = .ok (.aload_n 0, 1) := by decide +kernel
theorem dX12_count_1 : decode cX12_count 1 = .ok (.iconst 0, 1) := by decide +kernel
theorem dX12_count_2 : decode cX12_count 2 = .ok (.putfield 153, 3) := by decide +kernel
theorem dX12_count_5 : decode cX12_count 5 = .ok (.iload_n 1, 1) := by decide +kernel
theorem dX12_count_6 : decode cX12_count 6 = .ok (.tableswitch 159 0 13 #[70, 77, 82, 87, 92, 99, 106, 111, 116, 123, 130, 137, 144, 152], 70) := by decide +kernel
theorem dX12_count_76 : decode cX12_count 76 = .ok (.aload_n 0, 1) := by decide +kernel
theorem dX12_count_77 : decode cX12_count 77 = .ok (.getfield 13, 3) := by decide +kernel
theorem dX12_count_80 : decode cX12_count 80 = .ok (.iconst 0, 1) := by decide +kernel
theorem dX12_count_81 : decode cX12_count 81 = .ok (.iaload, 1) := by decide +kernel
theorem dX12_count_82 : decode cX12_count 82 = .ok (.ireturn, 1) := by decide +kernel
theorem dX12_count_83 : decode cX12_count 83 = .ok (.aload_n 0, 1) := by decide +kernel
theorem dX12_count_84 : decode cX12_count 84 = .ok (.invokevirtual 588, 3) := by decide +kernel
theorem dX12_count_87 : decode cX12_count 87 = .ok (.ireturn, 1) := by decide +kernel
theorem dX12_count_88 : decode cX12_count 88 = .ok (.aload_n 0, 1) := by decide +kernel
theorem dX12_count_89 : decode cX12_count 89 = .ok (.invokevirtual 552, 3) := by decide +kernel
theorem dX12_count_92 : decode cX12_count 92 = .ok (.ireturn, 1) := by decide +kernel
theorem dX12_count_93 : decode cX12_count 93 = .ok (.aload_n 0, 1) := by decide +kernel
theorem dX12_count_94 : decode cX12_count 94 = .ok (.invokevirtual 591, 3) := by decide +kernel
theorem dX12_count_97 : decode cX12_count 97 = .ok (.ireturn, 1) := by decide +kernel
theorem dX12_count_98 : decode cX12_count 98 = .ok (.aload_n 0, 1) := by decide +kernel
theorem dX12_count_99 : decode cX12_count 99 = .ok (.getfield 13, 3) := by decide +kernel
theorem dX12_count_102 : decode cX12_count 102 = .ok (.iconst 1, 1) := by decide +kernel
theorem dX12_count_103 : decode cX12_count 103 = .ok (.iaload, 1) := by decide +kernel
theorem dX12_count_104 : decode cX12_count 104 = .ok (.ireturn, 1) := by decide +kernel
theorem dX12_count_105 : decode cX12_count 105 = .ok (.aload_n 0, 1) := by decide +kernel
theorem dX12_count_106 : decode cX12_count 106 = .ok (.getfield 13, 3) := by decide +kernel
theorem dX12_count_109 : decode cX12_count 109 = .ok (.iconst 2, 1) := by decide +kernel
theorem dX12_count_110 : decode cX12_count 110 = .ok (.iaload, 1) := by decide +kernel
theorem dX12_count_111 : decode cX12_count 111 = .ok (.ireturn, 1) := by decide +kernel
theorem dX12_count_112 : decode cX12_count 112 = .ok (.aload_n 0, 1) := by decide +kernel
theorem dX12_count_113 : decode cX12_count 113 = .ok (.getfield 159, 3) := by decide +kernel
theorem dX12_count_116 : decode cX12_count 116 = .ok (.ireturn, 1) := by decide +kernel
theorem dX12_count_117 : decode cX12_count 117 = .ok (.aload_n 0, 1) := by decide +kernel
theorem dX12_count_118 : decode cX12_count 118 = .ok (.getfield 230, 3) := by decide +kernel
theorem dX12_count_121 : decode cX12_count 121 = .ok (.ireturn, 1) := by decide +kernel
theorem dX12_count_122 : decode cX12_count 122 = .ok (.aload_n 0, 1) := by decide +kernel
theorem dX12_count_123 : decode cX12_count 123 = .ok (.getfield 7, 3) := by decide +kernel
theorem dX12_count_126 : decode cX12_count 126 = .ok (.iconst 1, 1) := by decide +kernel
theorem dX12_count_127 : decode cX12_count 127 = .ok (.iaload, 1) := by decide +kernel
theorem dX12_count_128 : decode cX12_count 128 = .ok (.ireturn, 1) := by decide +kernel
theorem dX12_count_129 : decode cX12_count 129 = .ok (.aload_n 0, 1) := by decide +kernel
theorem dX12_count_130 : decode cX12_count 130 = .ok (.getfield 7, 3) := by decide +kernel
theorem dX12_count_133 : decode cX12_count 133 = .ok (.iconst 2, 1) := by decide +kernel
theorem dX12_count_134 : decode cX12_count 134 = .ok (.iaload, 1) := by decide +kernel
theorem dX12_count_135 : decode cX12_count 135 = .ok (.ireturn, 1) := by decide +kernel
theorem dX12_count_136 : decode cX12_count 136 = .ok (.aload_n 0, 1) := by decide +kernel
theorem dX12_count_137 : decode cX12_count 137 = .ok (.getfield 7, 3) := by decide +kernel
theorem dX12_count_140 : decode cX12_count 140 = .ok (.iconst 3, 1) := by decide +kernel
theorem dX12_count_141 : decode cX12_count 141 = .ok (.iaload, 1) := by decide +kernel
theorem dX12_count_142 : decode cX12_count 142 = .ok (.ireturn, 1) := by decide +kernel
theorem dX12_count_143 : decode cX12_count 143 = .ok (.aload_n 0, 1) := by decide +kernel
theorem dX12_count_144 : decode cX12_count 144 = .ok (.getfield 7, 3) := by decide +kernel
theorem dX12_count_147 : decode cX12_count 147 = .ok (.iconst 5, 1) := by decide +kernel
theorem dX12_count_148 : decode cX12_count 148 = .ok (.iaload, 1) := by decide +kernel
theorem dX12_count_149 : decode cX12_count 149 = .ok (.ireturn, 1) := by decide +kernel
theorem dX12_count_150 : decode cX12_count 150 = .ok (.aload_n 0, 1) := by decide +kernel
theorem dX12_count_151 : decode cX12_count 151 = .ok (.getfield 7, 3) := by decide +kernel
theorem dX12_count_154 : decode cX12_count 154 = .ok (.bipush 6, 2) := by decide +kernel
theorem dX12_count_156 : decode cX12_count 156 = .ok (.iaload, 1) := by decide +kernel
theorem dX12_count_157 : decode cX12_count 157 = .ok (.ireturn, 1) := by decide +kernel
theorem dX12_count_158 : decode cX12_count 158 = .ok (.aload_n 0, 1) := by decide +kernel
theorem dX12_count_159 : decode cX12_count 159 = .ok (.getfield 13, 3) := by decide +kernel
theorem dX12_count_162 : decode cX12_count 162 = .ok (.iconst 3, 1) := by decide +kernel
theorem dX12_count_163 : decode cX12_count 163 = .ok (.iaload, 1) := by decide +kernel
theorem dX12_count_164 : decode cX12_count 164 = .ok (.ireturn, 1) := by decide +kernel
theorem dX12_count_165 : decode cX12_count 165 = .ok (.iload_n 1, 1) := by decide +kernel
theorem dX12_count_166 : decode cX12_count 166 = .ok (.i2l, 1) := by decide +kernel
theorem dX12_count_167 : decode cX12_count 167 = .ok (.ldc2_w 594, 3) := by decide +kernel
theorem dX12_count_170 : decode cX12_count 170 = .ok (.ldc2_w 186, 3) := by decide +kernel
theorem dX12_count_173 : decode cX12_count 173 = .ok (.invokestatic 173, 3) := by decide +kernel
theorem dX12_count_176 : decode cX12_count 176 = .ok (.ifCond .eq 17, 3) := by decide +kernel
theorem dX12_count_179 : decode cX12_count 179 = .ok (.aload_n 0, 1) := by decide +kernel
theorem dX12_count_180 : decode cX12_count 180 = .ok (.getfield 13, 3) := by decide +kernel
theorem dX12_count_183 : decode cX12_count 183 = .ok (.iconst 4, 1) := by decide +kernel
theorem dX12_count_184 : decode cX12_count 184 = .ok (.iload_n 1, 1) := by decide +kernel
theorem dX12_count_185 : decode cX12_count 185 = .ok (.iadd, 1) := by decide +kernel
theorem dX12_count_186 : decode cX12_count 186 = .ok (.bipush 14, 2) := by decide +kernel
theorem dX12_count_188 : decode cX12_count 188 = .ok (.isub, 1) := by decide +kernel
theorem dX12_count_189 : decode cX12_count 189 = .ok (.iaload, 1) := by decide +kernel
theorem dX12_count_190 : decode cX12_count 190 = .ok (.goto 4, 3) := by decide +kernel
theorem dX12_count_193 : decode cX12_count 193 = .ok (.iconst (-1), 1) := by decide +kernel
theorem dX12_count_194 : decode cX12_count 194 = .ok (.ireturn, 1) := by decide +kernel
theorem dX12_status_0 : decode cX12_status 0 = .ok (.aload_n 0, 1) := by decide +kernel
theorem dX12_status_1 : decode cX12_status 1 = .ok (.iconst 0, 1) := by decide +kernel
theorem dX12_status_2 : decode cX12_status 2 = .ok (.putfield 153, 3) := by decide +kernel
theorem dX12_status_5 : decode cX12_status 5 = .ok (.aload_n 0, 1) := by decide +kernel
theorem dX12_status_6 : decode cX12_status 6 = .ok (.getfield 156, 3) := by decide +kernel
theorem dX12_status_9 : decode cX12_status 9 = .ok (.ireturn, 1) := by decide +kernel
theorem dJ6_bitCount_0f7a4_0 : decode cJ6_bitCount_0f7a4 0 = .ok (.iload_n 0, 1) := by decide +kernel
theorem dJ6_bitCount_0f7a4_1 : decode cJ6_bitCount_0f7a4 1 = .ok (.iload_n 0, 1) := by decide +kernel
theorem dJ6_bitCount_0f7a4_2 : decode cJ6_bitCount_0f7a4 2 = .ok (.iconst 1, 1) := by decide +kernel
theorem dJ6_bitCount_0f7a4_3 : decode cJ6_bitCount_0f7a4 3 = .ok (.iushr, 1) := by decide +kernel
theorem dJ6_bitCount_0f7a4_4 : decode cJ6_bitCount_0f7a4 4 = .ok (.ldc_w 265, 3) := by decide +kernel
theorem dJ6_bitCount_0f7a4_7 : decode cJ6_bitCount_0f7a4 7 = .ok (.iand, 1) := by decide +kernel
theorem dJ6_bitCount_0f7a4_8 : decode cJ6_bitCount_0f7a4 8 = .ok (.isub, 1) := by decide +kernel
theorem dJ6_bitCount_0f7a4_9 : decode cJ6_bitCount_0f7a4 9 = .ok (.istore_n 0, 1) := by decide +kernel
theorem dJ6_bitCount_0f7a4_10 : decode cJ6_bitCount_0f7a4 10 = .ok (.iload_n 0, 1) := by decide +kernel
theorem dJ6_bitCount_0f7a4_11 : decode cJ6_bitCount_0f7a4 11 = .ok (.ldc_w 266, 3) := by decide +kernel
theorem dJ6_bitCount_0f7a4_14 : decode cJ6_bitCount_0f7a4 14 = .ok (.iand, 1) := by decide +kernel
theorem dJ6_bitCount_0f7a4_15 : decode cJ6_bitCount_0f7a4 15 = .ok (.iload_n 0, 1) := by decide +kernel
theorem dJ6_bitCount_0f7a4_16 : decode cJ6_bitCount_0f7a4 16 = .ok (.iconst 2, 1) := by decide +kernel
theorem dJ6_bitCount_0f7a4_17 : decode cJ6_bitCount_0f7a4 17 = .ok (.iushr, 1) := by decide +kernel
theorem dJ6_bitCount_0f7a4_18 : decode cJ6_bitCount_0f7a4 18 = .ok (.ldc_w 266, 3) := by decide +kernel
theorem dJ6_bitCount_0f7a4_21 : decode cJ6_bitCount_0f7a4 21 = .ok (.iand, 1) := by decide +kernel
theorem dJ6_bitCount_0f7a4_22 : decode cJ6_bitCount_0f7a4 22 = .ok (.iadd, 1) := by decide +kernel
theorem dJ6_bitCount_0f7a4_23 : decode cJ6_bitCount_0f7a4 23 = .ok (.istore_n 0, 1) := by decide +kernel
theorem dJ6_bitCount_0f7a4_24 : decode cJ6_bitCount_0f7a4 24 = .ok (.iload_n 0, 1) := by decide +kernel
theorem dJ6_bitCount_0f7a4_25 : decode cJ6_bitCount_0f7a4 25 = .ok (.iload_n 0, 1) := by decide +kernel
theorem dJ6_bitCount_0f7a4_26 : decode cJ6_bitCount_0f7a4 26 = .ok (.iconst 4, 1) := by decide +kernel
theorem dJ6_bitCount_0f7a4_27 : decode cJ6_bitCount_0f7a4 27 = .ok (.iushr, 1) := by decide +kernel
theorem dJ6_bitCount_0f7a4_28 : decode cJ6_bitCount_0f7a4 28 = .ok (.iadd, 1) := by decide +kernel
theorem dJ6_bitCount_0f7a4_29 : decode cJ6_bitCount_0f7a4 29 = .ok (.ldc_w 267, 3) := by decide +kernel
theorem dJ6_bitCount_0f7a4_32 : decode cJ6_bitCount_0f7a4 32 = .ok (.iand, 1) := by decide +kernel
theorem dJ6_bitCount_0f7a4_33 : decode cJ6_bitCount_0f7a4 33 = .ok (.istore_n 0, 1) := by decide +kernel
theorem dJ6_bitCount_0f7a4_34 : decode cJ6_bitCount_0f7a4 34 = .ok (.iload_n 0, 1) := by decide +kernel
theorem dJ6_bitCount_0f7a4_35 : decode cJ6_bitCount_0f7a4 35 = .ok (.iload_n 0, 1) := by decide +kernel
theorem dJ6_bitCount_0f7a4_36 : decode cJ6_bitCount_0f7a4 36 = .ok (.bipush 8, 2) := by decide +kernel
theorem dJ6_bitCount_0f7a4_38 : decode cJ6_bitCount_0f7a4 38 = .ok (.iushr, 1) := by decide +kernel
theorem dJ6_bitCount_0f7a4_39 : decode cJ6_bitCount_0f7a4 39 = .ok (.iadd, 1) := by decide +kernel
theorem dJ6_bitCount_0f7a4_40 : decode cJ6_bitCount_0f7a4 40 = .ok (.istore_n 0, 1) := by decide +kernel
theorem dJ6_bitCount_0f7a4_41 : decode cJ6_bitCount_0f7a4 41 = .ok (.iload_n 0, 1) := by decide +kernel
theorem dJ6_bitCount_0f7a4_42 : decode cJ6_bitCount_0f7a4 42 = .ok (.iload_n 0, 1) := by decide +kernel
theorem dJ6_bitCount_0f7a4_43 : decode cJ6_bitCount_0f7a4 43 = .ok (.bipush 16, 2) := by decide +kernel
theorem dJ6_bitCount_0f7a4_45 : decode cJ6_bitCount_0f7a4 45 = .ok (.iushr, 1) := by decide +kernel
theorem dJ6_bitCount_0f7a4_46 : decode cJ6_bitCount_0f7a4 46 = .ok (.iadd, 1) := by decide +kernel
theorem dJ6_bitCount_0f7a4_47 : decode cJ6_bitCount_0f7a4 47 = .ok (.istore_n 0, 1) := by decide +kernel
theorem dJ6_bitCount_0f7a4_48 : decode cJ6_bitCount_0f7a4 48 = .ok (.iload_n 0, 1) := by decide +kernel
theorem dJ6_bitCount_0f7a4_49 : decode cJ6_bitCount_0f7a4 49 = .ok (.bipush 63, 2) := by decide +kernel
theorem dJ6_bitCount_0f7a4_51 : decode cJ6_bitCount_0f7a4 51 = .ok (.iand, 1) := by decide +kernel
theorem dJ6_bitCount_0f7a4_52 : decode cJ6_bitCount_0f7a4 52 = .ok (.ireturn, 1) := by decide +kernel
theorem dJ9_max_7cf53_0 : decode cJ9_max_7cf53 0 = .ok (.iload_n 0, 1) := by decide +kernel
theorem dJ9_max_7cf53_1 : decode cJ9_max_7cf53 1 = .ok (.iload_n 1, 1) := by decide +kernel
theorem dJ9_max_7cf53_2 : decode cJ9_max_7cf53 2 = .ok (.if_icmp .lt 7, 3) := by decide +kernel
theorem dJ9_max_7cf53_5 : decode cJ9_max_7cf53 5 = .ok (.iload_n 0, 1) := by decide +kernel
theorem dJ9_max_7cf53_6 : decode cJ9_max_7cf53 6 = .ok (.goto 4, 3) := by decide +kernel
theorem dJ9_max_7cf53_9 : decode cJ9_max_7cf53 9 = .ok (.iload_n 1, 1) := by decide +kernel
theorem dJ9_max_7cf53_10 : decode cJ9_max_7cf53 10 = .ok (.ireturn, 1) := by decide +kernel
theorem dJ9_max_f86c9_0 : decode cJ9_max_f86c9 0 = .ok (.lload_n 0, 1) := by decide +kernel
theorem dJ9_max_f86c9_1 : decode cJ9_max_f86c9 1 = .ok (.lload_n 2, 1) := by decide +kernel
theorem dJ9_max_f86c9_2 : decode cJ9_max_f86c9 2 = .ok (.lcmp, 1) := by decide +kernel
theorem dJ9_max_f86c9_3 : decode cJ9_max_f86c9 3 = .ok (.ifCond .lt 7, 3) := by decide +kernel
theorem dJ9_max_f86c9_6 : decode cJ9_max_f86c9 6 = .ok (.lload_n 0, 1) := by decide +kernel
theorem dJ9_max_f86c9_7 : decode cJ9_max_f86c9 7 = .ok (.goto 4, 3) := by decide +kernel
theorem dJ9_max_f86c9_10 : decode cJ9_max_f86c9 10 = .ok (.lload_n 2, 1) := by decide +kernel
theorem dJ9_max_f86c9_11 : decode cJ9_max_f86c9 11 = .ok (.lreturn, 1) := by decide +kernel
theorem dJ9_min_7cf53_0 : decode cJ9_min_7cf53 0 = .ok (.iload_n 0, 1) := by decide +kernel
theorem dJ9_min_7cf53_1 : decode cJ9_min_7cf53 1 = .ok (.iload_n 1, 1) := by decide +kernel
theorem dJ9_min_7cf53_2 : decode cJ9_min_7cf53 2 = .ok (.if_icmp .gt 7, 3) := by decide +kernel
theorem dJ9_min_7cf53_5 : decode cJ9_min_7cf53 5 = .ok (.iload_n 0, 1) := by decide +kernel
theorem dJ9_min_7cf53_6 : decode cJ9_min_7cf53 6 = .ok (.goto 4, 3) := by decide +kernel
theorem dJ9_min_7cf53_9 : decode cJ9_min_7cf53 9 = .ok (.iload_n 1, 1) := by decide +kernel
theorem dJ9_min_7cf53_10 : decode cJ9_min_7cf53 10 = .ok (.ireturn, 1) := by decide +kernel
theorem dJ0_length_8abf5_0 : decode cJ0_length_8abf5 0 = .ok (.aload_n 0, 1) := by decide +kernel
theorem dJ0_length_8abf5_1 : decode cJ0_length_8abf5 1 = .ok (.getfield 9, 3) := by decide +kernel
theorem dJ0_length_8abf5_4 : decode cJ0_length_8abf5 4 = .ok (.arraylength, 1) := by decide +kernel
theorem dJ0_length_8abf5_5 : decode cJ0_length_8abf5 5 = .ok (.aload_n 0, 1) := by decide +kernel
theorem dJ0_length_8abf5_6 : decode cJ0_length_8abf5 6 = .ok (.invokevirtual 335, 3) := by decide +kernel
theorem dJ0_length_8abf5_9 : decode cJ0_length_8abf5 9 = .ok (.ishr, 1) := by decide +kernel
theorem dJ0_length_8abf5_10 : decode cJ0_length_8abf5 10 = .ok (.ireturn, 1) := by decide +kernel
theorem dJ0_charAt_5068e_0 : decode cJ0_charAt_5068e 0 = .ok (.aload_n 0, 1) := by decide +kernel
theorem dJ0_charAt_5068e_1 : decode cJ0_charAt_5068e 1 = .ok (.invokevirtual 492, 3) := by decide +kernel
theorem dJ0_charAt_5068e_4 : decode cJ0_charAt_5068e 4 = .ok (.ifCond .eq 12, 3) := by decide +kernel
theorem dJ0_charAt_5068e_7 : decode cJ0_charAt_5068e 7 = .ok (.aload_n 0, 1) := by decide +kernel
theorem dJ0_charAt_5068e_8 : decode cJ0_charAt_5068e 8 = .ok (.getfield 9, 3) := by decide +kernel
theorem dJ0_charAt_5068e_11 : decode cJ0_charAt_5068e 11 = .ok (.iload_n 1, 1) := by decide +kernel
theorem dJ0_charAt_5068e_12 : decode cJ0_charAt_5068e 12 = .ok (.invokestatic 495, 3) := by decide +kernel
theorem dJ0_charAt_5068e_15 : decode cJ0_charAt_5068e 15 = .ok (.ireturn, 1) := by decide +kernel
theorem dJ0_charAt_5068e_16 : decode cJ0_charAt_5068e 16 = .ok (.aload_n 0, 1) := by decide +kernel
theorem dJ0_charAt_5068e_17 : decode cJ0_charAt_5068e 17 = .ok (.getfield 9, 3) := by decide +kernel
theorem dJ0_charAt_5068e_20 : decode cJ0_charAt_5068e 20 = .ok (.iload_n 1, 1) := by decide +kernel
theorem dJ0_charAt_5068e_21 : decode cJ0_charAt_5068e 21 = .ok (.invokestatic 498, 3) := by decide +kernel
theorem dJ0_charAt_5068e_24 : decode cJ0_charAt_5068e 24 = .ok (.ireturn, 1) := by decide +kernel
theorem dJ0_coder_7d493_0 : decode cJ0_coder_7d493 0 = .ok (.getstatic 38, 3) := by decide +kernel
theorem dJ0_coder_7d493_3 : decode cJ0_coder_7d493 3 = .ok (.ifCond .eq 10, 3) := by decide +kernel
theorem dJ0_coder_7d493_6 : decode cJ0_coder_7d493 6 = .ok (.aload_n 0, 1) := by decide +kernel
theorem dJ0_coder_7d493_7 : decode cJ0_coder_7d493 7 = .ok (.getfield 15, 3) := by decide +kernel
theorem dJ0_coder_7d493_10 : decode cJ0_coder_7d493 10 = .ok (.goto 4, 3) := by decide +kernel
theorem dJ0_coder_7d493_13 : decode cJ0_coder_7d493 13 = .ok (.iconst 1, 1) := by decide +kernel
theorem dJ0_coder_7d493_14 : decode cJ0_coder_7d493 14 = .ok (.ireturn, 1) := by decide +kernel
theorem dJ0_isLatin1_aae02_0 : decode cJ0_isLatin1_aae02 0 = .ok (.getstatic 38, 3) := by decide +kernel
theorem dJ0_isLatin1_aae02_3 : decode cJ0_isLatin1_aae02 3 = .ok (.ifCond .eq 14, 3) := by decide +kernel
theorem dJ0_isLatin1_aae02_6 : decode cJ0_isLatin1_aae02 6 = .ok (.aload_n 0, 1) := by decide +kernel
theorem dJ0_isLatin1_aae02_7 : decode cJ0_isLatin1_aae02 7 = .ok (.getfield 15, 3) := by decide +kernel
theorem dJ0_isLatin1_aae02_10 : decode cJ0_isLatin1_aae02 10 = .ok (.ifCond .ne 7, 3) := by decide +kernel
theorem dJ0_isLatin1_aae02_13 : decode cJ0_isLatin1_aae02 13 = .ok (.iconst 1, 1) := by decide +kernel
theorem dJ0_isLatin1_aae02_14 : decode cJ0_isLatin1_aae02 14 = .ok (.goto 4, 3) := by decide +kernel
theorem dJ0_isLatin1_aae02_17 : decode cJ0_isLatin1_aae02 17 = .ok (.iconst 0, 1) := by decide +kernel
theorem dJ0_isLatin1_aae02_18 : decode cJ0_isLatin1_aae02 18 = .ok (.ireturn, 1) := by decide +kernel
theorem dJ0_checkIndex_df160_0 : decode cJ0_checkIndex_df160 0 = .ok (.iload_n 0, 1) := by decide +kernel
theorem dJ0_checkIndex_df160_1 : decode cJ0_checkIndex_df160 1 = .ok (.iload_n 1, 1) := by decide +kernel
theorem dJ0_checkIndex_df160_2 : decode cJ0_checkIndex_df160 2 = .ok (.getstatic 1053, 3) := by decide +kernel
theorem dJ0_checkIndex_df160_5 : decode cJ0_checkIndex_df160 5 = .ok (.invokestatic 1059, 3) := by decide +kernel
theorem dJ0_checkIndex_df160_8 : decode cJ0_checkIndex_df160 8 = .ok (.pop, 1) := by decide +kernel
theorem dJ0_checkIndex_df160_9 : decode cJ0_checkIndex_df160 9 = .ok (.return_, 1) := by decide +kernel
theorem dJ1_charAt_3b067_0 : decode cJ1_charAt_3b067 0 = .ok (.iload_n 1, 1) := by decide +kernel
theorem dJ1_charAt_3b067_1 : decode cJ1_charAt_3b067 1 = .ok (.aload_n 0, 1) := by decide +kernel
theorem dJ1_charAt_3b067_2 : decode cJ1_charAt_3b067 2 = .ok (.arraylength, 1) := by decide +kernel
theorem dJ1_charAt_3b067_3 : decode cJ1_charAt_3b067 3 = .ok (.invokestatic 9, 3) := by decide +kernel
theorem dJ1_charAt_3b067_6 : decode cJ1_charAt_3b067 6 = .ok (.aload_n 0, 1) := by decide +kernel
theorem dJ1_charAt_3b067_7 : decode cJ1_charAt_3b067 7 = .ok (.iload_n 1, 1) := by decide +kernel
theorem dJ1_charAt_3b067_8 : decode cJ1_charAt_3b067 8 = .ok (.baload, 1) := by decide +kernel
theorem dJ1_charAt_3b067_9 : decode cJ1_charAt_3b067 9 = .ok (.sipush 255, 3) := by decide +kernel
theorem dJ1_charAt_3b067_12 : decode cJ1_charAt_3b067 12 = .ok (.iand, 1) := by decide +kernel
theorem dJ1_charAt_3b067_13 : decode cJ1_charAt_3b067 13 = .ok (.i2c, 1) := by decide +kernel
theorem dJ1_charAt_3b067_14 : decode cJ1_charAt_3b067 14 = .ok (.ireturn, 1) := by decide +kernel
theorem dJ2_getChar_3b067_0 : decode cJ2_getChar_3b067 0 = .ok (.getstatic 44, 3) := by decide +kernel
theorem dJ2_getChar_3b067_3 : decode cJ2_getChar_3b067 3 = .ok (.ifCond .ne 25, 3) := by decide +kernel
theorem dJ2_getChar_3b067_6 : decode cJ2_getChar_3b067 6 = .ok (.iload_n 1, 1) := by decide +kernel
theorem dJ2_getChar_3b067_7 : decode cJ2_getChar_3b067 7 = .ok (.ifCond .lt 11, 3) := by decide +kernel
theorem dJ2_getChar_3b067_10 : decode cJ2_getChar_3b067 10 = .ok (.iload_n 1, 1) := by decide +kernel
theorem dJ2_getChar_3b067_11 : decode cJ2_getChar_3b067 11 = .ok (.aload_n 0, 1) := by decide +kernel
theorem dJ2_getChar_3b067_12 : decode cJ2_getChar_3b067 12 = .ok (.invokestatic 48, 3) := by decide +kernel
theorem dJ2_getChar_3b067_15 : decode cJ2_getChar_3b067 15 = .ok (.if_icmp .lt 13, 3) := by decide +kernel
theorem dJ2_getChar_3b067_18 : decode cJ2_getChar_3b067 18 = .ok (.new 52, 3) := by decide +kernel
theorem dJ2_getChar_3b067_21 : decode cJ2_getChar_3b067 21 = .ok (.dup, 1) := by decide +kernel
theorem dJ2_getChar_3b067_22 : decode cJ2_getChar_3b067 22 = .ok (.ldc 54, 2) := by decide +kernel
theorem dJ2_getChar_3b067_24 : decode cJ2_getChar_3b067 24 = .ok (.invokespecial 56, 3) := by decide +kernel
theorem dJ2_getChar_3b067_27 : decode cJ2_getChar_3b067 27 = .ok (.athrow, 1) := by decide +kernel
theorem dJ2_getChar_3b067_28 : decode cJ2_getChar_3b067 28 = .ok (.iload_n 1, 1) := by decide +kernel
theorem dJ2_getChar_3b067_29 : decode cJ2_getChar_3b067 29 = .ok (.iconst 1, 1) := by decide +kernel
theorem dJ2_getChar_3b067_30 : decode cJ2_getChar_3b067 30 = .ok (.ishl, 1) := by decide +kernel
theorem dJ2_getChar_3b067_31 : decode cJ2_getChar_3b067 31 = .ok (.istore_n 1, 1) := by decide +kernel
theorem dJ2_getChar_3b067_32 : decode cJ2_getChar_3b067 32 = .ok (.aload_n 0, 1) := by decide +kernel
theorem dJ2_getChar_3b067_33 : decode cJ2_getChar_3b067 33 = .ok (.iload_n 1, 1) := by decide +kernel
theorem dJ2_getChar_3b067_34 : decode cJ2_getChar_3b067 34 = .ok (.iinc 1 1, 3) := by decide +kernel
theorem dJ2_getChar_3b067_37 : decode cJ2_getChar_3b067 37 = .ok (.baload, 1) := by decide +kernel
theorem dJ2_getChar_3b067_38 : decode cJ2_getChar_3b067 38 = .ok (.sipush 255, 3) := by decide +kernel
theorem dJ2_getChar_3b067_41 : decode cJ2_getChar_3b067 41 = .ok (.iand, 1) := by decide +kernel
theorem dJ2_getChar_3b067_42 : decode cJ2_getChar_3b067 42 = .ok (.getstatic 59, 3) := by decide +kernel
theorem dJ2_getChar_3b067_45 : decode cJ2_getChar_3b067 45 = .ok (.ishl, 1) := by decide +kernel
theorem dJ2_getChar_3b067_46 : decode cJ2_getChar_3b067 46 = .ok (.aload_n 0, 1) := by decide +kernel
theorem dJ2_getChar_3b067_47 : decode cJ2_getChar_3b067 47 = .ok (.iload_n 1, 1) := by decide +kernel
theorem dJ2_getChar_3b067_48 : decode cJ2_getChar_3b067 48 = .ok (.baload, 1) := by decide +kernel
theorem dJ2_getChar_3b067_49 : decode cJ2_getChar_3b067 49 = .ok (.sipush 255, 3) := by decide +kernel
theorem dJ2_getChar_3b067_52 : decode cJ2_getChar_3b067 52 = .ok (.iand, 1) := by decide +kernel
theorem dJ2_getChar_3b067_53 : decode cJ2_getChar_3b067 53 = .ok (.getstatic 63, 3) := by decide +kernel
theorem dJ2_getChar_3b067_56 : decode cJ2_getChar_3b067 56 = .ok (.ishl, 1) := by decide +kernel
theorem dJ2_getChar_3b067_57 : decode cJ2_getChar_3b067 57 = .ok (.ior, 1) := by decide +kernel
theorem dJ2_getChar_3b067_58 : decode cJ2_getChar_3b067 58 = .ok (.i2c, 1) := by decide +kernel
theorem dJ2_getChar_3b067_59 : decode cJ2_getChar_3b067 59 = .ok (.ireturn, 1) := by decide +kernel
theorem dJ2_length_9d52b_0 : decode cJ2_length_9d52b 0 = .ok (.aload_n 0, 1) := by decide +kernel
theorem dJ2_length_9d52b_1 : decode cJ2_length_9d52b 1 = .ok (.arraylength, 1) := by decide +kernel
theorem dJ2_length_9d52b_2 : decode cJ2_length_9d52b 2 = .ok (.iconst 1, 1) := by decide +kernel
theorem dJ2_length_9d52b_3 : decode cJ2_length_9d52b 3 = .ok (.ishr, 1) := by decide +kernel
theorem dJ2_length_9d52b_4 : decode cJ2_length_9d52b 4 = .ok (.ireturn, 1) := by decide +kernel
theorem dJ2_charAt_3b067_0 : decode cJ2_charAt_3b067 0 = .ok (.iload_n 1, 1) := by decide +kernel
theorem dJ2_charAt_3b067_1 : decode cJ2_charAt_3b067 1 = .ok (.aload_n 0, 1) := by decide +kernel
theorem dJ2_charAt_3b067_2 : decode cJ2_charAt_3b067 2 = .ok (.invokestatic 67, 3) := by decide +kernel
theorem dJ2_charAt_3b067_5 : decode cJ2_charAt_3b067 5 = .ok (.aload_n 0, 1) := by decide +kernel
theorem dJ2_charAt_3b067_6 : decode cJ2_charAt_3b067 6 = .ok (.iload_n 1, 1) := by decide +kernel
theorem dJ2_charAt_3b067_7 : decode cJ2_charAt_3b067 7 = .ok (.invokestatic 71, 3) := by decide +kernel
theorem dJ2_charAt_3b067_10 : decode cJ2_charAt_3b067 10 = .ok (.ireturn, 1) := by decide +kernel
theorem dJ2_checkIndex_2214a_0 : decode cJ2_checkIndex_2214a 0 = .ok (.iload_n 0, 1) := by decide +kernel
theorem dJ2_checkIndex_2214a_1 : decode cJ2_checkIndex_2214a 1 = .ok (.aload_n 1, 1) := by decide +kernel
theorem dJ2_checkIndex_2214a_2 : decode cJ2_checkIndex_2214a 2 = .ok (.invokestatic 48, 3) := by decide +kernel
theorem dJ2_checkIndex_2214a_5 : decode cJ2_checkIndex_2214a 5 = .ok (.invokestatic 414, 3) := by decide +kernel
theorem dJ2_checkIndex_2214a_8 : decode cJ2_checkIndex_2214a 8 = .ok (.return_, 1) := by decide +kernel
theorem dJ3_checkIndex_8e157_0 : decode cJ3_checkIndex_8e157 0 = .ok (.iload_n 0, 1) := by decide +kernel
theorem dJ3_checkIndex_8e157_1 : decode cJ3_checkIndex_8e157 1 = .ok (.ifCond .lt 8, 3) := by decide +kernel
theorem dJ3_checkIndex_8e157_4 : decode cJ3_checkIndex_8e157 4 = .ok (.iload_n 0, 1) := by decide +kernel
theorem dJ3_checkIndex_8e157_5 : decode cJ3_checkIndex_8e157 5 = .ok (.iload_n 1, 1) := by decide +kernel
theorem dJ3_checkIndex_8e157_6 : decode cJ3_checkIndex_8e157 6 = .ok (.if_icmp .lt 10, 3) := by decide +kernel
theorem dJ3_checkIndex_8e157_9 : decode cJ3_checkIndex_8e157 9 = .ok (.aload_n 2, 1) := by decide +kernel
theorem dJ3_checkIndex_8e157_10 : decode cJ3_checkIndex_8e157 10 = .ok (.iload_n 0, 1) := by decide +kernel
theorem dJ3_checkIndex_8e157_11 : decode cJ3_checkIndex_8e157 11 = .ok (.iload_n 1, 1) := by decide +kernel
theorem dJ3_checkIndex_8e157_12 : decode cJ3_checkIndex_8e157 12 = .ok (.invokestatic 95, 3) := by decide +kernel
theorem dJ3_checkIndex_8e157_15 : decode cJ3_checkIndex_8e157 15 = .ok (.athrow, 1) := by decide +kernel
theorem dJ3_checkIndex_8e157_16 : decode cJ3_checkIndex_8e157 16 = .ok (.iload_n 0, 1) := by decide +kernel
theorem dJ3_checkIndex_8e157_17 : decode cJ3_checkIndex_8e157 17 = .ok (.ireturn, 1) := by decide +kernel
theorem dL_law_0 : decode cL_law 0 = .ok (.new 7, 3) := by decide +kernel
theorem dL_law_3 : decode cL_law 3 = .ok (.dup, 1) := by decide +kernel
theorem dL_law_4 : decode cL_law 4 = .ok (.invokespecial 9, 3) := by decide +kernel
theorem dL_law_7 : decode cL_law 7 = .ok (.astore_n 1, 1) := by decide +kernel
theorem dL_law_8 : decode cL_law 8 = .ok (.new 10, 3) := by decide +kernel
theorem dL_law_11 : decode cL_law 11 = .ok (.dup, 1) := by decide +kernel
theorem dL_law_12 : decode cL_law 12 = .ok (.invokespecial 12, 3) := by decide +kernel
theorem dL_law_15 : decode cL_law 15 = .ok (.astore_n 2, 1) := by decide +kernel
theorem dL_law_16 : decode cL_law 16 = .ok (.iconst 0, 1) := by decide +kernel
theorem dL_law_17 : decode cL_law 17 = .ok (.istore_n 3, 1) := by decide +kernel
theorem dL_law_18 : decode cL_law 18 = .ok (.iload_n 3, 1) := by decide +kernel
theorem dL_law_19 : decode cL_law 19 = .ok (.aload_n 0, 1) := by decide +kernel
theorem dL_law_20 : decode cL_law 20 = .ok (.arraylength, 1) := by decide +kernel
theorem dL_law_21 : decode cL_law 21 = .ok (.bipush 6, 2) := by decide +kernel
theorem dL_law_23 : decode cL_law 23 = .ok (.isub, 1) := by decide +kernel
theorem dL_law_24 : decode cL_law 24 = .ok (.if_icmp .gt 1215, 3) := by decide +kernel
theorem dL_law_27 : decode cL_law 27 = .ok (.aload_n 0, 1) := by decide +kernel
theorem dL_law_28 : decode cL_law 28 = .ok (.iload_n 3, 1) := by decide +kernel
theorem dL_law_29 : decode cL_law 29 = .ok (.iaload, 1) := by decide +kernel
theorem dL_law_30 : decode cL_law 30 = .ok (.bipush 63, 2) := by decide +kernel
theorem dL_law_32 : decode cL_law 32 = .ok (.iand, 1) := by decide +kernel
theorem dL_law_33 : decode cL_law 33 = .ok (.tableswitch 1200 0 39 #[175, 208, 241, 274, 307, 340, 403, 426, 439, 452, 465, 478, 491, 504, 527, 560, 583, 606, 619, 632, 666, 699, 733, 767, 811, 834, 867, 890, 903, 936, 949, 962, 985, 1019, 1052, 1085, 1118, 1141, 1164, 1187], 175) := by decide +kernel
theorem dL_law_208 : decode cL_law 208 = .ok (.aload_n 1, 1) := by decide +kernel
theorem dL_law_209 : decode cL_law 209 = .ok (.aload_n 0, 1) := by decide +kernel
theorem dL_law_210 : decode cL_law 210 = .ok (.iload_n 3, 1) := by decide +kernel
theorem dL_law_211 : decode cL_law 211 = .ok (.iconst 1, 1) := by decide +kernel
theorem dL_law_212 : decode cL_law 212 = .ok (.iadd, 1) := by decide +kernel
theorem dL_law_213 : decode cL_law 213 = .ok (.iaload, 1) := by decide +kernel
theorem dL_law_214 : decode cL_law 214 = .ok (.aload_n 0, 1) := by decide +kernel
theorem dL_law_215 : decode cL_law 215 = .ok (.iload_n 3, 1) := by decide +kernel
theorem dL_law_216 : decode cL_law 216 = .ok (.iconst 2, 1) := by decide +kernel
theorem dL_law_217 : decode cL_law 217 = .ok (.iadd, 1) := by decide +kernel
theorem dL_law_218 : decode cL_law 218 = .ok (.iaload, 1) := by decide +kernel
theorem dL_law_219 : decode cL_law 219 = .ok (.invokevirtual 13, 3) := by decide +kernel
theorem dL_law_222 : decode cL_law 222 = .ok (.aload_n 2, 1) := by decide +kernel
theorem dL_law_223 : decode cL_law 223 = .ok (.aload_n 0, 1) := by decide +kernel
theorem dL_law_224 : decode cL_law 224 = .ok (.iload_n 3, 1) := by decide +kernel
theorem dL_law_225 : decode cL_law 225 = .ok (.iconst 1, 1) := by decide +kernel
theorem dL_law_226 : decode cL_law 226 = .ok (.iadd, 1) := by decide +kernel
theorem dL_law_227 : decode cL_law 227 = .ok (.iaload, 1) := by decide +kernel
theorem dL_law_228 : decode cL_law 228 = .ok (.aload_n 0, 1) := by decide +kernel
theorem dL_law_229 : decode cL_law 229 = .ok (.iload_n 3, 1) := by decide +kernel
theorem dL_law_230 : decode cL_law 230 = .ok (.iconst 2, 1) := by decide +kernel
theorem dL_law_231 : decode cL_law 231 = .ok (.iadd, 1) := by decide +kernel
theorem dL_law_232 : decode cL_law 232 = .ok (.iaload, 1) := by decide +kernel
theorem dL_law_233 : decode cL_law 233 = .ok (.invokevirtual 17, 3) := by decide +kernel
theorem dL_law_236 : decode cL_law 236 = .ok (.if_icmp .eq 997, 3) := by decide +kernel
theorem dL_law_239 : decode cL_law 239 = .ok (.iconst 0, 1) := by decide +kernel
theorem dL_law_240 : decode cL_law 240 = .ok (.ireturn, 1) := by decide +kernel
theorem dL_law_241 : decode cL_law 241 = .ok (.aload_n 1, 1) := by decide +kernel
theorem dL_law_242 : decode cL_law 242 = .ok (.aload_n 0, 1) := by decide +kernel
theorem dL_law_243 : decode cL_law 243 = .ok (.iload_n 3, 1) := by decide +kernel
theorem dL_law_244 : decode cL_law 244 = .ok (.iconst 1, 1) := by decide +kernel
theorem dL_law_245 : decode cL_law 245 = .ok (.iadd, 1) := by decide +kernel
theorem dL_law_246 : decode cL_law 246 = .ok (.iaload, 1) := by decide +kernel
theorem dL_law_247 : decode cL_law 247 = .ok (.aload_n 0, 1) := by decide +kernel
theorem dL_law_248 : decode cL_law 248 = .ok (.iload_n 3, 1) := by decide +kernel
theorem dL_law_249 : decode cL_law 249 = .ok (.iconst 2, 1) := by decide +kernel
theorem dL_law_250 : decode cL_law 250 = .ok (.iadd, 1) := by decide +kernel
theorem dL_law_251 : decode cL_law 251 = .ok (.iaload, 1) := by decide +kernel
theorem dL_law_252 : decode cL_law 252 = .ok (.invokevirtual 18, 3) := by decide +kernel
theorem dL_law_255 : decode cL_law 255 = .ok (.aload_n 2, 1) := by decide +kernel
theorem dL_law_256 : decode cL_law 256 = .ok (.aload_n 0, 1) := by decide +kernel
theorem dL_law_257 : decode cL_law 257 = .ok (.iload_n 3, 1) := by decide +kernel
theorem dL_law_258 : decode cL_law 258 = .ok (.iconst 1, 1) := by decide +kernel
theorem dL_law_259 : decode cL_law 259 = .ok (.iadd, 1) := by decide +kernel
theorem dL_law_260 : decode cL_law 260 = .ok (.iaload, 1) := by decide +kernel
theorem dL_law_261 : decode cL_law 261 = .ok (.aload_n 0, 1) := by decide +kernel
theorem dL_law_262 : decode cL_law 262 = .ok (.iload_n 3, 1) := by decide +kernel
theorem dL_law_263 : decode cL_law 263 = .ok (.iconst 2, 1) := by decide +kernel
theorem dL_law_264 : decode cL_law 264 = .ok (.iadd, 1) := by decide +kernel
theorem dL_law_265 : decode cL_law 265 = .ok (.iaload, 1) := by decide +kernel
theorem dL_law_266 : decode cL_law 266 = .ok (.invokevirtual 21, 3) := by decide +kernel
theorem dL_law_269 : decode cL_law 269 = .ok (.if_icmp .eq 964, 3) := by decide +kernel
theorem dL_law_272 : decode cL_law 272 = .ok (.iconst 0, 1) := by decide +kernel
theorem dL_law_273 : decode cL_law 273 = .ok (.ireturn, 1) := by decide +kernel
theorem dL_law_274 : decode cL_law 274 = .ok (.aload_n 1, 1) := by decide +kernel
theorem dL_law_275 : decode cL_law 275 = .ok (.aload_n 0, 1) := by decide +kernel
theorem dL_law_276 : decode cL_law 276 = .ok (.iload_n 3, 1) := by decide +kernel
theorem dL_law_277 : decode cL_law 277 = .ok (.iconst 1, 1) := by decide +kernel
theorem dL_law_278 : decode cL_law 278 = .ok (.iadd, 1) := by decide +kernel
theorem dL_law_279 : decode cL_law 279 = .ok (.iaload, 1) := by decide +kernel
theorem dL_law_280 : decode cL_law 280 = .ok (.aload_n 0, 1) := by decide +kernel
theorem dL_law_281 : decode cL_law 281 = .ok (.iload_n 3, 1) := by decide +kernel
theorem dL_law_282 : decode cL_law 282 = .ok (.iconst 2, 1) := by decide +kernel
theorem dL_law_283 : decode cL_law 283 = .ok (.iadd, 1) := by decide +kernel
theorem dL_law_284 : decode cL_law 284 = .ok (.iaload, 1) := by decide +kernel
theorem dL_law_285 : decode cL_law 285 = .ok (.invokevirtual 22, 3) := by decide +kernel
theorem dL_law_288 : decode cL_law 288 = .ok (.aload_n 2, 1) := by decide +kernel
theorem dL_law_289 : decode cL_law 289 = .ok (.aload_n 0, 1) := by decide +kernel
theorem dL_law_290 : decode cL_law 290 = .ok (.iload_n 3, 1) := by decide +kernel
theorem dL_law_291 : decode cL_law 291 = .ok (.iconst 1, 1) := by decide +kernel
theorem dL_law_292 : decode cL_law 292 = .ok (.iadd, 1) := by decide +kernel
theorem dL_law_293 : decode cL_law 293 = .ok (.iaload, 1) := by decide +kernel
theorem dL_law_294 : decode cL_law 294 = .ok (.aload_n 0, 1) := by decide +kernel
theorem dL_law_295 : decode cL_law 295 = .ok (.iload_n 3, 1) := by decide +kernel
theorem dL_law_296 : decode cL_law 296 = .ok (.iconst 2, 1) := by decide +kernel
theorem dL_law_297 : decode cL_law 297 = .ok (.iadd, 1) := by decide +kernel
theorem dL_law_298 : decode cL_law 298 = .ok (.iaload, 1) := by decide +kernel
theorem dL_law_299 : decode cL_law 299 = .ok (.invokevirtual 25, 3) := by decide +kernel
theorem dL_law_302 : decode cL_law 302 = .ok (.if_icmp .eq 931, 3) := by decide +kernel
theorem dL_law_305 : decode cL_law 305 = .ok (.iconst 0, 1) := by decide +kernel
theorem dL_law_306 : decode cL_law 306 = .ok (.ireturn, 1) := by decide +kernel
theorem dL_law_307 : decode cL_law 307 = .ok (.aload_n 1, 1) := by decide +kernel
theorem dL_law_308 : decode cL_law 308 = .ok (.aload_n 0, 1) := by decide +kernel
theorem dL_law_309 : decode cL_law 309 = .ok (.iload_n 3, 1) := by decide +kernel
theorem dL_law_310 : decode cL_law 310 = .ok (.iconst 1, 1) := by decide +kernel
theorem dL_law_311 : decode cL_law 311 = .ok (.iadd, 1) := by decide +kernel
theorem dL_law_312 : decode cL_law 312 = .ok (.iaload, 1) := by decide +kernel
theorem dL_law_313 : decode cL_law 313 = .ok (.aload_n 0, 1) := by decide +kernel
theorem dL_law_314 : decode cL_law 314 = .ok (.iload_n 3, 1) := by decide +kernel
theorem dL_law_315 : decode cL_law 315 = .ok (.iconst 2, 1) := by decide +kernel
theorem dL_law_316 : decode cL_law 316 = .ok (.iadd, 1) := by decide +kernel
theorem dL_law_317 : decode cL_law 317 = .ok (.iaload, 1) := by decide +kernel
theorem dL_law_318 : decode cL_law 318 = .ok (.invokevirtual 26, 3) := by decide +kernel
theorem dL_law_321 : decode cL_law 321 = .ok (.aload_n 2, 1) := by decide +kernel
theorem dL_law_322 : decode cL_law 322 = .ok (.aload_n 0, 1) := by decide +kernel
theorem dL_law_323 : decode cL_law 323 = .ok (.iload_n 3, 1) := by decide +kernel
theorem dL_law_324 : decode cL_law 324 = .ok (.iconst 1, 1) := by decide +kernel
theorem dL_law_325 : decode cL_law 325 = .ok (.iadd, 1) := by decide +kernel
theorem dL_law_326 : decode cL_law 326 = .ok (.iaload, 1) := by decide +kernel
theorem dL_law_327 : decode cL_law 327 = .ok (.aload_n 0, 1) := by decide +kernel
theorem dL_law_328 : decode cL_law 328 = .ok (.iload_n 3, 1) := by decide +kernel
theorem dL_law_329 : decode cL_law 329 = .ok (.iconst 2, 1) := by decide +kernel
theorem dL_law_330 : decode cL_law 330 = .ok (.iadd, 1) := by decide +kernel
theorem dL_law_331 : decode cL_law 331 = .ok (.iaload, 1) := by decide +kernel
theorem dL_law_332 : decode cL_law 332 = .ok (.invokevirtual 29, 3) := by decide +kernel
theorem dL_law_335 : decode cL_law 335 = .ok (.if_icmp .eq 898, 3) := by decide +kernel
theorem dL_law_338 : decode cL_law 338 = .ok (.iconst 0, 1) := by decide +kernel
theorem dL_law_339 : decode cL_law 339 = .ok (.ireturn, 1) := by decide +kernel
theorem dL_law_340 : decode cL_law 340 = .ok (.aload_n 1, 1) := by decide +kernel
theorem dL_law_341 : decode cL_law 341 = .ok (.aload_n 0, 1) := by decide +kernel
theorem dL_law_342 : decode cL_law 342 = .ok (.iload_n 3, 1) := by decide +kernel
theorem dL_law_343 : decode cL_law 343 = .ok (.iconst 1, 1) := by decide +kernel
theorem dL_law_344 : decode cL_law 344 = .ok (.iadd, 1) := by decide +kernel
theorem dL_law_345 : decode cL_law 345 = .ok (.iaload, 1) := by decide +kernel
theorem dL_law_346 : decode cL_law 346 = .ok (.aload_n 0, 1) := by decide +kernel
theorem dL_law_347 : decode cL_law 347 = .ok (.iload_n 3, 1) := by decide +kernel
theorem dL_law_348 : decode cL_law 348 = .ok (.iconst 2, 1) := by decide +kernel
theorem dL_law_349 : decode cL_law 349 = .ok (.iadd, 1) := by decide +kernel
theorem dL_law_350 : decode cL_law 350 = .ok (.iaload, 1) := by decide +kernel
theorem dL_law_351 : decode cL_law 351 = .ok (.invokevirtual 30, 3) := by decide +kernel
theorem dL_law_354 : decode cL_law 354 = .ok (.aload_n 2, 1) := by decide +kernel
theorem dL_law_355 : decode cL_law 355 = .ok (.aload_n 0, 1) := by decide +kernel
theorem dL_law_356 : decode cL_law 356 = .ok (.iload_n 3, 1) := by decide +kernel
theorem dL_law_357 : decode cL_law 357 = .ok (.iconst 1, 1) := by decide +kernel
theorem dL_law_358 : decode cL_law 358 = .ok (.iadd, 1) := by decide +kernel
theorem dL_law_359 : decode cL_law 359 = .ok (.iaload, 1) := by decide +kernel
theorem dL_law_360 : decode cL_law 360 = .ok (.aload_n 0, 1) := by decide +kernel
theorem dL_law_361 : decode cL_law 361 = .ok (.iload_n 3, 1) := by decide +kernel
theorem dL_law_362 : decode cL_law 362 = .ok (.iconst 2, 1) := by decide +kernel
theorem dL_law_363 : decode cL_law 363 = .ok (.iadd, 1) := by decide +kernel
theorem dL_law_364 : decode cL_law 364 = .ok (.iaload, 1) := by decide +kernel
theorem dL_law_365 : decode cL_law 365 = .ok (.invokevirtual 33, 3) := by decide +kernel
theorem dL_law_368 : decode cL_law 368 = .ok (.if_icmp .eq 865, 3) := by decide +kernel
theorem dL_law_371 : decode cL_law 371 = .ok (.iconst 0, 1) := by decide +kernel
theorem dL_law_372 : decode cL_law 372 = .ok (.ireturn, 1) := by decide +kernel
theorem dL_law_373 : decode cL_law 373 = .ok (.aload_n 1, 1) := by decide +kernel
theorem dL_law_374 : decode cL_law 374 = .ok (.aload_n 0, 1) := by decide +kernel
theorem dL_law_375 : decode cL_law 375 = .ok (.iload_n 3, 1) := by decide +kernel
theorem dL_law_376 : decode cL_law 376 = .ok (.iconst 1, 1) := by decide +kernel
theorem dL_law_377 : decode cL_law 377 = .ok (.iadd, 1) := by decide +kernel
theorem dL_law_378 : decode cL_law 378 = .ok (.iaload, 1) := by decide +kernel
theorem dL_law_379 : decode cL_law 379 = .ok (.aload_n 0, 1) := by decide +kernel
theorem dL_law_380 : decode cL_law 380 = .ok (.iload_n 3, 1) := by decide +kernel
theorem dL_law_381 : decode cL_law 381 = .ok (.iconst 2, 1) := by decide +kernel
theorem dL_law_382 : decode cL_law 382 = .ok (.iadd, 1) := by decide +kernel
theorem dL_law_383 : decode cL_law 383 = .ok (.iaload, 1) := by decide +kernel
theorem dL_law_384 : decode cL_law 384 = .ok (.aload_n 0, 1) := by decide +kernel
theorem dL_law_385 : decode cL_law 385 = .ok (.iload_n 3, 1) := by decide +kernel
theorem dL_law_386 : decode cL_law 386 = .ok (.iconst 3, 1) := by decide +kernel
theorem dL_law_387 : decode cL_law 387 = .ok (.iadd, 1) := by decide +kernel
theorem dL_law_388 : decode cL_law 388 = .ok (.iaload, 1) := by decide +kernel
theorem dL_law_389 : decode cL_law 389 = .ok (.aload_n 0, 1) := by decide +kernel
theorem dL_law_390 : decode cL_law 390 = .ok (.iload_n 3, 1) := by decide +kernel
theorem dL_law_391 : decode cL_law 391 = .ok (.iconst 4, 1) := by decide +kernel
theorem dL_law_392 : decode cL_law 392 = .ok (.iadd, 1) := by decide +kernel
theorem dL_law_393 : decode cL_law 393 = .ok (.iaload, 1) := by decide +kernel
theorem dL_law_394 : decode cL_law 394 = .ok (.aload_n 0, 1) := by decide +kernel
theorem dL_law_395 : decode cL_law 395 = .ok (.iload_n 3, 1) := by decide +kernel
theorem dL_law_396 : decode cL_law 396 = .ok (.iconst 5, 1) := by decide +kernel
theorem dL_law_397 : decode cL_law 397 = .ok (.iadd, 1) := by decide +kernel
theorem dL_law_398 : decode cL_law 398 = .ok (.iaload, 1) := by decide +kernel
theorem dL_law_399 : decode cL_law 399 = .ok (.invokevirtual 34, 3) := by decide +kernel
theorem dL_law_402 : decode cL_law 402 = .ok (.aload_n 2, 1) := by decide +kernel
theorem dL_law_403 : decode cL_law 403 = .ok (.aload_n 0, 1) := by decide +kernel
theorem dL_law_404 : decode cL_law 404 = .ok (.iload_n 3, 1) := by decide +kernel
theorem dL_law_405 : decode cL_law 405 = .ok (.iconst 1, 1) := by decide +kernel
theorem dL_law_406 : decode cL_law 406 = .ok (.iadd, 1) := by decide +kernel
theorem dL_law_407 : decode cL_law 407 = .ok (.iaload, 1) := by decide +kernel
theorem dL_law_408 : decode cL_law 408 = .ok (.aload_n 0, 1) := by decide +kernel
theorem dL_law_409 : decode cL_law 409 = .ok (.iload_n 3, 1) := by decide +kernel
theorem dL_law_410 : decode cL_law 410 = .ok (.iconst 2, 1) := by decide +kernel
theorem dL_law_411 : decode cL_law 411 = .ok (.iadd, 1) := by decide +kernel
theorem dL_law_412 : decode cL_law 412 = .ok (.iaload, 1) := by decide +kernel
theorem dL_law_413 : decode cL_law 413 = .ok (.aload_n 0, 1) := by decide +kernel
theorem dL_law_414 : decode cL_law 414 = .ok (.iload_n 3, 1) := by decide +kernel
theorem dL_law_415 : decode cL_law 415 = .ok (.iconst 3, 1) := by decide +kernel
theorem dL_law_416 : decode cL_law 416 = .ok (.iadd, 1) := by decide +kernel
theorem dL_law_417 : decode cL_law 417 = .ok (.iaload, 1) := by decide +kernel
theorem dL_law_418 : decode cL_law 418 = .ok (.aload_n 0, 1) := by decide +kernel
theorem dL_law_419 : decode cL_law 419 = .ok (.iload_n 3, 1) := by decide +kernel
theorem dL_law_420 : decode cL_law 420 = .ok (.iconst 4, 1) := by decide +kernel
theorem dL_law_421 : decode cL_law 421 = .ok (.iadd, 1) := by decide +kernel
theorem dL_law_422 : decode cL_law 422 = .ok (.iaload, 1) := by decide +kernel
theorem dL_law_423 : decode cL_law 423 = .ok (.aload_n 0, 1) := by decide +kernel
theorem dL_law_424 : decode cL_law 424 = .ok (.iload_n 3, 1) := by decide +kernel
theorem dL_law_425 : decode cL_law 425 = .ok (.iconst 5, 1) := by decide +kernel
theorem dL_law_426 : decode cL_law 426 = .ok (.iadd, 1) := by decide +kernel
theorem dL_law_427 : decode cL_law 427 = .ok (.iaload, 1) := by decide +kernel
theorem dL_law_428 : decode cL_law 428 = .ok (.invokevirtual 38, 3) := by decide +kernel
theorem dL_law_431 : decode cL_law 431 = .ok (.if_icmp .eq 802, 3) := by decide +kernel
theorem dL_law_434 : decode cL_law 434 = .ok (.iconst 0, 1) := by decide +kernel
theorem dL_law_435 : decode cL_law 435 = .ok (.ireturn, 1) := by decide +kernel
theorem dL_law_436 : decode cL_law 436 = .ok (.aload_n 1, 1) := by decide +kernel
theorem dL_law_437 : decode cL_law 437 = .ok (.aload_n 0, 1) := by decide +kernel
theorem dL_law_438 : decode cL_law 438 = .ok (.iload_n 3, 1) := by decide +kernel
theorem dL_law_439 : decode cL_law 439 = .ok (.iconst 1, 1) := by decide +kernel
theorem dL_law_440 : decode cL_law 440 = .ok (.iadd, 1) := by decide +kernel
theorem dL_law_441 : decode cL_law 441 = .ok (.iaload, 1) := by decide +kernel
theorem dL_law_442 : decode cL_law 442 = .ok (.invokevirtual 39, 3) := by decide +kernel
theorem dL_law_445 : decode cL_law 445 = .ok (.aload_n 2, 1) := by decide +kernel
theorem dL_law_446 : decode cL_law 446 = .ok (.aload_n 0, 1) := by decide +kernel
theorem dL_law_447 : decode cL_law 447 = .ok (.iload_n 3, 1) := by decide +kernel
theorem dL_law_448 : decode cL_law 448 = .ok (.iconst 1, 1) := by decide +kernel
theorem dL_law_449 : decode cL_law 449 = .ok (.iadd, 1) := by decide +kernel
theorem dL_law_450 : decode cL_law 450 = .ok (.iaload, 1) := by decide +kernel
theorem dL_law_451 : decode cL_law 451 = .ok (.invokevirtual 43, 3) := by decide +kernel
theorem dL_law_454 : decode cL_law 454 = .ok (.if_icmp .eq 779, 3) := by decide +kernel
theorem dL_law_457 : decode cL_law 457 = .ok (.iconst 0, 1) := by decide +kernel
theorem dL_law_458 : decode cL_law 458 = .ok (.ireturn, 1) := by decide +kernel
theorem dL_law_459 : decode cL_law 459 = .ok (.aload_n 1, 1) := by decide +kernel
theorem dL_law_460 : decode cL_law 460 = .ok (.invokevirtual 44, 3) := by decide +kernel
theorem dL_law_463 : decode cL_law 463 = .ok (.aload_n 2, 1) := by decide +kernel
theorem dL_law_464 : decode cL_law 464 = .ok (.invokevirtual 48, 3) := by decide +kernel
theorem dL_law_467 : decode cL_law 467 = .ok (.if_icmp .eq 766, 3) := by decide +kernel
theorem dL_law_470 : decode cL_law 470 = .ok (.iconst 0, 1) := by decide +kernel
theorem dL_law_471 : decode cL_law 471 = .ok (.ireturn, 1) := by decide +kernel
theorem dL_law_472 : decode cL_law 472 = .ok (.aload_n 1, 1) := by decide +kernel
theorem dL_law_473 : decode cL_law 473 = .ok (.invokevirtual 49, 3) := by decide +kernel
theorem dL_law_476 : decode cL_law 476 = .ok (.aload_n 2, 1) := by decide +kernel
theorem dL_law_477 : decode cL_law 477 = .ok (.invokevirtual 52, 3) := by decide +kernel
theorem dL_law_480 : decode cL_law 480 = .ok (.if_icmp .eq 753, 3) := by decide +kernel
theorem dL_law_483 : decode cL_law 483 = .ok (.iconst 0, 1) := by decide +kernel
theorem dL_law_484 : decode cL_law 484 = .ok (.ireturn, 1) := by decide +kernel
theorem dL_law_485 : decode cL_law 485 = .ok (.aload_n 1, 1) := by decide +kernel
theorem dL_law_486 : decode cL_law 486 = .ok (.invokevirtual 53, 3) := by decide +kernel
theorem dL_law_489 : decode cL_law 489 = .ok (.aload_n 2, 1) := by decide +kernel
theorem dL_law_490 : decode cL_law 490 = .ok (.invokevirtual 56, 3) := by decide +kernel
theorem dL_law_493 : decode cL_law 493 = .ok (.if_icmp .eq 740, 3) := by decide +kernel
theorem dL_law_496 : decode cL_law 496 = .ok (.iconst 0, 1) := by decide +kernel
theorem dL_law_497 : decode cL_law 497 = .ok (.ireturn, 1) := by decide +kernel
theorem dL_law_498 : decode cL_law 498 = .ok (.aload_n 1, 1) := by decide +kernel
theorem dL_law_499 : decode cL_law 499 = .ok (.invokevirtual 57, 3) := by decide +kernel
theorem dL_law_502 : decode cL_law 502 = .ok (.aload_n 2, 1) := by decide +kernel
theorem dL_law_503 : decode cL_law 503 = .ok (.invokevirtual 60, 3) := by decide +kernel
theorem dL_law_506 : decode cL_law 506 = .ok (.if_icmp .eq 727, 3) := by decide +kernel
theorem dL_law_509 : decode cL_law 509 = .ok (.iconst 0, 1) := by decide +kernel
theorem dL_law_510 : decode cL_law 510 = .ok (.ireturn, 1) := by decide +kernel
theorem dL_law_511 : decode cL_law 511 = .ok (.aload_n 1, 1) := by decide +kernel
theorem dL_law_512 : decode cL_law 512 = .ok (.invokevirtual 61, 3) := by decide +kernel
theorem dL_law_515 : decode cL_law 515 = .ok (.aload_n 2, 1) := by decide +kernel
theorem dL_law_516 : decode cL_law 516 = .ok (.invokevirtual 64, 3) := by decide +kernel
theorem dL_law_519 : decode cL_law 519 = .ok (.if_icmp .eq 714, 3) := by decide +kernel
theorem dL_law_522 : decode cL_law 522 = .ok (.iconst 0, 1) := by decide +kernel
theorem dL_law_523 : decode cL_law 523 = .ok (.ireturn, 1) := by decide +kernel
theorem dL_law_524 : decode cL_law 524 = .ok (.aload_n 1, 1) := by decide +kernel
theorem dL_law_525 : decode cL_law 525 = .ok (.invokevirtual 65, 3) := by decide +kernel
theorem dL_law_528 : decode cL_law 528 = .ok (.aload_n 2, 1) := by decide +kernel
theorem dL_law_529 : decode cL_law 529 = .ok (.invokevirtual 68, 3) := by decide +kernel
theorem dL_law_532 : decode cL_law 532 = .ok (.if_icmp .eq 701, 3) := by decide +kernel
theorem dL_law_535 : decode cL_law 535 = .ok (.iconst 0, 1) := by decide +kernel
theorem dL_law_536 : decode cL_law 536 = .ok (.ireturn, 1) := by decide +kernel
theorem dL_law_537 : decode cL_law 537 = .ok (.aload_n 1, 1) := by decide +kernel
theorem dL_law_538 : decode cL_law 538 = .ok (.aload_n 0, 1) := by decide +kernel
theorem dL_law_539 : decode cL_law 539 = .ok (.iload_n 3, 1) := by decide +kernel
theorem dL_law_540 : decode cL_law 540 = .ok (.iconst 1, 1) := by decide +kernel
theorem dL_law_541 : decode cL_law 541 = .ok (.iadd, 1) := by decide +kernel
theorem dL_law_542 : decode cL_law 542 = .ok (.iaload, 1) := by decide +kernel
theorem dL_law_543 : decode cL_law 543 = .ok (.invokevirtual 69, 3) := by decide +kernel
theorem dL_law_546 : decode cL_law 546 = .ok (.aload_n 2, 1) := by decide +kernel
theorem dL_law_547 : decode cL_law 547 = .ok (.aload_n 0, 1) := by decide +kernel
theorem dL_law_548 : decode cL_law 548 = .ok (.iload_n 3, 1) := by decide +kernel
theorem dL_law_549 : decode cL_law 549 = .ok (.iconst 1, 1) := by decide +kernel
theorem dL_law_550 : decode cL_law 550 = .ok (.iadd, 1) := by decide +kernel
theorem dL_law_551 : decode cL_law 551 = .ok (.iaload, 1) := by decide +kernel
theorem dL_law_552 : decode cL_law 552 = .ok (.invokevirtual 72, 3) := by decide +kernel
theorem dL_law_555 : decode cL_law 555 = .ok (.if_icmp .eq 678, 3) := by decide +kernel
theorem dL_law_558 : decode cL_law 558 = .ok (.iconst 0, 1) := by decide +kernel
theorem dL_law_559 : decode cL_law 559 = .ok (.ireturn, 1) := by decide +kernel
theorem dL_law_560 : decode cL_law 560 = .ok (.aload_n 1, 1) := by decide +kernel
theorem dL_law_561 : decode cL_law 561 = .ok (.aload_n 0, 1) := by decide +kernel
theorem dL_law_562 : decode cL_law 562 = .ok (.iload_n 3, 1) := by decide +kernel
theorem dL_law_563 : decode cL_law 563 = .ok (.iconst 1, 1) := by decide +kernel
theorem dL_law_564 : decode cL_law 564 = .ok (.iadd, 1) := by decide +kernel
theorem dL_law_565 : decode cL_law 565 = .ok (.iaload, 1) := by decide +kernel
theorem dL_law_566 : decode cL_law 566 = .ok (.aload_n 0, 1) := by decide +kernel
theorem dL_law_567 : decode cL_law 567 = .ok (.iload_n 3, 1) := by decide +kernel
theorem dL_law_568 : decode cL_law 568 = .ok (.iconst 2, 1) := by decide +kernel
theorem dL_law_569 : decode cL_law 569 = .ok (.iadd, 1) := by decide +kernel
theorem dL_law_570 : decode cL_law 570 = .ok (.iaload, 1) := by decide +kernel
theorem dL_law_571 : decode cL_law 571 = .ok (.invokevirtual 73, 3) := by decide +kernel
theorem dL_law_574 : decode cL_law 574 = .ok (.aload_n 2, 1) := by decide +kernel
theorem dL_law_575 : decode cL_law 575 = .ok (.aload_n 0, 1) := by decide +kernel
theorem dL_law_576 : decode cL_law 576 = .ok (.iload_n 3, 1) := by decide +kernel
theorem dL_law_577 : decode cL_law 577 = .ok (.iconst 1, 1) := by decide +kernel
theorem dL_law_578 : decode cL_law 578 = .ok (.iadd, 1) := by decide +kernel
theorem dL_law_579 : decode cL_law 579 = .ok (.iaload, 1) := by decide +kernel
theorem dL_law_580 : decode cL_law 580 = .ok (.aload_n 0, 1) := by decide +kernel
theorem dL_law_581 : decode cL_law 581 = .ok (.iload_n 3, 1) := by decide +kernel
theorem dL_law_582 : decode cL_law 582 = .ok (.iconst 2, 1) := by decide +kernel
theorem dL_law_583 : decode cL_law 583 = .ok (.iadd, 1) := by decide +kernel
theorem dL_law_584 : decode cL_law 584 = .ok (.iaload, 1) := by decide +kernel
theorem dL_law_585 : decode cL_law 585 = .ok (.invokevirtual 76, 3) := by decide +kernel
theorem dL_law_588 : decode cL_law 588 = .ok (.if_icmp .eq 645, 3) := by decide +kernel
theorem dL_law_591 : decode cL_law 591 = .ok (.iconst 0, 1) := by decide +kernel
theorem dL_law_592 : decode cL_law 592 = .ok (.ireturn, 1) := by decide +kernel
theorem dL_law_593 : decode cL_law 593 = .ok (.aload_n 1, 1) := by decide +kernel
theorem dL_law_594 : decode cL_law 594 = .ok (.aload_n 0, 1) := by decide +kernel
theorem dL_law_595 : decode cL_law 595 = .ok (.iload_n 3, 1) := by decide +kernel
theorem dL_law_596 : decode cL_law 596 = .ok (.iconst 1, 1) := by decide +kernel
theorem dL_law_597 : decode cL_law 597 = .ok (.iadd, 1) := by decide +kernel
theorem dL_law_598 : decode cL_law 598 = .ok (.iaload, 1) := by decide +kernel
theorem dL_law_599 : decode cL_law 599 = .ok (.invokevirtual 77, 3) := by decide +kernel
theorem dL_law_602 : decode cL_law 602 = .ok (.aload_n 2, 1) := by decide +kernel
theorem dL_law_603 : decode cL_law 603 = .ok (.aload_n 0, 1) := by decide +kernel
theorem dL_law_604 : decode cL_law 604 = .ok (.iload_n 3, 1) := by decide +kernel
theorem dL_law_605 : decode cL_law 605 = .ok (.iconst 1, 1) := by decide +kernel
theorem dL_law_606 : decode cL_law 606 = .ok (.iadd, 1) := by decide +kernel
theorem dL_law_607 : decode cL_law 607 = .ok (.iaload, 1) := by decide +kernel
theorem dL_law_608 : decode cL_law 608 = .ok (.invokevirtual 80, 3) := by decide +kernel
theorem dL_law_611 : decode cL_law 611 = .ok (.if_icmp .eq 622, 3) := by decide +kernel
theorem dL_law_614 : decode cL_law 614 = .ok (.iconst 0, 1) := by decide +kernel
theorem dL_law_615 : decode cL_law 615 = .ok (.ireturn, 1) := by decide +kernel
theorem dL_law_616 : decode cL_law 616 = .ok (.aload_n 1, 1) := by decide +kernel
theorem dL_law_617 : decode cL_law 617 = .ok (.aload_n 0, 1) := by decide +kernel
theorem dL_law_618 : decode cL_law 618 = .ok (.iload_n 3, 1) := by decide +kernel
theorem dL_law_619 : decode cL_law 619 = .ok (.iconst 1, 1) := by decide +kernel
theorem dL_law_620 : decode cL_law 620 = .ok (.iadd, 1) := by decide +kernel
theorem dL_law_621 : decode cL_law 621 = .ok (.iaload, 1) := by decide +kernel
theorem dL_law_622 : decode cL_law 622 = .ok (.invokevirtual 81, 3) := by decide +kernel
theorem dL_law_625 : decode cL_law 625 = .ok (.aload_n 2, 1) := by decide +kernel
theorem dL_law_626 : decode cL_law 626 = .ok (.aload_n 0, 1) := by decide +kernel
theorem dL_law_627 : decode cL_law 627 = .ok (.iload_n 3, 1) := by decide +kernel
theorem dL_law_628 : decode cL_law 628 = .ok (.iconst 1, 1) := by decide +kernel
theorem dL_law_629 : decode cL_law 629 = .ok (.iadd, 1) := by decide +kernel
theorem dL_law_630 : decode cL_law 630 = .ok (.iaload, 1) := by decide +kernel
theorem dL_law_631 : decode cL_law 631 = .ok (.invokevirtual 84, 3) := by decide +kernel
theorem dL_law_634 : decode cL_law 634 = .ok (.if_icmp .eq 599, 3) := by decide +kernel
theorem dL_law_637 : decode cL_law 637 = .ok (.iconst 0, 1) := by decide +kernel
theorem dL_law_638 : decode cL_law 638 = .ok (.ireturn, 1) := by decide +kernel
theorem dL_law_639 : decode cL_law 639 = .ok (.aload_n 1, 1) := by decide +kernel
theorem dL_law_640 : decode cL_law 640 = .ok (.invokevirtual 85, 3) := by decide +kernel
theorem dL_law_643 : decode cL_law 643 = .ok (.aload_n 2, 1) := by decide +kernel
theorem dL_law_644 : decode cL_law 644 = .ok (.invokevirtual 88, 3) := by decide +kernel
theorem dL_law_647 : decode cL_law 647 = .ok (.if_icmp .eq 586, 3) := by decide +kernel
theorem dL_law_650 : decode cL_law 650 = .ok (.iconst 0, 1) := by decide +kernel
theorem dL_law_651 : decode cL_law 651 = .ok (.ireturn, 1) := by decide +kernel
theorem dL_law_652 : decode cL_law 652 = .ok (.aload_n 1, 1) := by decide +kernel
theorem dL_law_653 : decode cL_law 653 = .ok (.invokevirtual 89, 3) := by decide +kernel
theorem dL_law_656 : decode cL_law 656 = .ok (.aload_n 2, 1) := by decide +kernel
theorem dL_law_657 : decode cL_law 657 = .ok (.invokevirtual 92, 3) := by decide +kernel
theorem dL_law_660 : decode cL_law 660 = .ok (.if_icmp .eq 573, 3) := by decide +kernel
theorem dL_law_663 : decode cL_law 663 = .ok (.iconst 0, 1) := by decide +kernel
theorem dL_law_664 : decode cL_law 664 = .ok (.ireturn, 1) := by decide +kernel
theorem dL_law_665 : decode cL_law 665 = .ok (.aload_n 1, 1) := by decide +kernel
theorem dL_law_666 : decode cL_law 666 = .ok (.aload_n 0, 1) := by decide +kernel
theorem dL_law_667 : decode cL_law 667 = .ok (.iload_n 3, 1) := by decide +kernel
theorem dL_law_668 : decode cL_law 668 = .ok (.iconst 1, 1) := by decide +kernel
theorem dL_law_669 : decode cL_law 669 = .ok (.iadd, 1) := by decide +kernel
theorem dL_law_670 : decode cL_law 670 = .ok (.iaload, 1) := by decide +kernel
theorem dL_law_671 : decode cL_law 671 = .ok (.aload_n 0, 1) := by decide +kernel
theorem dL_law_672 : decode cL_law 672 = .ok (.iload_n 3, 1) := by decide +kernel
theorem dL_law_673 : decode cL_law 673 = .ok (.iconst 2, 1) := by decide +kernel
theorem dL_law_674 : decode cL_law 674 = .ok (.iadd, 1) := by decide +kernel
theorem dL_law_675 : decode cL_law 675 = .ok (.iaload, 1) := by decide +kernel
theorem dL_law_676 : decode cL_law 676 = .ok (.invokevirtual 93, 3) := by decide +kernel
theorem dL_law_679 : decode cL_law 679 = .ok (.aload_n 2, 1) := by decide +kernel
theorem dL_law_680 : decode cL_law 680 = .ok (.aload_n 0, 1) := by decide +kernel
theorem dL_law_681 : decode cL_law 681 = .ok (.iload_n 3, 1) := by decide +kernel
theorem dL_law_682 : decode cL_law 682 = .ok (.iconst 1, 1) := by decide +kernel
theorem dL_law_683 : decode cL_law 683 = .ok (.iadd, 1) := by decide +kernel
theorem dL_law_684 : decode cL_law 684 = .ok (.iaload, 1) := by decide +kernel
theorem dL_law_685 : decode cL_law 685 = .ok (.aload_n 0, 1) := by decide +kernel
theorem dL_law_686 : decode cL_law 686 = .ok (.iload_n 3, 1) := by decide +kernel
theorem dL_law_687 : decode cL_law 687 = .ok (.iconst 2, 1) := by decide +kernel
theorem dL_law_688 : decode cL_law 688 = .ok (.iadd, 1) := by decide +kernel
theorem dL_law_689 : decode cL_law 689 = .ok (.iaload, 1) := by decide +kernel
theorem dL_law_690 : decode cL_law 690 = .ok (.invokevirtual 97, 3) := by decide +kernel
theorem dL_law_693 : decode cL_law 693 = .ok (.lcmp, 1) := by decide +kernel
theorem dL_law_694 : decode cL_law 694 = .ok (.ifCond .eq 539, 3) := by decide +kernel
theorem dL_law_697 : decode cL_law 697 = .ok (.iconst 0, 1) := by decide +kernel
theorem dL_law_698 : decode cL_law 698 = .ok (.ireturn, 1) := by decide +kernel
theorem dL_law_699 : decode cL_law 699 = .ok (.aload_n 1, 1) := by decide +kernel
theorem dL_law_700 : decode cL_law 700 = .ok (.aload_n 0, 1) := by decide +kernel
theorem dL_law_701 : decode cL_law 701 = .ok (.iload_n 3, 1) := by decide +kernel
theorem dL_law_702 : decode cL_law 702 = .ok (.iconst 1, 1) := by decide +kernel
theorem dL_law_703 : decode cL_law 703 = .ok (.iadd, 1) := by decide +kernel
theorem dL_law_704 : decode cL_law 704 = .ok (.iaload, 1) := by decide +kernel
theorem dL_law_705 : decode cL_law 705 = .ok (.aload_n 0, 1) := by decide +kernel
theorem dL_law_706 : decode cL_law 706 = .ok (.iload_n 3, 1) := by decide +kernel
theorem dL_law_707 : decode cL_law 707 = .ok (.iconst 2, 1) := by decide +kernel
theorem dL_law_708 : decode cL_law 708 = .ok (.iadd, 1) := by decide +kernel
theorem dL_law_709 : decode cL_law 709 = .ok (.iaload, 1) := by decide +kernel
theorem dL_law_710 : decode cL_law 710 = .ok (.invokevirtual 98, 3) := by decide +kernel
theorem dL_law_713 : decode cL_law 713 = .ok (.aload_n 2, 1) := by decide +kernel
theorem dL_law_714 : decode cL_law 714 = .ok (.aload_n 0, 1) := by decide +kernel
theorem dL_law_715 : decode cL_law 715 = .ok (.iload_n 3, 1) := by decide +kernel
theorem dL_law_716 : decode cL_law 716 = .ok (.iconst 1, 1) := by decide +kernel
theorem dL_law_717 : decode cL_law 717 = .ok (.iadd, 1) := by decide +kernel
theorem dL_law_718 : decode cL_law 718 = .ok (.iaload, 1) := by decide +kernel
theorem dL_law_719 : decode cL_law 719 = .ok (.aload_n 0, 1) := by decide +kernel
theorem dL_law_720 : decode cL_law 720 = .ok (.iload_n 3, 1) := by decide +kernel
theorem dL_law_721 : decode cL_law 721 = .ok (.iconst 2, 1) := by decide +kernel
theorem dL_law_722 : decode cL_law 722 = .ok (.iadd, 1) := by decide +kernel
theorem dL_law_723 : decode cL_law 723 = .ok (.iaload, 1) := by decide +kernel
theorem dL_law_724 : decode cL_law 724 = .ok (.invokevirtual 101, 3) := by decide +kernel
theorem dL_law_727 : decode cL_law 727 = .ok (.if_icmp .eq 506, 3) := by decide +kernel
theorem dL_law_730 : decode cL_law 730 = .ok (.iconst 0, 1) := by decide +kernel
theorem dL_law_731 : decode cL_law 731 = .ok (.ireturn, 1) := by decide +kernel
theorem dL_law_732 : decode cL_law 732 = .ok (.aload_n 1, 1) := by decide +kernel
theorem dL_law_733 : decode cL_law 733 = .ok (.aload_n 0, 1) := by decide +kernel
theorem dL_law_734 : decode cL_law 734 = .ok (.iload_n 3, 1) := by decide +kernel
theorem dL_law_735 : decode cL_law 735 = .ok (.iconst 1, 1) := by decide +kernel
theorem dL_law_736 : decode cL_law 736 = .ok (.iadd, 1) := by decide +kernel
theorem dL_law_737 : decode cL_law 737 = .ok (.iaload, 1) := by decide +kernel
theorem dL_law_738 : decode cL_law 738 = .ok (.aload_n 0, 1) := by decide +kernel
theorem dL_law_739 : decode cL_law 739 = .ok (.iload_n 3, 1) := by decide +kernel
theorem dL_law_740 : decode cL_law 740 = .ok (.iconst 2, 1) := by decide +kernel
theorem dL_law_741 : decode cL_law 741 = .ok (.iadd, 1) := by decide +kernel
theorem dL_law_742 : decode cL_law 742 = .ok (.iaload, 1) := by decide +kernel
theorem dL_law_743 : decode cL_law 743 = .ok (.invokevirtual 102, 3) := by decide +kernel
theorem dL_law_746 : decode cL_law 746 = .ok (.aload_n 2, 1) := by decide +kernel
theorem dL_law_747 : decode cL_law 747 = .ok (.aload_n 0, 1) := by decide +kernel
theorem dL_law_748 : decode cL_law 748 = .ok (.iload_n 3, 1) := by decide +kernel
theorem dL_law_749 : decode cL_law 749 = .ok (.iconst 1, 1) := by decide +kernel
theorem dL_law_750 : decode cL_law 750 = .ok (.iadd, 1) := by decide +kernel
theorem dL_law_751 : decode cL_law 751 = .ok (.iaload, 1) := by decide +kernel
theorem dL_law_752 : decode cL_law 752 = .ok (.aload_n 0, 1) := by decide +kernel
theorem dL_law_753 : decode cL_law 753 = .ok (.iload_n 3, 1) := by decide +kernel
theorem dL_law_754 : decode cL_law 754 = .ok (.iconst 2, 1) := by decide +kernel
theorem dL_law_755 : decode cL_law 755 = .ok (.iadd, 1) := by decide +kernel
theorem dL_law_756 : decode cL_law 756 = .ok (.iaload, 1) := by decide +kernel
theorem dL_law_757 : decode cL_law 757 = .ok (.invokevirtual 105, 3) := by decide +kernel
theorem dL_law_760 : decode cL_law 760 = .ok (.lcmp, 1) := by decide +kernel
theorem dL_law_761 : decode cL_law 761 = .ok (.ifCond .eq 472, 3) := by decide +kernel
theorem dL_law_764 : decode cL_law 764 = .ok (.iconst 0, 1) := by decide +kernel
theorem dL_law_765 : decode cL_law 765 = .ok (.ireturn, 1) := by decide +kernel
theorem dL_law_766 : decode cL_law 766 = .ok (.aload_n 1, 1) := by decide +kernel
theorem dL_law_767 : decode cL_law 767 = .ok (.aload_n 0, 1) := by decide +kernel
theorem dL_law_768 : decode cL_law 768 = .ok (.iload_n 3, 1) := by decide +kernel
theorem dL_law_769 : decode cL_law 769 = .ok (.iconst 1, 1) := by decide +kernel
theorem dL_law_770 : decode cL_law 770 = .ok (.iadd, 1) := by decide +kernel
theorem dL_law_771 : decode cL_law 771 = .ok (.iaload, 1) := by decide +kernel
theorem dL_law_772 : decode cL_law 772 = .ok (.aload_n 0, 1) := by decide +kernel
theorem dL_law_773 : decode cL_law 773 = .ok (.iload_n 3, 1) := by decide +kernel
theorem dL_law_774 : decode cL_law 774 = .ok (.iconst 2, 1) := by decide +kernel
theorem dL_law_775 : decode cL_law 775 = .ok (.iadd, 1) := by decide +kernel
theorem dL_law_776 : decode cL_law 776 = .ok (.iaload, 1) := by decide +kernel
theorem dL_law_777 : decode cL_law 777 = .ok (.invokevirtual 106, 3) := by decide +kernel
theorem dL_law_780 : decode cL_law 780 = .ok (.aload_n 2, 1) := by decide +kernel
theorem dL_law_781 : decode cL_law 781 = .ok (.aload_n 0, 1) := by decide +kernel
theorem dL_law_782 : decode cL_law 782 = .ok (.iload_n 3, 1) := by decide +kernel
theorem dL_law_783 : decode cL_law 783 = .ok (.iconst 1, 1) := by decide +kernel
theorem dL_law_784 : decode cL_law 784 = .ok (.iadd, 1) := by decide +kernel
theorem dL_law_785 : decode cL_law 785 = .ok (.iaload, 1) := by decide +kernel
theorem dL_law_786 : decode cL_law 786 = .ok (.aload_n 0, 1) := by decide +kernel
theorem dL_law_787 : decode cL_law 787 = .ok (.iload_n 3, 1) := by decide +kernel
theorem dL_law_788 : decode cL_law 788 = .ok (.iconst 2, 1) := by decide +kernel
theorem dL_law_789 : decode cL_law 789 = .ok (.iadd, 1) := by decide +kernel
theorem dL_law_790 : decode cL_law 790 = .ok (.iaload, 1) := by decide +kernel
theorem dL_law_791 : decode cL_law 791 = .ok (.invokevirtual 109, 3) := by decide +kernel
theorem dL_law_794 : decode cL_law 794 = .ok (.lcmp, 1) := by decide +kernel
theorem dL_law_795 : decode cL_law 795 = .ok (.ifCond .eq 438, 3) := by decide +kernel
theorem dL_law_798 : decode cL_law 798 = .ok (.iconst 0, 1) := by decide +kernel
theorem dL_law_799 : decode cL_law 799 = .ok (.ireturn, 1) := by decide +kernel
theorem dL_law_800 : decode cL_law 800 = .ok (.aload_n 1, 1) := by decide +kernel
theorem dL_law_801 : decode cL_law 801 = .ok (.aload_n 0, 1) := by decide +kernel
theorem dL_law_802 : decode cL_law 802 = .ok (.iload_n 3, 1) := by decide +kernel
theorem dL_law_803 : decode cL_law 803 = .ok (.iconst 1, 1) := by decide +kernel
theorem dL_law_804 : decode cL_law 804 = .ok (.iadd, 1) := by decide +kernel
theorem dL_law_805 : decode cL_law 805 = .ok (.iaload, 1) := by decide +kernel
theorem dL_law_806 : decode cL_law 806 = .ok (.aload_n 0, 1) := by decide +kernel
theorem dL_law_807 : decode cL_law 807 = .ok (.iload_n 3, 1) := by decide +kernel
theorem dL_law_808 : decode cL_law 808 = .ok (.iconst 2, 1) := by decide +kernel
theorem dL_law_809 : decode cL_law 809 = .ok (.iadd, 1) := by decide +kernel
theorem dL_law_810 : decode cL_law 810 = .ok (.iaload, 1) := by decide +kernel
theorem dL_law_811 : decode cL_law 811 = .ok (.aload_n 0, 1) := by decide +kernel
theorem dL_law_812 : decode cL_law 812 = .ok (.iload_n 3, 1) := by decide +kernel
theorem dL_law_813 : decode cL_law 813 = .ok (.iconst 3, 1) := by decide +kernel
theorem dL_law_814 : decode cL_law 814 = .ok (.iadd, 1) := by decide +kernel
theorem dL_law_815 : decode cL_law 815 = .ok (.iaload, 1) := by decide +kernel
theorem dL_law_816 : decode cL_law 816 = .ok (.invokevirtual 110, 3) := by decide +kernel
theorem dL_law_819 : decode cL_law 819 = .ok (.aload_n 2, 1) := by decide +kernel
theorem dL_law_820 : decode cL_law 820 = .ok (.aload_n 0, 1) := by decide +kernel
theorem dL_law_821 : decode cL_law 821 = .ok (.iload_n 3, 1) := by decide +kernel
theorem dL_law_822 : decode cL_law 822 = .ok (.iconst 1, 1) := by decide +kernel
theorem dL_law_823 : decode cL_law 823 = .ok (.iadd, 1) := by decide +kernel
theorem dL_law_824 : decode cL_law 824 = .ok (.iaload, 1) := by decide +kernel
theorem dL_law_825 : decode cL_law 825 = .ok (.aload_n 0, 1) := by decide +kernel
theorem dL_law_826 : decode cL_law 826 = .ok (.iload_n 3, 1) := by decide +kernel
theorem dL_law_827 : decode cL_law 827 = .ok (.iconst 2, 1) := by decide +kernel
theorem dL_law_828 : decode cL_law 828 = .ok (.iadd, 1) := by decide +kernel
theorem dL_law_829 : decode cL_law 829 = .ok (.iaload, 1) := by decide +kernel
theorem dL_law_830 : decode cL_law 830 = .ok (.aload_n 0, 1) := by decide +kernel
theorem dL_law_831 : decode cL_law 831 = .ok (.iload_n 3, 1) := by decide +kernel
theorem dL_law_832 : decode cL_law 832 = .ok (.iconst 3, 1) := by decide +kernel
theorem dL_law_833 : decode cL_law 833 = .ok (.iadd, 1) := by decide +kernel
theorem dL_law_834 : decode cL_law 834 = .ok (.iaload, 1) := by decide +kernel
theorem dL_law_835 : decode cL_law 835 = .ok (.invokevirtual 114, 3) := by decide +kernel
theorem dL_law_838 : decode cL_law 838 = .ok (.lcmp, 1) := by decide +kernel
theorem dL_law_839 : decode cL_law 839 = .ok (.ifCond .eq 394, 3) := by decide +kernel
theorem dL_law_842 : decode cL_law 842 = .ok (.iconst 0, 1) := by decide +kernel
theorem dL_law_843 : decode cL_law 843 = .ok (.ireturn, 1) := by decide +kernel
theorem dL_law_844 : decode cL_law 844 = .ok (.aload_n 1, 1) := by decide +kernel
theorem dL_law_845 : decode cL_law 845 = .ok (.aload_n 0, 1) := by decide +kernel
theorem dL_law_846 : decode cL_law 846 = .ok (.iload_n 3, 1) := by decide +kernel
theorem dL_law_847 : decode cL_law 847 = .ok (.iconst 1, 1) := by decide +kernel
theorem dL_law_848 : decode cL_law 848 = .ok (.iadd, 1) := by decide +kernel
theorem dL_law_849 : decode cL_law 849 = .ok (.iaload, 1) := by decide +kernel
theorem dL_law_850 : decode cL_law 850 = .ok (.invokevirtual 115, 3) := by decide +kernel
theorem dL_law_853 : decode cL_law 853 = .ok (.aload_n 2, 1) := by decide +kernel
theorem dL_law_854 : decode cL_law 854 = .ok (.aload_n 0, 1) := by decide +kernel
theorem dL_law_855 : decode cL_law 855 = .ok (.iload_n 3, 1) := by decide +kernel
theorem dL_law_856 : decode cL_law 856 = .ok (.iconst 1, 1) := by decide +kernel
theorem dL_law_857 : decode cL_law 857 = .ok (.iadd, 1) := by decide +kernel
theorem dL_law_858 : decode cL_law 858 = .ok (.iaload, 1) := by decide +kernel
theorem dL_law_859 : decode cL_law 859 = .ok (.invokevirtual 118, 3) := by decide +kernel
theorem dL_law_862 : decode cL_law 862 = .ok (.if_icmp .eq 371, 3) := by decide +kernel
theorem dL_law_865 : decode cL_law 865 = .ok (.iconst 0, 1) := by decide +kernel
theorem dL_law_866 : decode cL_law 866 = .ok (.ireturn, 1) := by decide +kernel
theorem dL_law_867 : decode cL_law 867 = .ok (.aload_n 1, 1) := by decide +kernel
theorem dL_law_868 : decode cL_law 868 = .ok (.aload_n 0, 1) := by decide +kernel
theorem dL_law_869 : decode cL_law 869 = .ok (.iload_n 3, 1) := by decide +kernel
theorem dL_law_870 : decode cL_law 870 = .ok (.iconst 1, 1) := by decide +kernel
theorem dL_law_871 : decode cL_law 871 = .ok (.iadd, 1) := by decide +kernel
theorem dL_law_872 : decode cL_law 872 = .ok (.iaload, 1) := by decide +kernel
theorem dL_law_873 : decode cL_law 873 = .ok (.aload_n 0, 1) := by decide +kernel
theorem dL_law_874 : decode cL_law 874 = .ok (.iload_n 3, 1) := by decide +kernel
theorem dL_law_875 : decode cL_law 875 = .ok (.iconst 2, 1) := by decide +kernel
theorem dL_law_876 : decode cL_law 876 = .ok (.iadd, 1) := by decide +kernel
theorem dL_law_877 : decode cL_law 877 = .ok (.iaload, 1) := by decide +kernel
theorem dL_law_878 : decode cL_law 878 = .ok (.invokevirtual 119, 3) := by decide +kernel
theorem dL_law_881 : decode cL_law 881 = .ok (.aload_n 2, 1) := by decide +kernel
theorem dL_law_882 : decode cL_law 882 = .ok (.aload_n 0, 1) := by decide +kernel
theorem dL_law_883 : decode cL_law 883 = .ok (.iload_n 3, 1) := by decide +kernel
theorem dL_law_884 : decode cL_law 884 = .ok (.iconst 1, 1) := by decide +kernel
theorem dL_law_885 : decode cL_law 885 = .ok (.iadd, 1) := by decide +kernel
theorem dL_law_886 : decode cL_law 886 = .ok (.iaload, 1) := by decide +kernel
theorem dL_law_887 : decode cL_law 887 = .ok (.aload_n 0, 1) := by decide +kernel
theorem dL_law_888 : decode cL_law 888 = .ok (.iload_n 3, 1) := by decide +kernel
theorem dL_law_889 : decode cL_law 889 = .ok (.iconst 2, 1) := by decide +kernel
theorem dL_law_890 : decode cL_law 890 = .ok (.iadd, 1) := by decide +kernel
theorem dL_law_891 : decode cL_law 891 = .ok (.iaload, 1) := by decide +kernel
theorem dL_law_892 : decode cL_law 892 = .ok (.invokevirtual 122, 3) := by decide +kernel
theorem dL_law_895 : decode cL_law 895 = .ok (.if_icmp .eq 338, 3) := by decide +kernel
theorem dL_law_898 : decode cL_law 898 = .ok (.iconst 0, 1) := by decide +kernel
theorem dL_law_899 : decode cL_law 899 = .ok (.ireturn, 1) := by decide +kernel
theorem dL_law_900 : decode cL_law 900 = .ok (.aload_n 1, 1) := by decide +kernel
theorem dL_law_901 : decode cL_law 901 = .ok (.aload_n 0, 1) := by decide +kernel
theorem dL_law_902 : decode cL_law 902 = .ok (.iload_n 3, 1) := by decide +kernel
theorem dL_law_903 : decode cL_law 903 = .ok (.iconst 1, 1) := by decide +kernel
theorem dL_law_904 : decode cL_law 904 = .ok (.iadd, 1) := by decide +kernel
theorem dL_law_905 : decode cL_law 905 = .ok (.iaload, 1) := by decide +kernel
theorem dL_law_906 : decode cL_law 906 = .ok (.invokevirtual 123, 3) := by decide +kernel
theorem dL_law_909 : decode cL_law 909 = .ok (.aload_n 2, 1) := by decide +kernel
theorem dL_law_910 : decode cL_law 910 = .ok (.aload_n 0, 1) := by decide +kernel
theorem dL_law_911 : decode cL_law 911 = .ok (.iload_n 3, 1) := by decide +kernel
theorem dL_law_912 : decode cL_law 912 = .ok (.iconst 1, 1) := by decide +kernel
theorem dL_law_913 : decode cL_law 913 = .ok (.iadd, 1) := by decide +kernel
theorem dL_law_914 : decode cL_law 914 = .ok (.iaload, 1) := by decide +kernel
theorem dL_law_915 : decode cL_law 915 = .ok (.invokevirtual 126, 3) := by decide +kernel
theorem dL_law_918 : decode cL_law 918 = .ok (.if_icmp .eq 315, 3) := by decide +kernel
theorem dL_law_921 : decode cL_law 921 = .ok (.iconst 0, 1) := by decide +kernel
theorem dL_law_922 : decode cL_law 922 = .ok (.ireturn, 1) := by decide +kernel
theorem dL_law_923 : decode cL_law 923 = .ok (.aload_n 1, 1) := by decide +kernel
theorem dL_law_924 : decode cL_law 924 = .ok (.invokevirtual 127, 3) := by decide +kernel
theorem dL_law_927 : decode cL_law 927 = .ok (.aload_n 2, 1) := by decide +kernel
theorem dL_law_928 : decode cL_law 928 = .ok (.invokevirtual 130, 3) := by decide +kernel
theorem dL_law_931 : decode cL_law 931 = .ok (.if_icmp .eq 302, 3) := by decide +kernel
theorem dL_law_934 : decode cL_law 934 = .ok (.iconst 0, 1) := by decide +kernel
theorem dL_law_935 : decode cL_law 935 = .ok (.ireturn, 1) := by decide +kernel
theorem dL_law_936 : decode cL_law 936 = .ok (.aload_n 1, 1) := by decide +kernel
theorem dL_law_937 : decode cL_law 937 = .ok (.aload_n 0, 1) := by decide +kernel
theorem dL_law_938 : decode cL_law 938 = .ok (.iload_n 3, 1) := by decide +kernel
theorem dL_law_939 : decode cL_law 939 = .ok (.iconst 1, 1) := by decide +kernel
theorem dL_law_940 : decode cL_law 940 = .ok (.iadd, 1) := by decide +kernel
theorem dL_law_941 : decode cL_law 941 = .ok (.iaload, 1) := by decide +kernel
theorem dL_law_942 : decode cL_law 942 = .ok (.aload_n 0, 1) := by decide +kernel
theorem dL_law_943 : decode cL_law 943 = .ok (.iload_n 3, 1) := by decide +kernel
theorem dL_law_944 : decode cL_law 944 = .ok (.iconst 2, 1) := by decide +kernel
theorem dL_law_945 : decode cL_law 945 = .ok (.iadd, 1) := by decide +kernel
theorem dL_law_946 : decode cL_law 946 = .ok (.iaload, 1) := by decide +kernel
theorem dL_law_947 : decode cL_law 947 = .ok (.invokevirtual 131, 3) := by decide +kernel
theorem dL_law_950 : decode cL_law 950 = .ok (.aload_n 2, 1) := by decide +kernel
theorem dL_law_951 : decode cL_law 951 = .ok (.aload_n 0, 1) := by decide +kernel
theorem dL_law_952 : decode cL_law 952 = .ok (.iload_n 3, 1) := by decide +kernel
theorem dL_law_953 : decode cL_law 953 = .ok (.iconst 1, 1) := by decide +kernel
theorem dL_law_954 : decode cL_law 954 = .ok (.iadd, 1) := by decide +kernel
theorem dL_law_955 : decode cL_law 955 = .ok (.iaload, 1) := by decide +kernel
theorem dL_law_956 : decode cL_law 956 = .ok (.aload_n 0, 1) := by decide +kernel
theorem dL_law_957 : decode cL_law 957 = .ok (.iload_n 3, 1) := by decide +kernel
theorem dL_law_958 : decode cL_law 958 = .ok (.iconst 2, 1) := by decide +kernel
theorem dL_law_959 : decode cL_law 959 = .ok (.iadd, 1) := by decide +kernel
theorem dL_law_960 : decode cL_law 960 = .ok (.iaload, 1) := by decide +kernel
theorem dL_law_961 : decode cL_law 961 = .ok (.invokevirtual 134, 3) := by decide +kernel
theorem dL_law_964 : decode cL_law 964 = .ok (.if_icmp .eq 269, 3) := by decide +kernel
theorem dL_law_967 : decode cL_law 967 = .ok (.iconst 0, 1) := by decide +kernel
theorem dL_law_968 : decode cL_law 968 = .ok (.ireturn, 1) := by decide +kernel
theorem dL_law_969 : decode cL_law 969 = .ok (.aload_n 1, 1) := by decide +kernel
theorem dL_law_970 : decode cL_law 970 = .ok (.invokevirtual 135, 3) := by decide +kernel
theorem dL_law_973 : decode cL_law 973 = .ok (.aload_n 2, 1) := by decide +kernel
theorem dL_law_974 : decode cL_law 974 = .ok (.invokevirtual 138, 3) := by decide +kernel
theorem dL_law_977 : decode cL_law 977 = .ok (.if_icmp .eq 256, 3) := by decide +kernel
theorem dL_law_980 : decode cL_law 980 = .ok (.iconst 0, 1) := by decide +kernel
theorem dL_law_981 : decode cL_law 981 = .ok (.ireturn, 1) := by decide +kernel
theorem dL_law_982 : decode cL_law 982 = .ok (.aload_n 1, 1) := by decide +kernel
theorem dL_law_983 : decode cL_law 983 = .ok (.invokevirtual 139, 3) := by decide +kernel
theorem dL_law_986 : decode cL_law 986 = .ok (.aload_n 2, 1) := by decide +kernel
theorem dL_law_987 : decode cL_law 987 = .ok (.invokevirtual 142, 3) := by decide +kernel
theorem dL_law_990 : decode cL_law 990 = .ok (.if_icmp .eq 243, 3) := by decide +kernel
theorem dL_law_993 : decode cL_law 993 = .ok (.iconst 0, 1) := by decide +kernel
theorem dL_law_994 : decode cL_law 994 = .ok (.ireturn, 1) := by decide +kernel
theorem dL_law_995 : decode cL_law 995 = .ok (.aload_n 1, 1) := by decide +kernel
theorem dL_law_996 : decode cL_law 996 = .ok (.aload_n 0, 1) := by decide +kernel
theorem dL_law_997 : decode cL_law 997 = .ok (.iload_n 3, 1) := by decide +kernel
theorem dL_law_998 : decode cL_law 998 = .ok (.iconst 1, 1) := by decide +kernel
theorem dL_law_999 : decode cL_law 999 = .ok (.iadd, 1) := by decide +kernel
theorem dL_law_1000 : decode cL_law 1000 = .ok (.iaload, 1) := by decide +kernel
theorem dL_law_1001 : decode cL_law 1001 = .ok (.invokevirtual 143, 3) := by decide +kernel
theorem dL_law_1004 : decode cL_law 1004 = .ok (.aload_n 2, 1) := by decide +kernel
theorem dL_law_1005 : decode cL_law 1005 = .ok (.aload_n 0, 1) := by decide +kernel
theorem dL_law_1006 : decode cL_law 1006 = .ok (.iload_n 3, 1) := by decide +kernel
theorem dL_law_1007 : decode cL_law 1007 = .ok (.iconst 1, 1) := by decide +kernel
theorem dL_law_1008 : decode cL_law 1008 = .ok (.iadd, 1) := by decide +kernel
theorem dL_law_1009 : decode cL_law 1009 = .ok (.iaload, 1) := by decide +kernel
theorem dL_law_1010 : decode cL_law 1010 = .ok (.invokevirtual 146, 3) := by decide +kernel
theorem dL_law_1013 : decode cL_law 1013 = .ok (.if_icmp .eq 220, 3) := by decide +kernel
theorem dL_law_1016 : decode cL_law 1016 = .ok (.iconst 0, 1) := by decide +kernel
theorem dL_law_1017 : decode cL_law 1017 = .ok (.ireturn, 1) := by decide +kernel
theorem dL_law_1018 : decode cL_law 1018 = .ok (.aload_n 1, 1) := by decide +kernel
theorem dL_law_1019 : decode cL_law 1019 = .ok (.aload_n 0, 1) := by decide +kernel
theorem dL_law_1020 : decode cL_law 1020 = .ok (.iload_n 3, 1) := by decide +kernel
theorem dL_law_1021 : decode cL_law 1021 = .ok (.iconst 1, 1) := by decide +kernel
theorem dL_law_1022 : decode cL_law 1022 = .ok (.iadd, 1) := by decide +kernel
theorem dL_law_1023 : decode cL_law 1023 = .ok (.iaload, 1) := by decide +kernel
theorem dL_law_1024 : decode cL_law 1024 = .ok (.aload_n 0, 1) := by decide +kernel
theorem dL_law_1025 : decode cL_law 1025 = .ok (.iload_n 3, 1) := by decide +kernel
theorem dL_law_1026 : decode cL_law 1026 = .ok (.iconst 2, 1) := by decide +kernel
theorem dL_law_1027 : decode cL_law 1027 = .ok (.iadd, 1) := by decide +kernel
theorem dL_law_1028 : decode cL_law 1028 = .ok (.iaload, 1) := by decide +kernel
theorem dL_law_1029 : decode cL_law 1029 = .ok (.invokevirtual 147, 3) := by decide +kernel
theorem dL_law_1032 : decode cL_law 1032 = .ok (.aload_n 2, 1) := by decide +kernel
theorem dL_law_1033 : decode cL_law 1033 = .ok (.aload_n 0, 1) := by decide +kernel
theorem dL_law_1034 : decode cL_law 1034 = .ok (.iload_n 3, 1) := by decide +kernel
theorem dL_law_1035 : decode cL_law 1035 = .ok (.iconst 1, 1) := by decide +kernel
theorem dL_law_1036 : decode cL_law 1036 = .ok (.iadd, 1) := by decide +kernel
theorem dL_law_1037 : decode cL_law 1037 = .ok (.iaload, 1) := by decide +kernel
theorem dL_law_1038 : decode cL_law 1038 = .ok (.aload_n 0, 1) := by decide +kernel
theorem dL_law_1039 : decode cL_law 1039 = .ok (.iload_n 3, 1) := by decide +kernel
theorem dL_law_1040 : decode cL_law 1040 = .ok (.iconst 2, 1) := by decide +kernel
theorem dL_law_1041 : decode cL_law 1041 = .ok (.iadd, 1) := by decide +kernel
theorem dL_law_1042 : decode cL_law 1042 = .ok (.iaload, 1) := by decide +kernel
theorem dL_law_1043 : decode cL_law 1043 = .ok (.invokevirtual 150, 3) := by decide +kernel
theorem dL_law_1046 : decode cL_law 1046 = .ok (.lcmp, 1) := by decide +kernel
theorem dL_law_1047 : decode cL_law 1047 = .ok (.ifCond .eq 186, 3) := by decide +kernel
theorem dL_law_1050 : decode cL_law 1050 = .ok (.iconst 0, 1) := by decide +kernel
theorem dL_law_1051 : decode cL_law 1051 = .ok (.ireturn, 1) := by decide +kernel
theorem dL_law_1052 : decode cL_law 1052 = .ok (.aload_n 1, 1) := by decide +kernel
theorem dL_law_1053 : decode cL_law 1053 = .ok (.aload_n 0, 1) := by decide +kernel
theorem dL_law_1054 : decode cL_law 1054 = .ok (.iload_n 3, 1) := by decide +kernel
theorem dL_law_1055 : decode cL_law 1055 = .ok (.iconst 1, 1) := by decide +kernel
theorem dL_law_1056 : decode cL_law 1056 = .ok (.iadd, 1) := by decide +kernel
theorem dL_law_1057 : decode cL_law 1057 = .ok (.iaload, 1) := by decide +kernel
theorem dL_law_1058 : decode cL_law 1058 = .ok (.aload_n 0, 1) := by decide +kernel
theorem dL_law_1059 : decode cL_law 1059 = .ok (.iload_n 3, 1) := by decide +kernel
theorem dL_law_1060 : decode cL_law 1060 = .ok (.iconst 2, 1) := by decide +kernel
theorem dL_law_1061 : decode cL_law 1061 = .ok (.iadd, 1) := by decide +kernel
theorem dL_law_1062 : decode cL_law 1062 = .ok (.iaload, 1) := by decide +kernel
theorem dL_law_1063 : decode cL_law 1063 = .ok (.invokevirtual 151, 3) := by decide +kernel
theorem dL_law_1066 : decode cL_law 1066 = .ok (.aload_n 2, 1) := by decide +kernel
theorem dL_law_1067 : decode cL_law 1067 = .ok (.aload_n 0, 1) := by decide +kernel
theorem dL_law_1068 : decode cL_law 1068 = .ok (.iload_n 3, 1) := by decide +kernel
theorem dL_law_1069 : decode cL_law 1069 = .ok (.iconst 1, 1) := by decide +kernel
theorem dL_law_1070 : decode cL_law 1070 = .ok (.iadd, 1) := by decide +kernel
theorem dL_law_1071 : decode cL_law 1071 = .ok (.iaload, 1) := by decide +kernel
theorem dL_law_1072 : decode cL_law 1072 = .ok (.aload_n 0, 1) := by decide +kernel
theorem dL_law_1073 : decode cL_law 1073 = .ok (.iload_n 3, 1) := by decide +kernel
theorem dL_law_1074 : decode cL_law 1074 = .ok (.iconst 2, 1) := by decide +kernel
theorem dL_law_1075 : decode cL_law 1075 = .ok (.iadd, 1) := by decide +kernel
theorem dL_law_1076 : decode cL_law 1076 = .ok (.iaload, 1) := by decide +kernel
theorem dL_law_1077 : decode cL_law 1077 = .ok (.invokevirtual 154, 3) := by decide +kernel
theorem dL_law_1080 : decode cL_law 1080 = .ok (.if_icmp .eq 153, 3) := by decide +kernel
theorem dL_law_1083 : decode cL_law 1083 = .ok (.iconst 0, 1) := by decide +kernel
theorem dL_law_1084 : decode cL_law 1084 = .ok (.ireturn, 1) := by decide +kernel
theorem dL_law_1085 : decode cL_law 1085 = .ok (.aload_n 1, 1) := by decide +kernel
theorem dL_law_1086 : decode cL_law 1086 = .ok (.aload_n 0, 1) := by decide +kernel
theorem dL_law_1087 : decode cL_law 1087 = .ok (.iload_n 3, 1) := by decide +kernel
theorem dL_law_1088 : decode cL_law 1088 = .ok (.iconst 1, 1) := by decide +kernel
theorem dL_law_1089 : decode cL_law 1089 = .ok (.iadd, 1) := by decide +kernel
theorem dL_law_1090 : decode cL_law 1090 = .ok (.iaload, 1) := by decide +kernel
theorem dL_law_1091 : decode cL_law 1091 = .ok (.aload_n 0, 1) := by decide +kernel
theorem dL_law_1092 : decode cL_law 1092 = .ok (.iload_n 3, 1) := by decide +kernel
theorem dL_law_1093 : decode cL_law 1093 = .ok (.iconst 2, 1) := by decide +kernel
theorem dL_law_1094 : decode cL_law 1094 = .ok (.iadd, 1) := by decide +kernel
theorem dL_law_1095 : decode cL_law 1095 = .ok (.iaload, 1) := by decide +kernel
theorem dL_law_1096 : decode cL_law 1096 = .ok (.invokevirtual 155, 3) := by decide +kernel
theorem dL_law_1099 : decode cL_law 1099 = .ok (.aload_n 2, 1) := by decide +kernel
theorem dL_law_1100 : decode cL_law 1100 = .ok (.aload_n 0, 1) := by decide +kernel
theorem dL_law_1101 : decode cL_law 1101 = .ok (.iload_n 3, 1) := by decide +kernel
theorem dL_law_1102 : decode cL_law 1102 = .ok (.iconst 1, 1) := by decide +kernel
theorem dL_law_1103 : decode cL_law 1103 = .ok (.iadd, 1) := by decide +kernel
theorem dL_law_1104 : decode cL_law 1104 = .ok (.iaload, 1) := by decide +kernel
theorem dL_law_1105 : decode cL_law 1105 = .ok (.aload_n 0, 1) := by decide +kernel
theorem dL_law_1106 : decode cL_law 1106 = .ok (.iload_n 3, 1) := by decide +kernel
theorem dL_law_1107 : decode cL_law 1107 = .ok (.iconst 2, 1) := by decide +kernel
theorem dL_law_1108 : decode cL_law 1108 = .ok (.iadd, 1) := by decide +kernel
theorem dL_law_1109 : decode cL_law 1109 = .ok (.iaload, 1) := by decide +kernel
theorem dL_law_1110 : decode cL_law 1110 = .ok (.invokevirtual 158, 3) := by decide +kernel
theorem dL_law_1113 : decode cL_law 1113 = .ok (.if_icmp .eq 120, 3) := by decide +kernel
theorem dL_law_1116 : decode cL_law 1116 = .ok (.iconst 0, 1) := by decide +kernel
theorem dL_law_1117 : decode cL_law 1117 = .ok (.ireturn, 1) := by decide +kernel
theorem dL_law_1118 : decode cL_law 1118 = .ok (.aload_n 1, 1) := by decide +kernel
theorem dL_law_1119 : decode cL_law 1119 = .ok (.aload_n 0, 1) := by decide +kernel
theorem dL_law_1120 : decode cL_law 1120 = .ok (.iload_n 3, 1) := by decide +kernel
theorem dL_law_1121 : decode cL_law 1121 = .ok (.iconst 1, 1) := by decide +kernel
theorem dL_law_1122 : decode cL_law 1122 = .ok (.iadd, 1) := by decide +kernel
theorem dL_law_1123 : decode cL_law 1123 = .ok (.iaload, 1) := by decide +kernel
theorem dL_law_1124 : decode cL_law 1124 = .ok (.aload_n 0, 1) := by decide +kernel
theorem dL_law_1125 : decode cL_law 1125 = .ok (.iload_n 3, 1) := by decide +kernel
theorem dL_law_1126 : decode cL_law 1126 = .ok (.iconst 2, 1) := by decide +kernel
theorem dL_law_1127 : decode cL_law 1127 = .ok (.iadd, 1) := by decide +kernel
theorem dL_law_1128 : decode cL_law 1128 = .ok (.iaload, 1) := by decide +kernel
theorem dL_law_1129 : decode cL_law 1129 = .ok (.invokevirtual 159, 3) := by decide +kernel
theorem dL_law_1132 : decode cL_law 1132 = .ok (.aload_n 2, 1) := by decide +kernel
theorem dL_law_1133 : decode cL_law 1133 = .ok (.aload_n 0, 1) := by decide +kernel
theorem dL_law_1134 : decode cL_law 1134 = .ok (.iload_n 3, 1) := by decide +kernel
theorem dL_law_1135 : decode cL_law 1135 = .ok (.iconst 1, 1) := by decide +kernel
theorem dL_law_1136 : decode cL_law 1136 = .ok (.iadd, 1) := by decide +kernel
theorem dL_law_1137 : decode cL_law 1137 = .ok (.iaload, 1) := by decide +kernel
theorem dL_law_1138 : decode cL_law 1138 = .ok (.aload_n 0, 1) := by decide +kernel
theorem dL_law_1139 : decode cL_law 1139 = .ok (.iload_n 3, 1) := by decide +kernel
theorem dL_law_1140 : decode cL_law 1140 = .ok (.iconst 2, 1) := by decide +kernel
theorem dL_law_1141 : decode cL_law 1141 = .ok (.iadd, 1) := by decide +kernel
theorem dL_law_1142 : decode cL_law 1142 = .ok (.iaload, 1) := by decide +kernel
theorem dL_law_1143 : decode cL_law 1143 = .ok (.invokevirtual 162, 3) := by decide +kernel
theorem dL_law_1146 : decode cL_law 1146 = .ok (.if_icmp .eq 87, 3) := by decide +kernel
theorem dL_law_1149 : decode cL_law 1149 = .ok (.iconst 0, 1) := by decide +kernel
theorem dL_law_1150 : decode cL_law 1150 = .ok (.ireturn, 1) := by decide +kernel
theorem dL_law_1151 : decode cL_law 1151 = .ok (.aload_n 1, 1) := by decide +kernel
theorem dL_law_1152 : decode cL_law 1152 = .ok (.aload_n 0, 1) := by decide +kernel
theorem dL_law_1153 : decode cL_law 1153 = .ok (.iload_n 3, 1) := by decide +kernel
theorem dL_law_1154 : decode cL_law 1154 = .ok (.iconst 1, 1) := by decide +kernel
theorem dL_law_1155 : decode cL_law 1155 = .ok (.iadd, 1) := by decide +kernel
theorem dL_law_1156 : decode cL_law 1156 = .ok (.iaload, 1) := by decide +kernel
theorem dL_law_1157 : decode cL_law 1157 = .ok (.invokevirtual 163, 3) := by decide +kernel
theorem dL_law_1160 : decode cL_law 1160 = .ok (.aload_n 2, 1) := by decide +kernel
theorem dL_law_1161 : decode cL_law 1161 = .ok (.aload_n 0, 1) := by decide +kernel
theorem dL_law_1162 : decode cL_law 1162 = .ok (.iload_n 3, 1) := by decide +kernel
theorem dL_law_1163 : decode cL_law 1163 = .ok (.iconst 1, 1) := by decide +kernel
theorem dL_law_1164 : decode cL_law 1164 = .ok (.iadd, 1) := by decide +kernel
theorem dL_law_1165 : decode cL_law 1165 = .ok (.iaload, 1) := by decide +kernel
theorem dL_law_1166 : decode cL_law 1166 = .ok (.invokevirtual 166, 3) := by decide +kernel
theorem dL_law_1169 : decode cL_law 1169 = .ok (.if_icmp .eq 64, 3) := by decide +kernel
theorem dL_law_1172 : decode cL_law 1172 = .ok (.iconst 0, 1) := by decide +kernel
theorem dL_law_1173 : decode cL_law 1173 = .ok (.ireturn, 1) := by decide +kernel
theorem dL_law_1174 : decode cL_law 1174 = .ok (.aload_n 1, 1) := by decide +kernel
theorem dL_law_1175 : decode cL_law 1175 = .ok (.aload_n 0, 1) := by decide +kernel
theorem dL_law_1176 : decode cL_law 1176 = .ok (.iload_n 3, 1) := by decide +kernel
theorem dL_law_1177 : decode cL_law 1177 = .ok (.iconst 1, 1) := by decide +kernel
theorem dL_law_1178 : decode cL_law 1178 = .ok (.iadd, 1) := by decide +kernel
theorem dL_law_1179 : decode cL_law 1179 = .ok (.iaload, 1) := by decide +kernel
theorem dL_law_1180 : decode cL_law 1180 = .ok (.invokevirtual 167, 3) := by decide +kernel
theorem dL_law_1183 : decode cL_law 1183 = .ok (.aload_n 2, 1) := by decide +kernel
theorem dL_law_1184 : decode cL_law 1184 = .ok (.aload_n 0, 1) := by decide +kernel
theorem dL_law_1185 : decode cL_law 1185 = .ok (.iload_n 3, 1) := by decide +kernel
theorem dL_law_1186 : decode cL_law 1186 = .ok (.iconst 1, 1) := by decide +kernel
theorem dL_law_1187 : decode cL_law 1187 = .ok (.iadd, 1) := by decide +kernel
theorem dL_law_1188 : decode cL_law 1188 = .ok (.iaload, 1) := by decide +kernel
theorem dL_law_1189 : decode cL_law 1189 = .ok (.invokevirtual 170, 3) := by decide +kernel
theorem dL_law_1192 : decode cL_law 1192 = .ok (.if_icmp .eq 41, 3) := by decide +kernel
theorem dL_law_1195 : decode cL_law 1195 = .ok (.iconst 0, 1) := by decide +kernel
theorem dL_law_1196 : decode cL_law 1196 = .ok (.ireturn, 1) := by decide +kernel
theorem dL_law_1197 : decode cL_law 1197 = .ok (.aload_n 1, 1) := by decide +kernel
theorem dL_law_1198 : decode cL_law 1198 = .ok (.aload_n 0, 1) := by decide +kernel
theorem dL_law_1199 : decode cL_law 1199 = .ok (.iload_n 3, 1) := by decide +kernel
theorem dL_law_1200 : decode cL_law 1200 = .ok (.iconst 1, 1) := by decide +kernel
theorem dL_law_1201 : decode cL_law 1201 = .ok (.iadd, 1) := by decide +kernel
theorem dL_law_1202 : decode cL_law 1202 = .ok (.iaload, 1) := by decide +kernel
theorem dL_law_1203 : decode cL_law 1203 = .ok (.invokevirtual 171, 3) := by decide +kernel
theorem dL_law_1206 : decode cL_law 1206 = .ok (.aload_n 2, 1) := by decide +kernel
theorem dL_law_1207 : decode cL_law 1207 = .ok (.aload_n 0, 1) := by decide +kernel
theorem dL_law_1208 : decode cL_law 1208 = .ok (.iload_n 3, 1) := by decide +kernel
theorem dL_law_1209 : decode cL_law 1209 = .ok (.iconst 1, 1) := by decide +kernel
theorem dL_law_1210 : decode cL_law 1210 = .ok (.iadd, 1) := by decide +kernel
theorem dL_law_1211 : decode cL_law 1211 = .ok (.iaload, 1) := by decide +kernel
theorem dL_law_1212 : decode cL_law 1212 = .ok (.invokevirtual 174, 3) := by decide +kernel
theorem dL_law_1215 : decode cL_law 1215 = .ok (.if_icmp .eq 18, 3) := by decide +kernel
theorem dL_law_1218 : decode cL_law 1218 = .ok (.iconst 0, 1) := by decide +kernel
theorem dL_law_1219 : decode cL_law 1219 = .ok (.ireturn, 1) := by decide +kernel
theorem dL_law_1220 : decode cL_law 1220 = .ok (.aload_n 1, 1) := by decide +kernel
theorem dL_law_1221 : decode cL_law 1221 = .ok (.invokevirtual 175, 3) := by decide +kernel
theorem dL_law_1224 : decode cL_law 1224 = .ok (.aload_n 2, 1) := by decide +kernel
theorem dL_law_1225 : decode cL_law 1225 = .ok (.invokevirtual 178, 3) := by decide +kernel
theorem dL_law_1228 : decode cL_law 1228 = .ok (.if_icmp .eq 5, 3) := by decide +kernel
theorem dL_law_1231 : decode cL_law 1231 = .ok (.iconst 0, 1) := by decide +kernel
theorem dL_law_1232 : decode cL_law 1232 = .ok (.ireturn, 1) := by decide +kernel
theorem dL_law_1233 : decode cL_law 1233 = .ok (.iinc 3 6, 3) := by decide +kernel
theorem dL_law_1236 : decode cL_law 1236 = .ok (.goto (-1218), 3) := by decide +kernel
theorem dL_law_1239 : decode cL_law 1239 = .ok (.iconst 1, 1) := by decide +kernel
theorem dL_law_1240 : decode cL_law 1240 = .ok (.ireturn, 1) := by decide +kernel
