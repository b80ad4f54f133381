theorem dX0_init_0 : decode cX0_init 0 = .ok (.aload_n 0, 1) := by decide +kernel
theorem dX0_init_1 : decode cX0_init 1 = .ok (.invokespecial 3, 3) := by decide +kernel
theorem dX0_init_4 : decode cX0_init 4 = .ok (.aload_n 0, 1) := by decide +kernel
theorem dX0_init_5 : decode cX0_init 5 = .ok (.new 9, 3) := by decide +kernel
theorem dX0_init_8 : decode cX0_init 8 = .ok (.dup, 1) := by decide +kernel
theorem dX0_init_9 : decode cX0_init 9 = .ok (.invokespecial 11, 3) := by decide +kernel
theorem dX0_init_12 : decode cX0_init 12 = .ok (.putfield 12, 3) := by decide +kernel
theorem dX0_init_15 : decode cX0_init 15 = .ok (.aload_n 0, 1) := by decide +kernel
theorem dX0_init_16 : decode cX0_init 16 = .ok (.bipush 6, 2) := by decide +kernel
theorem dX0_init_18 : decode cX0_init 18 = .ok (.anewarray 18, 3) := by decide +kernel
theorem dX0_init_21 : decode cX0_init 21 = .ok (.putfield 20, 3) := by decide +kernel
theorem dX0_init_24 : decode cX0_init 24 = .ok (.aload_n 0, 1) := by decide +kernel
theorem dX0_init_25 : decode cX0_init 25 = .ok (.bipush 6, 2) := by decide +kernel
theorem dX0_init_27 : decode cX0_init 27 = .ok (.newarray .int, 2) := by decide +kernel
theorem dX0_init_29 : decode cX0_init 29 = .ok (.putfield 24, 3) := by decide +kernel
theorem dX0_init_32 : decode cX0_init 32 = .ok (.aload_n 0, 1) := by decide +kernel
theorem dX0_init_33 : decode cX0_init 33 = .ok (.bipush 6, 2) := by decide +kernel
theorem dX0_init_35 : decode cX0_init 35 = .ok (.newarray .int, 2) := by decide +kernel
theorem dX0_init_37 : decode cX0_init 37 = .ok (.putfield 28, 3) := by decide +kernel
theorem dX0_init_40 : decode cX0_init 40 = .ok (.aload_n 0, 1) := by decide +kernel
theorem dX0_init_41 : decode cX0_init 41 = .ok (.iconst (-1), 1) := by decide +kernel
theorem dX0_init_42 : decode cX0_init 42 = .ok (.putfield 31, 3) := by decide +kernel
theorem dX0_init_45 : decode cX0_init 45 = .ok (.iconst 0, 1) := by decide +kernel
theorem dX0_init_46 : decode cX0_init 46 = .ok (.istore_n 1, 1) := by decide +kernel
theorem dX0_init_47 : decode cX0_init 47 = .ok (.iload_n 1, 1) := by decide +kernel
theorem dX0_init_48 : decode cX0_init 48 = .ok (.aload_n 0, 1) := by decide +kernel
theorem dX0_init_49 : decode cX0_init 49 = .ok (.getfield 20, 3) := by decide +kernel
theorem dX0_init_52 : decode cX0_init 52 = .ok (.arraylength, 1) := by decide +kernel
theorem dX0_init_53 : decode cX0_init 53 = .ok (.if_icmp .ge 22, 3) := by decide +kernel
theorem dX0_init_56 : decode cX0_init 56 = .ok (.aload_n 0, 1) := by decide +kernel
theorem dX0_init_57 : decode cX0_init 57 = .ok (.getfield 20, 3) := by decide +kernel
theorem dX0_init_60 : decode cX0_init 60 = .ok (.iload_n 1, 1) := by decide +kernel
theorem dX0_init_61 : decode cX0_init 61 = .ok (.new 18, 3) := by decide +kernel
theorem dX0_init_64 : decode cX0_init 64 = .ok (.dup, 1) := by decide +kernel
theorem dX0_init_65 : decode cX0_init 65 = .ok (.invokespecial 35, 3) := by decide +kernel
theorem dX0_init_68 : decode cX0_init 68 = .ok (.aastore, 1) := by decide +kernel
theorem dX0_init_69 : decode cX0_init 69 = .ok (.iinc 1 1, 3) := by decide +kernel
theorem dX0_init_72 : decode cX0_init 72 = .ok (.goto (-25), 3) := by decide +kernel
theorem dX0_init_75 : decode cX0_init 75 = .ok (.return_, 1) := by decide +kernel
theorem dX0_copyFrom_0 : decode cX0_copyFrom 0 = .ok (.aload_n 0, 1) := by decide +kernel
theorem dX0_copyFrom_1 : decode cX0_copyFrom 1 = .ok (.getfield 12, 3) := by decide +kernel
theorem dX0_copyFrom_4 : decode cX0_copyFrom 4 = .ok (.aload_n 1, 1) := by decide +kernel
theorem dX0_copyFrom_5 : decode cX0_copyFrom 5 = .ok (.getfield 12, 3) := by decide +kernel
theorem dX0_copyFrom_8 : decode cX0_copyFrom 8 = .ok (.invokevirtual 36, 3) := by decide +kernel
theorem dX0_copyFrom_11 : decode cX0_copyFrom 11 = .ok (.aload_n 0, 1) := by decide +kernel
theorem dX0_copyFrom_12 : decode cX0_copyFrom 12 = .ok (.aload_n 1, 1) := by decide +kernel
theorem dX0_copyFrom_13 : decode cX0_copyFrom 13 = .ok (.getfield 40, 3) := by decide +kernel
theorem dX0_copyFrom_16 : decode cX0_copyFrom 16 = .ok (.putfield 40, 3) := by decide +kernel
theorem dX0_copyFrom_19 : decode cX0_copyFrom 19 = .ok (.iconst 0, 1) := by decide +kernel
theorem dX0_copyFrom_20 : decode cX0_copyFrom 20 = .ok (.istore_n 2, 1) := by decide +kernel
theorem dX0_copyFrom_21 : decode cX0_copyFrom 21 = .ok (.iload_n 2, 1) := by decide +kernel
theorem dX0_copyFrom_22 : decode cX0_copyFrom 22 = .ok (.aload_n 0, 1) := by decide +kernel
theorem dX0_copyFrom_23 : decode cX0_copyFrom 23 = .ok (.getfield 40, 3) := by decide +kernel
theorem dX0_copyFrom_26 : decode cX0_copyFrom 26 = .ok (.if_icmp .ge 22, 3) := by decide +kernel
theorem dX0_copyFrom_29 : decode cX0_copyFrom 29 = .ok (.aload_n 1, 1) := by decide +kernel
theorem dX0_copyFrom_30 : decode cX0_copyFrom 30 = .ok (.iload_n 2, 1) := by decide +kernel
theorem dX0_copyFrom_31 : decode cX0_copyFrom 31 = .ok (.invokevirtual 43, 3) := by decide +kernel
theorem dX0_copyFrom_34 : decode cX0_copyFrom 34 = .ok (.aload_n 0, 1) := by decide +kernel
theorem dX0_copyFrom_35 : decode cX0_copyFrom 35 = .ok (.iload_n 2, 1) := by decide +kernel
theorem dX0_copyFrom_36 : decode cX0_copyFrom 36 = .ok (.invokevirtual 43, 3) := by decide +kernel
theorem dX0_copyFrom_39 : decode cX0_copyFrom 39 = .ok (.invokestatic 47, 3) := by decide +kernel
theorem dX0_copyFrom_42 : decode cX0_copyFrom 42 = .ok (.iinc 2 1, 3) := by decide +kernel
theorem dX0_copyFrom_45 : decode cX0_copyFrom 45 = .ok (.goto (-24), 3) := by decide +kernel
theorem dX0_copyFrom_48 : decode cX0_copyFrom 48 = .ok (.aload_n 0, 1) := by decide +kernel
theorem dX0_copyFrom_49 : decode cX0_copyFrom 49 = .ok (.aload_n 1, 1) := by decide +kernel
theorem dX0_copyFrom_50 : decode cX0_copyFrom 50 = .ok (.getfield 31, 3) := by decide +kernel
theorem dX0_copyFrom_53 : decode cX0_copyFrom 53 = .ok (.putfield 31, 3) := by decide +kernel
theorem dX0_copyFrom_56 : decode cX0_copyFrom 56 = .ok (.aload_n 1, 1) := by decide +kernel
theorem dX0_copyFrom_57 : decode cX0_copyFrom 57 = .ok (.getfield 24, 3) := by decide +kernel
theorem dX0_copyFrom_60 : decode cX0_copyFrom 60 = .ok (.aload_n 0, 1) := by decide +kernel
theorem dX0_copyFrom_61 : decode cX0_copyFrom 61 = .ok (.getfield 24, 3) := by decide +kernel
theorem dX0_copyFrom_64 : decode cX0_copyFrom 64 = .ok (.invokestatic 51, 3) := by decide +kernel
theorem dX0_copyFrom_67 : decode cX0_copyFrom 67 = .ok (.aload_n 1, 1) := by decide +kernel
theorem dX0_copyFrom_68 : decode cX0_copyFrom 68 = .ok (.getfield 28, 3) := by decide +kernel
theorem dX0_copyFrom_71 : decode cX0_copyFrom 71 = .ok (.aload_n 0, 1) := by decide +kernel
theorem dX0_copyFrom_72 : decode cX0_copyFrom 72 = .ok (.getfield 28, 3) := by decide +kernel
theorem dX0_copyFrom_75 : decode cX0_copyFrom 75 = .ok (.invokestatic 51, 3) := by decide +kernel
theorem dX0_copyFrom_78 : decode cX0_copyFrom 78 = .ok (.aload_n 0, 1) := by decide +kernel
theorem dX0_copyFrom_79 : decode cX0_copyFrom 79 = .ok (.aload_n 1, 1) := by decide +kernel
theorem dX0_copyFrom_80 : decode cX0_copyFrom 80 = .ok (.getfield 55, 3) := by decide +kernel
theorem dX0_copyFrom_83 : decode cX0_copyFrom 83 = .ok (.putfield 55, 3) := by decide +kernel
theorem dX0_copyFrom_86 : decode cX0_copyFrom 86 = .ok (.return_, 1) := by decide +kernel
theorem dX0_lawAt_0 : decode cX0_lawAt 0 = .ok (.iload_n 1, 1) := by decide +kernel
theorem dX0_lawAt_1 : decode cX0_lawAt 1 = .ok (.ifCond .lt 29, 3) := by decide +kernel
theorem dX0_lawAt_4 : decode cX0_lawAt 4 = .ok (.iload_n 1, 1) := by decide +kernel
theorem dX0_lawAt_5 : decode cX0_lawAt 5 = .ok (.aload_n 0, 1) := by decide +kernel
theorem dX0_lawAt_6 : decode cX0_lawAt 6 = .ok (.getfield 40, 3) := by decide +kernel
theorem dX0_lawAt_9 : decode cX0_lawAt 9 = .ok (.if_icmp .ge 21, 3) := by decide +kernel
theorem dX0_lawAt_12 : decode cX0_lawAt 12 = .ok (.iload_n 1, 1) := by decide +kernel
theorem dX0_lawAt_13 : decode cX0_lawAt 13 = .ok (.aload_n 0, 1) := by decide +kernel
theorem dX0_lawAt_14 : decode cX0_lawAt 14 = .ok (.getfield 20, 3) := by decide +kernel
theorem dX0_lawAt_17 : decode cX0_lawAt 17 = .ok (.arraylength, 1) := by decide +kernel
theorem dX0_lawAt_18 : decode cX0_lawAt 18 = .ok (.if_icmp .ge 12, 3) := by decide +kernel
theorem dX0_lawAt_21 : decode cX0_lawAt 21 = .ok (.aload_n 0, 1) := by decide +kernel
theorem dX0_lawAt_22 : decode cX0_lawAt 22 = .ok (.getfield 20, 3) := by decide +kernel
theorem dX0_lawAt_25 : decode cX0_lawAt 25 = .ok (.iload_n 1, 1) := by decide +kernel
theorem dX0_lawAt_26 : decode cX0_lawAt 26 = .ok (.aaload, 1) := by decide +kernel
theorem dX0_lawAt_27 : decode cX0_lawAt 27 = .ok (.goto 4, 3) := by decide +kernel
theorem dX0_lawAt_30 : decode cX0_lawAt 30 = .ok (.aconst_null, 1) := by decide +kernel
theorem dX0_lawAt_31 : decode cX0_lawAt 31 = .ok (.areturn, 1) := by decide +kernel
theorem dX0_lawInForce_0 : decode cX0_lawInForce 0 = .ok (.aload_n 0, 1) := by decide +kernel
theorem dX0_lawInForce_1 : decode cX0_lawInForce 1 = .ok (.aload_n 0, 1) := by decide +kernel
theorem dX0_lawInForce_2 : decode cX0_lawInForce 2 = .ok (.getfield 31, 3) := by decide +kernel
theorem dX0_lawInForce_5 : decode cX0_lawInForce 5 = .ok (.invokevirtual 43, 3) := by decide +kernel
theorem dX0_lawInForce_8 : decode cX0_lawInForce 8 = .ok (.areturn, 1) := by decide +kernel
theorem dX0_enact_0 : decode cX0_enact 0 = .ok (.aload_n 0, 1) := by decide +kernel
theorem dX0_enact_1 : decode cX0_enact 1 = .ok (.getfield 40, 3) := by decide +kernel
theorem dX0_enact_4 : decode cX0_enact 4 = .ok (.bipush 6, 2) := by decide +kernel
theorem dX0_enact_6 : decode cX0_enact 6 = .ok (.if_icmp .lt 6, 3) := by decide +kernel
theorem dX0_enact_9 : decode cX0_enact 9 = .ok (.bipush (-5), 2) := by decide +kernel
theorem dX0_enact_11 : decode cX0_enact 11 = .ok (.ireturn, 1) := by decide +kernel
theorem dX0_enact_12 : decode cX0_enact 12 = .ok (.aload_n 0, 1) := by decide +kernel
theorem dX0_enact_13 : decode cX0_enact 13 = .ok (.getfield 40, 3) := by decide +kernel
theorem dX0_enact_16 : decode cX0_enact 16 = .ok (.istore_n 2, 1) := by decide +kernel
theorem dX0_enact_17 : decode cX0_enact 17 = .ok (.aload_n 0, 1) := by decide +kernel
theorem dX0_enact_18 : decode cX0_enact 18 = .ok (.iload_n 2, 1) := by decide +kernel
theorem dX0_enact_19 : decode cX0_enact 19 = .ok (.iconst 1, 1) := by decide +kernel
theorem dX0_enact_20 : decode cX0_enact 20 = .ok (.iadd, 1) := by decide +kernel
theorem dX0_enact_21 : decode cX0_enact 21 = .ok (.putfield 40, 3) := by decide +kernel
theorem dX0_enact_24 : decode cX0_enact 24 = .ok (.aload_n 1, 1) := by decide +kernel
theorem dX0_enact_25 : decode cX0_enact 25 = .ok (.aload_n 0, 1) := by decide +kernel
theorem dX0_enact_26 : decode cX0_enact 26 = .ok (.iload_n 2, 1) := by decide +kernel
theorem dX0_enact_27 : decode cX0_enact 27 = .ok (.invokevirtual 43, 3) := by decide +kernel
theorem dX0_enact_30 : decode cX0_enact 30 = .ok (.invokestatic 47, 3) := by decide +kernel
theorem dX0_enact_33 : decode cX0_enact 33 = .ok (.iload_n 2, 1) := by decide +kernel
theorem dX0_enact_34 : decode cX0_enact 34 = .ok (.ireturn, 1) := by decide +kernel
theorem dX0_see_0 : decode cX0_see 0 = .ok (.iload_n 1, 1) := by decide +kernel
theorem dX0_see_1 : decode cX0_see 1 = .ok (.iconst 0, 1) := by decide +kernel
theorem dX0_see_2 : decode cX0_see 2 = .ok (.bipush 20, 2) := by decide +kernel
theorem dX0_see_4 : decode cX0_see 4 = .ok (.invokestatic 58, 3) := by decide +kernel
theorem dX0_see_7 : decode cX0_see 7 = .ok (.ifCond .eq 14, 3) := by decide +kernel
theorem dX0_see_10 : decode cX0_see 10 = .ok (.iload_n 2, 1) := by decide +kernel
theorem dX0_see_11 : decode cX0_see 11 = .ok (.iconst 0, 1) := by decide +kernel
theorem dX0_see_12 : decode cX0_see 12 = .ok (.sipush 200, 3) := by decide +kernel
theorem dX0_see_15 : decode cX0_see 15 = .ok (.invokestatic 58, 3) := by decide +kernel
theorem dX0_see_18 : decode cX0_see 18 = .ok (.ifCond .ne 5, 3) := by decide +kernel
theorem dX0_see_21 : decode cX0_see 21 = .ok (.iconst (-1), 1) := by decide +kernel
theorem dX0_see_22 : decode cX0_see 22 = .ok (.ireturn, 1) := by decide +kernel
theorem dX0_see_23 : decode cX0_see 23 = .ok (.aload_n 0, 1) := by decide +kernel
theorem dX0_see_24 : decode cX0_see 24 = .ok (.getfield 55, 3) := by decide +kernel
theorem dX0_see_27 : decode cX0_see 27 = .ok (.bipush 6, 2) := by decide +kernel
theorem dX0_see_29 : decode cX0_see 29 = .ok (.if_icmp .lt 6, 3) := by decide +kernel
theorem dX0_see_32 : decode cX0_see 32 = .ok (.bipush (-5), 2) := by decide +kernel
theorem dX0_see_34 : decode cX0_see 34 = .ok (.ireturn, 1) := by decide +kernel
theorem dX0_see_35 : decode cX0_see 35 = .ok (.aload_n 0, 1) := by decide +kernel
theorem dX0_see_36 : decode cX0_see 36 = .ok (.getfield 24, 3) := by decide +kernel
theorem dX0_see_39 : decode cX0_see 39 = .ok (.aload_n 0, 1) := by decide +kernel
theorem dX0_see_40 : decode cX0_see 40 = .ok (.getfield 55, 3) := by decide +kernel
theorem dX0_see_43 : decode cX0_see 43 = .ok (.iload_n 1, 1) := by decide +kernel
theorem dX0_see_44 : decode cX0_see 44 = .ok (.invokestatic 62, 3) := by decide +kernel
theorem dX0_see_47 : decode cX0_see 47 = .ok (.aload_n 0, 1) := by decide +kernel
theorem dX0_see_48 : decode cX0_see 48 = .ok (.getfield 28, 3) := by decide +kernel
theorem dX0_see_51 : decode cX0_see 51 = .ok (.aload_n 0, 1) := by decide +kernel
theorem dX0_see_52 : decode cX0_see 52 = .ok (.getfield 55, 3) := by decide +kernel
theorem dX0_see_55 : decode cX0_see 55 = .ok (.iload_n 2, 1) := by decide +kernel
theorem dX0_see_56 : decode cX0_see 56 = .ok (.invokestatic 62, 3) := by decide +kernel
theorem dX0_see_59 : decode cX0_see 59 = .ok (.aload_n 0, 1) := by decide +kernel
theorem dX0_see_60 : decode cX0_see 60 = .ok (.dup, 1) := by decide +kernel
theorem dX0_see_61 : decode cX0_see 61 = .ok (.getfield 55, 3) := by decide +kernel
theorem dX0_see_64 : decode cX0_see 64 = .ok (.iconst 1, 1) := by decide +kernel
theorem dX0_see_65 : decode cX0_see 65 = .ok (.iadd, 1) := by decide +kernel
theorem dX0_see_66 : decode cX0_see 66 = .ok (.putfield 55, 3) := by decide +kernel
theorem dX0_see_69 : decode cX0_see 69 = .ok (.aload_n 0, 1) := by decide +kernel
theorem dX0_see_70 : decode cX0_see 70 = .ok (.getfield 55, 3) := by decide +kernel
theorem dX0_see_73 : decode cX0_see 73 = .ok (.ireturn, 1) := by decide +kernel
theorem dX0_copyLaw_0 : decode cX0_copyLaw 0 = .ok (.aload_n 0, 1) := by decide +kernel
theorem dX0_copyLaw_1 : decode cX0_copyLaw 1 = .ok (.ifnull 12, 3) := by decide +kernel
theorem dX0_copyLaw_4 : decode cX0_copyLaw 4 = .ok (.aload_n 1, 1) := by decide +kernel
theorem dX0_copyLaw_5 : decode cX0_copyLaw 5 = .ok (.ifnull 8, 3) := by decide +kernel
theorem dX0_copyLaw_8 : decode cX0_copyLaw 8 = .ok (.aload_n 1, 1) := by decide +kernel
theorem dX0_copyLaw_9 : decode cX0_copyLaw 9 = .ok (.aload_n 0, 1) := by decide +kernel
theorem dX0_copyLaw_10 : decode cX0_copyLaw 10 = .ok (.invokevirtual 66, 3) := by decide +kernel
theorem dX0_copyLaw_13 : decode cX0_copyLaw 13 = .ok (.return_, 1) := by decide +kernel
theorem dX1_init_0 : decode cX1_init 0 = .ok (.aload_n 0, 1) := by decide +kernel
theorem dX1_init_1 : decode cX1_init 1 = .ok (.invokespecial 3, 3) := by decide +kernel
theorem dX1_init_4 : decode cX1_init 4 = .ok (.aload_n 0, 1) := by decide +kernel
theorem dX1_init_5 : decode cX1_init 5 = .ok (.new 9, 3) := by decide +kernel
theorem dX1_init_8 : decode cX1_init 8 = .ok (.dup, 1) := by decide +kernel
theorem dX1_init_9 : decode cX1_init 9 = .ok (.invokespecial 11, 3) := by decide +kernel
theorem dX1_init_12 : decode cX1_init 12 = .ok (.putfield 12, 3) := by decide +kernel
theorem dX1_init_15 : decode cX1_init 15 = .ok (.aload_n 0, 1) := by decide +kernel
theorem dX1_init_16 : decode cX1_init 16 = .ok (.aload_n 1, 1) := by decide +kernel
theorem dX1_init_17 : decode cX1_init 17 = .ok (.putfield 18, 3) := by decide +kernel
theorem dX1_init_20 : decode cX1_init 20 = .ok (.aload_n 0, 1) := by decide +kernel
theorem dX1_init_21 : decode cX1_init 21 = .ok (.aload_n 2, 1) := by decide +kernel
theorem dX1_init_22 : decode cX1_init 22 = .ok (.putfield 22, 3) := by decide +kernel
theorem dX1_init_25 : decode cX1_init 25 = .ok (.return_, 1) := by decide +kernel
theorem dX1_draw_0 : decode cX1_draw 0 = .ok (.aload_n 0, 1) := by decide +kernel
theorem dX1_draw_1 : decode cX1_draw 1 = .ok (.getfield 12, 3) := by decide +kernel
theorem dX1_draw_4 : decode cX1_draw 4 = .ok (.aload_n 1, 1) := by decide +kernel
theorem dX1_draw_5 : decode cX1_draw 5 = .ok (.invokevirtual 26, 3) := by decide +kernel
theorem dX1_draw_8 : decode cX1_draw 8 = .ok (.aload_n 0, 1) := by decide +kernel
theorem dX1_draw_9 : decode cX1_draw 9 = .ok (.iconst 1, 1) := by decide +kernel
theorem dX1_draw_10 : decode cX1_draw 10 = .ok (.putfield 30, 3) := by decide +kernel
theorem dX1_draw_13 : decode cX1_draw 13 = .ok (.aload_n 0, 1) := by decide +kernel
theorem dX1_draw_14 : decode cX1_draw 14 = .ok (.iload_n 2, 1) := by decide +kernel
theorem dX1_draw_15 : decode cX1_draw 15 = .ok (.putfield 34, 3) := by decide +kernel
theorem dX1_draw_18 : decode cX1_draw 18 = .ok (.iconst 0, 1) := by decide +kernel
theorem dX1_draw_19 : decode cX1_draw 19 = .ok (.istore 4, 2) := by decide +kernel
theorem dX1_draw_21 : decode cX1_draw 21 = .ok (.iload 4, 2) := by decide +kernel
theorem dX1_draw_23 : decode cX1_draw 23 = .ok (.iload_n 3, 1) := by decide +kernel
theorem dX1_draw_24 : decode cX1_draw 24 = .ok (.if_icmp .ge 81, 3) := by decide +kernel
theorem dX1_draw_27 : decode cX1_draw 27 = .ok (.aload_n 0, 1) := by decide +kernel
theorem dX1_draw_28 : decode cX1_draw 28 = .ok (.getfield 12, 3) := by decide +kernel
theorem dX1_draw_31 : decode cX1_draw 31 = .ok (.getfield 38, 3) := by decide +kernel
theorem dX1_draw_34 : decode cX1_draw 34 = .ok (.iconst 0, 1) := by decide +kernel
theorem dX1_draw_35 : decode cX1_draw 35 = .ok (.invokestatic 42, 3) := by decide +kernel
theorem dX1_draw_38 : decode cX1_draw 38 = .ok (.sipush 999, 3) := by decide +kernel
theorem dX1_draw_41 : decode cX1_draw 41 = .ok (.if_icmp .ge 64, 3) := by decide +kernel
theorem dX1_draw_44 : decode cX1_draw 44 = .ok (.iconst 0, 1) := by decide +kernel
theorem dX1_draw_45 : decode cX1_draw 45 = .ok (.istore 5, 2) := by decide +kernel
theorem dX1_draw_47 : decode cX1_draw 47 = .ok (.iload 5, 2) := by decide +kernel
theorem dX1_draw_49 : decode cX1_draw 49 = .ok (.aload_n 0, 1) := by decide +kernel
theorem dX1_draw_50 : decode cX1_draw 50 = .ok (.getfield 12, 3) := by decide +kernel
theorem dX1_draw_53 : decode cX1_draw 53 = .ok (.getfield 46, 3) := by decide +kernel
theorem dX1_draw_56 : decode cX1_draw 56 = .ok (.if_icmp .ge 31, 3) := by decide +kernel
theorem dX1_draw_59 : decode cX1_draw 59 = .ok (.aload_n 0, 1) := by decide +kernel
theorem dX1_draw_60 : decode cX1_draw 60 = .ok (.getfield 12, 3) := by decide +kernel
theorem dX1_draw_63 : decode cX1_draw 63 = .ok (.getfield 49, 3) := by decide +kernel
theorem dX1_draw_66 : decode cX1_draw 66 = .ok (.iload 5, 2) := by decide +kernel
theorem dX1_draw_68 : decode cX1_draw 68 = .ok (.invokestatic 42, 3) := by decide +kernel
theorem dX1_draw_71 : decode cX1_draw 71 = .ok (.iconst 1, 1) := by decide +kernel
theorem dX1_draw_72 : decode cX1_draw 72 = .ok (.if_icmp .ne 9, 3) := by decide +kernel
theorem dX1_draw_75 : decode cX1_draw 75 = .ok (.aload_n 0, 1) := by decide +kernel
theorem dX1_draw_76 : decode cX1_draw 76 = .ok (.iload 5, 2) := by decide +kernel
theorem dX1_draw_78 : decode cX1_draw 78 = .ok (.invokevirtual 52, 3) := by decide +kernel
theorem dX1_draw_81 : decode cX1_draw 81 = .ok (.iinc 5 1, 3) := by decide +kernel
theorem dX1_draw_84 : decode cX1_draw 84 = .ok (.goto (-37), 3) := by decide +kernel
theorem dX1_draw_87 : decode cX1_draw 87 = .ok (.aload_n 0, 1) := by decide +kernel
theorem dX1_draw_88 : decode cX1_draw 88 = .ok (.getfield 22, 3) := by decide +kernel
theorem dX1_draw_91 : decode cX1_draw 91 = .ok (.aload_n 0, 1) := by decide +kernel
theorem dX1_draw_92 : decode cX1_draw 92 = .ok (.getfield 12, 3) := by decide +kernel
theorem dX1_draw_95 : decode cX1_draw 95 = .ok (.invokevirtual 56, 3) := by decide +kernel
theorem dX1_draw_98 : decode cX1_draw 98 = .ok (.pop, 1) := by decide +kernel
theorem dX1_draw_99 : decode cX1_draw 99 = .ok (.iinc 4 1, 3) := by decide +kernel
theorem dX1_draw_102 : decode cX1_draw 102 = .ok (.goto (-81), 3) := by decide +kernel
theorem dX1_draw_105 : decode cX1_draw 105 = .ok (.return_, 1) := by decide +kernel
theorem dX1_fare_0 : decode cX1_fare 0 = .ok (.aload_n 0, 1) := by decide +kernel
theorem dX1_fare_1 : decode cX1_fare 1 = .ok (.getfield 22, 3) := by decide +kernel
theorem dX1_fare_4 : decode cX1_fare 4 = .ok (.aload_n 0, 1) := by decide +kernel
theorem dX1_fare_5 : decode cX1_fare 5 = .ok (.getfield 12, 3) := by decide +kernel
theorem dX1_fare_8 : decode cX1_fare 8 = .ok (.iload_n 1, 1) := by decide +kernel
theorem dX1_fare_9 : decode cX1_fare 9 = .ok (.aload_n 0, 1) := by decide +kernel
theorem dX1_fare_10 : decode cX1_fare 10 = .ok (.getfield 12, 3) := by decide +kernel
theorem dX1_fare_13 : decode cX1_fare 13 = .ok (.getfield 62, 3) := by decide +kernel
theorem dX1_fare_16 : decode cX1_fare 16 = .ok (.iload_n 1, 1) := by decide +kernel
theorem dX1_fare_17 : decode cX1_fare 17 = .ok (.invokestatic 42, 3) := by decide +kernel
theorem dX1_fare_20 : decode cX1_fare 20 = .ok (.invokevirtual 65, 3) := by decide +kernel
theorem dX1_fare_23 : decode cX1_fare 23 = .ok (.aload_n 0, 1) := by decide +kernel
theorem dX1_fare_24 : decode cX1_fare 24 = .ok (.sipush 1000, 3) := by decide +kernel
theorem dX1_fare_27 : decode cX1_fare 27 = .ok (.invokevirtual 69, 3) := by decide +kernel
theorem dX1_fare_30 : decode cX1_fare 30 = .ok (.aload_n 0, 1) := by decide +kernel
theorem dX1_fare_31 : decode cX1_fare 31 = .ok (.getfield 22, 3) := by decide +kernel
theorem dX1_fare_34 : decode cX1_fare 34 = .ok (.aload_n 0, 1) := by decide +kernel
theorem dX1_fare_35 : decode cX1_fare 35 = .ok (.getfield 18, 3) := by decide +kernel
theorem dX1_fare_38 : decode cX1_fare 38 = .ok (.invokevirtual 73, 3) := by decide +kernel
theorem dX1_fare_41 : decode cX1_fare 41 = .ok (.invokevirtual 79, 3) := by decide +kernel
theorem dX1_fare_44 : decode cX1_fare 44 = .ok (.if_icmp .ge 15, 3) := by decide +kernel
theorem dX1_fare_47 : decode cX1_fare 47 = .ok (.aload_n 0, 1) := by decide +kernel
theorem dX1_fare_48 : decode cX1_fare 48 = .ok (.getfield 12, 3) := by decide +kernel
theorem dX1_fare_51 : decode cX1_fare 51 = .ok (.iload_n 1, 1) := by decide +kernel
theorem dX1_fare_52 : decode cX1_fare 52 = .ok (.invokevirtual 83, 3) := by decide +kernel
theorem dX1_fare_55 : decode cX1_fare 55 = .ok (.pop, 1) := by decide +kernel
theorem dX1_fare_56 : decode cX1_fare 56 = .ok (.goto 49, 3) := by decide +kernel
theorem dX1_fare_59 : decode cX1_fare 59 = .ok (.aload_n 0, 1) := by decide +kernel
theorem dX1_fare_60 : decode cX1_fare 60 = .ok (.getfield 12, 3) := by decide +kernel
theorem dX1_fare_63 : decode cX1_fare 63 = .ok (.iload_n 1, 1) := by decide +kernel
theorem dX1_fare_64 : decode cX1_fare 64 = .ok (.invokevirtual 86, 3) := by decide +kernel
theorem dX1_fare_67 : decode cX1_fare 67 = .ok (.ifCond .eq 38, 3) := by decide +kernel
theorem dX1_fare_70 : decode cX1_fare 70 = .ok (.aload_n 0, 1) := by decide +kernel
theorem dX1_fare_71 : decode cX1_fare 71 = .ok (.bipush 16, 2) := by decide +kernel
theorem dX1_fare_73 : decode cX1_fare 73 = .ok (.invokevirtual 69, 3) := by decide +kernel
theorem dX1_fare_76 : decode cX1_fare 76 = .ok (.istore_n 2, 1) := by decide +kernel
theorem dX1_fare_77 : decode cX1_fare 77 = .ok (.aload_n 0, 1) := by decide +kernel
theorem dX1_fare_78 : decode cX1_fare 78 = .ok (.getfield 22, 3) := by decide +kernel
theorem dX1_fare_81 : decode cX1_fare 81 = .ok (.aload_n 0, 1) := by decide +kernel
theorem dX1_fare_82 : decode cX1_fare 82 = .ok (.getfield 12, 3) := by decide +kernel
theorem dX1_fare_85 : decode cX1_fare 85 = .ok (.iload_n 1, 1) := by decide +kernel
theorem dX1_fare_86 : decode cX1_fare 86 = .ok (.iload_n 2, 1) := by decide +kernel
theorem dX1_fare_87 : decode cX1_fare 87 = .ok (.invokevirtual 90, 3) := by decide +kernel
theorem dX1_fare_90 : decode cX1_fare 90 = .ok (.ifCond .eq 15, 3) := by decide +kernel
theorem dX1_fare_93 : decode cX1_fare 93 = .ok (.aload_n 0, 1) := by decide +kernel
theorem dX1_fare_94 : decode cX1_fare 94 = .ok (.getfield 12, 3) := by decide +kernel
theorem dX1_fare_97 : decode cX1_fare 97 = .ok (.getfield 62, 3) := by decide +kernel
theorem dX1_fare_100 : decode cX1_fare 100 = .ok (.iload_n 1, 1) := by decide +kernel
theorem dX1_fare_101 : decode cX1_fare 101 = .ok (.iload_n 2, 1) := by decide +kernel
theorem dX1_fare_102 : decode cX1_fare 102 = .ok (.invokestatic 94, 3) := by decide +kernel
theorem dX1_fare_105 : decode cX1_fare 105 = .ok (.return_, 1) := by decide +kernel
theorem dX1_next_0 : decode cX1_next 0 = .ok (.aload_n 0, 1) := by decide +kernel
theorem dX1_next_1 : decode cX1_next 1 = .ok (.aload_n 0, 1) := by decide +kernel
theorem dX1_next_2 : decode cX1_next 2 = .ok (.getfield 34, 3) := by decide +kernel
theorem dX1_next_5 : decode cX1_next 5 = .ok (.sipush 1103, 3) := by decide +kernel
theorem dX1_next_8 : decode cX1_next 8 = .ok (.imul, 1) := by decide +kernel
theorem dX1_next_9 : decode cX1_next 9 = .ok (.sipush 12345, 3) := by decide +kernel
theorem dX1_next_12 : decode cX1_next 12 = .ok (.iadd, 1) := by decide +kernel
theorem dX1_next_13 : decode cX1_next 13 = .ok (.ldc 98, 2) := by decide +kernel
theorem dX1_next_15 : decode cX1_next 15 = .ok (.irem, 1) := by decide +kernel
theorem dX1_next_16 : decode cX1_next 16 = .ok (.putfield 34, 3) := by decide +kernel
theorem dX1_next_19 : decode cX1_next 19 = .ok (.iload_n 1, 1) := by decide +kernel
theorem dX1_next_20 : decode cX1_next 20 = .ok (.ifCond .le 12, 3) := by decide +kernel
theorem dX1_next_23 : decode cX1_next 23 = .ok (.aload_n 0, 1) := by decide +kernel
theorem dX1_next_24 : decode cX1_next 24 = .ok (.getfield 34, 3) := by decide +kernel
theorem dX1_next_27 : decode cX1_next 27 = .ok (.iload_n 1, 1) := by decide +kernel
theorem dX1_next_28 : decode cX1_next 28 = .ok (.irem, 1) := by decide +kernel
theorem dX1_next_29 : decode cX1_next 29 = .ok (.goto 4, 3) := by decide +kernel
theorem dX1_next_32 : decode cX1_next 32 = .ok (.iconst 0, 1) := by decide +kernel
theorem dX1_next_33 : decode cX1_next 33 = .ok (.ireturn, 1) := by decide +kernel
theorem dX2_init_0 : decode cX2_init 0 = .ok (.aload_n 0, 1) := by decide +kernel
theorem dX2_init_1 : decode cX2_init 1 = .ok (.invokespecial 3, 3) := by decide +kernel
theorem dX2_init_4 : decode cX2_init 4 = .ok (.aload_n 0, 1) := by decide +kernel
theorem dX2_init_5 : decode cX2_init 5 = .ok (.new 9, 3) := by decide +kernel
theorem dX2_init_8 : decode cX2_init 8 = .ok (.dup, 1) := by decide +kernel
theorem dX2_init_9 : decode cX2_init 9 = .ok (.invokespecial 11, 3) := by decide +kernel
theorem dX2_init_12 : decode cX2_init 12 = .ok (.putfield 12, 3) := by decide +kernel
theorem dX2_init_15 : decode cX2_init 15 = .ok (.aload_n 0, 1) := by decide +kernel
theorem dX2_init_16 : decode cX2_init 16 = .ok (.bipush 8, 2) := by decide +kernel
theorem dX2_init_18 : decode cX2_init 18 = .ok (.newarray .int, 2) := by decide +kernel
theorem dX2_init_20 : decode cX2_init 20 = .ok (.putfield 18, 3) := by decide +kernel
theorem dX2_init_23 : decode cX2_init 23 = .ok (.aload_n 0, 1) := by decide +kernel
theorem dX2_init_24 : decode cX2_init 24 = .ok (.aload_n 1, 1) := by decide +kernel
theorem dX2_init_25 : decode cX2_init 25 = .ok (.putfield 22, 3) := by decide +kernel
theorem dX2_init_28 : decode cX2_init 28 = .ok (.return_, 1) := by decide +kernel
theorem dX2_hear_0 : decode cX2_hear 0 = .ok (.aload_n 0, 1) := by decide +kernel
theorem dX2_hear_1 : decode cX2_hear 1 = .ok (.getfield 18, 3) := by decide +kernel
theorem dX2_hear_4 : decode cX2_hear 4 = .ok (.iconst 0, 1) := by decide +kernel
theorem dX2_hear_5 : decode cX2_hear 5 = .ok (.iload_n 2, 1) := by decide +kernel
theorem dX2_hear_6 : decode cX2_hear 6 = .ok (.invokestatic 26, 3) := by decide +kernel
theorem dX2_hear_9 : decode cX2_hear 9 = .ok (.aload_n 0, 1) := by decide +kernel
theorem dX2_hear_10 : decode cX2_hear 10 = .ok (.getfield 18, 3) := by decide +kernel
theorem dX2_hear_13 : decode cX2_hear 13 = .ok (.iconst 1, 1) := by decide +kernel
theorem dX2_hear_14 : decode cX2_hear 14 = .ok (.aload_n 1, 1) := by decide +kernel
theorem dX2_hear_15 : decode cX2_hear 15 = .ok (.getfield 30, 3) := by decide +kernel
theorem dX2_hear_18 : decode cX2_hear 18 = .ok (.iload_n 2, 1) := by decide +kernel
theorem dX2_hear_19 : decode cX2_hear 19 = .ok (.invokestatic 35, 3) := by decide +kernel
theorem dX2_hear_22 : decode cX2_hear 22 = .ok (.invokestatic 26, 3) := by decide +kernel
theorem dX2_hear_25 : decode cX2_hear 25 = .ok (.aload_n 0, 1) := by decide +kernel
theorem dX2_hear_26 : decode cX2_hear 26 = .ok (.getfield 18, 3) := by decide +kernel
theorem dX2_hear_29 : decode cX2_hear 29 = .ok (.iconst 2, 1) := by decide +kernel
theorem dX2_hear_30 : decode cX2_hear 30 = .ok (.aload_n 1, 1) := by decide +kernel
theorem dX2_hear_31 : decode cX2_hear 31 = .ok (.getfield 39, 3) := by decide +kernel
theorem dX2_hear_34 : decode cX2_hear 34 = .ok (.iload_n 2, 1) := by decide +kernel
theorem dX2_hear_35 : decode cX2_hear 35 = .ok (.invokestatic 35, 3) := by decide +kernel
theorem dX2_hear_38 : decode cX2_hear 38 = .ok (.invokestatic 26, 3) := by decide +kernel
theorem dX2_hear_41 : decode cX2_hear 41 = .ok (.aload_n 0, 1) := by decide +kernel
theorem dX2_hear_42 : decode cX2_hear 42 = .ok (.getfield 18, 3) := by decide +kernel
theorem dX2_hear_45 : decode cX2_hear 45 = .ok (.iconst 3, 1) := by decide +kernel
theorem dX2_hear_46 : decode cX2_hear 46 = .ok (.iload_n 3, 1) := by decide +kernel
theorem dX2_hear_47 : decode cX2_hear 47 = .ok (.invokestatic 26, 3) := by decide +kernel
theorem dX2_hear_50 : decode cX2_hear 50 = .ok (.aload_n 0, 1) := by decide +kernel
theorem dX2_hear_51 : decode cX2_hear 51 = .ok (.getfield 18, 3) := by decide +kernel
theorem dX2_hear_54 : decode cX2_hear 54 = .ok (.iconst 4, 1) := by decide +kernel
theorem dX2_hear_55 : decode cX2_hear 55 = .ok (.aload_n 1, 1) := by decide +kernel
theorem dX2_hear_56 : decode cX2_hear 56 = .ok (.getfield 42, 3) := by decide +kernel
theorem dX2_hear_59 : decode cX2_hear 59 = .ok (.iload_n 3, 1) := by decide +kernel
theorem dX2_hear_60 : decode cX2_hear 60 = .ok (.invokestatic 35, 3) := by decide +kernel
theorem dX2_hear_63 : decode cX2_hear 63 = .ok (.invokestatic 26, 3) := by decide +kernel
theorem dX2_hear_66 : decode cX2_hear 66 = .ok (.aload_n 0, 1) := by decide +kernel
theorem dX2_hear_67 : decode cX2_hear 67 = .ok (.getfield 18, 3) := by decide +kernel
theorem dX2_hear_70 : decode cX2_hear 70 = .ok (.iconst 5, 1) := by decide +kernel
theorem dX2_hear_71 : decode cX2_hear 71 = .ok (.aload_n 1, 1) := by decide +kernel
theorem dX2_hear_72 : decode cX2_hear 72 = .ok (.getfield 45, 3) := by decide +kernel
theorem dX2_hear_75 : decode cX2_hear 75 = .ok (.iload_n 3, 1) := by decide +kernel
theorem dX2_hear_76 : decode cX2_hear 76 = .ok (.invokestatic 35, 3) := by decide +kernel
theorem dX2_hear_79 : decode cX2_hear 79 = .ok (.invokestatic 26, 3) := by decide +kernel
theorem dX2_hear_82 : decode cX2_hear 82 = .ok (.aload_n 0, 1) := by decide +kernel
theorem dX2_hear_83 : decode cX2_hear 83 = .ok (.getfield 18, 3) := by decide +kernel
theorem dX2_hear_86 : decode cX2_hear 86 = .ok (.bipush 6, 2) := by decide +kernel
theorem dX2_hear_88 : decode cX2_hear 88 = .ok (.aload_n 1, 1) := by decide +kernel
theorem dX2_hear_89 : decode cX2_hear 89 = .ok (.getfield 48, 3) := by decide +kernel
theorem dX2_hear_92 : decode cX2_hear 92 = .ok (.iconst 0, 1) := by decide +kernel
theorem dX2_hear_93 : decode cX2_hear 93 = .ok (.invokestatic 35, 3) := by decide +kernel
theorem dX2_hear_96 : decode cX2_hear 96 = .ok (.invokestatic 26, 3) := by decide +kernel
theorem dX2_hear_99 : decode cX2_hear 99 = .ok (.aload_n 0, 1) := by decide +kernel
theorem dX2_hear_100 : decode cX2_hear 100 = .ok (.getfield 18, 3) := by decide +kernel
theorem dX2_hear_103 : decode cX2_hear 103 = .ok (.bipush 7, 2) := by decide +kernel
theorem dX2_hear_105 : decode cX2_hear 105 = .ok (.aload_n 1, 1) := by decide +kernel
theorem dX2_hear_106 : decode cX2_hear 106 = .ok (.getfield 48, 3) := by decide +kernel
theorem dX2_hear_109 : decode cX2_hear 109 = .ok (.iconst 2, 1) := by decide +kernel
theorem dX2_hear_110 : decode cX2_hear 110 = .ok (.invokestatic 35, 3) := by decide +kernel
theorem dX2_hear_113 : decode cX2_hear 113 = .ok (.invokestatic 26, 3) := by decide +kernel
theorem dX2_hear_116 : decode cX2_hear 116 = .ok (.return_, 1) := by decide +kernel
theorem dX2_later_0 : decode cX2_later 0 = .ok (.aload_n 0, 1) := by decide +kernel
theorem dX2_later_1 : decode cX2_later 1 = .ok (.getfield 18, 3) := by decide +kernel
theorem dX2_later_4 : decode cX2_later 4 = .ok (.iconst 1, 1) := by decide +kernel
theorem dX2_later_5 : decode cX2_later 5 = .ok (.bipush 99, 2) := by decide +kernel
theorem dX2_later_7 : decode cX2_later 7 = .ok (.aload_n 0, 1) := by decide +kernel
theorem dX2_later_8 : decode cX2_later 8 = .ok (.getfield 18, 3) := by decide +kernel
theorem dX2_later_11 : decode cX2_later 11 = .ok (.iconst 1, 1) := by decide +kernel
theorem dX2_later_12 : decode cX2_later 12 = .ok (.invokestatic 35, 3) := by decide +kernel
theorem dX2_later_15 : decode cX2_later 15 = .ok (.iload_n 1, 1) := by decide +kernel
theorem dX2_later_16 : decode cX2_later 16 = .ok (.iadd, 1) := by decide +kernel
theorem dX2_later_17 : decode cX2_later 17 = .ok (.invokestatic 51, 3) := by decide +kernel
theorem dX2_later_20 : decode cX2_later 20 = .ok (.invokestatic 26, 3) := by decide +kernel
theorem dX2_later_23 : decode cX2_later 23 = .ok (.aload_n 0, 1) := by decide +kernel
theorem dX2_later_24 : decode cX2_later 24 = .ok (.getfield 18, 3) := by decide +kernel
theorem dX2_later_27 : decode cX2_later 27 = .ok (.bipush 6, 2) := by decide +kernel
theorem dX2_later_29 : decode cX2_later 29 = .ok (.aload_n 0, 1) := by decide +kernel
theorem dX2_later_30 : decode cX2_later 30 = .ok (.getfield 18, 3) := by decide +kernel
theorem dX2_later_33 : decode cX2_later 33 = .ok (.bipush 6, 2) := by decide +kernel
theorem dX2_later_35 : decode cX2_later 35 = .ok (.invokestatic 35, 3) := by decide +kernel
theorem dX2_later_38 : decode cX2_later 38 = .ok (.iload_n 1, 1) := by decide +kernel
theorem dX2_later_39 : decode cX2_later 39 = .ok (.iadd, 1) := by decide +kernel
theorem dX2_later_40 : decode cX2_later 40 = .ok (.invokestatic 26, 3) := by decide +kernel
theorem dX2_later_43 : decode cX2_later 43 = .ok (.return_, 1) := by decide +kernel
theorem dX2_raised_0 : decode cX2_raised 0 = .ok (.aload_n 0, 1) := by decide +kernel
theorem dX2_raised_1 : decode cX2_raised 1 = .ok (.getfield 18, 3) := by decide +kernel
theorem dX2_raised_4 : decode cX2_raised 4 = .ok (.iconst 4, 1) := by decide +kernel
theorem dX2_raised_5 : decode cX2_raised 5 = .ok (.iload_n 1, 1) := by decide +kernel
theorem dX2_raised_6 : decode cX2_raised 6 = .ok (.invokestatic 26, 3) := by decide +kernel
theorem dX2_raised_9 : decode cX2_raised 9 = .ok (.return_, 1) := by decide +kernel
theorem dX2_thousandths_0 : decode cX2_thousandths 0 = .ok (.aload_n 0, 1) := by decide +kernel
theorem dX2_thousandths_1 : decode cX2_thousandths 1 = .ok (.aload_n 1, 1) := by decide +kernel
theorem dX2_thousandths_2 : decode cX2_thousandths 2 = .ok (.iconst 0, 1) := by decide +kernel
theorem dX2_thousandths_3 : decode cX2_thousandths 3 = .ok (.aload_n 0, 1) := by decide +kernel
theorem dX2_thousandths_4 : decode cX2_thousandths 4 = .ok (.getfield 18, 3) := by decide +kernel
theorem dX2_thousandths_7 : decode cX2_thousandths 7 = .ok (.iconst 1, 1) := by decide +kernel
theorem dX2_thousandths_8 : decode cX2_thousandths 8 = .ok (.invokestatic 35, 3) := by decide +kernel
theorem dX2_thousandths_11 : decode cX2_thousandths 11 = .ok (.invokevirtual 57, 3) := by decide +kernel
theorem dX2_thousandths_14 : decode cX2_thousandths 14 = .ok (.iconst 0, 1) := by decide +kernel
theorem dX2_thousandths_15 : decode cX2_thousandths 15 = .ok (.sipush 1000, 3) := by decide +kernel
theorem dX2_thousandths_18 : decode cX2_thousandths 18 = .ok (.invokestatic 61, 3) := by decide +kernel
theorem dX2_thousandths_21 : decode cX2_thousandths 21 = .ok (.ireturn, 1) := by decide +kernel
theorem dX2_coursesAYear_0 : decode cX2_coursesAYear 0 = .ok (.aload_n 0, 1) := by decide +kernel
theorem dX2_coursesAYear_1 : decode cX2_coursesAYear 1 = .ok (.aload_n 0, 1) := by decide +kernel
theorem dX2_coursesAYear_2 : decode cX2_coursesAYear 2 = .ok (.getfield 22, 3) := by decide +kernel
theorem dX2_coursesAYear_5 : decode cX2_coursesAYear 5 = .ok (.invokevirtual 65, 3) := by decide +kernel
theorem dX2_coursesAYear_8 : decode cX2_coursesAYear 8 = .ok (.iconst 1, 1) := by decide +kernel
theorem dX2_coursesAYear_9 : decode cX2_coursesAYear 9 = .ok (.aload_n 0, 1) := by decide +kernel
theorem dX2_coursesAYear_10 : decode cX2_coursesAYear 10 = .ok (.getfield 18, 3) := by decide +kernel
theorem dX2_coursesAYear_13 : decode cX2_coursesAYear 13 = .ok (.iconst 2, 1) := by decide +kernel
theorem dX2_coursesAYear_14 : decode cX2_coursesAYear 14 = .ok (.invokestatic 35, 3) := by decide +kernel
theorem dX2_coursesAYear_17 : decode cX2_coursesAYear 17 = .ok (.invokevirtual 57, 3) := by decide +kernel
theorem dX2_coursesAYear_20 : decode cX2_coursesAYear 20 = .ok (.iconst 0, 1) := by decide +kernel
theorem dX2_coursesAYear_21 : decode cX2_coursesAYear 21 = .ok (.bipush 9, 2) := by decide +kernel
theorem dX2_coursesAYear_23 : decode cX2_coursesAYear 23 = .ok (.invokestatic 61, 3) := by decide +kernel
theorem dX2_coursesAYear_26 : decode cX2_coursesAYear 26 = .ok (.ireturn, 1) := by decide +kernel
theorem dX2_worthOfPlot_0 : decode cX2_worthOfPlot 0 = .ok (.aload_n 0, 1) := by decide +kernel
theorem dX2_worthOfPlot_1 : decode cX2_worthOfPlot 1 = .ok (.aload_n 0, 1) := by decide +kernel
theorem dX2_worthOfPlot_2 : decode cX2_worthOfPlot 2 = .ok (.getfield 22, 3) := by decide +kernel
theorem dX2_worthOfPlot_5 : decode cX2_worthOfPlot 5 = .ok (.invokevirtual 65, 3) := by decide +kernel
theorem dX2_worthOfPlot_8 : decode cX2_worthOfPlot 8 = .ok (.iconst 2, 1) := by decide +kernel
theorem dX2_worthOfPlot_9 : decode cX2_worthOfPlot 9 = .ok (.aload_n 0, 1) := by decide +kernel
theorem dX2_worthOfPlot_10 : decode cX2_worthOfPlot 10 = .ok (.getfield 18, 3) := by decide +kernel
theorem dX2_worthOfPlot_13 : decode cX2_worthOfPlot 13 = .ok (.iconst 4, 1) := by decide +kernel
theorem dX2_worthOfPlot_14 : decode cX2_worthOfPlot 14 = .ok (.invokestatic 35, 3) := by decide +kernel
theorem dX2_worthOfPlot_17 : decode cX2_worthOfPlot 17 = .ok (.invokevirtual 57, 3) := by decide +kernel
theorem dX2_worthOfPlot_20 : decode cX2_worthOfPlot 20 = .ok (.iconst 0, 1) := by decide +kernel
theorem dX2_worthOfPlot_21 : decode cX2_worthOfPlot 21 = .ok (.bipush 99, 2) := by decide +kernel
theorem dX2_worthOfPlot_23 : decode cX2_worthOfPlot 23 = .ok (.invokestatic 61, 3) := by decide +kernel
theorem dX2_worthOfPlot_26 : decode cX2_worthOfPlot 26 = .ok (.ireturn, 1) := by decide +kernel
theorem dX2_mayStart_0 : decode cX2_mayStart 0 = .ok (.aload_n 1, 1) := by decide +kernel
theorem dX2_mayStart_1 : decode cX2_mayStart 1 = .ok (.iload_n 2, 1) := by decide +kernel
theorem dX2_mayStart_2 : decode cX2_mayStart 2 = .ok (.invokevirtual 71, 3) := by decide +kernel
theorem dX2_mayStart_5 : decode cX2_mayStart 5 = .ok (.ifCond .eq 12, 3) := by decide +kernel
theorem dX2_mayStart_8 : decode cX2_mayStart 8 = .ok (.aload_n 1, 1) := by decide +kernel
theorem dX2_mayStart_9 : decode cX2_mayStart 9 = .ok (.iload_n 3, 1) := by decide +kernel
theorem dX2_mayStart_10 : decode cX2_mayStart 10 = .ok (.invokevirtual 75, 3) := by decide +kernel
theorem dX2_mayStart_13 : decode cX2_mayStart 13 = .ok (.iconst (-1), 1) := by decide +kernel
theorem dX2_mayStart_14 : decode cX2_mayStart 14 = .ok (.if_icmp .eq 5, 3) := by decide +kernel
theorem dX2_mayStart_17 : decode cX2_mayStart 17 = .ok (.iconst 0, 1) := by decide +kernel
theorem dX2_mayStart_18 : decode cX2_mayStart 18 = .ok (.ireturn, 1) := by decide +kernel
theorem dX2_mayStart_19 : decode cX2_mayStart 19 = .ok (.aload_n 1, 1) := by decide +kernel
theorem dX2_mayStart_20 : decode cX2_mayStart 20 = .ok (.getfield 42, 3) := by decide +kernel
theorem dX2_mayStart_23 : decode cX2_mayStart 23 = .ok (.iload_n 3, 1) := by decide +kernel
theorem dX2_mayStart_24 : decode cX2_mayStart 24 = .ok (.invokestatic 35, 3) := by decide +kernel
theorem dX2_mayStart_27 : decode cX2_mayStart 27 = .ok (.ifCond .ne 14, 3) := by decide +kernel
theorem dX2_mayStart_30 : decode cX2_mayStart 30 = .ok (.aload_n 1, 1) := by decide +kernel
theorem dX2_mayStart_31 : decode cX2_mayStart 31 = .ok (.getfield 45, 3) := by decide +kernel
theorem dX2_mayStart_34 : decode cX2_mayStart 34 = .ok (.iload_n 3, 1) := by decide +kernel
theorem dX2_mayStart_35 : decode cX2_mayStart 35 = .ok (.invokestatic 35, 3) := by decide +kernel
theorem dX2_mayStart_38 : decode cX2_mayStart 38 = .ok (.ifCond .eq 5, 3) := by decide +kernel
theorem dX2_mayStart_41 : decode cX2_mayStart 41 = .ok (.iconst 0, 1) := by decide +kernel
theorem dX2_mayStart_42 : decode cX2_mayStart 42 = .ok (.ireturn, 1) := by decide +kernel
theorem dX2_mayStart_43 : decode cX2_mayStart 43 = .ok (.aload_n 0, 1) := by decide +kernel
theorem dX2_mayStart_44 : decode cX2_mayStart 44 = .ok (.aload_n 1, 1) := by decide +kernel
theorem dX2_mayStart_45 : decode cX2_mayStart 45 = .ok (.iload_n 2, 1) := by decide +kernel
theorem dX2_mayStart_46 : decode cX2_mayStart 46 = .ok (.iload_n 3, 1) := by decide +kernel
theorem dX2_mayStart_47 : decode cX2_mayStart 47 = .ok (.invokevirtual 79, 3) := by decide +kernel
theorem dX2_mayStart_50 : decode cX2_mayStart 50 = .ok (.aload_n 0, 1) := by decide +kernel
theorem dX2_mayStart_51 : decode cX2_mayStart 51 = .ok (.aload_n 0, 1) := by decide +kernel
theorem dX2_mayStart_52 : decode cX2_mayStart 52 = .ok (.getfield 22, 3) := by decide +kernel
theorem dX2_mayStart_55 : decode cX2_mayStart 55 = .ok (.invokevirtual 65, 3) := by decide +kernel
theorem dX2_mayStart_58 : decode cX2_mayStart 58 = .ok (.iconst 3, 1) := by decide +kernel
theorem dX2_mayStart_59 : decode cX2_mayStart 59 = .ok (.iconst 0, 1) := by decide +kernel
theorem dX2_mayStart_60 : decode cX2_mayStart 60 = .ok (.invokevirtual 57, 3) := by decide +kernel
theorem dX2_mayStart_63 : decode cX2_mayStart 63 = .ok (.ifCond .ne 7, 3) := by decide +kernel
theorem dX2_mayStart_66 : decode cX2_mayStart 66 = .ok (.iconst 1, 1) := by decide +kernel
theorem dX2_mayStart_67 : decode cX2_mayStart 67 = .ok (.goto 4, 3) := by decide +kernel
theorem dX2_mayStart_70 : decode cX2_mayStart 70 = .ok (.iconst 0, 1) := by decide +kernel
theorem dX2_mayStart_71 : decode cX2_mayStart 71 = .ok (.ireturn, 1) := by decide +kernel
theorem dX2_passOn_0 : decode cX2_passOn 0 = .ok (.iconst 0, 1) := by decide +kernel
theorem dX2_passOn_1 : decode cX2_passOn 1 = .ok (.istore_n 2, 1) := by decide +kernel
theorem dX2_passOn_2 : decode cX2_passOn 2 = .ok (.iconst 0, 1) := by decide +kernel
theorem dX2_passOn_3 : decode cX2_passOn 3 = .ok (.istore_n 3, 1) := by decide +kernel
theorem dX2_passOn_4 : decode cX2_passOn 4 = .ok (.iload_n 3, 1) := by decide +kernel
theorem dX2_passOn_5 : decode cX2_passOn 5 = .ok (.aload_n 1, 1) := by decide +kernel
theorem dX2_passOn_6 : decode cX2_passOn 6 = .ok (.getfield 83, 3) := by decide +kernel
theorem dX2_passOn_9 : decode cX2_passOn 9 = .ok (.if_icmp .ge 71, 3) := by decide +kernel
theorem dX2_passOn_12 : decode cX2_passOn 12 = .ok (.aload_n 1, 1) := by decide +kernel
theorem dX2_passOn_13 : decode cX2_passOn 13 = .ok (.getfield 87, 3) := by decide +kernel
theorem dX2_passOn_16 : decode cX2_passOn 16 = .ok (.iload_n 3, 1) := by decide +kernel
theorem dX2_passOn_17 : decode cX2_passOn 17 = .ok (.invokestatic 35, 3) := by decide +kernel
theorem dX2_passOn_20 : decode cX2_passOn 20 = .ok (.istore 4, 2) := by decide +kernel
theorem dX2_passOn_22 : decode cX2_passOn 22 = .ok (.iload 4, 2) := by decide +kernel
theorem dX2_passOn_24 : decode cX2_passOn 24 = .ok (.iconst (-1), 1) := by decide +kernel
theorem dX2_passOn_25 : decode cX2_passOn 25 = .ok (.if_icmp .eq 49, 3) := by decide +kernel
theorem dX2_passOn_28 : decode cX2_passOn 28 = .ok (.aload_n 0, 1) := by decide +kernel
theorem dX2_passOn_29 : decode cX2_passOn 29 = .ok (.aload_n 1, 1) := by decide +kernel
theorem dX2_passOn_30 : decode cX2_passOn 30 = .ok (.iload_n 3, 1) := by decide +kernel
theorem dX2_passOn_31 : decode cX2_passOn 31 = .ok (.iload 4, 2) := by decide +kernel
theorem dX2_passOn_33 : decode cX2_passOn 33 = .ok (.invokevirtual 79, 3) := by decide +kernel
theorem dX2_passOn_36 : decode cX2_passOn 36 = .ok (.aload_n 0, 1) := by decide +kernel
theorem dX2_passOn_37 : decode cX2_passOn 37 = .ok (.aload_n 0, 1) := by decide +kernel
theorem dX2_passOn_38 : decode cX2_passOn 38 = .ok (.getfield 22, 3) := by decide +kernel
theorem dX2_passOn_41 : decode cX2_passOn 41 = .ok (.invokevirtual 65, 3) := by decide +kernel
theorem dX2_passOn_44 : decode cX2_passOn 44 = .ok (.iconst 1, 1) := by decide +kernel
theorem dX2_passOn_45 : decode cX2_passOn 45 = .ok (.aload_n 0, 1) := by decide +kernel
theorem dX2_passOn_46 : decode cX2_passOn 46 = .ok (.getfield 18, 3) := by decide +kernel
theorem dX2_passOn_49 : decode cX2_passOn 49 = .ok (.iconst 2, 1) := by decide +kernel
theorem dX2_passOn_50 : decode cX2_passOn 50 = .ok (.invokestatic 35, 3) := by decide +kernel
theorem dX2_passOn_53 : decode cX2_passOn 53 = .ok (.invokevirtual 57, 3) := by decide +kernel
theorem dX2_passOn_56 : decode cX2_passOn 56 = .ok (.istore 5, 2) := by decide +kernel
theorem dX2_passOn_58 : decode cX2_passOn 58 = .ok (.iload_n 2, 1) := by decide +kernel
theorem dX2_passOn_59 : decode cX2_passOn 59 = .ok (.aload_n 1, 1) := by decide +kernel
theorem dX2_passOn_60 : decode cX2_passOn 60 = .ok (.iload_n 3, 1) := by decide +kernel
theorem dX2_passOn_61 : decode cX2_passOn 61 = .ok (.iload 5, 2) := by decide +kernel
theorem dX2_passOn_63 : decode cX2_passOn 63 = .ok (.iconst 0, 1) := by decide +kernel
theorem dX2_passOn_64 : decode cX2_passOn 64 = .ok (.bipush 9, 2) := by decide +kernel
theorem dX2_passOn_66 : decode cX2_passOn 66 = .ok (.invokestatic 61, 3) := by decide +kernel
theorem dX2_passOn_69 : decode cX2_passOn 69 = .ok (.invokevirtual 90, 3) := by decide +kernel
theorem dX2_passOn_72 : decode cX2_passOn 72 = .ok (.iadd, 1) := by decide +kernel
theorem dX2_passOn_73 : decode cX2_passOn 73 = .ok (.istore_n 2, 1) := by decide +kernel
theorem dX2_passOn_74 : decode cX2_passOn 74 = .ok (.iinc 3 1, 3) := by decide +kernel
theorem dX2_passOn_77 : decode cX2_passOn 77 = .ok (.goto (-73), 3) := by decide +kernel
theorem dX2_passOn_80 : decode cX2_passOn 80 = .ok (.aload_n 1, 1) := by decide +kernel
theorem dX2_passOn_81 : decode cX2_passOn 81 = .ok (.invokevirtual 93, 3) := by decide +kernel
theorem dX2_passOn_84 : decode cX2_passOn 84 = .ok (.iload_n 2, 1) := by decide +kernel
theorem dX2_passOn_85 : decode cX2_passOn 85 = .ok (.ireturn, 1) := by decide +kernel
theorem dX2_told_0 : decode cX2_told 0 = .ok (.aload_n 1, 1) := by decide +kernel
theorem dX2_told_1 : decode cX2_told 1 = .ok (.ifnonnull 5, 3) := by decide +kernel
theorem dX2_told_4 : decode cX2_told 4 = .ok (.iload_n 3, 1) := by decide +kernel
theorem dX2_told_5 : decode cX2_told 5 = .ok (.ireturn, 1) := by decide +kernel
theorem dX2_told_6 : decode cX2_told 6 = .ok (.aload_n 1, 1) := by decide +kernel
theorem dX2_told_7 : decode cX2_told 7 = .ok (.getfield 96, 3) := by decide +kernel
theorem dX2_told_10 : decode cX2_told 10 = .ok (.iconst 1, 1) := by decide +kernel
theorem dX2_told_11 : decode cX2_told 11 = .ok (.isub, 1) := by decide +kernel
theorem dX2_told_12 : decode cX2_told 12 = .ok (.istore 4, 2) := by decide +kernel
theorem dX2_told_14 : decode cX2_told 14 = .ok (.iload 4, 2) := by decide +kernel
theorem dX2_told_16 : decode cX2_told 16 = .ok (.ifCond .lt 107, 3) := by decide +kernel
theorem dX2_told_19 : decode cX2_told 19 = .ok (.aload_n 1, 1) := by decide +kernel
theorem dX2_told_20 : decode cX2_told 20 = .ok (.getfield 101, 3) := by decide +kernel
theorem dX2_told_23 : decode cX2_told 23 = .ok (.iload 4, 2) := by decide +kernel
theorem dX2_told_25 : decode cX2_told 25 = .ok (.invokestatic 35, 3) := by decide +kernel
theorem dX2_told_28 : decode cX2_told 28 = .ok (.iload_n 2, 1) := by decide +kernel
theorem dX2_told_29 : decode cX2_told 29 = .ok (.if_icmp .ne 88, 3) := by decide +kernel
theorem dX2_told_32 : decode cX2_told 32 = .ok (.aload_n 0, 1) := by decide +kernel
theorem dX2_told_33 : decode cX2_told 33 = .ok (.getfield 12, 3) := by decide +kernel
theorem dX2_told_36 : decode cX2_told 36 = .ok (.aload_n 1, 1) := by decide +kernel
theorem dX2_told_37 : decode cX2_told 37 = .ok (.getfield 104, 3) := by decide +kernel
theorem dX2_told_40 : decode cX2_told 40 = .ok (.aload_n 1, 1) := by decide +kernel
theorem dX2_told_41 : decode cX2_told 41 = .ok (.getfield 107, 3) := by decide +kernel
theorem dX2_told_44 : decode cX2_told 44 = .ok (.iload 4, 2) := by decide +kernel
theorem dX2_told_46 : decode cX2_told 46 = .ok (.invokestatic 35, 3) := by decide +kernel
theorem dX2_told_49 : decode cX2_told 49 = .ok (.aload_n 0, 1) := by decide +kernel
theorem dX2_told_50 : decode cX2_told 50 = .ok (.getfield 18, 3) := by decide +kernel
theorem dX2_told_53 : decode cX2_told 53 = .ok (.invokevirtual 110, 3) := by decide +kernel
theorem dX2_told_56 : decode cX2_told 56 = .ok (.ifCond .eq 18, 3) := by decide +kernel
theorem dX2_told_59 : decode cX2_told 59 = .ok (.aload_n 0, 1) := by decide +kernel
theorem dX2_told_60 : decode cX2_told 60 = .ok (.getfield 12, 3) := by decide +kernel
theorem dX2_told_63 : decode cX2_told 63 = .ok (.getfield 114, 3) := by decide +kernel
theorem dX2_told_66 : decode cX2_told 66 = .ok (.iconst 1, 1) := by decide +kernel
theorem dX2_told_67 : decode cX2_told 67 = .ok (.if_icmp .ne 7, 3) := by decide +kernel
theorem dX2_told_70 : decode cX2_told 70 = .ok (.iconst 1, 1) := by decide +kernel
theorem dX2_told_71 : decode cX2_told 71 = .ok (.goto 4, 3) := by decide +kernel
theorem dX2_told_74 : decode cX2_told 74 = .ok (.iconst 0, 1) := by decide +kernel
theorem dX2_told_75 : decode cX2_told 75 = .ok (.istore 5, 2) := by decide +kernel
theorem dX2_told_77 : decode cX2_told 77 = .ok (.iload 5, 2) := by decide +kernel
theorem dX2_told_79 : decode cX2_told 79 = .ok (.ifCond .eq 38, 3) := by decide +kernel
theorem dX2_told_82 : decode cX2_told 82 = .ok (.aload_n 0, 1) := by decide +kernel
theorem dX2_told_83 : decode cX2_told 83 = .ok (.getfield 12, 3) := by decide +kernel
theorem dX2_told_86 : decode cX2_told 86 = .ok (.aload_n 1, 1) := by decide +kernel
theorem dX2_told_87 : decode cX2_told 87 = .ok (.getfield 104, 3) := by decide +kernel
theorem dX2_told_90 : decode cX2_told 90 = .ok (.aload_n 1, 1) := by decide +kernel
theorem dX2_told_91 : decode cX2_told 91 = .ok (.getfield 117, 3) := by decide +kernel
theorem dX2_told_94 : decode cX2_told 94 = .ok (.iload 4, 2) := by decide +kernel
theorem dX2_told_96 : decode cX2_told 96 = .ok (.invokestatic 35, 3) := by decide +kernel
theorem dX2_told_99 : decode cX2_told 99 = .ok (.aload_n 0, 1) := by decide +kernel
theorem dX2_told_100 : decode cX2_told 100 = .ok (.getfield 18, 3) := by decide +kernel
theorem dX2_told_103 : decode cX2_told 103 = .ok (.invokevirtual 110, 3) := by decide +kernel
theorem dX2_told_106 : decode cX2_told 106 = .ok (.ifCond .eq 11, 3) := by decide +kernel
theorem dX2_told_109 : decode cX2_told 109 = .ok (.aload_n 0, 1) := by decide +kernel
theorem dX2_told_110 : decode cX2_told 110 = .ok (.getfield 12, 3) := by decide +kernel
theorem dX2_told_113 : decode cX2_told 113 = .ok (.getfield 114, 3) := by decide +kernel
theorem dX2_told_116 : decode cX2_told 116 = .ok (.ireturn, 1) := by decide +kernel
theorem dX2_told_117 : decode cX2_told 117 = .ok (.iinc 4 (-1), 3) := by decide +kernel
theorem dX2_told_120 : decode cX2_told 120 = .ok (.goto (-106), 3) := by decide +kernel
theorem dX2_told_123 : decode cX2_told 123 = .ok (.iload_n 3, 1) := by decide +kernel
theorem dX2_told_124 : decode cX2_told 124 = .ok (.ireturn, 1) := by decide +kernel
theorem dX3_init_0 : decode cX3_init 0 = .ok (.aload_n 0, 1) := by decide +kernel
theorem dX3_init_1 : decode cX3_init 1 = .ok (.invokespecial 3, 3) := by decide +kernel
theorem dX3_init_4 : decode cX3_init 4 = .ok (.aload_n 0, 1) := by decide +kernel
theorem dX3_init_5 : decode cX3_init 5 = .ok (.bipush 16, 2) := by decide +kernel
theorem dX3_init_7 : decode cX3_init 7 = .ok (.anewarray 9, 3) := by decide +kernel
theorem dX3_init_10 : decode cX3_init 10 = .ok (.putfield 11, 3) := by decide +kernel
theorem dX3_init_13 : decode cX3_init 13 = .ok (.aload_n 0, 1) := by decide +kernel
theorem dX3_init_14 : decode cX3_init 14 = .ok (.bipush 16, 2) := by decide +kernel
theorem dX3_init_16 : decode cX3_init 16 = .ok (.newarray .int, 2) := by decide +kernel
theorem dX3_init_18 : decode cX3_init 18 = .ok (.putfield 17, 3) := by decide +kernel
theorem dX3_init_21 : decode cX3_init 21 = .ok (.iconst 0, 1) := by decide +kernel
theorem dX3_init_22 : decode cX3_init 22 = .ok (.istore_n 1, 1) := by decide +kernel
theorem dX3_init_23 : decode cX3_init 23 = .ok (.iload_n 1, 1) := by decide +kernel
theorem dX3_init_24 : decode cX3_init 24 = .ok (.aload_n 0, 1) := by decide +kernel
theorem dX3_init_25 : decode cX3_init 25 = .ok (.getfield 11, 3) := by decide +kernel
theorem dX3_init_28 : decode cX3_init 28 = .ok (.arraylength, 1) := by decide +kernel
theorem dX3_init_29 : decode cX3_init 29 = .ok (.if_icmp .ge 22, 3) := by decide +kernel
theorem dX3_init_32 : decode cX3_init 32 = .ok (.aload_n 0, 1) := by decide +kernel
theorem dX3_init_33 : decode cX3_init 33 = .ok (.getfield 11, 3) := by decide +kernel
theorem dX3_init_36 : decode cX3_init 36 = .ok (.iload_n 1, 1) := by decide +kernel
theorem dX3_init_37 : decode cX3_init 37 = .ok (.new 9, 3) := by decide +kernel
theorem dX3_init_40 : decode cX3_init 40 = .ok (.dup, 1) := by decide +kernel
theorem dX3_init_41 : decode cX3_init 41 = .ok (.invokespecial 21, 3) := by decide +kernel
theorem dX3_init_44 : decode cX3_init 44 = .ok (.aastore, 1) := by decide +kernel
theorem dX3_init_45 : decode cX3_init 45 = .ok (.iinc 1 1, 3) := by decide +kernel
theorem dX3_init_48 : decode cX3_init 48 = .ok (.goto (-25), 3) := by decide +kernel
theorem dX3_init_51 : decode cX3_init 51 = .ok (.return_, 1) := by decide +kernel
theorem dX3_copyFrom_0 : decode cX3_copyFrom 0 = .ok (.aload_n 0, 1) := by decide +kernel
theorem dX3_copyFrom_1 : decode cX3_copyFrom 1 = .ok (.iconst 0, 1) := by decide +kernel
theorem dX3_copyFrom_2 : decode cX3_copyFrom 2 = .ok (.putfield 22, 3) := by decide +kernel
theorem dX3_copyFrom_5 : decode cX3_copyFrom 5 = .ok (.aload_n 0, 1) := by decide +kernel
theorem dX3_copyFrom_6 : decode cX3_copyFrom 6 = .ok (.aload_n 1, 1) := by decide +kernel
theorem dX3_copyFrom_7 : decode cX3_copyFrom 7 = .ok (.getfield 26, 3) := by decide +kernel
theorem dX3_copyFrom_10 : decode cX3_copyFrom 10 = .ok (.putfield 26, 3) := by decide +kernel
theorem dX3_copyFrom_13 : decode cX3_copyFrom 13 = .ok (.iconst 0, 1) := by decide +kernel
theorem dX3_copyFrom_14 : decode cX3_copyFrom 14 = .ok (.istore_n 2, 1) := by decide +kernel
theorem dX3_copyFrom_15 : decode cX3_copyFrom 15 = .ok (.iload_n 2, 1) := by decide +kernel
theorem dX3_copyFrom_16 : decode cX3_copyFrom 16 = .ok (.aload_n 0, 1) := by decide +kernel
theorem dX3_copyFrom_17 : decode cX3_copyFrom 17 = .ok (.getfield 26, 3) := by decide +kernel
theorem dX3_copyFrom_20 : decode cX3_copyFrom 20 = .ok (.if_icmp .ge 57, 3) := by decide +kernel
theorem dX3_copyFrom_23 : decode cX3_copyFrom 23 = .ok (.aload_n 0, 1) := by decide +kernel
theorem dX3_copyFrom_24 : decode cX3_copyFrom 24 = .ok (.iload_n 2, 1) := by decide +kernel
theorem dX3_copyFrom_25 : decode cX3_copyFrom 25 = .ok (.invokevirtual 29, 3) := by decide +kernel
theorem dX3_copyFrom_28 : decode cX3_copyFrom 28 = .ok (.astore_n 3, 1) := by decide +kernel
theorem dX3_copyFrom_29 : decode cX3_copyFrom 29 = .ok (.aload_n 1, 1) := by decide +kernel
theorem dX3_copyFrom_30 : decode cX3_copyFrom 30 = .ok (.iload_n 2, 1) := by decide +kernel
theorem dX3_copyFrom_31 : decode cX3_copyFrom 31 = .ok (.invokevirtual 29, 3) := by decide +kernel
theorem dX3_copyFrom_34 : decode cX3_copyFrom 34 = .ok (.astore 4, 2) := by decide +kernel
theorem dX3_copyFrom_36 : decode cX3_copyFrom 36 = .ok (.aload_n 3, 1) := by decide +kernel
theorem dX3_copyFrom_37 : decode cX3_copyFrom 37 = .ok (.ifnull 14, 3) := by decide +kernel
theorem dX3_copyFrom_40 : decode cX3_copyFrom 40 = .ok (.aload 4, 2) := by decide +kernel
theorem dX3_copyFrom_42 : decode cX3_copyFrom 42 = .ok (.ifnull 9, 3) := by decide +kernel
theorem dX3_copyFrom_45 : decode cX3_copyFrom 45 = .ok (.aload_n 3, 1) := by decide +kernel
theorem dX3_copyFrom_46 : decode cX3_copyFrom 46 = .ok (.aload 4, 2) := by decide +kernel
theorem dX3_copyFrom_48 : decode cX3_copyFrom 48 = .ok (.invokevirtual 33, 3) := by decide +kernel
theorem dX3_copyFrom_51 : decode cX3_copyFrom 51 = .ok (.aload_n 0, 1) := by decide +kernel
theorem dX3_copyFrom_52 : decode cX3_copyFrom 52 = .ok (.getfield 17, 3) := by decide +kernel
theorem dX3_copyFrom_55 : decode cX3_copyFrom 55 = .ok (.iload_n 2, 1) := by decide +kernel
theorem dX3_copyFrom_56 : decode cX3_copyFrom 56 = .ok (.aload_n 1, 1) := by decide +kernel
theorem dX3_copyFrom_57 : decode cX3_copyFrom 57 = .ok (.getfield 17, 3) := by decide +kernel
theorem dX3_copyFrom_60 : decode cX3_copyFrom 60 = .ok (.aload_n 1, 1) := by decide +kernel
theorem dX3_copyFrom_61 : decode cX3_copyFrom 61 = .ok (.iload_n 2, 1) := by decide +kernel
theorem dX3_copyFrom_62 : decode cX3_copyFrom 62 = .ok (.invokevirtual 37, 3) := by decide +kernel
theorem dX3_copyFrom_65 : decode cX3_copyFrom 65 = .ok (.invokestatic 41, 3) := by decide +kernel
theorem dX3_copyFrom_68 : decode cX3_copyFrom 68 = .ok (.invokestatic 45, 3) := by decide +kernel
theorem dX3_copyFrom_71 : decode cX3_copyFrom 71 = .ok (.iinc 2 1, 3) := by decide +kernel
theorem dX3_copyFrom_74 : decode cX3_copyFrom 74 = .ok (.goto (-59), 3) := by decide +kernel
theorem dX3_copyFrom_77 : decode cX3_copyFrom 77 = .ok (.return_, 1) := by decide +kernel
theorem dX3_clear_0 : decode cX3_clear 0 = .ok (.aload_n 0, 1) := by decide +kernel
theorem dX3_clear_1 : decode cX3_clear 1 = .ok (.iconst 0, 1) := by decide +kernel
theorem dX3_clear_2 : decode cX3_clear 2 = .ok (.putfield 26, 3) := by decide +kernel
theorem dX3_clear_5 : decode cX3_clear 5 = .ok (.return_, 1) := by decide +kernel
theorem dX3_keep_0 : decode cX3_keep 0 = .ok (.aload_n 0, 1) := by decide +kernel
theorem dX3_keep_1 : decode cX3_keep 1 = .ok (.getfield 26, 3) := by decide +kernel
theorem dX3_keep_4 : decode cX3_keep 4 = .ok (.bipush 16, 2) := by decide +kernel
theorem dX3_keep_6 : decode cX3_keep 6 = .ok (.if_icmp .lt 18, 3) := by decide +kernel
theorem dX3_keep_9 : decode cX3_keep 9 = .ok (.aload_n 0, 1) := by decide +kernel
theorem dX3_keep_10 : decode cX3_keep 10 = .ok (.aload_n 0, 1) := by decide +kernel
theorem dX3_keep_11 : decode cX3_keep 11 = .ok (.iconst 1, 1) := by decide +kernel
theorem dX3_keep_12 : decode cX3_keep 12 = .ok (.invokevirtual 37, 3) := by decide +kernel
theorem dX3_keep_15 : decode cX3_keep 15 = .ok (.putfield 22, 3) := by decide +kernel
theorem dX3_keep_18 : decode cX3_keep 18 = .ok (.aload_n 0, 1) := by decide +kernel
theorem dX3_keep_19 : decode cX3_keep 19 = .ok (.bipush 15, 2) := by decide +kernel
theorem dX3_keep_21 : decode cX3_keep 21 = .ok (.putfield 26, 3) := by decide +kernel
theorem dX3_keep_24 : decode cX3_keep 24 = .ok (.aload_n 0, 1) := by decide +kernel
theorem dX3_keep_25 : decode cX3_keep 25 = .ok (.aload_n 0, 1) := by decide +kernel
theorem dX3_keep_26 : decode cX3_keep 26 = .ok (.getfield 26, 3) := by decide +kernel
theorem dX3_keep_29 : decode cX3_keep 29 = .ok (.invokevirtual 29, 3) := by decide +kernel
theorem dX3_keep_32 : decode cX3_keep 32 = .ok (.astore_n 3, 1) := by decide +kernel
theorem dX3_keep_33 : decode cX3_keep 33 = .ok (.aload_n 3, 1) := by decide +kernel
theorem dX3_keep_34 : decode cX3_keep 34 = .ok (.ifnull 8, 3) := by decide +kernel
theorem dX3_keep_37 : decode cX3_keep 37 = .ok (.aload_n 3, 1) := by decide +kernel
theorem dX3_keep_38 : decode cX3_keep 38 = .ok (.aload_n 2, 1) := by decide +kernel
theorem dX3_keep_39 : decode cX3_keep 39 = .ok (.invokevirtual 33, 3) := by decide +kernel
theorem dX3_keep_42 : decode cX3_keep 42 = .ok (.aload_n 0, 1) := by decide +kernel
theorem dX3_keep_43 : decode cX3_keep 43 = .ok (.getfield 17, 3) := by decide +kernel
theorem dX3_keep_46 : decode cX3_keep 46 = .ok (.aload_n 0, 1) := by decide +kernel
theorem dX3_keep_47 : decode cX3_keep 47 = .ok (.aload_n 0, 1) := by decide +kernel
theorem dX3_keep_48 : decode cX3_keep 48 = .ok (.getfield 26, 3) := by decide +kernel
theorem dX3_keep_51 : decode cX3_keep 51 = .ok (.invokevirtual 37, 3) := by decide +kernel
theorem dX3_keep_54 : decode cX3_keep 54 = .ok (.iload_n 1, 1) := by decide +kernel
theorem dX3_keep_55 : decode cX3_keep 55 = .ok (.invokestatic 45, 3) := by decide +kernel
theorem dX3_keep_58 : decode cX3_keep 58 = .ok (.aload_n 0, 1) := by decide +kernel
theorem dX3_keep_59 : decode cX3_keep 59 = .ok (.dup, 1) := by decide +kernel
theorem dX3_keep_60 : decode cX3_keep 60 = .ok (.getfield 26, 3) := by decide +kernel
theorem dX3_keep_63 : decode cX3_keep 63 = .ok (.iconst 1, 1) := by decide +kernel
theorem dX3_keep_64 : decode cX3_keep 64 = .ok (.iadd, 1) := by decide +kernel
theorem dX3_keep_65 : decode cX3_keep 65 = .ok (.putfield 26, 3) := by decide +kernel
theorem dX3_keep_68 : decode cX3_keep 68 = .ok (.return_, 1) := by decide +kernel
theorem dX3_restore_0 : decode cX3_restore 0 = .ok (.aload_n 0, 1) := by decide +kernel
theorem dX3_restore_1 : decode cX3_restore 1 = .ok (.getfield 26, 3) := by decide +kernel
theorem dX3_restore_4 : decode cX3_restore 4 = .ok (.ifCond .gt 6, 3) := by decide +kernel
theorem dX3_restore_7 : decode cX3_restore 7 = .ok (.bipush (-3), 2) := by decide +kernel
theorem dX3_restore_9 : decode cX3_restore 9 = .ok (.ireturn, 1) := by decide +kernel
theorem dX3_restore_10 : decode cX3_restore 10 = .ok (.aload_n 0, 1) := by decide +kernel
theorem dX3_restore_11 : decode cX3_restore 11 = .ok (.dup, 1) := by decide +kernel
theorem dX3_restore_12 : decode cX3_restore 12 = .ok (.getfield 26, 3) := by decide +kernel
theorem dX3_restore_15 : decode cX3_restore 15 = .ok (.iconst 1, 1) := by decide +kernel
theorem dX3_restore_16 : decode cX3_restore 16 = .ok (.isub, 1) := by decide +kernel
theorem dX3_restore_17 : decode cX3_restore 17 = .ok (.putfield 26, 3) := by decide +kernel
theorem dX3_restore_20 : decode cX3_restore 20 = .ok (.aload_n 0, 1) := by decide +kernel
theorem dX3_restore_21 : decode cX3_restore 21 = .ok (.aload_n 0, 1) := by decide +kernel
theorem dX3_restore_22 : decode cX3_restore 22 = .ok (.getfield 26, 3) := by decide +kernel
theorem dX3_restore_25 : decode cX3_restore 25 = .ok (.invokevirtual 29, 3) := by decide +kernel
theorem dX3_restore_28 : decode cX3_restore 28 = .ok (.astore_n 2, 1) := by decide +kernel
theorem dX3_restore_29 : decode cX3_restore 29 = .ok (.aload_n 2, 1) := by decide +kernel
theorem dX3_restore_30 : decode cX3_restore 30 = .ok (.ifnull 8, 3) := by decide +kernel
theorem dX3_restore_33 : decode cX3_restore 33 = .ok (.aload_n 1, 1) := by decide +kernel
theorem dX3_restore_34 : decode cX3_restore 34 = .ok (.aload_n 2, 1) := by decide +kernel
theorem dX3_restore_35 : decode cX3_restore 35 = .ok (.invokevirtual 33, 3) := by decide +kernel
theorem dX3_restore_38 : decode cX3_restore 38 = .ok (.aload_n 0, 1) := by decide +kernel
theorem dX3_restore_39 : decode cX3_restore 39 = .ok (.getfield 17, 3) := by decide +kernel
theorem dX3_restore_42 : decode cX3_restore 42 = .ok (.aload_n 0, 1) := by decide +kernel
theorem dX3_restore_43 : decode cX3_restore 43 = .ok (.aload_n 0, 1) := by decide +kernel
theorem dX3_restore_44 : decode cX3_restore 44 = .ok (.getfield 26, 3) := by decide +kernel
theorem dX3_restore_47 : decode cX3_restore 47 = .ok (.invokevirtual 37, 3) := by decide +kernel
theorem dX3_restore_50 : decode cX3_restore 50 = .ok (.invokestatic 41, 3) := by decide +kernel
theorem dX3_restore_53 : decode cX3_restore 53 = .ok (.ireturn, 1) := by decide +kernel
theorem dX3_place_0 : decode cX3_place 0 = .ok (.aload_n 0, 1) := by decide +kernel
theorem dX3_place_1 : decode cX3_place 1 = .ok (.getfield 22, 3) := by decide +kernel
theorem dX3_place_4 : decode cX3_place 4 = .ok (.iload_n 1, 1) := by decide +kernel
theorem dX3_place_5 : decode cX3_place 5 = .ok (.iadd, 1) := by decide +kernel
theorem dX3_place_6 : decode cX3_place 6 = .ok (.bipush 16, 2) := by decide +kernel
theorem dX3_place_8 : decode cX3_place 8 = .ok (.irem, 1) := by decide +kernel
theorem dX3_place_9 : decode cX3_place 9 = .ok (.ireturn, 1) := by decide +kernel
theorem dX3_streetAt_0 : decode cX3_streetAt 0 = .ok (.aload_n 0, 1) := by decide +kernel
theorem dX3_streetAt_1 : decode cX3_streetAt 1 = .ok (.iload_n 1, 1) := by decide +kernel
theorem dX3_streetAt_2 : decode cX3_streetAt 2 = .ok (.invokevirtual 37, 3) := by decide +kernel
theorem dX3_streetAt_5 : decode cX3_streetAt 5 = .ok (.istore_n 2, 1) := by decide +kernel
theorem dX3_streetAt_6 : decode cX3_streetAt 6 = .ok (.iload_n 2, 1) := by decide +kernel
theorem dX3_streetAt_7 : decode cX3_streetAt 7 = .ok (.ifCond .lt 21, 3) := by decide +kernel
theorem dX3_streetAt_10 : decode cX3_streetAt 10 = .ok (.iload_n 2, 1) := by decide +kernel
theorem dX3_streetAt_11 : decode cX3_streetAt 11 = .ok (.aload_n 0, 1) := by decide +kernel
theorem dX3_streetAt_12 : decode cX3_streetAt 12 = .ok (.getfield 11, 3) := by decide +kernel
theorem dX3_streetAt_15 : decode cX3_streetAt 15 = .ok (.arraylength, 1) := by decide +kernel
theorem dX3_streetAt_16 : decode cX3_streetAt 16 = .ok (.if_icmp .ge 12, 3) := by decide +kernel
theorem dX3_streetAt_19 : decode cX3_streetAt 19 = .ok (.aload_n 0, 1) := by decide +kernel
theorem dX3_streetAt_20 : decode cX3_streetAt 20 = .ok (.getfield 11, 3) := by decide +kernel
theorem dX3_streetAt_23 : decode cX3_streetAt 23 = .ok (.iload_n 2, 1) := by decide +kernel
theorem dX3_streetAt_24 : decode cX3_streetAt 24 = .ok (.aaload, 1) := by decide +kernel
theorem dX3_streetAt_25 : decode cX3_streetAt 25 = .ok (.goto 4, 3) := by decide +kernel
theorem dX3_streetAt_28 : decode cX3_streetAt 28 = .ok (.aconst_null, 1) := by decide +kernel
theorem dX3_streetAt_29 : decode cX3_streetAt 29 = .ok (.areturn, 1) := by decide +kernel
theorem dX4_init_0 : decode cX4_init 0 = .ok (.aload_n 0, 1) := by decide +kernel
theorem dX4_init_1 : decode cX4_init 1 = .ok (.invokespecial 3, 3) := by decide +kernel
theorem dX4_init_4 : decode cX4_init 4 = .ok (.aload_n 0, 1) := by decide +kernel
theorem dX4_init_5 : decode cX4_init 5 = .ok (.bipush 40, 2) := by decide +kernel
theorem dX4_init_7 : decode cX4_init 7 = .ok (.newarray .long, 2) := by decide +kernel
theorem dX4_init_9 : decode cX4_init 9 = .ok (.putfield 9, 3) := by decide +kernel
theorem dX4_init_12 : decode cX4_init 12 = .ok (.aload_n 0, 1) := by decide +kernel
theorem dX4_init_13 : decode cX4_init 13 = .ok (.bipush 40, 2) := by decide +kernel
theorem dX4_init_15 : decode cX4_init 15 = .ok (.newarray .long, 2) := by decide +kernel
theorem dX4_init_17 : decode cX4_init 17 = .ok (.putfield 15, 3) := by decide +kernel
theorem dX4_init_20 : decode cX4_init 20 = .ok (.aload_n 0, 1) := by decide +kernel
theorem dX4_init_21 : decode cX4_init 21 = .ok (.bipush 40, 2) := by decide +kernel
theorem dX4_init_23 : decode cX4_init 23 = .ok (.newarray .long, 2) := by decide +kernel
theorem dX4_init_25 : decode cX4_init 25 = .ok (.putfield 18, 3) := by decide +kernel
theorem dX4_init_28 : decode cX4_init 28 = .ok (.aload_n 0, 1) := by decide +kernel
theorem dX4_init_29 : decode cX4_init 29 = .ok (.bipush 20, 2) := by decide +kernel
theorem dX4_init_31 : decode cX4_init 31 = .ok (.newarray .long, 2) := by decide +kernel
theorem dX4_init_33 : decode cX4_init 33 = .ok (.putfield 21, 3) := by decide +kernel
theorem dX4_init_36 : decode cX4_init 36 = .ok (.aload_n 0, 1) := by decide +kernel
theorem dX4_init_37 : decode cX4_init 37 = .ok (.bipush 6, 2) := by decide +kernel
theorem dX4_init_39 : decode cX4_init 39 = .ok (.bipush 21, 2) := by decide +kernel
theorem dX4_init_41 : decode cX4_init 41 = .ok (.multianewarray 24 2, 4) := by decide +kernel
theorem dX4_init_45 : decode cX4_init 45 = .ok (.putfield 26, 3) := by decide +kernel
theorem dX4_init_48 : decode cX4_init 48 = .ok (.aload_n 0, 1) := by decide +kernel
theorem dX4_init_49 : decode cX4_init 49 = .ok (.aload_n 1, 1) := by decide +kernel
theorem dX4_init_50 : decode cX4_init 50 = .ok (.putfield 29, 3) := by decide +kernel
theorem dX4_init_53 : decode cX4_init 53 = .ok (.aload_n 0, 1) := by decide +kernel
theorem dX4_init_54 : decode cX4_init 54 = .ok (.aload_n 1, 1) := by decide +kernel
theorem dX4_init_55 : decode cX4_init 55 = .ok (.getfield 33, 3) := by decide +kernel
theorem dX4_init_58 : decode cX4_init 58 = .ok (.putfield 39, 3) := by decide +kernel
theorem dX4_init_61 : decode cX4_init 61 = .ok (.aload_n 0, 1) := by decide +kernel
theorem dX4_init_62 : decode cX4_init 62 = .ok (.aload_n 2, 1) := by decide +kernel
theorem dX4_init_63 : decode cX4_init 63 = .ok (.putfield 40, 3) := by decide +kernel
theorem dX4_init_66 : decode cX4_init 66 = .ok (.return_, 1) := by decide +kernel
theorem dX4_build_0 : decode cX4_build 0 = .ok (.aload_n 0, 1) := by decide +kernel
theorem dX4_build_1 : decode cX4_build 1 = .ok (.ldc2_w 44, 3) := by decide +kernel
theorem dX4_build_4 : decode cX4_build 4 = .ok (.putfield 46, 3) := by decide +kernel
theorem dX4_build_7 : decode cX4_build 7 = .ok (.aload_n 0, 1) := by decide +kernel
theorem dX4_build_8 : decode cX4_build 8 = .ok (.getfield 39, 3) := by decide +kernel
theorem dX4_build_11 : decode cX4_build 11 = .ok (.getfield 50, 3) := by decide +kernel
theorem dX4_build_14 : decode cX4_build 14 = .ok (.iload_n 2, 1) := by decide +kernel
theorem dX4_build_15 : decode cX4_build 15 = .ok (.invokestatic 56, 3) := by decide +kernel
theorem dX4_build_18 : decode cX4_build 18 = .ok (.istore_n 3, 1) := by decide +kernel
theorem dX4_build_19 : decode cX4_build 19 = .ok (.aload_n 0, 1) := by decide +kernel
theorem dX4_build_20 : decode cX4_build 20 = .ok (.getfield 40, 3) := by decide +kernel
theorem dX4_build_23 : decode cX4_build 23 = .ok (.aload_n 0, 1) := by decide +kernel
theorem dX4_build_24 : decode cX4_build 24 = .ok (.getfield 39, 3) := by decide +kernel
theorem dX4_build_27 : decode cX4_build 27 = .ok (.iload_n 1, 1) := by decide +kernel
theorem dX4_build_28 : decode cX4_build 28 = .ok (.iload_n 2, 1) := by decide +kernel
theorem dX4_build_29 : decode cX4_build 29 = .ok (.invokevirtual 60, 3) := by decide +kernel
theorem dX4_build_32 : decode cX4_build 32 = .ok (.iconst 0, 1) := by decide +kernel
theorem dX4_build_33 : decode cX4_build 33 = .ok (.istore 4, 2) := by decide +kernel
theorem dX4_build_35 : decode cX4_build 35 = .ok (.iload 4, 2) := by decide +kernel
theorem dX4_build_37 : decode cX4_build 37 = .ok (.bipush 99, 2) := by decide +kernel
theorem dX4_build_39 : decode cX4_build 39 = .ok (.if_icmp .gt 69, 3) := by decide +kernel
theorem dX4_build_42 : decode cX4_build 42 = .ok (.iload_n 3, 1) := by decide +kernel
theorem dX4_build_43 : decode cX4_build 43 = .ok (.bipush 9, 2) := by decide +kernel
theorem dX4_build_45 : decode cX4_build 45 = .ok (.if_icmp .lt 6, 3) := by decide +kernel
theorem dX4_build_48 : decode cX4_build 48 = .ok (.iload 4, 2) := by decide +kernel
theorem dX4_build_50 : decode cX4_build 50 = .ok (.ireturn, 1) := by decide +kernel
theorem dX4_build_51 : decode cX4_build 51 = .ok (.aload_n 0, 1) := by decide +kernel
theorem dX4_build_52 : decode cX4_build 52 = .ok (.aload_n 0, 1) := by decide +kernel
theorem dX4_build_53 : decode cX4_build 53 = .ok (.getfield 46, 3) := by decide +kernel
theorem dX4_build_56 : decode cX4_build 56 = .ok (.aload_n 0, 1) := by decide +kernel
theorem dX4_build_57 : decode cX4_build 57 = .ok (.getfield 40, 3) := by decide +kernel
theorem dX4_build_60 : decode cX4_build 60 = .ok (.aload_n 0, 1) := by decide +kernel
theorem dX4_build_61 : decode cX4_build 61 = .ok (.getfield 29, 3) := by decide +kernel
theorem dX4_build_64 : decode cX4_build 64 = .ok (.invokevirtual 66, 3) := by decide +kernel
theorem dX4_build_67 : decode cX4_build 67 = .ok (.invokevirtual 70, 3) := by decide +kernel
theorem dX4_build_70 : decode cX4_build 70 = .ok (.invokestatic 74, 3) := by decide +kernel
theorem dX4_build_73 : decode cX4_build 73 = .ok (.putfield 46, 3) := by decide +kernel
theorem dX4_build_76 : decode cX4_build 76 = .ok (.iload_n 3, 1) := by decide +kernel
theorem dX4_build_77 : decode cX4_build 77 = .ok (.aload_n 0, 1) := by decide +kernel
theorem dX4_build_78 : decode cX4_build 78 = .ok (.getfield 40, 3) := by decide +kernel
theorem dX4_build_81 : decode cX4_build 81 = .ok (.invokevirtual 78, 3) := by decide +kernel
theorem dX4_build_84 : decode cX4_build 84 = .ok (.iadd, 1) := by decide +kernel
theorem dX4_build_85 : decode cX4_build 85 = .ok (.istore_n 3, 1) := by decide +kernel
theorem dX4_build_86 : decode cX4_build 86 = .ok (.aload_n 0, 1) := by decide +kernel
theorem dX4_build_87 : decode cX4_build 87 = .ok (.getfield 40, 3) := by decide +kernel
theorem dX4_build_90 : decode cX4_build 90 = .ok (.iload_n 3, 1) := by decide +kernel
theorem dX4_build_91 : decode cX4_build 91 = .ok (.invokevirtual 82, 3) := by decide +kernel
theorem dX4_build_94 : decode cX4_build 94 = .ok (.aload_n 0, 1) := by decide +kernel
theorem dX4_build_95 : decode cX4_build 95 = .ok (.getfield 40, 3) := by decide +kernel
theorem dX4_build_98 : decode cX4_build 98 = .ok (.iconst 1, 1) := by decide +kernel
theorem dX4_build_99 : decode cX4_build 99 = .ok (.invokevirtual 86, 3) := by decide +kernel
theorem dX4_build_102 : decode cX4_build 102 = .ok (.iinc 4 1, 3) := by decide +kernel
theorem dX4_build_105 : decode cX4_build 105 = .ok (.goto (-70), 3) := by decide +kernel
theorem dX4_build_108 : decode cX4_build 108 = .ok (.aload_n 0, 1) := by decide +kernel
theorem dX4_build_109 : decode cX4_build 109 = .ok (.lconst 0, 1) := by decide +kernel
theorem dX4_build_110 : decode cX4_build 110 = .ok (.putfield 46, 3) := by decide +kernel
theorem dX4_build_113 : decode cX4_build 113 = .ok (.iconst (-1), 1) := by decide +kernel
theorem dX4_build_114 : decode cX4_build 114 = .ok (.ireturn, 1) := by decide +kernel
theorem dX4_survive_0 : decode cX4_survive 0 = .ok (.ldc2_w 44, 3) := by decide +kernel
theorem dX4_survive_3 : decode cX4_survive 3 = .ok (.lstore_n 3, 1) := by decide +kernel
theorem dX4_survive_4 : decode cX4_survive 4 = .ok (.aload_n 0, 1) := by decide +kernel
theorem dX4_survive_5 : decode cX4_survive 5 = .ok (.getfield 40, 3) := by decide +kernel
theorem dX4_survive_8 : decode cX4_survive 8 = .ok (.aload_n 0, 1) := by decide +kernel
theorem dX4_survive_9 : decode cX4_survive 9 = .ok (.getfield 39, 3) := by decide +kernel
theorem dX4_survive_12 : decode cX4_survive 12 = .ok (.iload_n 1, 1) := by decide +kernel
theorem dX4_survive_13 : decode cX4_survive 13 = .ok (.aload_n 0, 1) := by decide +kernel
theorem dX4_survive_14 : decode cX4_survive 14 = .ok (.getfield 39, 3) := by decide +kernel
theorem dX4_survive_17 : decode cX4_survive 17 = .ok (.getfield 89, 3) := by decide +kernel
theorem dX4_survive_20 : decode cX4_survive 20 = .ok (.iload_n 1, 1) := by decide +kernel
theorem dX4_survive_21 : decode cX4_survive 21 = .ok (.invokestatic 56, 3) := by decide +kernel
theorem dX4_survive_24 : decode cX4_survive 24 = .ok (.invokevirtual 60, 3) := by decide +kernel
theorem dX4_survive_27 : decode cX4_survive 27 = .ok (.iconst 0, 1) := by decide +kernel
theorem dX4_survive_28 : decode cX4_survive 28 = .ok (.istore 5, 2) := by decide +kernel
theorem dX4_survive_30 : decode cX4_survive 30 = .ok (.iload 5, 2) := by decide +kernel
theorem dX4_survive_32 : decode cX4_survive 32 = .ok (.iload_n 2, 1) := by decide +kernel
theorem dX4_survive_33 : decode cX4_survive 33 = .ok (.if_icmp .ge 36, 3) := by decide +kernel
theorem dX4_survive_36 : decode cX4_survive 36 = .ok (.lload_n 3, 1) := by decide +kernel
theorem dX4_survive_37 : decode cX4_survive 37 = .ok (.aload_n 0, 1) := by decide +kernel
theorem dX4_survive_38 : decode cX4_survive 38 = .ok (.getfield 40, 3) := by decide +kernel
theorem dX4_survive_41 : decode cX4_survive 41 = .ok (.aload_n 0, 1) := by decide +kernel
theorem dX4_survive_42 : decode cX4_survive 42 = .ok (.getfield 29, 3) := by decide +kernel
theorem dX4_survive_45 : decode cX4_survive 45 = .ok (.invokevirtual 66, 3) := by decide +kernel
theorem dX4_survive_48 : decode cX4_survive 48 = .ok (.invokevirtual 70, 3) := by decide +kernel
theorem dX4_survive_51 : decode cX4_survive 51 = .ok (.invokestatic 74, 3) := by decide +kernel
theorem dX4_survive_54 : decode cX4_survive 54 = .ok (.lstore_n 3, 1) := by decide +kernel
theorem dX4_survive_55 : decode cX4_survive 55 = .ok (.aload_n 0, 1) := by decide +kernel
theorem dX4_survive_56 : decode cX4_survive 56 = .ok (.getfield 40, 3) := by decide +kernel
theorem dX4_survive_59 : decode cX4_survive 59 = .ok (.iconst 1, 1) := by decide +kernel
theorem dX4_survive_60 : decode cX4_survive 60 = .ok (.invokevirtual 86, 3) := by decide +kernel
theorem dX4_survive_63 : decode cX4_survive 63 = .ok (.iinc 5 1, 3) := by decide +kernel
theorem dX4_survive_66 : decode cX4_survive 66 = .ok (.goto (-36), 3) := by decide +kernel
theorem dX4_survive_69 : decode cX4_survive 69 = .ok (.lload_n 3, 1) := by decide +kernel
theorem dX4_survive_70 : decode cX4_survive 70 = .ok (.lreturn, 1) := by decide +kernel
theorem dX4_meet_0 : decode cX4_meet 0 = .ok (.aload_n 0, 1) := by decide +kernel
theorem dX4_meet_1 : decode cX4_meet 1 = .ok (.getfield 9, 3) := by decide +kernel
theorem dX4_meet_4 : decode cX4_meet 4 = .ok (.invokestatic 92, 3) := by decide +kernel
theorem dX4_meet_7 : decode cX4_meet 7 = .ok (.aload_n 0, 1) := by decide +kernel
theorem dX4_meet_8 : decode cX4_meet 8 = .ok (.getfield 15, 3) := by decide +kernel
theorem dX4_meet_11 : decode cX4_meet 11 = .ok (.invokestatic 92, 3) := by decide +kernel
theorem dX4_meet_14 : decode cX4_meet 14 = .ok (.aload_n 0, 1) := by decide +kernel
theorem dX4_meet_15 : decode cX4_meet 15 = .ok (.getfield 18, 3) := by decide +kernel
theorem dX4_meet_18 : decode cX4_meet 18 = .ok (.invokestatic 92, 3) := by decide +kernel
theorem dX4_meet_21 : decode cX4_meet 21 = .ok (.aload_n 0, 1) := by decide +kernel
theorem dX4_meet_22 : decode cX4_meet 22 = .ok (.lconst 0, 1) := by decide +kernel
theorem dX4_meet_23 : decode cX4_meet 23 = .ok (.putfield 96, 3) := by decide +kernel
theorem dX4_meet_26 : decode cX4_meet 26 = .ok (.aload_n 0, 1) := by decide +kernel
theorem dX4_meet_27 : decode cX4_meet 27 = .ok (.getfield 39, 3) := by decide +kernel
theorem dX4_meet_30 : decode cX4_meet 30 = .ok (.getfield 99, 3) := by decide +kernel
theorem dX4_meet_33 : decode cX4_meet 33 = .ok (.iload_n 1, 1) := by decide +kernel
theorem dX4_meet_34 : decode cX4_meet 34 = .ok (.invokestatic 56, 3) := by decide +kernel
theorem dX4_meet_37 : decode cX4_meet 37 = .ok (.iconst 1, 1) := by decide +kernel
theorem dX4_meet_38 : decode cX4_meet 38 = .ok (.if_icmp .ne 7, 3) := by decide +kernel
theorem dX4_meet_41 : decode cX4_meet 41 = .ok (.iconst 1, 1) := by decide +kernel
theorem dX4_meet_42 : decode cX4_meet 42 = .ok (.goto 4, 3) := by decide +kernel
theorem dX4_meet_45 : decode cX4_meet 45 = .ok (.iconst 0, 1) := by decide +kernel
theorem dX4_meet_46 : decode cX4_meet 46 = .ok (.istore 4, 2) := by decide +kernel
theorem dX4_meet_48 : decode cX4_meet 48 = .ok (.aload_n 0, 1) := by decide +kernel
theorem dX4_meet_49 : decode cX4_meet 49 = .ok (.getfield 39, 3) := by decide +kernel
theorem dX4_meet_52 : decode cX4_meet 52 = .ok (.getfield 99, 3) := by decide +kernel
theorem dX4_meet_55 : decode cX4_meet 55 = .ok (.iload_n 2, 1) := by decide +kernel
theorem dX4_meet_56 : decode cX4_meet 56 = .ok (.invokestatic 56, 3) := by decide +kernel
theorem dX4_meet_59 : decode cX4_meet 59 = .ok (.iconst 1, 1) := by decide +kernel
theorem dX4_meet_60 : decode cX4_meet 60 = .ok (.if_icmp .ne 7, 3) := by decide +kernel
theorem dX4_meet_63 : decode cX4_meet 63 = .ok (.iconst 1, 1) := by decide +kernel
theorem dX4_meet_64 : decode cX4_meet 64 = .ok (.goto 4, 3) := by decide +kernel
theorem dX4_meet_67 : decode cX4_meet 67 = .ok (.iconst 0, 1) := by decide +kernel
theorem dX4_meet_68 : decode cX4_meet 68 = .ok (.istore 5, 2) := by decide +kernel
theorem dX4_meet_70 : decode cX4_meet 70 = .ok (.iload 4, 2) := by decide +kernel
theorem dX4_meet_72 : decode cX4_meet 72 = .ok (.ifCond .ne 8, 3) := by decide +kernel
theorem dX4_meet_75 : decode cX4_meet 75 = .ok (.iload 5, 2) := by decide +kernel
theorem dX4_meet_77 : decode cX4_meet 77 = .ok (.ifCond .eq 43, 3) := by decide +kernel
theorem dX4_meet_80 : decode cX4_meet 80 = .ok (.iload 4, 2) := by decide +kernel
theorem dX4_meet_82 : decode cX4_meet 82 = .ok (.ifCond .eq 15, 3) := by decide +kernel
theorem dX4_meet_85 : decode cX4_meet 85 = .ok (.iload 5, 2) := by decide +kernel
theorem dX4_meet_87 : decode cX4_meet 87 = .ok (.ifCond .eq 10, 3) := by decide +kernel
theorem dX4_meet_90 : decode cX4_meet 90 = .ok (.aload_n 0, 1) := by decide +kernel
theorem dX4_meet_91 : decode cX4_meet 91 = .ok (.getfield 9, 3) := by decide +kernel
theorem dX4_meet_94 : decode cX4_meet 94 = .ok (.goto 19, 3) := by decide +kernel
theorem dX4_meet_97 : decode cX4_meet 97 = .ok (.iload 4, 2) := by decide +kernel
theorem dX4_meet_99 : decode cX4_meet 99 = .ok (.ifCond .eq 10, 3) := by decide +kernel
theorem dX4_meet_102 : decode cX4_meet 102 = .ok (.aload_n 0, 1) := by decide +kernel
theorem dX4_meet_103 : decode cX4_meet 103 = .ok (.getfield 15, 3) := by decide +kernel
theorem dX4_meet_106 : decode cX4_meet 106 = .ok (.goto 7, 3) := by decide +kernel
theorem dX4_meet_109 : decode cX4_meet 109 = .ok (.aload_n 0, 1) := by decide +kernel
theorem dX4_meet_110 : decode cX4_meet 110 = .ok (.getfield 18, 3) := by decide +kernel
theorem dX4_meet_113 : decode cX4_meet 113 = .ok (.iconst 0, 1) := by decide +kernel
theorem dX4_meet_114 : decode cX4_meet 114 = .ok (.ldc2_w 44, 3) := by decide +kernel
theorem dX4_meet_117 : decode cX4_meet 117 = .ok (.invokestatic 102, 3) := by decide +kernel
theorem dX4_meet_120 : decode cX4_meet 120 = .ok (.iconst 0, 1) := by decide +kernel
theorem dX4_meet_121 : decode cX4_meet 121 = .ok (.istore 6, 2) := by decide +kernel
theorem dX4_meet_123 : decode cX4_meet 123 = .ok (.iload 6, 2) := by decide +kernel
theorem dX4_meet_125 : decode cX4_meet 125 = .ok (.bipush 99, 2) := by decide +kernel
theorem dX4_meet_127 : decode cX4_meet 127 = .ok (.if_icmp .ge 108, 3) := by decide +kernel
theorem dX4_meet_130 : decode cX4_meet 130 = .ok (.aload_n 0, 1) := by decide +kernel
theorem dX4_meet_131 : decode cX4_meet 131 = .ok (.getfield 40, 3) := by decide +kernel
theorem dX4_meet_134 : decode cX4_meet 134 = .ok (.aload_n 0, 1) := by decide +kernel
theorem dX4_meet_135 : decode cX4_meet 135 = .ok (.getfield 39, 3) := by decide +kernel
theorem dX4_meet_138 : decode cX4_meet 138 = .ok (.iload_n 1, 1) := by decide +kernel
theorem dX4_meet_139 : decode cX4_meet 139 = .ok (.iconst (-1), 1) := by decide +kernel
theorem dX4_meet_140 : decode cX4_meet 140 = .ok (.invokevirtual 60, 3) := by decide +kernel
theorem dX4_meet_143 : decode cX4_meet 143 = .ok (.aload_n 0, 1) := by decide +kernel
theorem dX4_meet_144 : decode cX4_meet 144 = .ok (.getfield 40, 3) := by decide +kernel
theorem dX4_meet_147 : decode cX4_meet 147 = .ok (.iload 6, 2) := by decide +kernel
theorem dX4_meet_149 : decode cX4_meet 149 = .ok (.invokevirtual 86, 3) := by decide +kernel
theorem dX4_meet_152 : decode cX4_meet 152 = .ok (.aload_n 0, 1) := by decide +kernel
theorem dX4_meet_153 : decode cX4_meet 153 = .ok (.getfield 40, 3) := by decide +kernel
theorem dX4_meet_156 : decode cX4_meet 156 = .ok (.aload_n 0, 1) := by decide +kernel
theorem dX4_meet_157 : decode cX4_meet 157 = .ok (.getfield 29, 3) := by decide +kernel
theorem dX4_meet_160 : decode cX4_meet 160 = .ok (.invokevirtual 66, 3) := by decide +kernel
theorem dX4_meet_163 : decode cX4_meet 163 = .ok (.invokevirtual 70, 3) := by decide +kernel
theorem dX4_meet_166 : decode cX4_meet 166 = .ok (.istore 7, 2) := by decide +kernel
theorem dX4_meet_168 : decode cX4_meet 168 = .ok (.aload_n 0, 1) := by decide +kernel
theorem dX4_meet_169 : decode cX4_meet 169 = .ok (.getfield 40, 3) := by decide +kernel
theorem dX4_meet_172 : decode cX4_meet 172 = .ok (.invokevirtual 78, 3) := by decide +kernel
theorem dX4_meet_175 : decode cX4_meet 175 = .ok (.istore 8, 2) := by decide +kernel
theorem dX4_meet_177 : decode cX4_meet 177 = .ok (.aload_n 0, 1) := by decide +kernel
theorem dX4_meet_178 : decode cX4_meet 178 = .ok (.getfield 40, 3) := by decide +kernel
theorem dX4_meet_181 : decode cX4_meet 181 = .ok (.aload_n 0, 1) := by decide +kernel
theorem dX4_meet_182 : decode cX4_meet 182 = .ok (.getfield 39, 3) := by decide +kernel
theorem dX4_meet_185 : decode cX4_meet 185 = .ok (.iload_n 2, 1) := by decide +kernel
theorem dX4_meet_186 : decode cX4_meet 186 = .ok (.iconst (-1), 1) := by decide +kernel
theorem dX4_meet_187 : decode cX4_meet 187 = .ok (.invokevirtual 60, 3) := by decide +kernel
theorem dX4_meet_190 : decode cX4_meet 190 = .ok (.aload_n 0, 1) := by decide +kernel
theorem dX4_meet_191 : decode cX4_meet 191 = .ok (.getfield 40, 3) := by decide +kernel
theorem dX4_meet_194 : decode cX4_meet 194 = .ok (.iload 6, 2) := by decide +kernel
theorem dX4_meet_196 : decode cX4_meet 196 = .ok (.invokevirtual 86, 3) := by decide +kernel
theorem dX4_meet_199 : decode cX4_meet 199 = .ok (.aload_n 0, 1) := by decide +kernel
theorem dX4_meet_200 : decode cX4_meet 200 = .ok (.iload_n 3, 1) := by decide +kernel
theorem dX4_meet_201 : decode cX4_meet 201 = .ok (.iload 7, 2) := by decide +kernel
theorem dX4_meet_203 : decode cX4_meet 203 = .ok (.iload 8, 2) := by decide +kernel
theorem dX4_meet_205 : decode cX4_meet 205 = .ok (.aload_n 0, 1) := by decide +kernel
theorem dX4_meet_206 : decode cX4_meet 206 = .ok (.getfield 40, 3) := by decide +kernel
theorem dX4_meet_209 : decode cX4_meet 209 = .ok (.aload_n 0, 1) := by decide +kernel
theorem dX4_meet_210 : decode cX4_meet 210 = .ok (.getfield 29, 3) := by decide +kernel
theorem dX4_meet_213 : decode cX4_meet 213 = .ok (.invokevirtual 66, 3) := by decide +kernel
theorem dX4_meet_216 : decode cX4_meet 216 = .ok (.invokevirtual 70, 3) := by decide +kernel
theorem dX4_meet_219 : decode cX4_meet 219 = .ok (.aload_n 0, 1) := by decide +kernel
theorem dX4_meet_220 : decode cX4_meet 220 = .ok (.getfield 40, 3) := by decide +kernel
theorem dX4_meet_223 : decode cX4_meet 223 = .ok (.invokevirtual 78, 3) := by decide +kernel
theorem dX4_meet_226 : decode cX4_meet 226 = .ok (.invokevirtual 106, 3) := by decide +kernel
theorem dX4_meet_229 : decode cX4_meet 229 = .ok (.iinc 6 1, 3) := by decide +kernel
theorem dX4_meet_232 : decode cX4_meet 232 = .ok (.goto (-109), 3) := by decide +kernel
theorem dX4_meet_235 : decode cX4_meet 235 = .ok (.aload_n 0, 1) := by decide +kernel
theorem dX4_meet_236 : decode cX4_meet 236 = .ok (.getfield 96, 3) := by decide +kernel
theorem dX4_meet_239 : decode cX4_meet 239 = .ok (.lreturn, 1) := by decide +kernel
theorem dX4_bridgeYear_0 : decode cX4_bridgeYear 0 = .ok (.iload_n 1, 1) := by decide +kernel
theorem dX4_bridgeYear_1 : decode cX4_bridgeYear 1 = .ok (.iconst 1, 1) := by decide +kernel
theorem dX4_bridgeYear_2 : decode cX4_bridgeYear 2 = .ok (.isub, 1) := by decide +kernel
theorem dX4_bridgeYear_3 : decode cX4_bridgeYear 3 = .ok (.istore 6, 2) := by decide +kernel
theorem dX4_bridgeYear_5 : decode cX4_bridgeYear 5 = .ok (.iload 6, 2) := by decide +kernel
theorem dX4_bridgeYear_7 : decode cX4_bridgeYear 7 = .ok (.ifCond .lt 164, 3) := by decide +kernel
theorem dX4_bridgeYear_10 : decode cX4_bridgeYear 10 = .ok (.aload_n 0, 1) := by decide +kernel
theorem dX4_bridgeYear_11 : decode cX4_bridgeYear 11 = .ok (.getfield 9, 3) := by decide +kernel
theorem dX4_bridgeYear_14 : decode cX4_bridgeYear 14 = .ok (.iload 6, 2) := by decide +kernel
theorem dX4_bridgeYear_16 : decode cX4_bridgeYear 16 = .ok (.invokestatic 110, 3) := by decide +kernel
theorem dX4_bridgeYear_19 : decode cX4_bridgeYear 19 = .ok (.lstore 7, 2) := by decide +kernel
theorem dX4_bridgeYear_21 : decode cX4_bridgeYear 21 = .ok (.aload_n 0, 1) := by decide +kernel
theorem dX4_bridgeYear_22 : decode cX4_bridgeYear 22 = .ok (.getfield 15, 3) := by decide +kernel
theorem dX4_bridgeYear_25 : decode cX4_bridgeYear 25 = .ok (.iload 6, 2) := by decide +kernel
theorem dX4_bridgeYear_27 : decode cX4_bridgeYear 27 = .ok (.invokestatic 110, 3) := by decide +kernel
theorem dX4_bridgeYear_30 : decode cX4_bridgeYear 30 = .ok (.iload_n 2, 1) := by decide +kernel
theorem dX4_bridgeYear_31 : decode cX4_bridgeYear 31 = .ok (.invokestatic 74, 3) := by decide +kernel
theorem dX4_bridgeYear_34 : decode cX4_bridgeYear 34 = .ok (.lstore 9, 2) := by decide +kernel
theorem dX4_bridgeYear_36 : decode cX4_bridgeYear 36 = .ok (.aload_n 0, 1) := by decide +kernel
theorem dX4_bridgeYear_37 : decode cX4_bridgeYear 37 = .ok (.getfield 18, 3) := by decide +kernel
theorem dX4_bridgeYear_40 : decode cX4_bridgeYear 40 = .ok (.iload 6, 2) := by decide +kernel
theorem dX4_bridgeYear_42 : decode cX4_bridgeYear 42 = .ok (.invokestatic 110, 3) := by decide +kernel
theorem dX4_bridgeYear_45 : decode cX4_bridgeYear 45 = .ok (.iload 4, 2) := by decide +kernel
theorem dX4_bridgeYear_47 : decode cX4_bridgeYear 47 = .ok (.invokestatic 74, 3) := by decide +kernel
theorem dX4_bridgeYear_50 : decode cX4_bridgeYear 50 = .ok (.lstore 11, 2) := by decide +kernel
theorem dX4_bridgeYear_52 : decode cX4_bridgeYear 52 = .ok (.aload_n 0, 1) := by decide +kernel
theorem dX4_bridgeYear_53 : decode cX4_bridgeYear 53 = .ok (.getfield 9, 3) := by decide +kernel
theorem dX4_bridgeYear_56 : decode cX4_bridgeYear 56 = .ok (.iload 6, 2) := by decide +kernel
theorem dX4_bridgeYear_58 : decode cX4_bridgeYear 58 = .ok (.lconst 0, 1) := by decide +kernel
theorem dX4_bridgeYear_59 : decode cX4_bridgeYear 59 = .ok (.invokestatic 102, 3) := by decide +kernel
theorem dX4_bridgeYear_62 : decode cX4_bridgeYear 62 = .ok (.aload_n 0, 1) := by decide +kernel
theorem dX4_bridgeYear_63 : decode cX4_bridgeYear 63 = .ok (.getfield 15, 3) := by decide +kernel
theorem dX4_bridgeYear_66 : decode cX4_bridgeYear 66 = .ok (.iload 6, 2) := by decide +kernel
theorem dX4_bridgeYear_68 : decode cX4_bridgeYear 68 = .ok (.lconst 0, 1) := by decide +kernel
theorem dX4_bridgeYear_69 : decode cX4_bridgeYear 69 = .ok (.invokestatic 102, 3) := by decide +kernel
theorem dX4_bridgeYear_72 : decode cX4_bridgeYear 72 = .ok (.aload_n 0, 1) := by decide +kernel
theorem dX4_bridgeYear_73 : decode cX4_bridgeYear 73 = .ok (.getfield 18, 3) := by decide +kernel
theorem dX4_bridgeYear_76 : decode cX4_bridgeYear 76 = .ok (.iload 6, 2) := by decide +kernel
theorem dX4_bridgeYear_78 : decode cX4_bridgeYear 78 = .ok (.lconst 0, 1) := by decide +kernel
theorem dX4_bridgeYear_79 : decode cX4_bridgeYear 79 = .ok (.invokestatic 102, 3) := by decide +kernel
theorem dX4_bridgeYear_82 : decode cX4_bridgeYear 82 = .ok (.lload 7, 2) := by decide +kernel
theorem dX4_bridgeYear_84 : decode cX4_bridgeYear 84 = .ok (.iload_n 2, 1) := by decide +kernel
theorem dX4_bridgeYear_85 : decode cX4_bridgeYear 85 = .ok (.invokestatic 74, 3) := by decide +kernel
theorem dX4_bridgeYear_88 : decode cX4_bridgeYear 88 = .ok (.lstore 13, 2) := by decide +kernel
theorem dX4_bridgeYear_90 : decode cX4_bridgeYear 90 = .ok (.lload 13, 2) := by decide +kernel
theorem dX4_bridgeYear_92 : decode cX4_bridgeYear 92 = .ok (.iload 4, 2) := by decide +kernel
theorem dX4_bridgeYear_94 : decode cX4_bridgeYear 94 = .ok (.invokestatic 74, 3) := by decide +kernel
theorem dX4_bridgeYear_97 : decode cX4_bridgeYear 97 = .ok (.lstore 15, 2) := by decide +kernel
theorem dX4_bridgeYear_99 : decode cX4_bridgeYear 99 = .ok (.aload_n 0, 1) := by decide +kernel
theorem dX4_bridgeYear_100 : decode cX4_bridgeYear 100 = .ok (.aload_n 0, 1) := by decide +kernel
theorem dX4_bridgeYear_101 : decode cX4_bridgeYear 101 = .ok (.getfield 9, 3) := by decide +kernel
theorem dX4_bridgeYear_104 : decode cX4_bridgeYear 104 = .ok (.iload_n 1, 1) := by decide +kernel
theorem dX4_bridgeYear_105 : decode cX4_bridgeYear 105 = .ok (.iload 6, 2) := by decide +kernel
theorem dX4_bridgeYear_107 : decode cX4_bridgeYear 107 = .ok (.iload_n 3, 1) := by decide +kernel
theorem dX4_bridgeYear_108 : decode cX4_bridgeYear 108 = .ok (.iadd, 1) := by decide +kernel
theorem dX4_bridgeYear_109 : decode cX4_bridgeYear 109 = .ok (.iload 5, 2) := by decide +kernel
theorem dX4_bridgeYear_111 : decode cX4_bridgeYear 111 = .ok (.iadd, 1) := by decide +kernel
theorem dX4_bridgeYear_112 : decode cX4_bridgeYear 112 = .ok (.lload 15, 2) := by decide +kernel
theorem dX4_bridgeYear_114 : decode cX4_bridgeYear 114 = .ok (.invokevirtual 114, 3) := by decide +kernel
theorem dX4_bridgeYear_117 : decode cX4_bridgeYear 117 = .ok (.aload_n 0, 1) := by decide +kernel
theorem dX4_bridgeYear_118 : decode cX4_bridgeYear 118 = .ok (.aload_n 0, 1) := by decide +kernel
theorem dX4_bridgeYear_119 : decode cX4_bridgeYear 119 = .ok (.getfield 15, 3) := by decide +kernel
theorem dX4_bridgeYear_122 : decode cX4_bridgeYear 122 = .ok (.iload_n 1, 1) := by decide +kernel
theorem dX4_bridgeYear_123 : decode cX4_bridgeYear 123 = .ok (.iload 6, 2) := by decide +kernel
theorem dX4_bridgeYear_125 : decode cX4_bridgeYear 125 = .ok (.iload_n 3, 1) := by decide +kernel
theorem dX4_bridgeYear_126 : decode cX4_bridgeYear 126 = .ok (.iadd, 1) := by decide +kernel
theorem dX4_bridgeYear_127 : decode cX4_bridgeYear 127 = .ok (.lload 13, 2) := by decide +kernel
theorem dX4_bridgeYear_129 : decode cX4_bridgeYear 129 = .ok (.lload 15, 2) := by decide +kernel
theorem dX4_bridgeYear_131 : decode cX4_bridgeYear 131 = .ok (.lsub, 1) := by decide +kernel
theorem dX4_bridgeYear_132 : decode cX4_bridgeYear 132 = .ok (.lload 9, 2) := by decide +kernel
theorem dX4_bridgeYear_134 : decode cX4_bridgeYear 134 = .ok (.ladd, 1) := by decide +kernel
theorem dX4_bridgeYear_135 : decode cX4_bridgeYear 135 = .ok (.invokevirtual 114, 3) := by decide +kernel
theorem dX4_bridgeYear_138 : decode cX4_bridgeYear 138 = .ok (.aload_n 0, 1) := by decide +kernel
theorem dX4_bridgeYear_139 : decode cX4_bridgeYear 139 = .ok (.aload_n 0, 1) := by decide +kernel
theorem dX4_bridgeYear_140 : decode cX4_bridgeYear 140 = .ok (.getfield 18, 3) := by decide +kernel
theorem dX4_bridgeYear_143 : decode cX4_bridgeYear 143 = .ok (.iload_n 1, 1) := by decide +kernel
theorem dX4_bridgeYear_144 : decode cX4_bridgeYear 144 = .ok (.iload 6, 2) := by decide +kernel
theorem dX4_bridgeYear_146 : decode cX4_bridgeYear 146 = .ok (.iload 5, 2) := by decide +kernel
theorem dX4_bridgeYear_148 : decode cX4_bridgeYear 148 = .ok (.iadd, 1) := by decide +kernel
theorem dX4_bridgeYear_149 : decode cX4_bridgeYear 149 = .ok (.lload 7, 2) := by decide +kernel
theorem dX4_bridgeYear_151 : decode cX4_bridgeYear 151 = .ok (.lload 13, 2) := by decide +kernel
theorem dX4_bridgeYear_153 : decode cX4_bridgeYear 153 = .ok (.lsub, 1) := by decide +kernel
theorem dX4_bridgeYear_154 : decode cX4_bridgeYear 154 = .ok (.iload 4, 2) := by decide +kernel
theorem dX4_bridgeYear_156 : decode cX4_bridgeYear 156 = .ok (.invokestatic 74, 3) := by decide +kernel
theorem dX4_bridgeYear_159 : decode cX4_bridgeYear 159 = .ok (.lload 11, 2) := by decide +kernel
theorem dX4_bridgeYear_161 : decode cX4_bridgeYear 161 = .ok (.ladd, 1) := by decide +kernel
theorem dX4_bridgeYear_162 : decode cX4_bridgeYear 162 = .ok (.invokevirtual 114, 3) := by decide +kernel
theorem dX4_bridgeYear_165 : decode cX4_bridgeYear 165 = .ok (.iinc 6 (-1), 3) := by decide +kernel
theorem dX4_bridgeYear_168 : decode cX4_bridgeYear 168 = .ok (.goto (-163), 3) := by decide +kernel
theorem dX4_bridgeYear_171 : decode cX4_bridgeYear 171 = .ok (.return_, 1) := by decide +kernel
theorem dX4_come_0 : decode cX4_come 0 = .ok (.iload_n 3, 1) := by decide +kernel
theorem dX4_come_1 : decode cX4_come 1 = .ok (.iload_n 2, 1) := by decide +kernel
theorem dX4_come_2 : decode cX4_come 2 = .ok (.if_icmp .lt 17, 3) := by decide +kernel
theorem dX4_come_5 : decode cX4_come 5 = .ok (.aload_n 0, 1) := by decide +kernel
theorem dX4_come_6 : decode cX4_come 6 = .ok (.dup, 1) := by decide +kernel
theorem dX4_come_7 : decode cX4_come 7 = .ok (.getfield 96, 3) := by decide +kernel
theorem dX4_come_10 : decode cX4_come 10 = .ok (.lload 4, 2) := by decide +kernel
theorem dX4_come_12 : decode cX4_come 12 = .ok (.ladd, 1) := by decide +kernel
theorem dX4_come_13 : decode cX4_come 13 = .ok (.putfield 96, 3) := by decide +kernel
theorem dX4_come_16 : decode cX4_come 16 = .ok (.goto 16, 3) := by decide +kernel
theorem dX4_come_19 : decode cX4_come 19 = .ok (.aload_n 1, 1) := by decide +kernel
theorem dX4_come_20 : decode cX4_come 20 = .ok (.iload_n 3, 1) := by decide +kernel
theorem dX4_come_21 : decode cX4_come 21 = .ok (.aload_n 1, 1) := by decide +kernel
theorem dX4_come_22 : decode cX4_come 22 = .ok (.iload_n 3, 1) := by decide +kernel
theorem dX4_come_23 : decode cX4_come 23 = .ok (.invokestatic 110, 3) := by decide +kernel
theorem dX4_come_26 : decode cX4_come 26 = .ok (.lload 4, 2) := by decide +kernel
theorem dX4_come_28 : decode cX4_come 28 = .ok (.ladd, 1) := by decide +kernel
theorem dX4_come_29 : decode cX4_come 29 = .ok (.invokestatic 102, 3) := by decide +kernel
theorem dX4_come_32 : decode cX4_come 32 = .ok (.return_, 1) := by decide +kernel
theorem dX4_fewer_0 : decode cX4_fewer 0 = .ok (.aload_n 0, 1) := by decide +kernel
theorem dX4_fewer_1 : decode cX4_fewer 1 = .ok (.getfield 39, 3) := by decide +kernel
theorem dX4_fewer_4 : decode cX4_fewer 4 = .ok (.getfield 118, 3) := by decide +kernel
theorem dX4_fewer_7 : decode cX4_fewer 7 = .ok (.iconst 1, 1) := by decide +kernel
theorem dX4_fewer_8 : decode cX4_fewer 8 = .ok (.invokestatic 56, 3) := by decide +kernel
theorem dX4_fewer_11 : decode cX4_fewer 11 = .ok (.istore_n 3, 1) := by decide +kernel
theorem dX4_fewer_12 : decode cX4_fewer 12 = .ok (.aload_n 0, 1) := by decide +kernel
theorem dX4_fewer_13 : decode cX4_fewer 13 = .ok (.getfield 21, 3) := by decide +kernel
theorem dX4_fewer_16 : decode cX4_fewer 16 = .ok (.invokestatic 92, 3) := by decide +kernel
theorem dX4_fewer_19 : decode cX4_fewer 19 = .ok (.aload_n 0, 1) := by decide +kernel
theorem dX4_fewer_20 : decode cX4_fewer 20 = .ok (.getfield 21, 3) := by decide +kernel
theorem dX4_fewer_23 : decode cX4_fewer 23 = .ok (.iconst 0, 1) := by decide +kernel
theorem dX4_fewer_24 : decode cX4_fewer 24 = .ok (.ldc2_w 44, 3) := by decide +kernel
theorem dX4_fewer_27 : decode cX4_fewer 27 = .ok (.invokestatic 102, 3) := by decide +kernel
theorem dX4_fewer_30 : decode cX4_fewer 30 = .ok (.iconst 0, 1) := by decide +kernel
theorem dX4_fewer_31 : decode cX4_fewer 31 = .ok (.istore 4, 2) := by decide +kernel
theorem dX4_fewer_33 : decode cX4_fewer 33 = .ok (.iload 4, 2) := by decide +kernel
theorem dX4_fewer_35 : decode cX4_fewer 35 = .ok (.iload_n 2, 1) := by decide +kernel
theorem dX4_fewer_36 : decode cX4_fewer 36 = .ok (.if_icmp .ge 85, 3) := by decide +kernel
theorem dX4_fewer_39 : decode cX4_fewer 39 = .ok (.iload_n 1, 1) := by decide +kernel
theorem dX4_fewer_40 : decode cX4_fewer 40 = .ok (.iconst 1, 1) := by decide +kernel
theorem dX4_fewer_41 : decode cX4_fewer 41 = .ok (.isub, 1) := by decide +kernel
theorem dX4_fewer_42 : decode cX4_fewer 42 = .ok (.istore 5, 2) := by decide +kernel
theorem dX4_fewer_44 : decode cX4_fewer 44 = .ok (.iload 5, 2) := by decide +kernel
theorem dX4_fewer_46 : decode cX4_fewer 46 = .ok (.ifCond .lt 69, 3) := by decide +kernel
theorem dX4_fewer_49 : decode cX4_fewer 49 = .ok (.iload 5, 2) := by decide +kernel
theorem dX4_fewer_51 : decode cX4_fewer 51 = .ok (.ifCond .ne 7, 3) := by decide +kernel
theorem dX4_fewer_54 : decode cX4_fewer 54 = .ok (.lconst 0, 1) := by decide +kernel
theorem dX4_fewer_55 : decode cX4_fewer 55 = .ok (.goto 21, 3) := by decide +kernel
theorem dX4_fewer_58 : decode cX4_fewer 58 = .ok (.aload_n 0, 1) := by decide +kernel
theorem dX4_fewer_59 : decode cX4_fewer 59 = .ok (.getfield 21, 3) := by decide +kernel
theorem dX4_fewer_62 : decode cX4_fewer 62 = .ok (.iload 5, 2) := by decide +kernel
theorem dX4_fewer_64 : decode cX4_fewer 64 = .ok (.iconst 1, 1) := by decide +kernel
theorem dX4_fewer_65 : decode cX4_fewer 65 = .ok (.isub, 1) := by decide +kernel
theorem dX4_fewer_66 : decode cX4_fewer 66 = .ok (.invokestatic 110, 3) := by decide +kernel
theorem dX4_fewer_69 : decode cX4_fewer 69 = .ok (.iload_n 3, 1) := by decide +kernel
theorem dX4_fewer_70 : decode cX4_fewer 70 = .ok (.i2l, 1) := by decide +kernel
theorem dX4_fewer_71 : decode cX4_fewer 71 = .ok (.lmul, 1) := by decide +kernel
theorem dX4_fewer_72 : decode cX4_fewer 72 = .ok (.ldc2_w 121, 3) := by decide +kernel
theorem dX4_fewer_75 : decode cX4_fewer 75 = .ok (.ldiv, 1) := by decide +kernel
theorem dX4_fewer_76 : decode cX4_fewer 76 = .ok (.lstore 6, 2) := by decide +kernel
theorem dX4_fewer_78 : decode cX4_fewer 78 = .ok (.aload_n 0, 1) := by decide +kernel
theorem dX4_fewer_79 : decode cX4_fewer 79 = .ok (.getfield 21, 3) := by decide +kernel
theorem dX4_fewer_82 : decode cX4_fewer 82 = .ok (.iload 5, 2) := by decide +kernel
theorem dX4_fewer_84 : decode cX4_fewer 84 = .ok (.aload_n 0, 1) := by decide +kernel
theorem dX4_fewer_85 : decode cX4_fewer 85 = .ok (.getfield 21, 3) := by decide +kernel
theorem dX4_fewer_88 : decode cX4_fewer 88 = .ok (.iload 5, 2) := by decide +kernel
theorem dX4_fewer_90 : decode cX4_fewer 90 = .ok (.invokestatic 110, 3) := by decide +kernel
theorem dX4_fewer_93 : decode cX4_fewer 93 = .ok (.bipush 10, 2) := by decide +kernel
theorem dX4_fewer_95 : decode cX4_fewer 95 = .ok (.iload_n 3, 1) := by decide +kernel
theorem dX4_fewer_96 : decode cX4_fewer 96 = .ok (.isub, 1) := by decide +kernel
theorem dX4_fewer_97 : decode cX4_fewer 97 = .ok (.i2l, 1) := by decide +kernel
theorem dX4_fewer_98 : decode cX4_fewer 98 = .ok (.lmul, 1) := by decide +kernel
theorem dX4_fewer_99 : decode cX4_fewer 99 = .ok (.ldc2_w 121, 3) := by decide +kernel
theorem dX4_fewer_102 : decode cX4_fewer 102 = .ok (.ldiv, 1) := by decide +kernel
theorem dX4_fewer_103 : decode cX4_fewer 103 = .ok (.lload 6, 2) := by decide +kernel
theorem dX4_fewer_105 : decode cX4_fewer 105 = .ok (.ladd, 1) := by decide +kernel
theorem dX4_fewer_106 : decode cX4_fewer 106 = .ok (.invokestatic 102, 3) := by decide +kernel
theorem dX4_fewer_109 : decode cX4_fewer 109 = .ok (.iinc 5 (-1), 3) := by decide +kernel
theorem dX4_fewer_112 : decode cX4_fewer 112 = .ok (.goto (-68), 3) := by decide +kernel
theorem dX4_fewer_115 : decode cX4_fewer 115 = .ok (.iinc 4 1, 3) := by decide +kernel
theorem dX4_fewer_118 : decode cX4_fewer 118 = .ok (.goto (-85), 3) := by decide +kernel
theorem dX4_fewer_121 : decode cX4_fewer 121 = .ok (.lconst 0, 1) := by decide +kernel
theorem dX4_fewer_122 : decode cX4_fewer 122 = .ok (.lstore 4, 2) := by decide +kernel
theorem dX4_fewer_124 : decode cX4_fewer 124 = .ok (.iconst 0, 1) := by decide +kernel
theorem dX4_fewer_125 : decode cX4_fewer 125 = .ok (.istore 6, 2) := by decide +kernel
theorem dX4_fewer_127 : decode cX4_fewer 127 = .ok (.iload 6, 2) := by decide +kernel
theorem dX4_fewer_129 : decode cX4_fewer 129 = .ok (.iload_n 1, 1) := by decide +kernel
theorem dX4_fewer_130 : decode cX4_fewer 130 = .ok (.if_icmp .ge 23, 3) := by decide +kernel
theorem dX4_fewer_133 : decode cX4_fewer 133 = .ok (.lload 4, 2) := by decide +kernel
theorem dX4_fewer_135 : decode cX4_fewer 135 = .ok (.aload_n 0, 1) := by decide +kernel
theorem dX4_fewer_136 : decode cX4_fewer 136 = .ok (.getfield 21, 3) := by decide +kernel
theorem dX4_fewer_139 : decode cX4_fewer 139 = .ok (.iload 6, 2) := by decide +kernel
theorem dX4_fewer_141 : decode cX4_fewer 141 = .ok (.invokestatic 110, 3) := by decide +kernel
theorem dX4_fewer_144 : decode cX4_fewer 144 = .ok (.ladd, 1) := by decide +kernel
theorem dX4_fewer_145 : decode cX4_fewer 145 = .ok (.lstore 4, 2) := by decide +kernel
theorem dX4_fewer_147 : decode cX4_fewer 147 = .ok (.iinc 6 1, 3) := by decide +kernel
theorem dX4_fewer_150 : decode cX4_fewer 150 = .ok (.goto (-23), 3) := by decide +kernel
theorem dX4_fewer_153 : decode cX4_fewer 153 = .ok (.lload 4, 2) := by decide +kernel
theorem dX4_fewer_155 : decode cX4_fewer 155 = .ok (.lreturn, 1) := by decide +kernel
theorem dX4_possible_0 : decode cX4_possible 0 = .ok (.aload_n 0, 1) := by decide +kernel
theorem dX4_possible_1 : decode cX4_possible 1 = .ok (.invokevirtual 123, 3) := by decide +kernel
theorem dX4_possible_4 : decode cX4_possible 4 = .ok (.iconst 0, 1) := by decide +kernel
theorem dX4_possible_5 : decode cX4_possible 5 = .ok (.istore_n 1, 1) := by decide +kernel
theorem dX4_possible_6 : decode cX4_possible 6 = .ok (.iconst 0, 1) := by decide +kernel
theorem dX4_possible_7 : decode cX4_possible 7 = .ok (.istore_n 2, 1) := by decide +kernel
theorem dX4_possible_8 : decode cX4_possible 8 = .ok (.iload_n 2, 1) := by decide +kernel
theorem dX4_possible_9 : decode cX4_possible 9 = .ok (.aload_n 0, 1) := by decide +kernel
theorem dX4_possible_10 : decode cX4_possible 10 = .ok (.getfield 39, 3) := by decide +kernel
theorem dX4_possible_13 : decode cX4_possible 13 = .ok (.getfield 126, 3) := by decide +kernel
theorem dX4_possible_16 : decode cX4_possible 16 = .ok (.if_icmp .ge 38, 3) := by decide +kernel
theorem dX4_possible_19 : decode cX4_possible 19 = .ok (.aload_n 0, 1) := by decide +kernel
theorem dX4_possible_20 : decode cX4_possible 20 = .ok (.getfield 39, 3) := by decide +kernel
theorem dX4_possible_23 : decode cX4_possible 23 = .ok (.getfield 99, 3) := by decide +kernel
theorem dX4_possible_26 : decode cX4_possible 26 = .ok (.iload_n 2, 1) := by decide +kernel
theorem dX4_possible_27 : decode cX4_possible 27 = .ok (.invokestatic 56, 3) := by decide +kernel
theorem dX4_possible_30 : decode cX4_possible 30 = .ok (.iconst 1, 1) := by decide +kernel
theorem dX4_possible_31 : decode cX4_possible 31 = .ok (.if_icmp .ne 17, 3) := by decide +kernel
theorem dX4_possible_34 : decode cX4_possible 34 = .ok (.aload_n 0, 1) := by decide +kernel
theorem dX4_possible_35 : decode cX4_possible 35 = .ok (.iload_n 2, 1) := by decide +kernel
theorem dX4_possible_36 : decode cX4_possible 36 = .ok (.invokevirtual 130, 3) := by decide +kernel
theorem dX4_possible_39 : decode cX4_possible 39 = .ok (.ifCond .eq 9, 3) := by decide +kernel
theorem dX4_possible_42 : decode cX4_possible 42 = .ok (.iload_n 1, 1) := by decide +kernel
theorem dX4_possible_43 : decode cX4_possible 43 = .ok (.iconst 1, 1) := by decide +kernel
theorem dX4_possible_44 : decode cX4_possible 44 = .ok (.iload_n 2, 1) := by decide +kernel
theorem dX4_possible_45 : decode cX4_possible 45 = .ok (.ishl, 1) := by decide +kernel
theorem dX4_possible_46 : decode cX4_possible 46 = .ok (.ior, 1) := by decide +kernel
theorem dX4_possible_47 : decode cX4_possible 47 = .ok (.istore_n 1, 1) := by decide +kernel
theorem dX4_possible_48 : decode cX4_possible 48 = .ok (.iinc 2 1, 3) := by decide +kernel
theorem dX4_possible_51 : decode cX4_possible 51 = .ok (.goto (-43), 3) := by decide +kernel
theorem dX4_possible_54 : decode cX4_possible 54 = .ok (.iload_n 1, 1) := by decide +kernel
theorem dX4_possible_55 : decode cX4_possible 55 = .ok (.ireturn, 1) := by decide +kernel
theorem dX4_bestLook_0 : decode cX4_bestLook 0 = .ok (.aload_n 0, 1) := by decide +kernel
theorem dX4_bestLook_1 : decode cX4_bestLook 1 = .ok (.invokevirtual 134, 3) := by decide +kernel
theorem dX4_bestLook_4 : decode cX4_bestLook 4 = .ok (.istore_n 2, 1) := by decide +kernel
theorem dX4_bestLook_5 : decode cX4_bestLook 5 = .ok (.iconst (-1), 1) := by decide +kernel
theorem dX4_bestLook_6 : decode cX4_bestLook 6 = .ok (.istore_n 3, 1) := by decide +kernel
theorem dX4_bestLook_7 : decode cX4_bestLook 7 = .ok (.bipush 7, 2) := by decide +kernel
theorem dX4_bestLook_9 : decode cX4_bestLook 9 = .ok (.istore 4, 2) := by decide +kernel
theorem dX4_bestLook_11 : decode cX4_bestLook 11 = .ok (.iconst 0, 1) := by decide +kernel
theorem dX4_bestLook_12 : decode cX4_bestLook 12 = .ok (.istore 5, 2) := by decide +kernel
theorem dX4_bestLook_14 : decode cX4_bestLook 14 = .ok (.iload 5, 2) := by decide +kernel
theorem dX4_bestLook_16 : decode cX4_bestLook 16 = .ok (.bipush 20, 2) := by decide +kernel
theorem dX4_bestLook_18 : decode cX4_bestLook 18 = .ok (.if_icmp .gt 36, 3) := by decide +kernel
theorem dX4_bestLook_21 : decode cX4_bestLook 21 = .ok (.iload_n 2, 1) := by decide +kernel
theorem dX4_bestLook_22 : decode cX4_bestLook 22 = .ok (.ifCond .eq 32, 3) := by decide +kernel
theorem dX4_bestLook_25 : decode cX4_bestLook 25 = .ok (.aload_n 0, 1) := by decide +kernel
theorem dX4_bestLook_26 : decode cX4_bestLook 26 = .ok (.iload_n 2, 1) := by decide +kernel
theorem dX4_bestLook_27 : decode cX4_bestLook 27 = .ok (.iload 5, 2) := by decide +kernel
theorem dX4_bestLook_29 : decode cX4_bestLook 29 = .ok (.invokevirtual 137, 3) := by decide +kernel
theorem dX4_bestLook_32 : decode cX4_bestLook 32 = .ok (.istore 6, 2) := by decide +kernel
theorem dX4_bestLook_34 : decode cX4_bestLook 34 = .ok (.iload 6, 2) := by decide +kernel
theorem dX4_bestLook_36 : decode cX4_bestLook 36 = .ok (.iload 4, 2) := by decide +kernel
theorem dX4_bestLook_38 : decode cX4_bestLook 38 = .ok (.if_icmp .ge 10, 3) := by decide +kernel
theorem dX4_bestLook_41 : decode cX4_bestLook 41 = .ok (.iload 6, 2) := by decide +kernel
theorem dX4_bestLook_43 : decode cX4_bestLook 43 = .ok (.istore 4, 2) := by decide +kernel
theorem dX4_bestLook_45 : decode cX4_bestLook 45 = .ok (.iload 5, 2) := by decide +kernel
theorem dX4_bestLook_47 : decode cX4_bestLook 47 = .ok (.istore_n 3, 1) := by decide +kernel
theorem dX4_bestLook_48 : decode cX4_bestLook 48 = .ok (.iinc 5 1, 3) := by decide +kernel
theorem dX4_bestLook_51 : decode cX4_bestLook 51 = .ok (.goto (-37), 3) := by decide +kernel
theorem dX4_bestLook_54 : decode cX4_bestLook 54 = .ok (.iload_n 3, 1) := by decide +kernel
theorem dX4_bestLook_55 : decode cX4_bestLook 55 = .ok (.iconst (-1), 1) := by decide +kernel
theorem dX4_bestLook_56 : decode cX4_bestLook 56 = .ok (.if_icmp .ne 5, 3) := by decide +kernel
theorem dX4_bestLook_59 : decode cX4_bestLook 59 = .ok (.iconst (-1), 1) := by decide +kernel
theorem dX4_bestLook_60 : decode cX4_bestLook 60 = .ok (.ireturn, 1) := by decide +kernel
theorem dX4_bestLook_61 : decode cX4_bestLook 61 = .ok (.iload_n 1, 1) := by decide +kernel
theorem dX4_bestLook_62 : decode cX4_bestLook 62 = .ok (.ifCond .eq 7, 3) := by decide +kernel
theorem dX4_bestLook_65 : decode cX4_bestLook 65 = .ok (.iload_n 3, 1) := by decide +kernel
theorem dX4_bestLook_66 : decode cX4_bestLook 66 = .ok (.goto 5, 3) := by decide +kernel
theorem dX4_bestLook_69 : decode cX4_bestLook 69 = .ok (.iload 4, 2) := by decide +kernel
theorem dX4_bestLook_71 : decode cX4_bestLook 71 = .ok (.ireturn, 1) := by decide +kernel
theorem dX4_mostAlike_0 : decode cX4_mostAlike 0 = .ok (.iconst 0, 1) := by decide +kernel
theorem dX4_mostAlike_1 : decode cX4_mostAlike 1 = .ok (.istore_n 3, 1) := by decide +kernel
theorem dX4_mostAlike_2 : decode cX4_mostAlike 2 = .ok (.iconst 0, 1) := by decide +kernel
theorem dX4_mostAlike_3 : decode cX4_mostAlike 3 = .ok (.istore 4, 2) := by decide +kernel
theorem dX4_mostAlike_5 : decode cX4_mostAlike 5 = .ok (.iload 4, 2) := by decide +kernel
theorem dX4_mostAlike_7 : decode cX4_mostAlike 7 = .ok (.bipush 6, 2) := by decide +kernel
theorem dX4_mostAlike_9 : decode cX4_mostAlike 9 = .ok (.if_icmp .ge 89, 3) := by decide +kernel
theorem dX4_mostAlike_12 : decode cX4_mostAlike 12 = .ok (.iconst 0, 1) := by decide +kernel
theorem dX4_mostAlike_13 : decode cX4_mostAlike 13 = .ok (.istore 5, 2) := by decide +kernel
theorem dX4_mostAlike_15 : decode cX4_mostAlike 15 = .ok (.iconst 0, 1) := by decide +kernel
theorem dX4_mostAlike_16 : decode cX4_mostAlike 16 = .ok (.istore 6, 2) := by decide +kernel
theorem dX4_mostAlike_18 : decode cX4_mostAlike 18 = .ok (.iload 6, 2) := by decide +kernel
theorem dX4_mostAlike_20 : decode cX4_mostAlike 20 = .ok (.bipush 6, 2) := by decide +kernel
theorem dX4_mostAlike_22 : decode cX4_mostAlike 22 = .ok (.if_icmp .ge 63, 3) := by decide +kernel
theorem dX4_mostAlike_25 : decode cX4_mostAlike 25 = .ok (.iload_n 1, 1) := by decide +kernel
theorem dX4_mostAlike_26 : decode cX4_mostAlike 26 = .ok (.iload 4, 2) := by decide +kernel
theorem dX4_mostAlike_28 : decode cX4_mostAlike 28 = .ok (.ishr, 1) := by decide +kernel
theorem dX4_mostAlike_29 : decode cX4_mostAlike 29 = .ok (.iload_n 1, 1) := by decide +kernel
theorem dX4_mostAlike_30 : decode cX4_mostAlike 30 = .ok (.iload 6, 2) := by decide +kernel
theorem dX4_mostAlike_32 : decode cX4_mostAlike 32 = .ok (.ishr, 1) := by decide +kernel
theorem dX4_mostAlike_33 : decode cX4_mostAlike 33 = .ok (.iand, 1) := by decide +kernel
theorem dX4_mostAlike_34 : decode cX4_mostAlike 34 = .ok (.iconst 1, 1) := by decide +kernel
theorem dX4_mostAlike_35 : decode cX4_mostAlike 35 = .ok (.iand, 1) := by decide +kernel
theorem dX4_mostAlike_36 : decode cX4_mostAlike 36 = .ok (.iconst 1, 1) := by decide +kernel
theorem dX4_mostAlike_37 : decode cX4_mostAlike 37 = .ok (.if_icmp .ne 7, 3) := by decide +kernel
theorem dX4_mostAlike_40 : decode cX4_mostAlike 40 = .ok (.iconst 1, 1) := by decide +kernel
theorem dX4_mostAlike_41 : decode cX4_mostAlike 41 = .ok (.goto 4, 3) := by decide +kernel
theorem dX4_mostAlike_44 : decode cX4_mostAlike 44 = .ok (.iconst 0, 1) := by decide +kernel
theorem dX4_mostAlike_45 : decode cX4_mostAlike 45 = .ok (.istore 7, 2) := by decide +kernel
theorem dX4_mostAlike_47 : decode cX4_mostAlike 47 = .ok (.iload 5, 2) := by decide +kernel
theorem dX4_mostAlike_49 : decode cX4_mostAlike 49 = .ok (.iload 7, 2) := by decide +kernel
theorem dX4_mostAlike_51 : decode cX4_mostAlike 51 = .ok (.ifCond .eq 24, 3) := by decide +kernel
theorem dX4_mostAlike_54 : decode cX4_mostAlike 54 = .ok (.aload_n 0, 1) := by decide +kernel
theorem dX4_mostAlike_55 : decode cX4_mostAlike 55 = .ok (.iload 4, 2) := by decide +kernel
theorem dX4_mostAlike_57 : decode cX4_mostAlike 57 = .ok (.iload_n 2, 1) := by decide +kernel
theorem dX4_mostAlike_58 : decode cX4_mostAlike 58 = .ok (.invokevirtual 141, 3) := by decide +kernel
theorem dX4_mostAlike_61 : decode cX4_mostAlike 61 = .ok (.aload_n 0, 1) := by decide +kernel
theorem dX4_mostAlike_62 : decode cX4_mostAlike 62 = .ok (.iload 6, 2) := by decide +kernel
theorem dX4_mostAlike_64 : decode cX4_mostAlike 64 = .ok (.iload_n 2, 1) := by decide +kernel
theorem dX4_mostAlike_65 : decode cX4_mostAlike 65 = .ok (.invokevirtual 141, 3) := by decide +kernel
theorem dX4_mostAlike_68 : decode cX4_mostAlike 68 = .ok (.if_icmp .ne 7, 3) := by decide +kernel
theorem dX4_mostAlike_71 : decode cX4_mostAlike 71 = .ok (.iconst 1, 1) := by decide +kernel
theorem dX4_mostAlike_72 : decode cX4_mostAlike 72 = .ok (.goto 4, 3) := by decide +kernel
theorem dX4_mostAlike_75 : decode cX4_mostAlike 75 = .ok (.iconst 0, 1) := by decide +kernel
theorem dX4_mostAlike_76 : decode cX4_mostAlike 76 = .ok (.iadd, 1) := by decide +kernel
theorem dX4_mostAlike_77 : decode cX4_mostAlike 77 = .ok (.istore 5, 2) := by decide +kernel
theorem dX4_mostAlike_79 : decode cX4_mostAlike 79 = .ok (.iinc 6 1, 3) := by decide +kernel
theorem dX4_mostAlike_82 : decode cX4_mostAlike 82 = .ok (.goto (-64), 3) := by decide +kernel
theorem dX4_mostAlike_85 : decode cX4_mostAlike 85 = .ok (.iload_n 3, 1) := by decide +kernel
theorem dX4_mostAlike_86 : decode cX4_mostAlike 86 = .ok (.iload 5, 2) := by decide +kernel
theorem dX4_mostAlike_88 : decode cX4_mostAlike 88 = .ok (.invokestatic 144, 3) := by decide +kernel
theorem dX4_mostAlike_91 : decode cX4_mostAlike 91 = .ok (.istore_n 3, 1) := by decide +kernel
theorem dX4_mostAlike_92 : decode cX4_mostAlike 92 = .ok (.iinc 4 1, 3) := by decide +kernel
theorem dX4_mostAlike_95 : decode cX4_mostAlike 95 = .ok (.goto (-90), 3) := by decide +kernel
theorem dX4_mostAlike_98 : decode cX4_mostAlike 98 = .ok (.iload_n 3, 1) := by decide +kernel
theorem dX4_mostAlike_99 : decode cX4_mostAlike 99 = .ok (.ireturn, 1) := by decide +kernel
theorem dX4_laidSo_0 : decode cX4_laidSo 0 = .ok (.iconst 0, 1) := by decide +kernel
theorem dX4_laidSo_1 : decode cX4_laidSo 1 = .ok (.istore_n 2, 1) := by decide +kernel
theorem dX4_laidSo_2 : decode cX4_laidSo 2 = .ok (.iload_n 2, 1) := by decide +kernel
theorem dX4_laidSo_3 : decode cX4_laidSo 3 = .ok (.aload_n 0, 1) := by decide +kernel
theorem dX4_laidSo_4 : decode cX4_laidSo 4 = .ok (.getfield 29, 3) := by decide +kernel
theorem dX4_laidSo_7 : decode cX4_laidSo 7 = .ok (.getfield 149, 3) := by decide +kernel
theorem dX4_laidSo_10 : decode cX4_laidSo 10 = .ok (.if_icmp .ge 41, 3) := by decide +kernel
theorem dX4_laidSo_13 : decode cX4_laidSo 13 = .ok (.aload_n 0, 1) := by decide +kernel
theorem dX4_laidSo_14 : decode cX4_laidSo 14 = .ok (.iload_n 1, 1) := by decide +kernel
theorem dX4_laidSo_15 : decode cX4_laidSo 15 = .ok (.aload_n 0, 1) := by decide +kernel
theorem dX4_laidSo_16 : decode cX4_laidSo 16 = .ok (.getfield 29, 3) := by decide +kernel
theorem dX4_laidSo_19 : decode cX4_laidSo 19 = .ok (.getfield 152, 3) := by decide +kernel
theorem dX4_laidSo_22 : decode cX4_laidSo 22 = .ok (.iload_n 2, 1) := by decide +kernel
theorem dX4_laidSo_23 : decode cX4_laidSo 23 = .ok (.invokestatic 56, 3) := by decide +kernel
theorem dX4_laidSo_26 : decode cX4_laidSo 26 = .ok (.invokevirtual 141, 3) := by decide +kernel
theorem dX4_laidSo_29 : decode cX4_laidSo 29 = .ok (.aload_n 0, 1) := by decide +kernel
theorem dX4_laidSo_30 : decode cX4_laidSo 30 = .ok (.getfield 29, 3) := by decide +kernel
theorem dX4_laidSo_33 : decode cX4_laidSo 33 = .ok (.getfield 155, 3) := by decide +kernel
theorem dX4_laidSo_36 : decode cX4_laidSo 36 = .ok (.iload_n 2, 1) := by decide +kernel
theorem dX4_laidSo_37 : decode cX4_laidSo 37 = .ok (.invokestatic 56, 3) := by decide +kernel
theorem dX4_laidSo_40 : decode cX4_laidSo 40 = .ok (.if_icmp .eq 5, 3) := by decide +kernel
theorem dX4_laidSo_43 : decode cX4_laidSo 43 = .ok (.iconst 0, 1) := by decide +kernel
theorem dX4_laidSo_44 : decode cX4_laidSo 44 = .ok (.ireturn, 1) := by decide +kernel
theorem dX4_laidSo_45 : decode cX4_laidSo 45 = .ok (.iinc 2 1, 3) := by decide +kernel
theorem dX4_laidSo_48 : decode cX4_laidSo 48 = .ok (.goto (-46), 3) := by decide +kernel
theorem dX4_laidSo_51 : decode cX4_laidSo 51 = .ok (.iconst 1, 1) := by decide +kernel
theorem dX4_laidSo_52 : decode cX4_laidSo 52 = .ok (.ireturn, 1) := by decide +kernel
theorem dX4_laidBy_0 : decode cX4_laidBy 0 = .ok (.iload_n 1, 1) := by decide +kernel
theorem dX4_laidBy_1 : decode cX4_laidBy 1 = .ok (.ifCond .lt 25, 3) := by decide +kernel
theorem dX4_laidBy_4 : decode cX4_laidBy 4 = .ok (.iload_n 1, 1) := by decide +kernel
theorem dX4_laidBy_5 : decode cX4_laidBy 5 = .ok (.aload_n 0, 1) := by decide +kernel
theorem dX4_laidBy_6 : decode cX4_laidBy 6 = .ok (.getfield 26, 3) := by decide +kernel
theorem dX4_laidBy_9 : decode cX4_laidBy 9 = .ok (.arraylength, 1) := by decide +kernel
theorem dX4_laidBy_10 : decode cX4_laidBy 10 = .ok (.if_icmp .ge 16, 3) := by decide +kernel
theorem dX4_laidBy_13 : decode cX4_laidBy 13 = .ok (.aload_n 0, 1) := by decide +kernel
theorem dX4_laidBy_14 : decode cX4_laidBy 14 = .ok (.getfield 26, 3) := by decide +kernel
theorem dX4_laidBy_17 : decode cX4_laidBy 17 = .ok (.iload_n 1, 1) := by decide +kernel
theorem dX4_laidBy_18 : decode cX4_laidBy 18 = .ok (.aaload, 1) := by decide +kernel
theorem dX4_laidBy_19 : decode cX4_laidBy 19 = .ok (.iload_n 2, 1) := by decide +kernel
theorem dX4_laidBy_20 : decode cX4_laidBy 20 = .ok (.invokestatic 56, 3) := by decide +kernel
theorem dX4_laidBy_23 : decode cX4_laidBy 23 = .ok (.goto 4, 3) := by decide +kernel
theorem dX4_laidBy_26 : decode cX4_laidBy 26 = .ok (.iconst (-1), 1) := by decide +kernel
theorem dX4_laidBy_27 : decode cX4_laidBy 27 = .ok (.ireturn, 1) := by decide +kernel
theorem dX4_fillLaid_0 : decode cX4_fillLaid 0 = .ok (.iconst 0, 1) := by decide +kernel
theorem dX4_fillLaid_1 : decode cX4_fillLaid 1 = .ok (.istore_n 1, 1) := by decide +kernel
theorem dX4_fillLaid_2 : decode cX4_fillLaid 2 = .ok (.iload_n 1, 1) := by decide +kernel
theorem dX4_fillLaid_3 : decode cX4_fillLaid 3 = .ok (.aload_n 0, 1) := by decide +kernel
theorem dX4_fillLaid_4 : decode cX4_fillLaid 4 = .ok (.getfield 39, 3) := by decide +kernel
theorem dX4_fillLaid_7 : decode cX4_fillLaid 7 = .ok (.getfield 126, 3) := by decide +kernel
theorem dX4_fillLaid_10 : decode cX4_fillLaid 10 = .ok (.if_icmp .ge 76, 3) := by decide +kernel
theorem dX4_fillLaid_13 : decode cX4_fillLaid 13 = .ok (.iload_n 1, 1) := by decide +kernel
theorem dX4_fillLaid_14 : decode cX4_fillLaid 14 = .ok (.aload_n 0, 1) := by decide +kernel
theorem dX4_fillLaid_15 : decode cX4_fillLaid 15 = .ok (.getfield 26, 3) := by decide +kernel
theorem dX4_fillLaid_18 : decode cX4_fillLaid 18 = .ok (.arraylength, 1) := by decide +kernel
theorem dX4_fillLaid_19 : decode cX4_fillLaid 19 = .ok (.if_icmp .ge 67, 3) := by decide +kernel
theorem dX4_fillLaid_22 : decode cX4_fillLaid 22 = .ok (.iconst 0, 1) := by decide +kernel
theorem dX4_fillLaid_23 : decode cX4_fillLaid 23 = .ok (.istore_n 2, 1) := by decide +kernel
theorem dX4_fillLaid_24 : decode cX4_fillLaid 24 = .ok (.aload_n 0, 1) := by decide +kernel
theorem dX4_fillLaid_25 : decode cX4_fillLaid 25 = .ok (.getfield 40, 3) := by decide +kernel
theorem dX4_fillLaid_28 : decode cX4_fillLaid 28 = .ok (.aload_n 0, 1) := by decide +kernel
theorem dX4_fillLaid_29 : decode cX4_fillLaid 29 = .ok (.getfield 39, 3) := by decide +kernel
theorem dX4_fillLaid_32 : decode cX4_fillLaid 32 = .ok (.iload_n 1, 1) := by decide +kernel
theorem dX4_fillLaid_33 : decode cX4_fillLaid 33 = .ok (.iconst (-1), 1) := by decide +kernel
theorem dX4_fillLaid_34 : decode cX4_fillLaid 34 = .ok (.invokevirtual 60, 3) := by decide +kernel
theorem dX4_fillLaid_37 : decode cX4_fillLaid 37 = .ok (.iconst 0, 1) := by decide +kernel
theorem dX4_fillLaid_38 : decode cX4_fillLaid 38 = .ok (.istore_n 3, 1) := by decide +kernel
theorem dX4_fillLaid_39 : decode cX4_fillLaid 39 = .ok (.iload_n 3, 1) := by decide +kernel
theorem dX4_fillLaid_40 : decode cX4_fillLaid 40 = .ok (.bipush 20, 2) := by decide +kernel
theorem dX4_fillLaid_42 : decode cX4_fillLaid 42 = .ok (.if_icmp .gt 38, 3) := by decide +kernel
theorem dX4_fillLaid_45 : decode cX4_fillLaid 45 = .ok (.aload_n 0, 1) := by decide +kernel
theorem dX4_fillLaid_46 : decode cX4_fillLaid 46 = .ok (.getfield 26, 3) := by decide +kernel
theorem dX4_fillLaid_49 : decode cX4_fillLaid 49 = .ok (.iload_n 1, 1) := by decide +kernel
theorem dX4_fillLaid_50 : decode cX4_fillLaid 50 = .ok (.aaload, 1) := by decide +kernel
theorem dX4_fillLaid_51 : decode cX4_fillLaid 51 = .ok (.iload_n 3, 1) := by decide +kernel
theorem dX4_fillLaid_52 : decode cX4_fillLaid 52 = .ok (.iload_n 2, 1) := by decide +kernel
theorem dX4_fillLaid_53 : decode cX4_fillLaid 53 = .ok (.invokestatic 158, 3) := by decide +kernel
theorem dX4_fillLaid_56 : decode cX4_fillLaid 56 = .ok (.iload_n 2, 1) := by decide +kernel
theorem dX4_fillLaid_57 : decode cX4_fillLaid 57 = .ok (.aload_n 0, 1) := by decide +kernel
theorem dX4_fillLaid_58 : decode cX4_fillLaid 58 = .ok (.getfield 40, 3) := by decide +kernel
theorem dX4_fillLaid_61 : decode cX4_fillLaid 61 = .ok (.invokevirtual 78, 3) := by decide +kernel
theorem dX4_fillLaid_64 : decode cX4_fillLaid 64 = .ok (.iadd, 1) := by decide +kernel
theorem dX4_fillLaid_65 : decode cX4_fillLaid 65 = .ok (.istore_n 2, 1) := by decide +kernel
theorem dX4_fillLaid_66 : decode cX4_fillLaid 66 = .ok (.aload_n 0, 1) := by decide +kernel
theorem dX4_fillLaid_67 : decode cX4_fillLaid 67 = .ok (.getfield 40, 3) := by decide +kernel
theorem dX4_fillLaid_70 : decode cX4_fillLaid 70 = .ok (.iconst 1, 1) := by decide +kernel
theorem dX4_fillLaid_71 : decode cX4_fillLaid 71 = .ok (.invokevirtual 86, 3) := by decide +kernel
theorem dX4_fillLaid_74 : decode cX4_fillLaid 74 = .ok (.iinc 3 1, 3) := by decide +kernel
theorem dX4_fillLaid_77 : decode cX4_fillLaid 77 = .ok (.goto (-38), 3) := by decide +kernel
theorem dX4_fillLaid_80 : decode cX4_fillLaid 80 = .ok (.iinc 1 1, 3) := by decide +kernel
theorem dX4_fillLaid_83 : decode cX4_fillLaid 83 = .ok (.goto (-81), 3) := by decide +kernel
theorem dX4_fillLaid_86 : decode cX4_fillLaid 86 = .ok (.return_, 1) := by decide +kernel
theorem dX4_clear_0 : decode cX4_clear 0 = .ok (.iconst 0, 1) := by decide +kernel
theorem dX4_clear_1 : decode cX4_clear 1 = .ok (.istore_n 1, 1) := by decide +kernel
theorem dX4_clear_2 : decode cX4_clear 2 = .ok (.iload_n 1, 1) := by decide +kernel
theorem dX4_clear_3 : decode cX4_clear 3 = .ok (.aload_n 0, 1) := by decide +kernel
theorem dX4_clear_4 : decode cX4_clear 4 = .ok (.arraylength, 1) := by decide +kernel
theorem dX4_clear_5 : decode cX4_clear 5 = .ok (.if_icmp .ge 13, 3) := by decide +kernel
theorem dX4_clear_8 : decode cX4_clear 8 = .ok (.aload_n 0, 1) := by decide +kernel
theorem dX4_clear_9 : decode cX4_clear 9 = .ok (.iload_n 1, 1) := by decide +kernel
theorem dX4_clear_10 : decode cX4_clear 10 = .ok (.lconst 0, 1) := by decide +kernel
theorem dX4_clear_11 : decode cX4_clear 11 = .ok (.lastore, 1) := by decide +kernel
theorem dX4_clear_12 : decode cX4_clear 12 = .ok (.iinc 1 1, 3) := by decide +kernel
theorem dX4_clear_15 : decode cX4_clear 15 = .ok (.goto (-13), 3) := by decide +kernel
theorem dX4_clear_18 : decode cX4_clear 18 = .ok (.return_, 1) := by decide +kernel
theorem dX5_init_0 : decode cX5_init 0 = .ok (.aload_n 0, 1) := by decide +kernel
theorem dX5_init_1 : decode cX5_init 1 = .ok (.invokespecial 3, 3) := by decide +kernel
theorem dX5_init_4 : decode cX5_init 4 = .ok (.aload_n 0, 1) := by decide +kernel
theorem dX5_init_5 : decode cX5_init 5 = .ok (.bipush 6, 2) := by decide +kernel
theorem dX5_init_7 : decode cX5_init 7 = .ok (.newarray .int, 2) := by decide +kernel
theorem dX5_init_9 : decode cX5_init 9 = .ok (.putfield 9, 3) := by decide +kernel
theorem dX5_init_12 : decode cX5_init 12 = .ok (.aload_n 0, 1) := by decide +kernel
theorem dX5_init_13 : decode cX5_init 13 = .ok (.bipush 6, 2) := by decide +kernel
theorem dX5_init_15 : decode cX5_init 15 = .ok (.bipush 6, 2) := by decide +kernel
theorem dX5_init_17 : decode cX5_init 17 = .ok (.multianewarray 15 2, 4) := by decide +kernel
theorem dX5_init_21 : decode cX5_init 21 = .ok (.putfield 17, 3) := by decide +kernel
theorem dX5_init_24 : decode cX5_init 24 = .ok (.aload_n 0, 1) := by decide +kernel
theorem dX5_init_25 : decode cX5_init 25 = .ok (.bipush 7, 2) := by decide +kernel
theorem dX5_init_27 : decode cX5_init 27 = .ok (.bipush 64, 2) := by decide +kernel
theorem dX5_init_29 : decode cX5_init 29 = .ok (.multianewarray 15 2, 4) := by decide +kernel
theorem dX5_init_33 : decode cX5_init 33 = .ok (.putfield 20, 3) := by decide +kernel
theorem dX5_init_36 : decode cX5_init 36 = .ok (.aload_n 0, 1) := by decide +kernel
theorem dX5_init_37 : decode cX5_init 37 = .ok (.aload_n 1, 1) := by decide +kernel
theorem dX5_init_38 : decode cX5_init 38 = .ok (.putfield 23, 3) := by decide +kernel
theorem dX5_init_41 : decode cX5_init 41 = .ok (.aload_n 0, 1) := by decide +kernel
theorem dX5_init_42 : decode cX5_init 42 = .ok (.aload_n 2, 1) := by decide +kernel
theorem dX5_init_43 : decode cX5_init 43 = .ok (.putfield 27, 3) := by decide +kernel
theorem dX5_init_46 : decode cX5_init 46 = .ok (.aload_n 0, 1) := by decide +kernel
theorem dX5_init_47 : decode cX5_init 47 = .ok (.aload_n 3, 1) := by decide +kernel
theorem dX5_init_48 : decode cX5_init 48 = .ok (.putfield 31, 3) := by decide +kernel
theorem dX5_init_51 : decode cX5_init 51 = .ok (.return_, 1) := by decide +kernel
theorem dX5_make_0 : decode cX5_make 0 = .ok (.aload_n 0, 1) := by decide +kernel
theorem dX5_make_1 : decode cX5_make 1 = .ok (.iconst 0, 1) := by decide +kernel
theorem dX5_make_2 : decode cX5_make 2 = .ok (.putfield 35, 3) := by decide +kernel
theorem dX5_make_5 : decode cX5_make 5 = .ok (.iconst 0, 1) := by decide +kernel
theorem dX5_make_6 : decode cX5_make 6 = .ok (.istore_n 2, 1) := by decide +kernel
theorem dX5_make_7 : decode cX5_make 7 = .ok (.iload_n 2, 1) := by decide +kernel
theorem dX5_make_8 : decode cX5_make 8 = .ok (.bipush 16, 2) := by decide +kernel
theorem dX5_make_10 : decode cX5_make 10 = .ok (.if_icmp .ge 40, 3) := by decide +kernel
theorem dX5_make_13 : decode cX5_make 13 = .ok (.iload_n 1, 1) := by decide +kernel
theorem dX5_make_14 : decode cX5_make 14 = .ok (.iload_n 2, 1) := by decide +kernel
theorem dX5_make_15 : decode cX5_make 15 = .ok (.ishr, 1) := by decide +kernel
theorem dX5_make_16 : decode cX5_make 16 = .ok (.iconst 1, 1) := by decide +kernel
theorem dX5_make_17 : decode cX5_make 17 = .ok (.iand, 1) := by decide +kernel
theorem dX5_make_18 : decode cX5_make 18 = .ok (.iconst 1, 1) := by decide +kernel
theorem dX5_make_19 : decode cX5_make 19 = .ok (.if_icmp .ne 25, 3) := by decide +kernel
theorem dX5_make_22 : decode cX5_make 22 = .ok (.aload_n 0, 1) := by decide +kernel
theorem dX5_make_23 : decode cX5_make 23 = .ok (.getfield 9, 3) := by decide +kernel
theorem dX5_make_26 : decode cX5_make 26 = .ok (.aload_n 0, 1) := by decide +kernel
theorem dX5_make_27 : decode cX5_make 27 = .ok (.getfield 35, 3) := by decide +kernel
theorem dX5_make_30 : decode cX5_make 30 = .ok (.iload_n 2, 1) := by decide +kernel
theorem dX5_make_31 : decode cX5_make 31 = .ok (.invokestatic 39, 3) := by decide +kernel
theorem dX5_make_34 : decode cX5_make 34 = .ok (.aload_n 0, 1) := by decide +kernel
theorem dX5_make_35 : decode cX5_make 35 = .ok (.dup, 1) := by decide +kernel
theorem dX5_make_36 : decode cX5_make 36 = .ok (.getfield 35, 3) := by decide +kernel
theorem dX5_make_39 : decode cX5_make 39 = .ok (.iconst 1, 1) := by decide +kernel
theorem dX5_make_40 : decode cX5_make 40 = .ok (.iadd, 1) := by decide +kernel
theorem dX5_make_41 : decode cX5_make 41 = .ok (.putfield 35, 3) := by decide +kernel
theorem dX5_make_44 : decode cX5_make 44 = .ok (.iinc 2 1, 3) := by decide +kernel
theorem dX5_make_47 : decode cX5_make 47 = .ok (.goto (-40), 3) := by decide +kernel
theorem dX5_make_50 : decode cX5_make 50 = .ok (.aload_n 0, 1) := by decide +kernel
theorem dX5_make_51 : decode cX5_make 51 = .ok (.aload_n 0, 1) := by decide +kernel
theorem dX5_make_52 : decode cX5_make 52 = .ok (.getfield 35, 3) := by decide +kernel
theorem dX5_make_55 : decode cX5_make 55 = .ok (.bipush 6, 2) := by decide +kernel
theorem dX5_make_57 : decode cX5_make 57 = .ok (.invokestatic 43, 3) := by decide +kernel
theorem dX5_make_60 : decode cX5_make 60 = .ok (.putfield 35, 3) := by decide +kernel
theorem dX5_make_63 : decode cX5_make 63 = .ok (.aload_n 0, 1) := by decide +kernel
theorem dX5_make_64 : decode cX5_make 64 = .ok (.invokevirtual 49, 3) := by decide +kernel
theorem dX5_make_67 : decode cX5_make 67 = .ok (.iconst 5, 1) := by decide +kernel
theorem dX5_make_68 : decode cX5_make 68 = .ok (.istore_n 2, 1) := by decide +kernel
theorem dX5_make_69 : decode cX5_make 69 = .ok (.iload_n 2, 1) := by decide +kernel
theorem dX5_make_70 : decode cX5_make 70 = .ok (.ifCond .lt 41, 3) := by decide +kernel
theorem dX5_make_73 : decode cX5_make 73 = .ok (.iconst 0, 1) := by decide +kernel
theorem dX5_make_74 : decode cX5_make 74 = .ok (.istore_n 3, 1) := by decide +kernel
theorem dX5_make_75 : decode cX5_make 75 = .ok (.iload_n 3, 1) := by decide +kernel
theorem dX5_make_76 : decode cX5_make 76 = .ok (.bipush 64, 2) := by decide +kernel
theorem dX5_make_78 : decode cX5_make 78 = .ok (.if_icmp .ge 27, 3) := by decide +kernel
theorem dX5_make_81 : decode cX5_make 81 = .ok (.aload_n 0, 1) := by decide +kernel
theorem dX5_make_82 : decode cX5_make 82 = .ok (.getfield 20, 3) := by decide +kernel
theorem dX5_make_85 : decode cX5_make 85 = .ok (.iload_n 2, 1) := by decide +kernel
theorem dX5_make_86 : decode cX5_make 86 = .ok (.invokestatic 52, 3) := by decide +kernel
theorem dX5_make_89 : decode cX5_make 89 = .ok (.iload_n 3, 1) := by decide +kernel
theorem dX5_make_90 : decode cX5_make 90 = .ok (.aload_n 0, 1) := by decide +kernel
theorem dX5_make_91 : decode cX5_make 91 = .ok (.iload_n 2, 1) := by decide +kernel
theorem dX5_make_92 : decode cX5_make 92 = .ok (.iload_n 3, 1) := by decide +kernel
theorem dX5_make_93 : decode cX5_make 93 = .ok (.invokevirtual 56, 3) := by decide +kernel
theorem dX5_make_96 : decode cX5_make 96 = .ok (.invokestatic 60, 3) := by decide +kernel
theorem dX5_make_99 : decode cX5_make 99 = .ok (.iinc 3 1, 3) := by decide +kernel
theorem dX5_make_102 : decode cX5_make 102 = .ok (.goto (-27), 3) := by decide +kernel
theorem dX5_make_105 : decode cX5_make 105 = .ok (.iinc 2 (-1), 3) := by decide +kernel
theorem dX5_make_108 : decode cX5_make 108 = .ok (.goto (-39), 3) := by decide +kernel
theorem dX5_make_111 : decode cX5_make 111 = .ok (.return_, 1) := by decide +kernel
theorem dX5_together_0 : decode cX5_together 0 = .ok (.aload_n 0, 1) := by decide +kernel
theorem dX5_together_1 : decode cX5_together 1 = .ok (.getfield 20, 3) := by decide +kernel
theorem dX5_together_4 : decode cX5_together 4 = .ok (.iconst 0, 1) := by decide +kernel
theorem dX5_together_5 : decode cX5_together 5 = .ok (.invokestatic 52, 3) := by decide +kernel
theorem dX5_together_8 : decode cX5_together 8 = .ok (.iconst 0, 1) := by decide +kernel
theorem dX5_together_9 : decode cX5_together 9 = .ok (.invokestatic 64, 3) := by decide +kernel
theorem dX5_together_12 : decode cX5_together 12 = .ok (.lreturn, 1) := by decide +kernel
theorem dX5_plotOf_0 : decode cX5_plotOf 0 = .ok (.iconst 0, 1) := by decide +kernel
theorem dX5_plotOf_1 : decode cX5_plotOf 1 = .ok (.istore_n 2, 1) := by decide +kernel
theorem dX5_plotOf_2 : decode cX5_plotOf 2 = .ok (.iconst (-1), 1) := by decide +kernel
theorem dX5_plotOf_3 : decode cX5_plotOf 3 = .ok (.istore_n 3, 1) := by decide +kernel
theorem dX5_plotOf_4 : decode cX5_plotOf 4 = .ok (.iconst 0, 1) := by decide +kernel
theorem dX5_plotOf_5 : decode cX5_plotOf 5 = .ok (.istore 4, 2) := by decide +kernel
theorem dX5_plotOf_7 : decode cX5_plotOf 7 = .ok (.iload 4, 2) := by decide +kernel
theorem dX5_plotOf_9 : decode cX5_plotOf 9 = .ok (.iload_n 1, 1) := by decide +kernel
theorem dX5_plotOf_10 : decode cX5_plotOf 10 = .ok (.if_icmp .gt 39, 3) := by decide +kernel
theorem dX5_plotOf_13 : decode cX5_plotOf 13 = .ok (.iload 4, 2) := by decide +kernel
theorem dX5_plotOf_15 : decode cX5_plotOf 15 = .ok (.bipush 6, 2) := by decide +kernel
theorem dX5_plotOf_17 : decode cX5_plotOf 17 = .ok (.if_icmp .ge 32, 3) := by decide +kernel
theorem dX5_plotOf_20 : decode cX5_plotOf 20 = .ok (.aload_n 0, 1) := by decide +kernel
theorem dX5_plotOf_21 : decode cX5_plotOf 21 = .ok (.iload 4, 2) := by decide +kernel
theorem dX5_plotOf_23 : decode cX5_plotOf 23 = .ok (.iload_n 2, 1) := by decide +kernel
theorem dX5_plotOf_24 : decode cX5_plotOf 24 = .ok (.invokevirtual 68, 3) := by decide +kernel
theorem dX5_plotOf_27 : decode cX5_plotOf 27 = .ok (.istore_n 3, 1) := by decide +kernel
theorem dX5_plotOf_28 : decode cX5_plotOf 28 = .ok (.iload_n 2, 1) := by decide +kernel
theorem dX5_plotOf_29 : decode cX5_plotOf 29 = .ok (.iload_n 3, 1) := by decide +kernel
theorem dX5_plotOf_30 : decode cX5_plotOf 30 = .ok (.iconst (-1), 1) := by decide +kernel
theorem dX5_plotOf_31 : decode cX5_plotOf 31 = .ok (.if_icmp .ne 7, 3) := by decide +kernel
theorem dX5_plotOf_34 : decode cX5_plotOf 34 = .ok (.iconst 0, 1) := by decide +kernel
theorem dX5_plotOf_35 : decode cX5_plotOf 35 = .ok (.goto 6, 3) := by decide +kernel
theorem dX5_plotOf_38 : decode cX5_plotOf 38 = .ok (.iconst 1, 1) := by decide +kernel
theorem dX5_plotOf_39 : decode cX5_plotOf 39 = .ok (.iload_n 3, 1) := by decide +kernel
theorem dX5_plotOf_40 : decode cX5_plotOf 40 = .ok (.ishl, 1) := by decide +kernel
theorem dX5_plotOf_41 : decode cX5_plotOf 41 = .ok (.ior, 1) := by decide +kernel
theorem dX5_plotOf_42 : decode cX5_plotOf 42 = .ok (.istore_n 2, 1) := by decide +kernel
theorem dX5_plotOf_43 : decode cX5_plotOf 43 = .ok (.iinc 4 1, 3) := by decide +kernel
theorem dX5_plotOf_46 : decode cX5_plotOf 46 = .ok (.goto (-39), 3) := by decide +kernel
theorem dX5_plotOf_49 : decode cX5_plotOf 49 = .ok (.aload_n 0, 1) := by decide +kernel
theorem dX5_plotOf_50 : decode cX5_plotOf 50 = .ok (.getfield 9, 3) := by decide +kernel
theorem dX5_plotOf_53 : decode cX5_plotOf 53 = .ok (.iload_n 3, 1) := by decide +kernel
theorem dX5_plotOf_54 : decode cX5_plotOf 54 = .ok (.invokestatic 71, 3) := by decide +kernel
theorem dX5_plotOf_57 : decode cX5_plotOf 57 = .ok (.ireturn, 1) := by decide +kernel
theorem dX5_fillChances_0 : decode cX5_fillChances 0 = .ok (.iconst 0, 1) := by decide +kernel
theorem dX5_fillChances_1 : decode cX5_fillChances 1 = .ok (.istore_n 1, 1) := by decide +kernel
theorem dX5_fillChances_2 : decode cX5_fillChances 2 = .ok (.iload_n 1, 1) := by decide +kernel
theorem dX5_fillChances_3 : decode cX5_fillChances 3 = .ok (.bipush 6, 2) := by decide +kernel
theorem dX5_fillChances_5 : decode cX5_fillChances 5 = .ok (.if_icmp .ge 96, 3) := by decide +kernel
theorem dX5_fillChances_8 : decode cX5_fillChances 8 = .ok (.iconst 0, 1) := by decide +kernel
theorem dX5_fillChances_9 : decode cX5_fillChances 9 = .ok (.istore_n 2, 1) := by decide +kernel
theorem dX5_fillChances_10 : decode cX5_fillChances 10 = .ok (.iload_n 2, 1) := by decide +kernel
theorem dX5_fillChances_11 : decode cX5_fillChances 11 = .ok (.aload_n 0, 1) := by decide +kernel
theorem dX5_fillChances_12 : decode cX5_fillChances 12 = .ok (.getfield 35, 3) := by decide +kernel
theorem dX5_fillChances_15 : decode cX5_fillChances 15 = .ok (.if_icmp .ge 80, 3) := by decide +kernel
theorem dX5_fillChances_18 : decode cX5_fillChances 18 = .ok (.aload_n 0, 1) := by decide +kernel
theorem dX5_fillChances_19 : decode cX5_fillChances 19 = .ok (.getfield 27, 3) := by decide +kernel
theorem dX5_fillChances_22 : decode cX5_fillChances 22 = .ok (.aload_n 0, 1) := by decide +kernel
theorem dX5_fillChances_23 : decode cX5_fillChances 23 = .ok (.getfield 23, 3) := by decide +kernel
theorem dX5_fillChances_26 : decode cX5_fillChances 26 = .ok (.iload_n 1, 1) := by decide +kernel
theorem dX5_fillChances_27 : decode cX5_fillChances 27 = .ok (.aload_n 0, 1) := by decide +kernel
theorem dX5_fillChances_28 : decode cX5_fillChances 28 = .ok (.getfield 9, 3) := by decide +kernel
theorem dX5_fillChances_31 : decode cX5_fillChances 31 = .ok (.iload_n 2, 1) := by decide +kernel
theorem dX5_fillChances_32 : decode cX5_fillChances 32 = .ok (.invokestatic 71, 3) := by decide +kernel
theorem dX5_fillChances_35 : decode cX5_fillChances 35 = .ok (.invokevirtual 75, 3) := by decide +kernel
theorem dX5_fillChances_38 : decode cX5_fillChances 38 = .ok (.istore_n 3, 1) := by decide +kernel
theorem dX5_fillChances_39 : decode cX5_fillChances 39 = .ok (.iload_n 3, 1) := by decide +kernel
theorem dX5_fillChances_40 : decode cX5_fillChances 40 = .ok (.ifCond .eq 20, 3) := by decide +kernel
theorem dX5_fillChances_43 : decode cX5_fillChances 43 = .ok (.aload_n 0, 1) := by decide +kernel
theorem dX5_fillChances_44 : decode cX5_fillChances 44 = .ok (.getfield 31, 3) := by decide +kernel
theorem dX5_fillChances_47 : decode cX5_fillChances 47 = .ok (.iload_n 1, 1) := by decide +kernel
theorem dX5_fillChances_48 : decode cX5_fillChances 48 = .ok (.aload_n 0, 1) := by decide +kernel
theorem dX5_fillChances_49 : decode cX5_fillChances 49 = .ok (.getfield 9, 3) := by decide +kernel
theorem dX5_fillChances_52 : decode cX5_fillChances 52 = .ok (.iload_n 2, 1) := by decide +kernel
theorem dX5_fillChances_53 : decode cX5_fillChances 53 = .ok (.invokestatic 71, 3) := by decide +kernel
theorem dX5_fillChances_56 : decode cX5_fillChances 56 = .ok (.invokevirtual 81, 3) := by decide +kernel
theorem dX5_fillChances_59 : decode cX5_fillChances 59 = .ok (.pop, 1) := by decide +kernel
theorem dX5_fillChances_60 : decode cX5_fillChances 60 = .ok (.aload_n 0, 1) := by decide +kernel
theorem dX5_fillChances_61 : decode cX5_fillChances 61 = .ok (.getfield 17, 3) := by decide +kernel
theorem dX5_fillChances_64 : decode cX5_fillChances 64 = .ok (.iload_n 1, 1) := by decide +kernel
theorem dX5_fillChances_65 : decode cX5_fillChances 65 = .ok (.invokestatic 52, 3) := by decide +kernel
theorem dX5_fillChances_68 : decode cX5_fillChances 68 = .ok (.iload_n 2, 1) := by decide +kernel
theorem dX5_fillChances_69 : decode cX5_fillChances 69 = .ok (.iload_n 3, 1) := by decide +kernel
theorem dX5_fillChances_70 : decode cX5_fillChances 70 = .ok (.ifCond .eq 13, 3) := by decide +kernel
theorem dX5_fillChances_73 : decode cX5_fillChances 73 = .ok (.aload_n 0, 1) := by decide +kernel
theorem dX5_fillChances_74 : decode cX5_fillChances 74 = .ok (.getfield 31, 3) := by decide +kernel
theorem dX5_fillChances_77 : decode cX5_fillChances 77 = .ok (.getfield 86, 3) := by decide +kernel
theorem dX5_fillChances_80 : decode cX5_fillChances 80 = .ok (.goto 6, 3) := by decide +kernel
theorem dX5_fillChances_83 : decode cX5_fillChances 83 = .ok (.ldc2_w 90, 3) := by decide +kernel
theorem dX5_fillChances_86 : decode cX5_fillChances 86 = .ok (.invokestatic 60, 3) := by decide +kernel
theorem dX5_fillChances_89 : decode cX5_fillChances 89 = .ok (.iinc 2 1, 3) := by decide +kernel
theorem dX5_fillChances_92 : decode cX5_fillChances 92 = .ok (.goto (-82), 3) := by decide +kernel
theorem dX5_fillChances_95 : decode cX5_fillChances 95 = .ok (.iinc 1 1, 3) := by decide +kernel
theorem dX5_fillChances_98 : decode cX5_fillChances 98 = .ok (.goto (-96), 3) := by decide +kernel
theorem dX5_fillChances_101 : decode cX5_fillChances 101 = .ok (.return_, 1) := by decide +kernel
theorem dX5_mostFrom_0 : decode cX5_mostFrom 0 = .ok (.aload_n 0, 1) := by decide +kernel
theorem dX5_mostFrom_1 : decode cX5_mostFrom 1 = .ok (.getfield 20, 3) := by decide +kernel
theorem dX5_mostFrom_4 : decode cX5_mostFrom 4 = .ok (.iload_n 1, 1) := by decide +kernel
theorem dX5_mostFrom_5 : decode cX5_mostFrom 5 = .ok (.iconst 1, 1) := by decide +kernel
theorem dX5_mostFrom_6 : decode cX5_mostFrom 6 = .ok (.iadd, 1) := by decide +kernel
theorem dX5_mostFrom_7 : decode cX5_mostFrom 7 = .ok (.invokestatic 52, 3) := by decide +kernel
theorem dX5_mostFrom_10 : decode cX5_mostFrom 10 = .ok (.iload_n 2, 1) := by decide +kernel
theorem dX5_mostFrom_11 : decode cX5_mostFrom 11 = .ok (.invokestatic 64, 3) := by decide +kernel
theorem dX5_mostFrom_14 : decode cX5_mostFrom 14 = .ok (.lstore_n 3, 1) := by decide +kernel
theorem dX5_mostFrom_15 : decode cX5_mostFrom 15 = .ok (.iconst 0, 1) := by decide +kernel
theorem dX5_mostFrom_16 : decode cX5_mostFrom 16 = .ok (.istore 5, 2) := by decide +kernel
theorem dX5_mostFrom_18 : decode cX5_mostFrom 18 = .ok (.iload 5, 2) := by decide +kernel
theorem dX5_mostFrom_20 : decode cX5_mostFrom 20 = .ok (.aload_n 0, 1) := by decide +kernel
theorem dX5_mostFrom_21 : decode cX5_mostFrom 21 = .ok (.getfield 35, 3) := by decide +kernel
theorem dX5_mostFrom_24 : decode cX5_mostFrom 24 = .ok (.if_icmp .ge 22, 3) := by decide +kernel
theorem dX5_mostFrom_27 : decode cX5_mostFrom 27 = .ok (.lload_n 3, 1) := by decide +kernel
theorem dX5_mostFrom_28 : decode cX5_mostFrom 28 = .ok (.aload_n 0, 1) := by decide +kernel
theorem dX5_mostFrom_29 : decode cX5_mostFrom 29 = .ok (.iload_n 1, 1) := by decide +kernel
theorem dX5_mostFrom_30 : decode cX5_mostFrom 30 = .ok (.iload 5, 2) := by decide +kernel
theorem dX5_mostFrom_32 : decode cX5_mostFrom 32 = .ok (.iload_n 2, 1) := by decide +kernel
theorem dX5_mostFrom_33 : decode cX5_mostFrom 33 = .ok (.invokevirtual 92, 3) := by decide +kernel
theorem dX5_mostFrom_36 : decode cX5_mostFrom 36 = .ok (.invokestatic 96, 3) := by decide +kernel
theorem dX5_mostFrom_39 : decode cX5_mostFrom 39 = .ok (.lstore_n 3, 1) := by decide +kernel
theorem dX5_mostFrom_40 : decode cX5_mostFrom 40 = .ok (.iinc 5 1, 3) := by decide +kernel
theorem dX5_mostFrom_43 : decode cX5_mostFrom 43 = .ok (.goto (-25), 3) := by decide +kernel
theorem dX5_mostFrom_46 : decode cX5_mostFrom 46 = .ok (.lload_n 3, 1) := by decide +kernel
theorem dX5_mostFrom_47 : decode cX5_mostFrom 47 = .ok (.lreturn, 1) := by decide +kernel
theorem dX5_firstBest_0 : decode cX5_firstBest 0 = .ok (.aload_n 0, 1) := by decide +kernel
theorem dX5_firstBest_1 : decode cX5_firstBest 1 = .ok (.getfield 20, 3) := by decide +kernel
theorem dX5_firstBest_4 : decode cX5_firstBest 4 = .ok (.iload_n 1, 1) := by decide +kernel
theorem dX5_firstBest_5 : decode cX5_firstBest 5 = .ok (.invokestatic 52, 3) := by decide +kernel
theorem dX5_firstBest_8 : decode cX5_firstBest 8 = .ok (.iload_n 2, 1) := by decide +kernel
theorem dX5_firstBest_9 : decode cX5_firstBest 9 = .ok (.invokestatic 64, 3) := by decide +kernel
theorem dX5_firstBest_12 : decode cX5_firstBest 12 = .ok (.lstore_n 3, 1) := by decide +kernel
theorem dX5_firstBest_13 : decode cX5_firstBest 13 = .ok (.iconst 0, 1) := by decide +kernel
theorem dX5_firstBest_14 : decode cX5_firstBest 14 = .ok (.istore 5, 2) := by decide +kernel
theorem dX5_firstBest_16 : decode cX5_firstBest 16 = .ok (.iload 5, 2) := by decide +kernel
theorem dX5_firstBest_18 : decode cX5_firstBest 18 = .ok (.aload_n 0, 1) := by decide +kernel
theorem dX5_firstBest_19 : decode cX5_firstBest 19 = .ok (.getfield 35, 3) := by decide +kernel
theorem dX5_firstBest_22 : decode cX5_firstBest 22 = .ok (.if_icmp .ge 25, 3) := by decide +kernel
theorem dX5_firstBest_25 : decode cX5_firstBest 25 = .ok (.aload_n 0, 1) := by decide +kernel
theorem dX5_firstBest_26 : decode cX5_firstBest 26 = .ok (.iload_n 1, 1) := by decide +kernel
theorem dX5_firstBest_27 : decode cX5_firstBest 27 = .ok (.iload 5, 2) := by decide +kernel
theorem dX5_firstBest_29 : decode cX5_firstBest 29 = .ok (.iload_n 2, 1) := by decide +kernel
theorem dX5_firstBest_30 : decode cX5_firstBest 30 = .ok (.invokevirtual 92, 3) := by decide +kernel
theorem dX5_firstBest_33 : decode cX5_firstBest 33 = .ok (.lload_n 3, 1) := by decide +kernel
theorem dX5_firstBest_34 : decode cX5_firstBest 34 = .ok (.lcmp, 1) := by decide +kernel
theorem dX5_firstBest_35 : decode cX5_firstBest 35 = .ok (.ifCond .ne 6, 3) := by decide +kernel
theorem dX5_firstBest_38 : decode cX5_firstBest 38 = .ok (.iload 5, 2) := by decide +kernel
theorem dX5_firstBest_40 : decode cX5_firstBest 40 = .ok (.ireturn, 1) := by decide +kernel
theorem dX5_firstBest_41 : decode cX5_firstBest 41 = .ok (.iinc 5 1, 3) := by decide +kernel
theorem dX5_firstBest_44 : decode cX5_firstBest 44 = .ok (.goto (-28), 3) := by decide +kernel
theorem dX5_firstBest_47 : decode cX5_firstBest 47 = .ok (.iconst (-1), 1) := by decide +kernel
theorem dX5_firstBest_48 : decode cX5_firstBest 48 = .ok (.ireturn, 1) := by decide +kernel
theorem dX5_with_0 : decode cX5_with 0 = .ok (.aload_n 0, 1) := by decide +kernel
theorem dX5_with_1 : decode cX5_with 1 = .ok (.getfield 17, 3) := by decide +kernel
theorem dX5_with_4 : decode cX5_with 4 = .ok (.iload_n 1, 1) := by decide +kernel
theorem dX5_with_5 : decode cX5_with 5 = .ok (.invokestatic 52, 3) := by decide +kernel
theorem dX5_with_8 : decode cX5_with 8 = .ok (.iload_n 2, 1) := by decide +kernel
theorem dX5_with_9 : decode cX5_with 9 = .ok (.invokestatic 64, 3) := by decide +kernel
theorem dX5_with_12 : decode cX5_with 12 = .ok (.lstore 4, 2) := by decide +kernel
theorem dX5_with_14 : decode cX5_with 14 = .ok (.lload 4, 2) := by decide +kernel
theorem dX5_with_16 : decode cX5_with 16 = .ok (.ldc2_w 90, 3) := by decide +kernel
theorem dX5_with_19 : decode cX5_with 19 = .ok (.lcmp, 1) := by decide +kernel
theorem dX5_with_20 : decode cX5_with 20 = .ok (.ifCond .eq 12, 3) := by decide +kernel
theorem dX5_with_23 : decode cX5_with 23 = .ok (.iload_n 3, 1) := by decide +kernel
theorem dX5_with_24 : decode cX5_with 24 = .ok (.iload_n 2, 1) := by decide +kernel
theorem dX5_with_25 : decode cX5_with 25 = .ok (.ishr, 1) := by decide +kernel
theorem dX5_with_26 : decode cX5_with 26 = .ok (.iconst 1, 1) := by decide +kernel
theorem dX5_with_27 : decode cX5_with 27 = .ok (.iand, 1) := by decide +kernel
theorem dX5_with_28 : decode cX5_with 28 = .ok (.iconst 1, 1) := by decide +kernel
theorem dX5_with_29 : decode cX5_with 29 = .ok (.if_icmp .ne 7, 3) := by decide +kernel
theorem dX5_with_32 : decode cX5_with 32 = .ok (.ldc2_w 90, 3) := by decide +kernel
theorem dX5_with_35 : decode cX5_with 35 = .ok (.lreturn, 1) := by decide +kernel
theorem dX5_with_36 : decode cX5_with 36 = .ok (.lload 4, 2) := by decide +kernel
theorem dX5_with_38 : decode cX5_with 38 = .ok (.aload_n 0, 1) := by decide +kernel
theorem dX5_with_39 : decode cX5_with 39 = .ok (.getfield 20, 3) := by decide +kernel
theorem dX5_with_42 : decode cX5_with 42 = .ok (.iload_n 1, 1) := by decide +kernel
theorem dX5_with_43 : decode cX5_with 43 = .ok (.iconst 1, 1) := by decide +kernel
theorem dX5_with_44 : decode cX5_with 44 = .ok (.iadd, 1) := by decide +kernel
theorem dX5_with_45 : decode cX5_with 45 = .ok (.invokestatic 52, 3) := by decide +kernel
theorem dX5_with_48 : decode cX5_with 48 = .ok (.iload_n 3, 1) := by decide +kernel
theorem dX5_with_49 : decode cX5_with 49 = .ok (.iconst 1, 1) := by decide +kernel
theorem dX5_with_50 : decode cX5_with 50 = .ok (.iload_n 2, 1) := by decide +kernel
theorem dX5_with_51 : decode cX5_with 51 = .ok (.ishl, 1) := by decide +kernel
theorem dX5_with_52 : decode cX5_with 52 = .ok (.ior, 1) := by decide +kernel
theorem dX5_with_53 : decode cX5_with 53 = .ok (.invokestatic 64, 3) := by decide +kernel
theorem dX5_with_56 : decode cX5_with 56 = .ok (.ladd, 1) := by decide +kernel
theorem dX5_with_57 : decode cX5_with 57 = .ok (.lreturn, 1) := by decide +kernel
theorem dX5_rowOf_0 : decode cX5_rowOf 0 = .ok (.iload_n 1, 1) := by decide +kernel
theorem dX5_rowOf_1 : decode cX5_rowOf 1 = .ok (.ifCond .lt 15, 3) := by decide +kernel
theorem dX5_rowOf_4 : decode cX5_rowOf 4 = .ok (.iload_n 1, 1) := by decide +kernel
theorem dX5_rowOf_5 : decode cX5_rowOf 5 = .ok (.aload_n 0, 1) := by decide +kernel
theorem dX5_rowOf_6 : decode cX5_rowOf 6 = .ok (.arraylength, 1) := by decide +kernel
theorem dX5_rowOf_7 : decode cX5_rowOf 7 = .ok (.if_icmp .ge 9, 3) := by decide +kernel
theorem dX5_rowOf_10 : decode cX5_rowOf 10 = .ok (.aload_n 0, 1) := by decide +kernel
theorem dX5_rowOf_11 : decode cX5_rowOf 11 = .ok (.iload_n 1, 1) := by decide +kernel
theorem dX5_rowOf_12 : decode cX5_rowOf 12 = .ok (.aaload, 1) := by decide +kernel
theorem dX5_rowOf_13 : decode cX5_rowOf 13 = .ok (.goto 4, 3) := by decide +kernel
theorem dX5_rowOf_16 : decode cX5_rowOf 16 = .ok (.aconst_null, 1) := by decide +kernel
theorem dX5_rowOf_17 : decode cX5_rowOf 17 = .ok (.areturn, 1) := by decide +kernel
theorem dX6_init_0 : decode cX6_init 0 = .ok (.aload_n 0, 1) := by decide +kernel
theorem dX6_init_1 : decode cX6_init 1 = .ok (.invokespecial 3, 3) := by decide +kernel
theorem dX6_init_4 : decode cX6_init 4 = .ok (.aload_n 0, 1) := by decide +kernel
theorem dX6_init_5 : decode cX6_init 5 = .ok (.sipush 400, 3) := by decide +kernel
theorem dX6_init_8 : decode cX6_init 8 = .ok (.newarray .int, 2) := by decide +kernel
theorem dX6_init_10 : decode cX6_init 10 = .ok (.putfield 9, 3) := by decide +kernel
theorem dX6_init_13 : decode cX6_init 13 = .ok (.aload_n 0, 1) := by decide +kernel
theorem dX6_init_14 : decode cX6_init 14 = .ok (.new 15, 3) := by decide +kernel
theorem dX6_init_17 : decode cX6_init 17 = .ok (.dup, 1) := by decide +kernel
theorem dX6_init_18 : decode cX6_init 18 = .ok (.invokespecial 17, 3) := by decide +kernel
theorem dX6_init_21 : decode cX6_init 21 = .ok (.putfield 18, 3) := by decide +kernel
theorem dX6_init_24 : decode cX6_init 24 = .ok (.aload_n 0, 1) := by decide +kernel
theorem dX6_init_25 : decode cX6_init 25 = .ok (.iconst (-1), 1) := by decide +kernel
theorem dX6_init_26 : decode cX6_init 26 = .ok (.putfield 22, 3) := by decide +kernel
theorem dX6_init_29 : decode cX6_init 29 = .ok (.return_, 1) := by decide +kernel
theorem dX6_append_0 : decode cX6_append 0 = .ok (.bipush 24, 2) := by decide +kernel
theorem dX6_append_2 : decode cX6_append 2 = .ok (.istore_n 2, 1) := by decide +kernel
theorem dX6_append_3 : decode cX6_append 3 = .ok (.iload_n 2, 1) := by decide +kernel
theorem dX6_append_4 : decode cX6_append 4 = .ok (.ifCond .lt 43, 3) := by decide +kernel
theorem dX6_append_7 : decode cX6_append 7 = .ok (.aload_n 0, 1) := by decide +kernel
theorem dX6_append_8 : decode cX6_append 8 = .ok (.getfield 9, 3) := by decide +kernel
theorem dX6_append_11 : decode cX6_append 11 = .ok (.aload_n 0, 1) := by decide +kernel
theorem dX6_append_12 : decode cX6_append 12 = .ok (.getfield 26, 3) := by decide +kernel
theorem dX6_append_15 : decode cX6_append 15 = .ok (.iload_n 1, 1) := by decide +kernel
theorem dX6_append_16 : decode cX6_append 16 = .ok (.iload_n 2, 1) := by decide +kernel
theorem dX6_append_17 : decode cX6_append 17 = .ok (.iushr, 1) := by decide +kernel
theorem dX6_append_18 : decode cX6_append 18 = .ok (.sipush 255, 3) := by decide +kernel
theorem dX6_append_21 : decode cX6_append 21 = .ok (.iand, 1) := by decide +kernel
theorem dX6_append_22 : decode cX6_append 22 = .ok (.invokestatic 29, 3) := by decide +kernel
theorem dX6_append_25 : decode cX6_append 25 = .ok (.aload_n 0, 1) := by decide +kernel
theorem dX6_append_26 : decode cX6_append 26 = .ok (.sipush 400, 3) := by decide +kernel
theorem dX6_append_29 : decode cX6_append 29 = .ok (.aload_n 0, 1) := by decide +kernel
theorem dX6_append_30 : decode cX6_append 30 = .ok (.getfield 26, 3) := by decide +kernel
theorem dX6_append_33 : decode cX6_append 33 = .ok (.iconst 1, 1) := by decide +kernel
theorem dX6_append_34 : decode cX6_append 34 = .ok (.iadd, 1) := by decide +kernel
theorem dX6_append_35 : decode cX6_append 35 = .ok (.invokestatic 33, 3) := by decide +kernel
theorem dX6_append_38 : decode cX6_append 38 = .ok (.putfield 26, 3) := by decide +kernel
theorem dX6_append_41 : decode cX6_append 41 = .ok (.iinc 2 (-8), 3) := by decide +kernel
theorem dX6_append_44 : decode cX6_append 44 = .ok (.goto (-41), 3) := by decide +kernel
theorem dX6_append_47 : decode cX6_append 47 = .ok (.return_, 1) := by decide +kernel
theorem dX6_read_0 : decode cX6_read 0 = .ok (.aload_n 0, 1) := by decide +kernel
theorem dX6_read_1 : decode cX6_read 1 = .ok (.iload_n 1, 1) := by decide +kernel
theorem dX6_read_2 : decode cX6_read 2 = .ok (.putfield 39, 3) := by decide +kernel
theorem dX6_read_5 : decode cX6_read 5 = .ok (.aload_n 0, 1) := by decide +kernel
theorem dX6_read_6 : decode cX6_read 6 = .ok (.getfield 18, 3) := by decide +kernel
theorem dX6_read_9 : decode cX6_read 9 = .ok (.iconst 0, 1) := by decide +kernel
theorem dX6_read_10 : decode cX6_read 10 = .ok (.putfield 43, 3) := by decide +kernel
theorem dX6_read_13 : decode cX6_read 13 = .ok (.aload_n 0, 1) := by decide +kernel
theorem dX6_read_14 : decode cX6_read 14 = .ok (.getfield 18, 3) := by decide +kernel
theorem dX6_read_17 : decode cX6_read 17 = .ok (.iconst 0, 1) := by decide +kernel
theorem dX6_read_18 : decode cX6_read 18 = .ok (.putfield 46, 3) := by decide +kernel
theorem dX6_read_21 : decode cX6_read 21 = .ok (.aload_n 0, 1) := by decide +kernel
theorem dX6_read_22 : decode cX6_read 22 = .ok (.iconst 0, 1) := by decide +kernel
theorem dX6_read_23 : decode cX6_read 23 = .ok (.putfield 49, 3) := by decide +kernel
theorem dX6_read_26 : decode cX6_read 26 = .ok (.aload_n 0, 1) := by decide +kernel
theorem dX6_read_27 : decode cX6_read 27 = .ok (.iconst 0, 1) := by decide +kernel
theorem dX6_read_28 : decode cX6_read 28 = .ok (.putfield 52, 3) := by decide +kernel
theorem dX6_read_31 : decode cX6_read 31 = .ok (.aload_n 0, 1) := by decide +kernel
theorem dX6_read_32 : decode cX6_read 32 = .ok (.invokevirtual 55, 3) := by decide +kernel
theorem dX6_read_35 : decode cX6_read 35 = .ok (.aload_n 0, 1) := by decide +kernel
theorem dX6_read_36 : decode cX6_read 36 = .ok (.invokevirtual 58, 3) := by decide +kernel
theorem dX6_read_39 : decode cX6_read 39 = .ok (.istore_n 2, 1) := by decide +kernel
theorem dX6_read_40 : decode cX6_read 40 = .ok (.iconst 0, 1) := by decide +kernel
theorem dX6_read_41 : decode cX6_read 41 = .ok (.istore_n 3, 1) := by decide +kernel
theorem dX6_read_42 : decode cX6_read 42 = .ok (.iload_n 3, 1) := by decide +kernel
theorem dX6_read_43 : decode cX6_read 43 = .ok (.bipush 12, 2) := by decide +kernel
theorem dX6_read_45 : decode cX6_read 45 = .ok (.if_icmp .ge 58, 3) := by decide +kernel
theorem dX6_read_48 : decode cX6_read 48 = .ok (.iload_n 2, 1) := by decide +kernel
theorem dX6_read_49 : decode cX6_read 49 = .ok (.ifCond .eq 54, 3) := by decide +kernel
theorem dX6_read_52 : decode cX6_read 52 = .ok (.aload_n 0, 1) := by decide +kernel
theorem dX6_read_53 : decode cX6_read 53 = .ok (.getfield 62, 3) := by decide +kernel
theorem dX6_read_56 : decode cX6_read 56 = .ok (.aload_n 0, 1) := by decide +kernel
theorem dX6_read_57 : decode cX6_read 57 = .ok (.getfield 26, 3) := by decide +kernel
theorem dX6_read_60 : decode cX6_read 60 = .ok (.if_icmp .ge 43, 3) := by decide +kernel
theorem dX6_read_63 : decode cX6_read 63 = .ok (.aload_n 0, 1) := by decide +kernel
theorem dX6_read_64 : decode cX6_read 64 = .ok (.ldc 65, 2) := by decide +kernel
theorem dX6_read_66 : decode cX6_read 66 = .ok (.invokevirtual 67, 3) := by decide +kernel
theorem dX6_read_69 : decode cX6_read 69 = .ok (.ifCond .eq 26, 3) := by decide +kernel
theorem dX6_read_72 : decode cX6_read 72 = .ok (.aload_n 0, 1) := by decide +kernel
theorem dX6_read_73 : decode cX6_read 73 = .ok (.getfield 18, 3) := by decide +kernel
theorem dX6_read_76 : decode cX6_read 76 = .ok (.getfield 46, 3) := by decide +kernel
theorem dX6_read_79 : decode cX6_read 79 = .ok (.bipush 12, 2) := by decide +kernel
theorem dX6_read_81 : decode cX6_read 81 = .ok (.if_icmp .ge 14, 3) := by decide +kernel
theorem dX6_read_84 : decode cX6_read 84 = .ok (.aload_n 0, 1) := by decide +kernel
theorem dX6_read_85 : decode cX6_read 85 = .ok (.invokevirtual 58, 3) := by decide +kernel
theorem dX6_read_88 : decode cX6_read 88 = .ok (.ifCond .eq 7, 3) := by decide +kernel
theorem dX6_read_91 : decode cX6_read 91 = .ok (.iconst 1, 1) := by decide +kernel
theorem dX6_read_92 : decode cX6_read 92 = .ok (.goto 4, 3) := by decide +kernel
theorem dX6_read_95 : decode cX6_read 95 = .ok (.iconst 0, 1) := by decide +kernel
theorem dX6_read_96 : decode cX6_read 96 = .ok (.istore_n 2, 1) := by decide +kernel
theorem dX6_read_97 : decode cX6_read 97 = .ok (.iinc 3 1, 3) := by decide +kernel
theorem dX6_read_100 : decode cX6_read 100 = .ok (.goto (-58), 3) := by decide +kernel
theorem dX6_read_103 : decode cX6_read 103 = .ok (.aload_n 0, 1) := by decide +kernel
theorem dX6_read_104 : decode cX6_read 104 = .ok (.iload_n 2, 1) := by decide +kernel
theorem dX6_read_105 : decode cX6_read 105 = .ok (.ifCond .eq 7, 3) := by decide +kernel
theorem dX6_read_108 : decode cX6_read 108 = .ok (.iconst (-1), 1) := by decide +kernel
theorem dX6_read_109 : decode cX6_read 109 = .ok (.goto 7, 3) := by decide +kernel
theorem dX6_read_112 : decode cX6_read 112 = .ok (.aload_n 0, 1) := by decide +kernel
theorem dX6_read_113 : decode cX6_read 113 = .ok (.getfield 62, 3) := by decide +kernel
theorem dX6_read_116 : decode cX6_read 116 = .ok (.putfield 22, 3) := by decide +kernel
theorem dX6_read_119 : decode cX6_read 119 = .ok (.aload_n 0, 1) := by decide +kernel
theorem dX6_read_120 : decode cX6_read 120 = .ok (.iconst 0, 1) := by decide +kernel
theorem dX6_read_121 : decode cX6_read 121 = .ok (.putfield 26, 3) := by decide +kernel
theorem dX6_read_124 : decode cX6_read 124 = .ok (.iload_n 2, 1) := by decide +kernel
theorem dX6_read_125 : decode cX6_read 125 = .ok (.ireturn, 1) := by decide +kernel
theorem dX6_clause_0 : decode cX6_clause 0 = .ok (.aload_n 0, 1) := by decide +kernel
theorem dX6_clause_1 : decode cX6_clause 1 = .ok (.aload_n 0, 1) := by decide +kernel
theorem dX6_clause_2 : decode cX6_clause 2 = .ok (.getfield 39, 3) := by decide +kernel
theorem dX6_clause_5 : decode cX6_clause 5 = .ok (.ifCond .eq 8, 3) := by decide +kernel
theorem dX6_clause_8 : decode cX6_clause 8 = .ok (.ldc 71, 2) := by decide +kernel
theorem dX6_clause_10 : decode cX6_clause 10 = .ok (.goto 5, 3) := by decide +kernel
theorem dX6_clause_13 : decode cX6_clause 13 = .ok (.ldc 73, 2) := by decide +kernel
theorem dX6_clause_15 : decode cX6_clause 15 = .ok (.invokevirtual 75, 3) := by decide +kernel
theorem dX6_clause_18 : decode cX6_clause 18 = .ok (.istore_n 1, 1) := by decide +kernel
theorem dX6_clause_19 : decode cX6_clause 19 = .ok (.iload_n 1, 1) := by decide +kernel
theorem dX6_clause_20 : decode cX6_clause 20 = .ok (.iconst (-1), 1) := by decide +kernel
theorem dX6_clause_21 : decode cX6_clause 21 = .ok (.if_icmp .ne 5, 3) := by decide +kernel
theorem dX6_clause_24 : decode cX6_clause 24 = .ok (.iconst 0, 1) := by decide +kernel
theorem dX6_clause_25 : decode cX6_clause 25 = .ok (.ireturn, 1) := by decide +kernel
theorem dX6_clause_26 : decode cX6_clause 26 = .ok (.aload_n 0, 1) := by decide +kernel
theorem dX6_clause_27 : decode cX6_clause 27 = .ok (.invokevirtual 55, 3) := by decide +kernel
theorem dX6_clause_30 : decode cX6_clause 30 = .ok (.aload_n 0, 1) := by decide +kernel
theorem dX6_clause_31 : decode cX6_clause 31 = .ok (.getfield 18, 3) := by decide +kernel
theorem dX6_clause_34 : decode cX6_clause 34 = .ok (.iload_n 1, 1) := by decide +kernel
theorem dX6_clause_35 : decode cX6_clause 35 = .ok (.invokevirtual 79, 3) := by decide +kernel
theorem dX6_clause_38 : decode cX6_clause 38 = .ok (.iload_n 1, 1) := by decide +kernel
theorem dX6_clause_39 : decode cX6_clause 39 = .ok (.aload_n 0, 1) := by decide +kernel
theorem dX6_clause_40 : decode cX6_clause 40 = .ok (.getfield 39, 3) := by decide +kernel
theorem dX6_clause_43 : decode cX6_clause 43 = .ok (.ifCond .eq 7, 3) := by decide +kernel
theorem dX6_clause_46 : decode cX6_clause 46 = .ok (.iconst 3, 1) := by decide +kernel
theorem dX6_clause_47 : decode cX6_clause 47 = .ok (.goto 4, 3) := by decide +kernel
theorem dX6_clause_50 : decode cX6_clause 50 = .ok (.iconst 3, 1) := by decide +kernel
theorem dX6_clause_51 : decode cX6_clause 51 = .ok (.if_icmp .eq 17, 3) := by decide +kernel
theorem dX6_clause_54 : decode cX6_clause 54 = .ok (.aload_n 0, 1) := by decide +kernel
theorem dX6_clause_55 : decode cX6_clause 55 = .ok (.aload_n 0, 1) := by decide +kernel
theorem dX6_clause_56 : decode cX6_clause 56 = .ok (.getfield 18, 3) := by decide +kernel
theorem dX6_clause_59 : decode cX6_clause 59 = .ok (.getfield 83, 3) := by decide +kernel
theorem dX6_clause_62 : decode cX6_clause 62 = .ok (.invokevirtual 86, 3) := by decide +kernel
theorem dX6_clause_65 : decode cX6_clause 65 = .ok (.ifCond .eq 7, 3) := by decide +kernel
theorem dX6_clause_68 : decode cX6_clause 68 = .ok (.iconst 1, 1) := by decide +kernel
theorem dX6_clause_69 : decode cX6_clause 69 = .ok (.goto 4, 3) := by decide +kernel
theorem dX6_clause_72 : decode cX6_clause 72 = .ok (.iconst 0, 1) := by decide +kernel
theorem dX6_clause_73 : decode cX6_clause 73 = .ok (.istore_n 2, 1) := by decide +kernel
theorem dX6_clause_74 : decode cX6_clause 74 = .ok (.iload_n 2, 1) := by decide +kernel
theorem dX6_clause_75 : decode cX6_clause 75 = .ok (.ifCond .eq 50, 3) := by decide +kernel
theorem dX6_clause_78 : decode cX6_clause 78 = .ok (.aload_n 0, 1) := by decide +kernel
theorem dX6_clause_79 : decode cX6_clause 79 = .ok (.getfield 39, 3) := by decide +kernel
theorem dX6_clause_82 : decode cX6_clause 82 = .ok (.ifCond .eq 43, 3) := by decide +kernel
theorem dX6_clause_85 : decode cX6_clause 85 = .ok (.iload_n 1, 1) := by decide +kernel
theorem dX6_clause_86 : decode cX6_clause 86 = .ok (.ifCond .ne 26, 3) := by decide +kernel
theorem dX6_clause_89 : decode cX6_clause 89 = .ok (.aload_n 0, 1) := by decide +kernel
theorem dX6_clause_90 : decode cX6_clause 90 = .ok (.ldc 90, 2) := by decide +kernel
theorem dX6_clause_92 : decode cX6_clause 92 = .ok (.invokevirtual 67, 3) := by decide +kernel
theorem dX6_clause_95 : decode cX6_clause 95 = .ok (.ifCond .eq 28, 3) := by decide +kernel
theorem dX6_clause_98 : decode cX6_clause 98 = .ok (.aload_n 0, 1) := by decide +kernel
theorem dX6_clause_99 : decode cX6_clause 99 = .ok (.aload_n 0, 1) := by decide +kernel
theorem dX6_clause_100 : decode cX6_clause 100 = .ok (.getfield 18, 3) := by decide +kernel
theorem dX6_clause_103 : decode cX6_clause 103 = .ok (.getfield 92, 3) := by decide +kernel
theorem dX6_clause_106 : decode cX6_clause 106 = .ok (.invokevirtual 86, 3) := by decide +kernel
theorem dX6_clause_109 : decode cX6_clause 109 = .ok (.ifCond .eq 14, 3) := by decide +kernel
theorem dX6_clause_112 : decode cX6_clause 112 = .ok (.aload_n 0, 1) := by decide +kernel
theorem dX6_clause_113 : decode cX6_clause 113 = .ok (.invokevirtual 95, 3) := by decide +kernel
theorem dX6_clause_116 : decode cX6_clause 116 = .ok (.ifCond .eq 7, 3) := by decide +kernel
theorem dX6_clause_119 : decode cX6_clause 119 = .ok (.iconst 1, 1) := by decide +kernel
theorem dX6_clause_120 : decode cX6_clause 120 = .ok (.goto 4, 3) := by decide +kernel
theorem dX6_clause_123 : decode cX6_clause 123 = .ok (.iconst 0, 1) := by decide +kernel
theorem dX6_clause_124 : decode cX6_clause 124 = .ok (.istore_n 2, 1) := by decide +kernel
theorem dX6_clause_125 : decode cX6_clause 125 = .ok (.iload_n 2, 1) := by decide +kernel
theorem dX6_clause_126 : decode cX6_clause 126 = .ok (.ifCond .eq 41, 3) := by decide +kernel
theorem dX6_clause_129 : decode cX6_clause 129 = .ok (.aload_n 0, 1) := by decide +kernel
theorem dX6_clause_130 : decode cX6_clause 130 = .ok (.ldc 98, 2) := by decide +kernel
theorem dX6_clause_132 : decode cX6_clause 132 = .ok (.invokevirtual 67, 3) := by decide +kernel
theorem dX6_clause_135 : decode cX6_clause 135 = .ok (.ifCond .eq 32, 3) := by decide +kernel
theorem dX6_clause_138 : decode cX6_clause 138 = .ok (.aload_n 0, 1) := by decide +kernel
theorem dX6_clause_139 : decode cX6_clause 139 = .ok (.getfield 18, 3) := by decide +kernel
theorem dX6_clause_142 : decode cX6_clause 142 = .ok (.aload_n 0, 1) := by decide +kernel
theorem dX6_clause_143 : decode cX6_clause 143 = .ok (.getfield 18, 3) := by decide +kernel
theorem dX6_clause_146 : decode cX6_clause 146 = .ok (.getfield 100, 3) := by decide +kernel
theorem dX6_clause_149 : decode cX6_clause 149 = .ok (.invokevirtual 103, 3) := by decide +kernel
theorem dX6_clause_152 : decode cX6_clause 152 = .ok (.aload_n 0, 1) := by decide +kernel
theorem dX6_clause_153 : decode cX6_clause 153 = .ok (.iconst 0, 1) := by decide +kernel
theorem dX6_clause_154 : decode cX6_clause 154 = .ok (.invokevirtual 107, 3) := by decide +kernel
theorem dX6_clause_157 : decode cX6_clause 157 = .ok (.istore_n 2, 1) := by decide +kernel
theorem dX6_clause_158 : decode cX6_clause 158 = .ok (.aload_n 0, 1) := by decide +kernel
theorem dX6_clause_159 : decode cX6_clause 159 = .ok (.getfield 18, 3) := by decide +kernel
theorem dX6_clause_162 : decode cX6_clause 162 = .ok (.iconst 0, 1) := by decide +kernel
theorem dX6_clause_163 : decode cX6_clause 163 = .ok (.iconst 0, 1) := by decide +kernel
theorem dX6_clause_164 : decode cX6_clause 164 = .ok (.invokevirtual 111, 3) := by decide +kernel
theorem dX6_clause_167 : decode cX6_clause 167 = .ok (.aload_n 0, 1) := by decide +kernel
theorem dX6_clause_168 : decode cX6_clause 168 = .ok (.getfield 18, 3) := by decide +kernel
theorem dX6_clause_171 : decode cX6_clause 171 = .ok (.dup, 1) := by decide +kernel
theorem dX6_clause_172 : decode cX6_clause 172 = .ok (.getfield 46, 3) := by decide +kernel
theorem dX6_clause_175 : decode cX6_clause 175 = .ok (.iconst 1, 1) := by decide +kernel
theorem dX6_clause_176 : decode cX6_clause 176 = .ok (.iadd, 1) := by decide +kernel
theorem dX6_clause_177 : decode cX6_clause 177 = .ok (.putfield 46, 3) := by decide +kernel
theorem dX6_clause_180 : decode cX6_clause 180 = .ok (.iload_n 2, 1) := by decide +kernel
theorem dX6_clause_181 : decode cX6_clause 181 = .ok (.ireturn, 1) := by decide +kernel
theorem dX6_times_0 : decode cX6_times 0 = .ok (.aload_n 0, 1) := by decide +kernel
theorem dX6_times_1 : decode cX6_times 1 = .ok (.ldc 115, 2) := by decide +kernel
theorem dX6_times_3 : decode cX6_times 3 = .ok (.invokevirtual 67, 3) := by decide +kernel
theorem dX6_times_6 : decode cX6_times 6 = .ok (.ifCond .ne 5, 3) := by decide +kernel
theorem dX6_times_9 : decode cX6_times 9 = .ok (.iconst 1, 1) := by decide +kernel
theorem dX6_times_10 : decode cX6_times 10 = .ok (.ireturn, 1) := by decide +kernel
theorem dX6_times_11 : decode cX6_times 11 = .ok (.aload_n 0, 1) := by decide +kernel
theorem dX6_times_12 : decode cX6_times 12 = .ok (.invokevirtual 116, 3) := by decide +kernel
theorem dX6_times_15 : decode cX6_times 15 = .ok (.istore_n 1, 1) := by decide +kernel
theorem dX6_times_16 : decode cX6_times 16 = .ok (.iload_n 1, 1) := by decide +kernel
theorem dX6_times_17 : decode cX6_times 17 = .ok (.iconst 1, 1) := by decide +kernel
theorem dX6_times_18 : decode cX6_times 18 = .ok (.bipush 20, 2) := by decide +kernel
theorem dX6_times_20 : decode cX6_times 20 = .ok (.invokestatic 120, 3) := by decide +kernel
theorem dX6_times_23 : decode cX6_times 23 = .ok (.ifCond .ne 5, 3) := by decide +kernel
theorem dX6_times_26 : decode cX6_times 26 = .ok (.iconst 0, 1) := by decide +kernel
theorem dX6_times_27 : decode cX6_times 27 = .ok (.ireturn, 1) := by decide +kernel
theorem dX6_times_28 : decode cX6_times 28 = .ok (.aload_n 0, 1) := by decide +kernel
theorem dX6_times_29 : decode cX6_times 29 = .ok (.getfield 18, 3) := by decide +kernel
theorem dX6_times_32 : decode cX6_times 32 = .ok (.getfield 124, 3) := by decide +kernel
theorem dX6_times_35 : decode cX6_times 35 = .ok (.aload_n 0, 1) := by decide +kernel
theorem dX6_times_36 : decode cX6_times 36 = .ok (.getfield 18, 3) := by decide +kernel
theorem dX6_times_39 : decode cX6_times 39 = .ok (.getfield 46, 3) := by decide +kernel
theorem dX6_times_42 : decode cX6_times 42 = .ok (.iload_n 1, 1) := by decide +kernel
theorem dX6_times_43 : decode cX6_times 43 = .ok (.invokestatic 29, 3) := by decide +kernel
theorem dX6_times_46 : decode cX6_times 46 = .ok (.aload_n 0, 1) := by decide +kernel
theorem dX6_times_47 : decode cX6_times 47 = .ok (.invokevirtual 55, 3) := by decide +kernel
theorem dX6_times_50 : decode cX6_times 50 = .ok (.iconst 1, 1) := by decide +kernel
theorem dX6_times_51 : decode cX6_times 51 = .ok (.ireturn, 1) := by decide +kernel
theorem dX6_wholeSum_0 : decode cX6_wholeSum 0 = .ok (.aload_n 0, 1) := by decide +kernel
theorem dX6_wholeSum_1 : decode cX6_wholeSum 1 = .ok (.getfield 18, 3) := by decide +kernel
theorem dX6_wholeSum_4 : decode cX6_wholeSum 4 = .ok (.aload_n 1, 1) := by decide +kernel
theorem dX6_wholeSum_5 : decode cX6_wholeSum 5 = .ok (.invokevirtual 103, 3) := by decide +kernel
theorem dX6_wholeSum_8 : decode cX6_wholeSum 8 = .ok (.aload_n 0, 1) := by decide +kernel
theorem dX6_wholeSum_9 : decode cX6_wholeSum 9 = .ok (.iconst 0, 1) := by decide +kernel
theorem dX6_wholeSum_10 : decode cX6_wholeSum 10 = .ok (.invokevirtual 127, 3) := by decide +kernel
theorem dX6_wholeSum_13 : decode cX6_wholeSum 13 = .ok (.istore_n 2, 1) := by decide +kernel
theorem dX6_wholeSum_14 : decode cX6_wholeSum 14 = .ok (.aload_n 0, 1) := by decide +kernel
theorem dX6_wholeSum_15 : decode cX6_wholeSum 15 = .ok (.getfield 18, 3) := by decide +kernel
theorem dX6_wholeSum_18 : decode cX6_wholeSum 18 = .ok (.iconst 0, 1) := by decide +kernel
theorem dX6_wholeSum_19 : decode cX6_wholeSum 19 = .ok (.iconst 0, 1) := by decide +kernel
theorem dX6_wholeSum_20 : decode cX6_wholeSum 20 = .ok (.invokevirtual 111, 3) := by decide +kernel
theorem dX6_wholeSum_23 : decode cX6_wholeSum 23 = .ok (.iload_n 2, 1) := by decide +kernel
theorem dX6_wholeSum_24 : decode cX6_wholeSum 24 = .ok (.ireturn, 1) := by decide +kernel
theorem dX6_test_0 : decode cX6_test 0 = .ok (.aload_n 0, 1) := by decide +kernel
theorem dX6_test_1 : decode cX6_test 1 = .ok (.iload_n 1, 1) := by decide +kernel
theorem dX6_test_2 : decode cX6_test 2 = .ok (.invokevirtual 130, 3) := by decide +kernel
theorem dX6_test_5 : decode cX6_test 5 = .ok (.istore_n 2, 1) := by decide +kernel
theorem dX6_test_6 : decode cX6_test 6 = .ok (.iconst 0, 1) := by decide +kernel
theorem dX6_test_7 : decode cX6_test 7 = .ok (.istore_n 3, 1) := by decide +kernel
theorem dX6_test_8 : decode cX6_test 8 = .ok (.iload_n 3, 1) := by decide +kernel
theorem dX6_test_9 : decode cX6_test 9 = .ok (.sipush 400, 3) := by decide +kernel
theorem dX6_test_12 : decode cX6_test 12 = .ok (.if_icmp .ge 56, 3) := by decide +kernel
theorem dX6_test_15 : decode cX6_test 15 = .ok (.iload_n 2, 1) := by decide +kernel
theorem dX6_test_16 : decode cX6_test 16 = .ok (.ifCond .eq 52, 3) := by decide +kernel
theorem dX6_test_19 : decode cX6_test 19 = .ok (.aload_n 0, 1) := by decide +kernel
theorem dX6_test_20 : decode cX6_test 20 = .ok (.ldc 133, 2) := by decide +kernel
theorem dX6_test_22 : decode cX6_test 22 = .ok (.invokevirtual 67, 3) := by decide +kernel
theorem dX6_test_25 : decode cX6_test 25 = .ok (.ifCond .eq 43, 3) := by decide +kernel
theorem dX6_test_28 : decode cX6_test 28 = .ok (.aload_n 0, 1) := by decide +kernel
theorem dX6_test_29 : decode cX6_test 29 = .ok (.getfield 18, 3) := by decide +kernel
theorem dX6_test_32 : decode cX6_test 32 = .ok (.getfield 43, 3) := by decide +kernel
theorem dX6_test_35 : decode cX6_test 35 = .ok (.istore 4, 2) := by decide +kernel
theorem dX6_test_37 : decode cX6_test 37 = .ok (.aload_n 0, 1) := by decide +kernel
theorem dX6_test_38 : decode cX6_test 38 = .ok (.getfield 18, 3) := by decide +kernel
theorem dX6_test_41 : decode cX6_test 41 = .ok (.iconst 4, 1) := by decide +kernel
theorem dX6_test_42 : decode cX6_test 42 = .ok (.iconst 0, 1) := by decide +kernel
theorem dX6_test_43 : decode cX6_test 43 = .ok (.invokevirtual 111, 3) := by decide +kernel
theorem dX6_test_46 : decode cX6_test 46 = .ok (.aload_n 0, 1) := by decide +kernel
theorem dX6_test_47 : decode cX6_test 47 = .ok (.iload_n 1, 1) := by decide +kernel
theorem dX6_test_48 : decode cX6_test 48 = .ok (.invokevirtual 130, 3) := by decide +kernel
theorem dX6_test_51 : decode cX6_test 51 = .ok (.istore_n 2, 1) := by decide +kernel
theorem dX6_test_52 : decode cX6_test 52 = .ok (.aload_n 0, 1) := by decide +kernel
theorem dX6_test_53 : decode cX6_test 53 = .ok (.getfield 18, 3) := by decide +kernel
theorem dX6_test_56 : decode cX6_test 56 = .ok (.iload 4, 2) := by decide +kernel
theorem dX6_test_58 : decode cX6_test 58 = .ok (.iconst 4, 1) := by decide +kernel
theorem dX6_test_59 : decode cX6_test 59 = .ok (.invokevirtual 135, 3) := by decide +kernel
theorem dX6_test_62 : decode cX6_test 62 = .ok (.iinc 3 1, 3) := by decide +kernel
theorem dX6_test_65 : decode cX6_test 65 = .ok (.goto (-57), 3) := by decide +kernel
theorem dX6_test_68 : decode cX6_test 68 = .ok (.iload_n 2, 1) := by decide +kernel
theorem dX6_test_69 : decode cX6_test 69 = .ok (.ireturn, 1) := by decide +kernel
theorem dX6_both_0 : decode cX6_both 0 = .ok (.aload_n 0, 1) := by decide +kernel
theorem dX6_both_1 : decode cX6_both 1 = .ok (.iload_n 1, 1) := by decide +kernel
theorem dX6_both_2 : decode cX6_both 2 = .ok (.invokevirtual 138, 3) := by decide +kernel
theorem dX6_both_5 : decode cX6_both 5 = .ok (.istore_n 2, 1) := by decide +kernel
theorem dX6_both_6 : decode cX6_both 6 = .ok (.iconst 0, 1) := by decide +kernel
theorem dX6_both_7 : decode cX6_both 7 = .ok (.istore_n 3, 1) := by decide +kernel
theorem dX6_both_8 : decode cX6_both 8 = .ok (.iload_n 3, 1) := by decide +kernel
theorem dX6_both_9 : decode cX6_both 9 = .ok (.sipush 400, 3) := by decide +kernel
theorem dX6_both_12 : decode cX6_both 12 = .ok (.if_icmp .ge 56, 3) := by decide +kernel
theorem dX6_both_15 : decode cX6_both 15 = .ok (.iload_n 2, 1) := by decide +kernel
theorem dX6_both_16 : decode cX6_both 16 = .ok (.ifCond .eq 52, 3) := by decide +kernel
theorem dX6_both_19 : decode cX6_both 19 = .ok (.aload_n 0, 1) := by decide +kernel
theorem dX6_both_20 : decode cX6_both 20 = .ok (.ldc 141, 2) := by decide +kernel
theorem dX6_both_22 : decode cX6_both 22 = .ok (.invokevirtual 67, 3) := by decide +kernel
theorem dX6_both_25 : decode cX6_both 25 = .ok (.ifCond .eq 43, 3) := by decide +kernel
theorem dX6_both_28 : decode cX6_both 28 = .ok (.aload_n 0, 1) := by decide +kernel
theorem dX6_both_29 : decode cX6_both 29 = .ok (.getfield 18, 3) := by decide +kernel
theorem dX6_both_32 : decode cX6_both 32 = .ok (.getfield 43, 3) := by decide +kernel
theorem dX6_both_35 : decode cX6_both 35 = .ok (.istore 4, 2) := by decide +kernel
theorem dX6_both_37 : decode cX6_both 37 = .ok (.aload_n 0, 1) := by decide +kernel
theorem dX6_both_38 : decode cX6_both 38 = .ok (.getfield 18, 3) := by decide +kernel
theorem dX6_both_41 : decode cX6_both 41 = .ok (.iconst 5, 1) := by decide +kernel
theorem dX6_both_42 : decode cX6_both 42 = .ok (.iconst 0, 1) := by decide +kernel
theorem dX6_both_43 : decode cX6_both 43 = .ok (.invokevirtual 111, 3) := by decide +kernel
theorem dX6_both_46 : decode cX6_both 46 = .ok (.aload_n 0, 1) := by decide +kernel
theorem dX6_both_47 : decode cX6_both 47 = .ok (.iload_n 1, 1) := by decide +kernel
theorem dX6_both_48 : decode cX6_both 48 = .ok (.invokevirtual 138, 3) := by decide +kernel
theorem dX6_both_51 : decode cX6_both 51 = .ok (.istore_n 2, 1) := by decide +kernel
theorem dX6_both_52 : decode cX6_both 52 = .ok (.aload_n 0, 1) := by decide +kernel
theorem dX6_both_53 : decode cX6_both 53 = .ok (.getfield 18, 3) := by decide +kernel
theorem dX6_both_56 : decode cX6_both 56 = .ok (.iload 4, 2) := by decide +kernel
theorem dX6_both_58 : decode cX6_both 58 = .ok (.iconst 5, 1) := by decide +kernel
theorem dX6_both_59 : decode cX6_both 59 = .ok (.invokevirtual 135, 3) := by decide +kernel
theorem dX6_both_62 : decode cX6_both 62 = .ok (.iinc 3 1, 3) := by decide +kernel
theorem dX6_both_65 : decode cX6_both 65 = .ok (.goto (-57), 3) := by decide +kernel
theorem dX6_both_68 : decode cX6_both 68 = .ok (.iload_n 2, 1) := by decide +kernel
theorem dX6_both_69 : decode cX6_both 69 = .ok (.ireturn, 1) := by decide +kernel
theorem dX6_plain_0 : decode cX6_plain 0 = .ok (.iconst 0, 1) := by decide +kernel
theorem dX6_plain_1 : decode cX6_plain 1 = .ok (.istore_n 2, 1) := by decide +kernel
theorem dX6_plain_2 : decode cX6_plain 2 = .ok (.iconst 0, 1) := by decide +kernel
theorem dX6_plain_3 : decode cX6_plain 3 = .ok (.istore_n 3, 1) := by decide +kernel
theorem dX6_plain_4 : decode cX6_plain 4 = .ok (.iload_n 3, 1) := by decide +kernel
theorem dX6_plain_5 : decode cX6_plain 5 = .ok (.sipush 400, 3) := by decide +kernel
theorem dX6_plain_8 : decode cX6_plain 8 = .ok (.if_icmp .ge 28, 3) := by decide +kernel
theorem dX6_plain_11 : decode cX6_plain 11 = .ok (.aload_n 0, 1) := by decide +kernel
theorem dX6_plain_12 : decode cX6_plain 12 = .ok (.ldc 143, 2) := by decide +kernel
theorem dX6_plain_14 : decode cX6_plain 14 = .ok (.invokevirtual 67, 3) := by decide +kernel
theorem dX6_plain_17 : decode cX6_plain 17 = .ok (.ifCond .eq 19, 3) := by decide +kernel
theorem dX6_plain_20 : decode cX6_plain 20 = .ok (.iload_n 2, 1) := by decide +kernel
theorem dX6_plain_21 : decode cX6_plain 21 = .ok (.ifCond .ne 7, 3) := by decide +kernel
theorem dX6_plain_24 : decode cX6_plain 24 = .ok (.iconst 1, 1) := by decide +kernel
theorem dX6_plain_25 : decode cX6_plain 25 = .ok (.goto 4, 3) := by decide +kernel
theorem dX6_plain_28 : decode cX6_plain 28 = .ok (.iconst 0, 1) := by decide +kernel
theorem dX6_plain_29 : decode cX6_plain 29 = .ok (.istore_n 2, 1) := by decide +kernel
theorem dX6_plain_30 : decode cX6_plain 30 = .ok (.iinc 3 1, 3) := by decide +kernel
theorem dX6_plain_33 : decode cX6_plain 33 = .ok (.goto (-29), 3) := by decide +kernel
theorem dX6_plain_36 : decode cX6_plain 36 = .ok (.aload_n 0, 1) := by decide +kernel
theorem dX6_plain_37 : decode cX6_plain 37 = .ok (.ldc 145, 2) := by decide +kernel
theorem dX6_plain_39 : decode cX6_plain 39 = .ok (.invokevirtual 75, 3) := by decide +kernel
theorem dX6_plain_42 : decode cX6_plain 42 = .ok (.ifCond .ne 46, 3) := by decide +kernel
theorem dX6_plain_45 : decode cX6_plain 45 = .ok (.iload_n 1, 1) := by decide +kernel
theorem dX6_plain_46 : decode cX6_plain 46 = .ok (.bipush 8, 2) := by decide +kernel
theorem dX6_plain_48 : decode cX6_plain 48 = .ok (.if_icmp .ge 35, 3) := by decide +kernel
theorem dX6_plain_51 : decode cX6_plain 51 = .ok (.aload_n 0, 1) := by decide +kernel
theorem dX6_plain_52 : decode cX6_plain 52 = .ok (.ldc 145, 2) := by decide +kernel
theorem dX6_plain_54 : decode cX6_plain 54 = .ok (.invokevirtual 67, 3) := by decide +kernel
theorem dX6_plain_57 : decode cX6_plain 57 = .ok (.ifCond .eq 26, 3) := by decide +kernel
theorem dX6_plain_60 : decode cX6_plain 60 = .ok (.aload_n 0, 1) := by decide +kernel
theorem dX6_plain_61 : decode cX6_plain 61 = .ok (.iload_n 1, 1) := by decide +kernel
theorem dX6_plain_62 : decode cX6_plain 62 = .ok (.iconst 1, 1) := by decide +kernel
theorem dX6_plain_63 : decode cX6_plain 63 = .ok (.iadd, 1) := by decide +kernel
theorem dX6_plain_64 : decode cX6_plain 64 = .ok (.invokevirtual 107, 3) := by decide +kernel
theorem dX6_plain_67 : decode cX6_plain 67 = .ok (.ifCond .eq 16, 3) := by decide +kernel
theorem dX6_plain_70 : decode cX6_plain 70 = .ok (.aload_n 0, 1) := by decide +kernel
theorem dX6_plain_71 : decode cX6_plain 71 = .ok (.ldc 147, 2) := by decide +kernel
theorem dX6_plain_73 : decode cX6_plain 73 = .ok (.invokevirtual 67, 3) := by decide +kernel
theorem dX6_plain_76 : decode cX6_plain 76 = .ok (.ifCond .eq 7, 3) := by decide +kernel
theorem dX6_plain_79 : decode cX6_plain 79 = .ok (.iconst 1, 1) := by decide +kernel
theorem dX6_plain_80 : decode cX6_plain 80 = .ok (.goto 4, 3) := by decide +kernel
theorem dX6_plain_83 : decode cX6_plain 83 = .ok (.iconst 0, 1) := by decide +kernel
theorem dX6_plain_84 : decode cX6_plain 84 = .ok (.istore_n 3, 1) := by decide +kernel
theorem dX6_plain_85 : decode cX6_plain 85 = .ok (.goto 57, 3) := by decide +kernel
theorem dX6_plain_88 : decode cX6_plain 88 = .ok (.aload_n 0, 1) := by decide +kernel
theorem dX6_plain_89 : decode cX6_plain 89 = .ok (.iload_n 1, 1) := by decide +kernel
theorem dX6_plain_90 : decode cX6_plain 90 = .ok (.invokevirtual 127, 3) := by decide +kernel
theorem dX6_plain_93 : decode cX6_plain 93 = .ok (.istore_n 3, 1) := by decide +kernel
theorem dX6_plain_94 : decode cX6_plain 94 = .ok (.aload_n 0, 1) := by decide +kernel
theorem dX6_plain_95 : decode cX6_plain 95 = .ok (.ldc 149, 2) := by decide +kernel
theorem dX6_plain_97 : decode cX6_plain 97 = .ok (.invokevirtual 75, 3) := by decide +kernel
theorem dX6_plain_100 : decode cX6_plain 100 = .ok (.istore 4, 2) := by decide +kernel
theorem dX6_plain_102 : decode cX6_plain 102 = .ok (.iload_n 3, 1) := by decide +kernel
theorem dX6_plain_103 : decode cX6_plain 103 = .ok (.ifCond .eq 24, 3) := by decide +kernel
theorem dX6_plain_106 : decode cX6_plain 106 = .ok (.aload_n 0, 1) := by decide +kernel
theorem dX6_plain_107 : decode cX6_plain 107 = .ok (.ldc 149, 2) := by decide +kernel
theorem dX6_plain_109 : decode cX6_plain 109 = .ok (.invokevirtual 67, 3) := by decide +kernel
theorem dX6_plain_112 : decode cX6_plain 112 = .ok (.ifCond .eq 15, 3) := by decide +kernel
theorem dX6_plain_115 : decode cX6_plain 115 = .ok (.aload_n 0, 1) := by decide +kernel
theorem dX6_plain_116 : decode cX6_plain 116 = .ok (.iload_n 1, 1) := by decide +kernel
theorem dX6_plain_117 : decode cX6_plain 117 = .ok (.invokevirtual 127, 3) := by decide +kernel
theorem dX6_plain_120 : decode cX6_plain 120 = .ok (.ifCond .eq 7, 3) := by decide +kernel
theorem dX6_plain_123 : decode cX6_plain 123 = .ok (.iconst 1, 1) := by decide +kernel
theorem dX6_plain_124 : decode cX6_plain 124 = .ok (.goto 4, 3) := by decide +kernel
theorem dX6_plain_127 : decode cX6_plain 127 = .ok (.iconst 0, 1) := by decide +kernel
theorem dX6_plain_128 : decode cX6_plain 128 = .ok (.istore_n 3, 1) := by decide +kernel
theorem dX6_plain_129 : decode cX6_plain 129 = .ok (.aload_n 0, 1) := by decide +kernel
theorem dX6_plain_130 : decode cX6_plain 130 = .ok (.getfield 18, 3) := by decide +kernel
theorem dX6_plain_133 : decode cX6_plain 133 = .ok (.bipush 11, 2) := by decide +kernel
theorem dX6_plain_135 : decode cX6_plain 135 = .ok (.iload 4, 2) := by decide +kernel
theorem dX6_plain_137 : decode cX6_plain 137 = .ok (.iadd, 1) := by decide +kernel
theorem dX6_plain_138 : decode cX6_plain 138 = .ok (.iconst 0, 1) := by decide +kernel
theorem dX6_plain_139 : decode cX6_plain 139 = .ok (.invokevirtual 111, 3) := by decide +kernel
theorem dX6_plain_142 : decode cX6_plain 142 = .ok (.iload_n 2, 1) := by decide +kernel
theorem dX6_plain_143 : decode cX6_plain 143 = .ok (.ifCond .eq 12, 3) := by decide +kernel
theorem dX6_plain_146 : decode cX6_plain 146 = .ok (.aload_n 0, 1) := by decide +kernel
theorem dX6_plain_147 : decode cX6_plain 147 = .ok (.getfield 18, 3) := by decide +kernel
theorem dX6_plain_150 : decode cX6_plain 150 = .ok (.iconst 3, 1) := by decide +kernel
theorem dX6_plain_151 : decode cX6_plain 151 = .ok (.iconst 0, 1) := by decide +kernel
theorem dX6_plain_152 : decode cX6_plain 152 = .ok (.invokevirtual 111, 3) := by decide +kernel
theorem dX6_plain_155 : decode cX6_plain 155 = .ok (.iload_n 3, 1) := by decide +kernel
theorem dX6_plain_156 : decode cX6_plain 156 = .ok (.ireturn, 1) := by decide +kernel
theorem dX6_sum_0 : decode cX6_sum 0 = .ok (.aload_n 0, 1) := by decide +kernel
theorem dX6_sum_1 : decode cX6_sum 1 = .ok (.iload_n 1, 1) := by decide +kernel
theorem dX6_sum_2 : decode cX6_sum 2 = .ok (.invokevirtual 151, 3) := by decide +kernel
theorem dX6_sum_5 : decode cX6_sum 5 = .ok (.istore_n 2, 1) := by decide +kernel
theorem dX6_sum_6 : decode cX6_sum 6 = .ok (.aload_n 0, 1) := by decide +kernel
theorem dX6_sum_7 : decode cX6_sum 7 = .ok (.ldc 154, 2) := by decide +kernel
theorem dX6_sum_9 : decode cX6_sum 9 = .ok (.invokevirtual 75, 3) := by decide +kernel
theorem dX6_sum_12 : decode cX6_sum 12 = .ok (.istore_n 3, 1) := by decide +kernel
theorem dX6_sum_13 : decode cX6_sum 13 = .ok (.iconst 0, 1) := by decide +kernel
theorem dX6_sum_14 : decode cX6_sum 14 = .ok (.istore 4, 2) := by decide +kernel
theorem dX6_sum_16 : decode cX6_sum 16 = .ok (.iload 4, 2) := by decide +kernel
theorem dX6_sum_18 : decode cX6_sum 18 = .ok (.sipush 400, 3) := by decide +kernel
theorem dX6_sum_21 : decode cX6_sum 21 = .ok (.if_icmp .ge 47, 3) := by decide +kernel
theorem dX6_sum_24 : decode cX6_sum 24 = .ok (.iload_n 2, 1) := by decide +kernel
theorem dX6_sum_25 : decode cX6_sum 25 = .ok (.ifCond .eq 43, 3) := by decide +kernel
theorem dX6_sum_28 : decode cX6_sum 28 = .ok (.iload_n 3, 1) := by decide +kernel
theorem dX6_sum_29 : decode cX6_sum 29 = .ok (.iconst (-1), 1) := by decide +kernel
theorem dX6_sum_30 : decode cX6_sum 30 = .ok (.if_icmp .eq 38, 3) := by decide +kernel
theorem dX6_sum_33 : decode cX6_sum 33 = .ok (.aload_n 0, 1) := by decide +kernel
theorem dX6_sum_34 : decode cX6_sum 34 = .ok (.invokevirtual 55, 3) := by decide +kernel
theorem dX6_sum_37 : decode cX6_sum 37 = .ok (.aload_n 0, 1) := by decide +kernel
theorem dX6_sum_38 : decode cX6_sum 38 = .ok (.iload_n 1, 1) := by decide +kernel
theorem dX6_sum_39 : decode cX6_sum 39 = .ok (.invokevirtual 151, 3) := by decide +kernel
theorem dX6_sum_42 : decode cX6_sum 42 = .ok (.istore_n 2, 1) := by decide +kernel
theorem dX6_sum_43 : decode cX6_sum 43 = .ok (.aload_n 0, 1) := by decide +kernel
theorem dX6_sum_44 : decode cX6_sum 44 = .ok (.getfield 18, 3) := by decide +kernel
theorem dX6_sum_47 : decode cX6_sum 47 = .ok (.bipush 6, 2) := by decide +kernel
theorem dX6_sum_49 : decode cX6_sum 49 = .ok (.iload_n 3, 1) := by decide +kernel
theorem dX6_sum_50 : decode cX6_sum 50 = .ok (.iadd, 1) := by decide +kernel
theorem dX6_sum_51 : decode cX6_sum 51 = .ok (.iconst 0, 1) := by decide +kernel
theorem dX6_sum_52 : decode cX6_sum 52 = .ok (.invokevirtual 111, 3) := by decide +kernel
theorem dX6_sum_55 : decode cX6_sum 55 = .ok (.aload_n 0, 1) := by decide +kernel
theorem dX6_sum_56 : decode cX6_sum 56 = .ok (.ldc 154, 2) := by decide +kernel
theorem dX6_sum_58 : decode cX6_sum 58 = .ok (.invokevirtual 75, 3) := by decide +kernel
theorem dX6_sum_61 : decode cX6_sum 61 = .ok (.istore_n 3, 1) := by decide +kernel
theorem dX6_sum_62 : decode cX6_sum 62 = .ok (.iinc 4 1, 3) := by decide +kernel
theorem dX6_sum_65 : decode cX6_sum 65 = .ok (.goto (-49), 3) := by decide +kernel
theorem dX6_sum_68 : decode cX6_sum 68 = .ok (.iload_n 2, 1) := by decide +kernel
theorem dX6_sum_69 : decode cX6_sum 69 = .ok (.ireturn, 1) := by decide +kernel
theorem dX6_term_0 : decode cX6_term 0 = .ok (.aload_n 0, 1) := by decide +kernel
theorem dX6_term_1 : decode cX6_term 1 = .ok (.iload_n 1, 1) := by decide +kernel
theorem dX6_term_2 : decode cX6_term 2 = .ok (.invokevirtual 156, 3) := by decide +kernel
theorem dX6_term_5 : decode cX6_term 5 = .ok (.istore_n 2, 1) := by decide +kernel
theorem dX6_term_6 : decode cX6_term 6 = .ok (.aload_n 0, 1) := by decide +kernel
theorem dX6_term_7 : decode cX6_term 7 = .ok (.ldc 159, 2) := by decide +kernel
theorem dX6_term_9 : decode cX6_term 9 = .ok (.invokevirtual 75, 3) := by decide +kernel
theorem dX6_term_12 : decode cX6_term 12 = .ok (.istore_n 3, 1) := by decide +kernel
theorem dX6_term_13 : decode cX6_term 13 = .ok (.iconst 0, 1) := by decide +kernel
theorem dX6_term_14 : decode cX6_term 14 = .ok (.istore 4, 2) := by decide +kernel
theorem dX6_term_16 : decode cX6_term 16 = .ok (.iload 4, 2) := by decide +kernel
theorem dX6_term_18 : decode cX6_term 18 = .ok (.sipush 400, 3) := by decide +kernel
theorem dX6_term_21 : decode cX6_term 21 = .ok (.if_icmp .ge 47, 3) := by decide +kernel
theorem dX6_term_24 : decode cX6_term 24 = .ok (.iload_n 2, 1) := by decide +kernel
theorem dX6_term_25 : decode cX6_term 25 = .ok (.ifCond .eq 43, 3) := by decide +kernel
theorem dX6_term_28 : decode cX6_term 28 = .ok (.iload_n 3, 1) := by decide +kernel
theorem dX6_term_29 : decode cX6_term 29 = .ok (.iconst (-1), 1) := by decide +kernel
theorem dX6_term_30 : decode cX6_term 30 = .ok (.if_icmp .eq 38, 3) := by decide +kernel
theorem dX6_term_33 : decode cX6_term 33 = .ok (.aload_n 0, 1) := by decide +kernel
theorem dX6_term_34 : decode cX6_term 34 = .ok (.invokevirtual 55, 3) := by decide +kernel
theorem dX6_term_37 : decode cX6_term 37 = .ok (.aload_n 0, 1) := by decide +kernel
theorem dX6_term_38 : decode cX6_term 38 = .ok (.iload_n 1, 1) := by decide +kernel
theorem dX6_term_39 : decode cX6_term 39 = .ok (.invokevirtual 156, 3) := by decide +kernel
theorem dX6_term_42 : decode cX6_term 42 = .ok (.istore_n 2, 1) := by decide +kernel
theorem dX6_term_43 : decode cX6_term 43 = .ok (.aload_n 0, 1) := by decide +kernel
theorem dX6_term_44 : decode cX6_term 44 = .ok (.getfield 18, 3) := by decide +kernel
theorem dX6_term_47 : decode cX6_term 47 = .ok (.bipush 8, 2) := by decide +kernel
theorem dX6_term_49 : decode cX6_term 49 = .ok (.iload_n 3, 1) := by decide +kernel
theorem dX6_term_50 : decode cX6_term 50 = .ok (.iadd, 1) := by decide +kernel
theorem dX6_term_51 : decode cX6_term 51 = .ok (.iconst 0, 1) := by decide +kernel
theorem dX6_term_52 : decode cX6_term 52 = .ok (.invokevirtual 111, 3) := by decide +kernel
theorem dX6_term_55 : decode cX6_term 55 = .ok (.aload_n 0, 1) := by decide +kernel
theorem dX6_term_56 : decode cX6_term 56 = .ok (.ldc 159, 2) := by decide +kernel
theorem dX6_term_58 : decode cX6_term 58 = .ok (.invokevirtual 75, 3) := by decide +kernel
theorem dX6_term_61 : decode cX6_term 61 = .ok (.istore_n 3, 1) := by decide +kernel
theorem dX6_term_62 : decode cX6_term 62 = .ok (.iinc 4 1, 3) := by decide +kernel
theorem dX6_term_65 : decode cX6_term 65 = .ok (.goto (-49), 3) := by decide +kernel
theorem dX6_term_68 : decode cX6_term 68 = .ok (.iload_n 2, 1) := by decide +kernel
theorem dX6_term_69 : decode cX6_term 69 = .ok (.ireturn, 1) := by decide +kernel
theorem dX6_part_0 : decode cX6_part 0 = .ok (.aload_n 0, 1) := by decide +kernel
theorem dX6_part_1 : decode cX6_part 1 = .ok (.ldc 161, 2) := by decide +kernel
theorem dX6_part_3 : decode cX6_part 3 = .ok (.invokevirtual 75, 3) := by decide +kernel
theorem dX6_part_6 : decode cX6_part 6 = .ok (.ifCond .ne 43, 3) := by decide +kernel
theorem dX6_part_9 : decode cX6_part 9 = .ok (.iload_n 1, 1) := by decide +kernel
theorem dX6_part_10 : decode cX6_part 10 = .ok (.bipush 8, 2) := by decide +kernel
theorem dX6_part_12 : decode cX6_part 12 = .ok (.if_icmp .ge 35, 3) := by decide +kernel
theorem dX6_part_15 : decode cX6_part 15 = .ok (.aload_n 0, 1) := by decide +kernel
theorem dX6_part_16 : decode cX6_part 16 = .ok (.ldc 161, 2) := by decide +kernel
theorem dX6_part_18 : decode cX6_part 18 = .ok (.invokevirtual 67, 3) := by decide +kernel
theorem dX6_part_21 : decode cX6_part 21 = .ok (.ifCond .eq 26, 3) := by decide +kernel
theorem dX6_part_24 : decode cX6_part 24 = .ok (.aload_n 0, 1) := by decide +kernel
theorem dX6_part_25 : decode cX6_part 25 = .ok (.iload_n 1, 1) := by decide +kernel
theorem dX6_part_26 : decode cX6_part 26 = .ok (.iconst 1, 1) := by decide +kernel
theorem dX6_part_27 : decode cX6_part 27 = .ok (.iadd, 1) := by decide +kernel
theorem dX6_part_28 : decode cX6_part 28 = .ok (.invokevirtual 127, 3) := by decide +kernel
theorem dX6_part_31 : decode cX6_part 31 = .ok (.ifCond .eq 16, 3) := by decide +kernel
theorem dX6_part_34 : decode cX6_part 34 = .ok (.aload_n 0, 1) := by decide +kernel
theorem dX6_part_35 : decode cX6_part 35 = .ok (.ldc 163, 2) := by decide +kernel
theorem dX6_part_37 : decode cX6_part 37 = .ok (.invokevirtual 67, 3) := by decide +kernel
theorem dX6_part_40 : decode cX6_part 40 = .ok (.ifCond .eq 7, 3) := by decide +kernel
theorem dX6_part_43 : decode cX6_part 43 = .ok (.iconst 1, 1) := by decide +kernel
theorem dX6_part_44 : decode cX6_part 44 = .ok (.goto 4, 3) := by decide +kernel
theorem dX6_part_47 : decode cX6_part 47 = .ok (.iconst 0, 1) := by decide +kernel
theorem dX6_part_48 : decode cX6_part 48 = .ok (.ireturn, 1) := by decide +kernel
theorem dX6_part_49 : decode cX6_part 49 = .ok (.aload_n 0, 1) := by decide +kernel
theorem dX6_part_50 : decode cX6_part 50 = .ok (.invokevirtual 116, 3) := by decide +kernel
theorem dX6_part_53 : decode cX6_part 53 = .ok (.istore_n 2, 1) := by decide +kernel
theorem dX6_part_54 : decode cX6_part 54 = .ok (.aload_n 0, 1) := by decide +kernel
theorem dX6_part_55 : decode cX6_part 55 = .ok (.aload_n 0, 1) := by decide +kernel
theorem dX6_part_56 : decode cX6_part 56 = .ok (.getfield 39, 3) := by decide +kernel
theorem dX6_part_59 : decode cX6_part 59 = .ok (.ifCond .eq 8, 3) := by decide +kernel
theorem dX6_part_62 : decode cX6_part 62 = .ok (.ldc 165, 2) := by decide +kernel
theorem dX6_part_64 : decode cX6_part 64 = .ok (.goto 5, 3) := by decide +kernel
theorem dX6_part_67 : decode cX6_part 67 = .ok (.ldc 167, 2) := by decide +kernel
theorem dX6_part_69 : decode cX6_part 69 = .ok (.invokevirtual 75, 3) := by decide +kernel
theorem dX6_part_72 : decode cX6_part 72 = .ok (.istore_n 3, 1) := by decide +kernel
theorem dX6_part_73 : decode cX6_part 73 = .ok (.aload_n 0, 1) := by decide +kernel
theorem dX6_part_74 : decode cX6_part 74 = .ok (.getfield 49, 3) := by decide +kernel
theorem dX6_part_77 : decode cX6_part 77 = .ok (.bipush 50, 2) := by decide +kernel
theorem dX6_part_79 : decode cX6_part 79 = .ok (.if_icmp .ge 20, 3) := by decide +kernel
theorem dX6_part_82 : decode cX6_part 82 = .ok (.iload_n 2, 1) := by decide +kernel
theorem dX6_part_83 : decode cX6_part 83 = .ok (.sipush 1000, 3) := by decide +kernel
theorem dX6_part_86 : decode cX6_part 86 = .ok (.if_icmp .gt 13, 3) := by decide +kernel
theorem dX6_part_89 : decode cX6_part 89 = .ok (.iload_n 2, 1) := by decide +kernel
theorem dX6_part_90 : decode cX6_part 90 = .ok (.iconst (-1), 1) := by decide +kernel
theorem dX6_part_91 : decode cX6_part 91 = .ok (.if_icmp .ne 10, 3) := by decide +kernel
theorem dX6_part_94 : decode cX6_part 94 = .ok (.iload_n 3, 1) := by decide +kernel
theorem dX6_part_95 : decode cX6_part 95 = .ok (.iconst (-1), 1) := by decide +kernel
theorem dX6_part_96 : decode cX6_part 96 = .ok (.if_icmp .ne 5, 3) := by decide +kernel
theorem dX6_part_99 : decode cX6_part 99 = .ok (.iconst 0, 1) := by decide +kernel
theorem dX6_part_100 : decode cX6_part 100 = .ok (.ireturn, 1) := by decide +kernel
theorem dX6_part_101 : decode cX6_part 101 = .ok (.aload_n 0, 1) := by decide +kernel
theorem dX6_part_102 : decode cX6_part 102 = .ok (.dup, 1) := by decide +kernel
theorem dX6_part_103 : decode cX6_part 103 = .ok (.getfield 49, 3) := by decide +kernel
theorem dX6_part_106 : decode cX6_part 106 = .ok (.iconst 1, 1) := by decide +kernel
theorem dX6_part_107 : decode cX6_part 107 = .ok (.iadd, 1) := by decide +kernel
theorem dX6_part_108 : decode cX6_part 108 = .ok (.putfield 49, 3) := by decide +kernel
theorem dX6_part_111 : decode cX6_part 111 = .ok (.aload_n 0, 1) := by decide +kernel
theorem dX6_part_112 : decode cX6_part 112 = .ok (.invokevirtual 55, 3) := by decide +kernel
theorem dX6_part_115 : decode cX6_part 115 = .ok (.aload_n 0, 1) := by decide +kernel
theorem dX6_part_116 : decode cX6_part 116 = .ok (.getfield 39, 3) := by decide +kernel
theorem dX6_part_119 : decode cX6_part 119 = .ok (.ifCond .eq 16, 3) := by decide +kernel
theorem dX6_part_122 : decode cX6_part 122 = .ok (.iload_n 3, 1) := by decide +kernel
theorem dX6_part_123 : decode cX6_part 123 = .ok (.iconst 5, 1) := by decide +kernel
theorem dX6_part_124 : decode cX6_part 124 = .ok (.if_icmp .ne 11, 3) := by decide +kernel
theorem dX6_part_127 : decode cX6_part 127 = .ok (.aload_n 0, 1) := by decide +kernel
theorem dX6_part_128 : decode cX6_part 128 = .ok (.iconst 5, 1) := by decide +kernel
theorem dX6_part_129 : decode cX6_part 129 = .ok (.bipush 16, 2) := by decide +kernel
theorem dX6_part_131 : decode cX6_part 131 = .ok (.invokevirtual 169, 3) := by decide +kernel
theorem dX6_part_134 : decode cX6_part 134 = .ok (.ireturn, 1) := by decide +kernel
theorem dX6_part_135 : decode cX6_part 135 = .ok (.aload_n 0, 1) := by decide +kernel
theorem dX6_part_136 : decode cX6_part 136 = .ok (.getfield 39, 3) := by decide +kernel
theorem dX6_part_139 : decode cX6_part 139 = .ok (.ifCond .eq 18, 3) := by decide +kernel
theorem dX6_part_142 : decode cX6_part 142 = .ok (.iload_n 3, 1) := by decide +kernel
theorem dX6_part_143 : decode cX6_part 143 = .ok (.bipush 6, 2) := by decide +kernel
theorem dX6_part_145 : decode cX6_part 145 = .ok (.if_icmp .ne 12, 3) := by decide +kernel
theorem dX6_part_148 : decode cX6_part 148 = .ok (.aload_n 0, 1) := by decide +kernel
theorem dX6_part_149 : decode cX6_part 149 = .ok (.bipush 21, 2) := by decide +kernel
theorem dX6_part_151 : decode cX6_part 151 = .ok (.bipush 6, 2) := by decide +kernel
theorem dX6_part_153 : decode cX6_part 153 = .ok (.invokevirtual 169, 3) := by decide +kernel
theorem dX6_part_156 : decode cX6_part 156 = .ok (.ireturn, 1) := by decide +kernel
theorem dX6_part_157 : decode cX6_part 157 = .ok (.aload_n 0, 1) := by decide +kernel
theorem dX6_part_158 : decode cX6_part 158 = .ok (.getfield 18, 3) := by decide +kernel
theorem dX6_part_161 : decode cX6_part 161 = .ok (.iload_n 3, 1) := by decide +kernel
theorem dX6_part_162 : decode cX6_part 162 = .ok (.iconst (-1), 1) := by decide +kernel
theorem dX6_part_163 : decode cX6_part 163 = .ok (.if_icmp .ne 7, 3) := by decide +kernel
theorem dX6_part_166 : decode cX6_part 166 = .ok (.iconst 1, 1) := by decide +kernel
theorem dX6_part_167 : decode cX6_part 167 = .ok (.goto 4, 3) := by decide +kernel
theorem dX6_part_170 : decode cX6_part 170 = .ok (.iconst 2, 1) := by decide +kernel
theorem dX6_part_171 : decode cX6_part 171 = .ok (.iload_n 3, 1) := by decide +kernel
theorem dX6_part_172 : decode cX6_part 172 = .ok (.iconst (-1), 1) := by decide +kernel
theorem dX6_part_173 : decode cX6_part 173 = .ok (.if_icmp .ne 7, 3) := by decide +kernel
theorem dX6_part_176 : decode cX6_part 176 = .ok (.iload_n 2, 1) := by decide +kernel
theorem dX6_part_177 : decode cX6_part 177 = .ok (.goto 4, 3) := by decide +kernel
theorem dX6_part_180 : decode cX6_part 180 = .ok (.iload_n 3, 1) := by decide +kernel
theorem dX6_part_181 : decode cX6_part 181 = .ok (.invokevirtual 111, 3) := by decide +kernel
theorem dX6_part_184 : decode cX6_part 184 = .ok (.iconst 1, 1) := by decide +kernel
theorem dX6_part_185 : decode cX6_part 185 = .ok (.ireturn, 1) := by decide +kernel
theorem dX6_numberedWord_0 : decode cX6_numberedWord 0 = .ok (.aload_n 0, 1) := by decide +kernel
theorem dX6_numberedWord_1 : decode cX6_numberedWord 1 = .ok (.invokevirtual 116, 3) := by decide +kernel
theorem dX6_numberedWord_4 : decode cX6_numberedWord 4 = .ok (.istore_n 3, 1) := by decide +kernel
theorem dX6_numberedWord_5 : decode cX6_numberedWord 5 = .ok (.iload_n 3, 1) := by decide +kernel
theorem dX6_numberedWord_6 : decode cX6_numberedWord 6 = .ok (.iconst 0, 1) := by decide +kernel
theorem dX6_numberedWord_7 : decode cX6_numberedWord 7 = .ok (.iload_n 2, 1) := by decide +kernel
theorem dX6_numberedWord_8 : decode cX6_numberedWord 8 = .ok (.iconst 1, 1) := by decide +kernel
theorem dX6_numberedWord_9 : decode cX6_numberedWord 9 = .ok (.isub, 1) := by decide +kernel
theorem dX6_numberedWord_10 : decode cX6_numberedWord 10 = .ok (.invokestatic 120, 3) := by decide +kernel
theorem dX6_numberedWord_13 : decode cX6_numberedWord 13 = .ok (.ifCond .ne 5, 3) := by decide +kernel
theorem dX6_numberedWord_16 : decode cX6_numberedWord 16 = .ok (.iconst 0, 1) := by decide +kernel
theorem dX6_numberedWord_17 : decode cX6_numberedWord 17 = .ok (.ireturn, 1) := by decide +kernel
theorem dX6_numberedWord_18 : decode cX6_numberedWord 18 = .ok (.aload_n 0, 1) := by decide +kernel
theorem dX6_numberedWord_19 : decode cX6_numberedWord 19 = .ok (.invokevirtual 55, 3) := by decide +kernel
theorem dX6_numberedWord_22 : decode cX6_numberedWord 22 = .ok (.aload_n 0, 1) := by decide +kernel
theorem dX6_numberedWord_23 : decode cX6_numberedWord 23 = .ok (.getfield 18, 3) := by decide +kernel
theorem dX6_numberedWord_26 : decode cX6_numberedWord 26 = .ok (.iconst 2, 1) := by decide +kernel
theorem dX6_numberedWord_27 : decode cX6_numberedWord 27 = .ok (.iload_n 1, 1) := by decide +kernel
theorem dX6_numberedWord_28 : decode cX6_numberedWord 28 = .ok (.iload_n 3, 1) := by decide +kernel
theorem dX6_numberedWord_29 : decode cX6_numberedWord 29 = .ok (.iadd, 1) := by decide +kernel
theorem dX6_numberedWord_30 : decode cX6_numberedWord 30 = .ok (.invokevirtual 111, 3) := by decide +kernel
theorem dX6_numberedWord_33 : decode cX6_numberedWord 33 = .ok (.iconst 1, 1) := by decide +kernel
theorem dX6_numberedWord_34 : decode cX6_numberedWord 34 = .ok (.ireturn, 1) := by decide +kernel
theorem dX6_take_0 : decode cX6_take 0 = .ok (.aload_n 0, 1) := by decide +kernel
theorem dX6_take_1 : decode cX6_take 1 = .ok (.aload_n 1, 1) := by decide +kernel
theorem dX6_take_2 : decode cX6_take 2 = .ok (.invokevirtual 75, 3) := by decide +kernel
theorem dX6_take_5 : decode cX6_take 5 = .ok (.iconst (-1), 1) := by decide +kernel
theorem dX6_take_6 : decode cX6_take 6 = .ok (.if_icmp .ne 5, 3) := by decide +kernel
theorem dX6_take_9 : decode cX6_take 9 = .ok (.iconst 0, 1) := by decide +kernel
theorem dX6_take_10 : decode cX6_take 10 = .ok (.ireturn, 1) := by decide +kernel
theorem dX6_take_11 : decode cX6_take 11 = .ok (.aload_n 0, 1) := by decide +kernel
theorem dX6_take_12 : decode cX6_take 12 = .ok (.invokevirtual 55, 3) := by decide +kernel
theorem dX6_take_15 : decode cX6_take 15 = .ok (.iconst 1, 1) := by decide +kernel
theorem dX6_take_16 : decode cX6_take 16 = .ok (.ireturn, 1) := by decide +kernel
theorem dX6_which_0 : decode cX6_which 0 = .ok (.iconst 0, 1) := by decide +kernel
theorem dX6_which_1 : decode cX6_which 1 = .ok (.istore_n 2, 1) := by decide +kernel
theorem dX6_which_2 : decode cX6_which 2 = .ok (.aload_n 0, 1) := by decide +kernel
theorem dX6_which_3 : decode cX6_which 3 = .ok (.getfield 62, 3) := by decide +kernel
theorem dX6_which_6 : decode cX6_which 6 = .ok (.istore_n 3, 1) := by decide +kernel
theorem dX6_which_7 : decode cX6_which 7 = .ok (.iconst 0, 1) := by decide +kernel
theorem dX6_which_8 : decode cX6_which 8 = .ok (.istore 4, 2) := by decide +kernel
theorem dX6_which_10 : decode cX6_which 10 = .ok (.iload 4, 2) := by decide +kernel
theorem dX6_which_12 : decode cX6_which 12 = .ok (.aload_n 1, 1) := by decide +kernel
theorem dX6_which_13 : decode cX6_which 13 = .ok (.invokevirtual 173, 3) := by decide +kernel
theorem dX6_which_16 : decode cX6_which 16 = .ok (.if_icmp .gt 111, 3) := by decide +kernel
theorem dX6_which_19 : decode cX6_which 19 = .ok (.iload 4, 2) := by decide +kernel
theorem dX6_which_21 : decode cX6_which 21 = .ok (.aload_n 1, 1) := by decide +kernel
theorem dX6_which_22 : decode cX6_which 22 = .ok (.invokevirtual 173, 3) := by decide +kernel
theorem dX6_which_25 : decode cX6_which 25 = .ok (.if_icmp .ge 12, 3) := by decide +kernel
theorem dX6_which_28 : decode cX6_which 28 = .ok (.aload_n 1, 1) := by decide +kernel
theorem dX6_which_29 : decode cX6_which 29 = .ok (.iload 4, 2) := by decide +kernel
theorem dX6_which_31 : decode cX6_which 31 = .ok (.invokevirtual 177, 3) := by decide +kernel
theorem dX6_which_34 : decode cX6_which 34 = .ok (.goto 5, 3) := by decide +kernel
theorem dX6_which_37 : decode cX6_which 37 = .ok (.bipush 32, 2) := by decide +kernel
theorem dX6_which_39 : decode cX6_which 39 = .ok (.istore 5, 2) := by decide +kernel
theorem dX6_which_41 : decode cX6_which 41 = .ok (.iload 5, 2) := by decide +kernel
theorem dX6_which_43 : decode cX6_which 43 = .ok (.bipush 32, 2) := by decide +kernel
theorem dX6_which_45 : decode cX6_which 45 = .ok (.if_icmp .eq 58, 3) := by decide +kernel
theorem dX6_which_48 : decode cX6_which 48 = .ok (.iload_n 3, 1) := by decide +kernel
theorem dX6_which_49 : decode cX6_which 49 = .ok (.ifCond .lt 35, 3) := by decide +kernel
theorem dX6_which_52 : decode cX6_which 52 = .ok (.iload_n 3, 1) := by decide +kernel
theorem dX6_which_53 : decode cX6_which 53 = .ok (.aload_n 0, 1) := by decide +kernel
theorem dX6_which_54 : decode cX6_which 54 = .ok (.getfield 52, 3) := by decide +kernel
theorem dX6_which_57 : decode cX6_which 57 = .ok (.if_icmp .ge 27, 3) := by decide +kernel
theorem dX6_which_60 : decode cX6_which 60 = .ok (.iload_n 3, 1) := by decide +kernel
theorem dX6_which_61 : decode cX6_which 61 = .ok (.aload_n 0, 1) := by decide +kernel
theorem dX6_which_62 : decode cX6_which 62 = .ok (.getfield 9, 3) := by decide +kernel
theorem dX6_which_65 : decode cX6_which 65 = .ok (.arraylength, 1) := by decide +kernel
theorem dX6_which_66 : decode cX6_which 66 = .ok (.if_icmp .ge 18, 3) := by decide +kernel
theorem dX6_which_69 : decode cX6_which 69 = .ok (.aload_n 0, 1) := by decide +kernel
theorem dX6_which_70 : decode cX6_which 70 = .ok (.getfield 9, 3) := by decide +kernel
theorem dX6_which_73 : decode cX6_which 73 = .ok (.iload_n 3, 1) := by decide +kernel
theorem dX6_which_74 : decode cX6_which 74 = .ok (.iaload, 1) := by decide +kernel
theorem dX6_which_75 : decode cX6_which 75 = .ok (.iload 5, 2) := by decide +kernel
theorem dX6_which_77 : decode cX6_which 77 = .ok (.if_icmp .ne 7, 3) := by decide +kernel
theorem dX6_which_80 : decode cX6_which 80 = .ok (.iconst 1, 1) := by decide +kernel
theorem dX6_which_81 : decode cX6_which 81 = .ok (.goto 4, 3) := by decide +kernel
theorem dX6_which_84 : decode cX6_which 84 = .ok (.iconst 0, 1) := by decide +kernel
theorem dX6_which_85 : decode cX6_which 85 = .ok (.istore 6, 2) := by decide +kernel
theorem dX6_which_87 : decode cX6_which 87 = .ok (.iload 6, 2) := by decide +kernel
theorem dX6_which_89 : decode cX6_which 89 = .ok (.ifCond .eq 9, 3) := by decide +kernel
theorem dX6_which_92 : decode cX6_which 92 = .ok (.iload_n 3, 1) := by decide +kernel
theorem dX6_which_93 : decode cX6_which 93 = .ok (.iconst 1, 1) := by decide +kernel
theorem dX6_which_94 : decode cX6_which 94 = .ok (.iadd, 1) := by decide +kernel
theorem dX6_which_95 : decode cX6_which 95 = .ok (.goto 4, 3) := by decide +kernel
theorem dX6_which_98 : decode cX6_which 98 = .ok (.iconst (-1), 1) := by decide +kernel
theorem dX6_which_99 : decode cX6_which 99 = .ok (.istore_n 3, 1) := by decide +kernel
theorem dX6_which_100 : decode cX6_which 100 = .ok (.goto 21, 3) := by decide +kernel
theorem dX6_which_103 : decode cX6_which 103 = .ok (.iload_n 3, 1) := by decide +kernel
theorem dX6_which_104 : decode cX6_which 104 = .ok (.aload_n 0, 1) := by decide +kernel
theorem dX6_which_105 : decode cX6_which 105 = .ok (.getfield 52, 3) := by decide +kernel
theorem dX6_which_108 : decode cX6_which 108 = .ok (.if_icmp .ne 5, 3) := by decide +kernel
theorem dX6_which_111 : decode cX6_which 111 = .ok (.iload_n 2, 1) := by decide +kernel
theorem dX6_which_112 : decode cX6_which 112 = .ok (.ireturn, 1) := by decide +kernel
theorem dX6_which_113 : decode cX6_which 113 = .ok (.iinc 2 1, 3) := by decide +kernel
theorem dX6_which_116 : decode cX6_which 116 = .ok (.aload_n 0, 1) := by decide +kernel
theorem dX6_which_117 : decode cX6_which 117 = .ok (.getfield 62, 3) := by decide +kernel
theorem dX6_which_120 : decode cX6_which 120 = .ok (.istore_n 3, 1) := by decide +kernel
theorem dX6_which_121 : decode cX6_which 121 = .ok (.iinc 4 1, 3) := by decide +kernel
theorem dX6_which_124 : decode cX6_which 124 = .ok (.goto (-114), 3) := by decide +kernel
theorem dX6_which_127 : decode cX6_which 127 = .ok (.iconst (-1), 1) := by decide +kernel
theorem dX6_which_128 : decode cX6_which 128 = .ok (.ireturn, 1) := by decide +kernel
theorem dX6_number_0 : decode cX6_number 0 = .ok (.aload_n 0, 1) := by decide +kernel
theorem dX6_number_1 : decode cX6_number 1 = .ok (.getfield 62, 3) := by decide +kernel
theorem dX6_number_4 : decode cX6_number 4 = .ok (.aload_n 0, 1) := by decide +kernel
theorem dX6_number_5 : decode cX6_number 5 = .ok (.getfield 26, 3) := by decide +kernel
theorem dX6_number_8 : decode cX6_number 8 = .ok (.if_icmp .ge 22, 3) := by decide +kernel
theorem dX6_number_11 : decode cX6_number 11 = .ok (.aload_n 0, 1) := by decide +kernel
theorem dX6_number_12 : decode cX6_number 12 = .ok (.getfield 9, 3) := by decide +kernel
theorem dX6_number_15 : decode cX6_number 15 = .ok (.aload_n 0, 1) := by decide +kernel
theorem dX6_number_16 : decode cX6_number 16 = .ok (.getfield 62, 3) := by decide +kernel
theorem dX6_number_19 : decode cX6_number 19 = .ok (.invokestatic 181, 3) := by decide +kernel
theorem dX6_number_22 : decode cX6_number 22 = .ok (.invokestatic 185, 3) := by decide +kernel
theorem dX6_number_25 : decode cX6_number 25 = .ok (.bipush 48, 2) := by decide +kernel
theorem dX6_number_27 : decode cX6_number 27 = .ok (.if_icmp .eq 5, 3) := by decide +kernel
theorem dX6_number_30 : decode cX6_number 30 = .ok (.iconst (-1), 1) := by decide +kernel
theorem dX6_number_31 : decode cX6_number 31 = .ok (.ireturn, 1) := by decide +kernel
theorem dX6_number_32 : decode cX6_number 32 = .ok (.iconst 0, 1) := by decide +kernel
theorem dX6_number_33 : decode cX6_number 33 = .ok (.istore_n 1, 1) := by decide +kernel
theorem dX6_number_34 : decode cX6_number 34 = .ok (.aload_n 0, 1) := by decide +kernel
theorem dX6_number_35 : decode cX6_number 35 = .ok (.getfield 62, 3) := by decide +kernel
theorem dX6_number_38 : decode cX6_number 38 = .ok (.istore_n 2, 1) := by decide +kernel
theorem dX6_number_39 : decode cX6_number 39 = .ok (.iload_n 2, 1) := by decide +kernel
theorem dX6_number_40 : decode cX6_number 40 = .ok (.aload_n 0, 1) := by decide +kernel
theorem dX6_number_41 : decode cX6_number 41 = .ok (.getfield 52, 3) := by decide +kernel
theorem dX6_number_44 : decode cX6_number 44 = .ok (.if_icmp .ge 32, 3) := by decide +kernel
theorem dX6_number_47 : decode cX6_number 47 = .ok (.iload_n 1, 1) := by decide +kernel
theorem dX6_number_48 : decode cX6_number 48 = .ok (.bipush 10, 2) := by decide +kernel
theorem dX6_number_50 : decode cX6_number 50 = .ok (.imul, 1) := by decide +kernel
theorem dX6_number_51 : decode cX6_number 51 = .ok (.aload_n 0, 1) := by decide +kernel
theorem dX6_number_52 : decode cX6_number 52 = .ok (.getfield 9, 3) := by decide +kernel
theorem dX6_number_55 : decode cX6_number 55 = .ok (.iload_n 2, 1) := by decide +kernel
theorem dX6_number_56 : decode cX6_number 56 = .ok (.invokestatic 181, 3) := by decide +kernel
theorem dX6_number_59 : decode cX6_number 59 = .ok (.iadd, 1) := by decide +kernel
theorem dX6_number_60 : decode cX6_number 60 = .ok (.bipush 48, 2) := by decide +kernel
theorem dX6_number_62 : decode cX6_number 62 = .ok (.isub, 1) := by decide +kernel
theorem dX6_number_63 : decode cX6_number 63 = .ok (.sipush 1001, 3) := by decide +kernel
theorem dX6_number_66 : decode cX6_number 66 = .ok (.invokestatic 33, 3) := by decide +kernel
theorem dX6_number_69 : decode cX6_number 69 = .ok (.istore_n 1, 1) := by decide +kernel
theorem dX6_number_70 : decode cX6_number 70 = .ok (.iinc 2 1, 3) := by decide +kernel
theorem dX6_number_73 : decode cX6_number 73 = .ok (.goto (-34), 3) := by decide +kernel
theorem dX6_number_76 : decode cX6_number 76 = .ok (.iload_n 1, 1) := by decide +kernel
theorem dX6_number_77 : decode cX6_number 77 = .ok (.ireturn, 1) := by decide +kernel
theorem dX6_advance_0 : decode cX6_advance 0 = .ok (.aload_n 0, 1) := by decide +kernel
theorem dX6_advance_1 : decode cX6_advance 1 = .ok (.aload_n 0, 1) := by decide +kernel
theorem dX6_advance_2 : decode cX6_advance 2 = .ok (.getfield 52, 3) := by decide +kernel
theorem dX6_advance_5 : decode cX6_advance 5 = .ok (.putfield 62, 3) := by decide +kernel
theorem dX6_advance_8 : decode cX6_advance 8 = .ok (.aload_n 0, 1) := by decide +kernel
theorem dX6_advance_9 : decode cX6_advance 9 = .ok (.getfield 62, 3) := by decide +kernel
theorem dX6_advance_12 : decode cX6_advance 12 = .ok (.aload_n 0, 1) := by decide +kernel
theorem dX6_advance_13 : decode cX6_advance 13 = .ok (.getfield 26, 3) := by decide +kernel
theorem dX6_advance_16 : decode cX6_advance 16 = .ok (.if_icmp .ge 32, 3) := by decide +kernel
theorem dX6_advance_19 : decode cX6_advance 19 = .ok (.aload_n 0, 1) := by decide +kernel
theorem dX6_advance_20 : decode cX6_advance 20 = .ok (.getfield 9, 3) := by decide +kernel
theorem dX6_advance_23 : decode cX6_advance 23 = .ok (.aload_n 0, 1) := by decide +kernel
theorem dX6_advance_24 : decode cX6_advance 24 = .ok (.getfield 62, 3) := by decide +kernel
theorem dX6_advance_27 : decode cX6_advance 27 = .ok (.invokestatic 181, 3) := by decide +kernel
theorem dX6_advance_30 : decode cX6_advance 30 = .ok (.bipush 32, 2) := by decide +kernel
theorem dX6_advance_32 : decode cX6_advance 32 = .ok (.if_icmp .ne 16, 3) := by decide +kernel
theorem dX6_advance_35 : decode cX6_advance 35 = .ok (.aload_n 0, 1) := by decide +kernel
theorem dX6_advance_36 : decode cX6_advance 36 = .ok (.dup, 1) := by decide +kernel
theorem dX6_advance_37 : decode cX6_advance 37 = .ok (.getfield 62, 3) := by decide +kernel
theorem dX6_advance_40 : decode cX6_advance 40 = .ok (.iconst 1, 1) := by decide +kernel
theorem dX6_advance_41 : decode cX6_advance 41 = .ok (.iadd, 1) := by decide +kernel
theorem dX6_advance_42 : decode cX6_advance 42 = .ok (.putfield 62, 3) := by decide +kernel
theorem dX6_advance_45 : decode cX6_advance 45 = .ok (.goto (-37), 3) := by decide +kernel
theorem dX6_advance_48 : decode cX6_advance 48 = .ok (.aload_n 0, 1) := by decide +kernel
theorem dX6_advance_49 : decode cX6_advance 49 = .ok (.aload_n 0, 1) := by decide +kernel
theorem dX6_advance_50 : decode cX6_advance 50 = .ok (.getfield 26, 3) := by decide +kernel
theorem dX6_advance_53 : decode cX6_advance 53 = .ok (.aload_n 0, 1) := by decide +kernel
theorem dX6_advance_54 : decode cX6_advance 54 = .ok (.getfield 62, 3) := by decide +kernel
theorem dX6_advance_57 : decode cX6_advance 57 = .ok (.iconst 1, 1) := by decide +kernel
theorem dX6_advance_58 : decode cX6_advance 58 = .ok (.iadd, 1) := by decide +kernel
theorem dX6_advance_59 : decode cX6_advance 59 = .ok (.invokestatic 33, 3) := by decide +kernel
theorem dX6_advance_62 : decode cX6_advance 62 = .ok (.putfield 52, 3) := by decide +kernel
theorem dX6_advance_65 : decode cX6_advance 65 = .ok (.aload_n 0, 1) := by decide +kernel
theorem dX6_advance_66 : decode cX6_advance 66 = .ok (.getfield 9, 3) := by decide +kernel
theorem dX6_advance_69 : decode cX6_advance 69 = .ok (.aload_n 0, 1) := by decide +kernel
theorem dX6_advance_70 : decode cX6_advance 70 = .ok (.getfield 62, 3) := by decide +kernel
theorem dX6_advance_73 : decode cX6_advance 73 = .ok (.invokestatic 181, 3) := by decide +kernel
theorem dX6_advance_76 : decode cX6_advance 76 = .ok (.invokestatic 185, 3) := by decide +kernel
theorem dX6_advance_79 : decode cX6_advance 79 = .ok (.istore_n 1, 1) := by decide +kernel
theorem dX6_advance_80 : decode cX6_advance 80 = .ok (.iload_n 1, 1) := by decide +kernel
theorem dX6_advance_81 : decode cX6_advance 81 = .ok (.bipush 32, 2) := by decide +kernel
theorem dX6_advance_83 : decode cX6_advance 83 = .ok (.if_icmp .eq 45, 3) := by decide +kernel
theorem dX6_advance_86 : decode cX6_advance 86 = .ok (.aload_n 0, 1) := by decide +kernel
theorem dX6_advance_87 : decode cX6_advance 87 = .ok (.getfield 52, 3) := by decide +kernel
theorem dX6_advance_90 : decode cX6_advance 90 = .ok (.aload_n 0, 1) := by decide +kernel
theorem dX6_advance_91 : decode cX6_advance 91 = .ok (.getfield 26, 3) := by decide +kernel
theorem dX6_advance_94 : decode cX6_advance 94 = .ok (.if_icmp .ge 34, 3) := by decide +kernel
theorem dX6_advance_97 : decode cX6_advance 97 = .ok (.aload_n 0, 1) := by decide +kernel
theorem dX6_advance_98 : decode cX6_advance 98 = .ok (.getfield 9, 3) := by decide +kernel
theorem dX6_advance_101 : decode cX6_advance 101 = .ok (.aload_n 0, 1) := by decide +kernel
theorem dX6_advance_102 : decode cX6_advance 102 = .ok (.getfield 52, 3) := by decide +kernel
theorem dX6_advance_105 : decode cX6_advance 105 = .ok (.invokestatic 181, 3) := by decide +kernel
theorem dX6_advance_108 : decode cX6_advance 108 = .ok (.invokestatic 185, 3) := by decide +kernel
theorem dX6_advance_111 : decode cX6_advance 111 = .ok (.iload_n 1, 1) := by decide +kernel
theorem dX6_advance_112 : decode cX6_advance 112 = .ok (.if_icmp .ne 16, 3) := by decide +kernel
theorem dX6_advance_115 : decode cX6_advance 115 = .ok (.aload_n 0, 1) := by decide +kernel
theorem dX6_advance_116 : decode cX6_advance 116 = .ok (.dup, 1) := by decide +kernel
theorem dX6_advance_117 : decode cX6_advance 117 = .ok (.getfield 52, 3) := by decide +kernel
theorem dX6_advance_120 : decode cX6_advance 120 = .ok (.iconst 1, 1) := by decide +kernel
theorem dX6_advance_121 : decode cX6_advance 121 = .ok (.iadd, 1) := by decide +kernel
theorem dX6_advance_122 : decode cX6_advance 122 = .ok (.putfield 52, 3) := by decide +kernel
theorem dX6_advance_125 : decode cX6_advance 125 = .ok (.goto (-45), 3) := by decide +kernel
theorem dX6_advance_128 : decode cX6_advance 128 = .ok (.return_, 1) := by decide +kernel
theorem dX6_kindOf_0 : decode cX6_kindOf 0 = .ok (.iload_n 0, 1) := by decide +kernel
theorem dX6_kindOf_1 : decode cX6_kindOf 1 = .ok (.bipush 97, 2) := by decide +kernel
theorem dX6_kindOf_3 : decode cX6_kindOf 3 = .ok (.if_icmp .lt 12, 3) := by decide +kernel
theorem dX6_kindOf_6 : decode cX6_kindOf 6 = .ok (.iload_n 0, 1) := by decide +kernel
theorem dX6_kindOf_7 : decode cX6_kindOf 7 = .ok (.bipush 122, 2) := by decide +kernel
theorem dX6_kindOf_9 : decode cX6_kindOf 9 = .ok (.if_icmp .gt 6, 3) := by decide +kernel
theorem dX6_kindOf_12 : decode cX6_kindOf 12 = .ok (.bipush 97, 2) := by decide +kernel
theorem dX6_kindOf_14 : decode cX6_kindOf 14 = .ok (.ireturn, 1) := by decide +kernel
theorem dX6_kindOf_15 : decode cX6_kindOf 15 = .ok (.iload_n 0, 1) := by decide +kernel
theorem dX6_kindOf_16 : decode cX6_kindOf 16 = .ok (.bipush 48, 2) := by decide +kernel
theorem dX6_kindOf_18 : decode cX6_kindOf 18 = .ok (.if_icmp .lt 14, 3) := by decide +kernel
theorem dX6_kindOf_21 : decode cX6_kindOf 21 = .ok (.iload_n 0, 1) := by decide +kernel
theorem dX6_kindOf_22 : decode cX6_kindOf 22 = .ok (.bipush 57, 2) := by decide +kernel
theorem dX6_kindOf_24 : decode cX6_kindOf 24 = .ok (.if_icmp .gt 8, 3) := by decide +kernel
theorem dX6_kindOf_27 : decode cX6_kindOf 27 = .ok (.bipush 48, 2) := by decide +kernel
theorem dX6_kindOf_29 : decode cX6_kindOf 29 = .ok (.goto 5, 3) := by decide +kernel
theorem dX6_kindOf_32 : decode cX6_kindOf 32 = .ok (.bipush 32, 2) := by decide +kernel
theorem dX6_kindOf_34 : decode cX6_kindOf 34 = .ok (.ireturn, 1) := by decide +kernel
theorem dX7_init_0 : decode cX7_init 0 = .ok (.aload_n 0, 1) := by decide +kernel
theorem dX7_init_1 : decode cX7_init 1 = .ok (.invokespecial 3, 3) := by decide +kernel
theorem dX7_init_4 : decode cX7_init 4 = .ok (.aload_n 0, 1) := by decide +kernel
theorem dX7_init_5 : decode cX7_init 5 = .ok (.bipush 50, 2) := by decide +kernel
theorem dX7_init_7 : decode cX7_init 7 = .ok (.newarray .int, 2) := by decide +kernel
theorem dX7_init_9 : decode cX7_init 9 = .ok (.putfield 9, 3) := by decide +kernel
theorem dX7_init_12 : decode cX7_init 12 = .ok (.return_, 1) := by decide +kernel
theorem dX7_reckon_0 : decode cX7_reckon 0 = .ok (.iload_n 2, 1) := by decide +kernel
theorem dX7_reckon_1 : decode cX7_reckon 1 = .ok (.ifCond .ge 10, 3) := by decide +kernel
theorem dX7_reckon_4 : decode cX7_reckon 4 = .ok (.aload_n 0, 1) := by decide +kernel
theorem dX7_reckon_5 : decode cX7_reckon 5 = .ok (.iconst 1, 1) := by decide +kernel
theorem dX7_reckon_6 : decode cX7_reckon 6 = .ok (.putfield 15, 3) := by decide +kernel
theorem dX7_reckon_9 : decode cX7_reckon 9 = .ok (.iconst 1, 1) := by decide +kernel
theorem dX7_reckon_10 : decode cX7_reckon 10 = .ok (.ireturn, 1) := by decide +kernel
theorem dX7_reckon_11 : decode cX7_reckon 11 = .ok (.aload_n 0, 1) := by decide +kernel
theorem dX7_reckon_12 : decode cX7_reckon 12 = .ok (.iconst 0, 1) := by decide +kernel
theorem dX7_reckon_13 : decode cX7_reckon 13 = .ok (.putfield 19, 3) := by decide +kernel
theorem dX7_reckon_16 : decode cX7_reckon 16 = .ok (.iload_n 2, 1) := by decide +kernel
theorem dX7_reckon_17 : decode cX7_reckon 17 = .ok (.istore 4, 2) := by decide +kernel
theorem dX7_reckon_19 : decode cX7_reckon 19 = .ok (.iload 4, 2) := by decide +kernel
theorem dX7_reckon_21 : decode cX7_reckon 21 = .ok (.aload_n 1, 1) := by decide +kernel
theorem dX7_reckon_22 : decode cX7_reckon 22 = .ok (.arraylength, 1) := by decide +kernel
theorem dX7_reckon_23 : decode cX7_reckon 23 = .ok (.if_icmp .ge 193, 3) := by decide +kernel
theorem dX7_reckon_26 : decode cX7_reckon 26 = .ok (.aload_n 1, 1) := by decide +kernel
theorem dX7_reckon_27 : decode cX7_reckon 27 = .ok (.iload 4, 2) := by decide +kernel
theorem dX7_reckon_29 : decode cX7_reckon 29 = .ok (.iaload, 1) := by decide +kernel
theorem dX7_reckon_30 : decode cX7_reckon 30 = .ok (.bipush 10, 2) := by decide +kernel
theorem dX7_reckon_32 : decode cX7_reckon 32 = .ok (.ishr, 1) := by decide +kernel
theorem dX7_reckon_33 : decode cX7_reckon 33 = .ok (.istore 5, 2) := by decide +kernel
theorem dX7_reckon_35 : decode cX7_reckon 35 = .ok (.aload_n 1, 1) := by decide +kernel
theorem dX7_reckon_36 : decode cX7_reckon 36 = .ok (.iload 4, 2) := by decide +kernel
theorem dX7_reckon_38 : decode cX7_reckon 38 = .ok (.iaload, 1) := by decide +kernel
theorem dX7_reckon_39 : decode cX7_reckon 39 = .ok (.sipush 1023, 3) := by decide +kernel
theorem dX7_reckon_42 : decode cX7_reckon 42 = .ok (.iand, 1) := by decide +kernel
theorem dX7_reckon_43 : decode cX7_reckon 43 = .ok (.istore 6, 2) := by decide +kernel
theorem dX7_reckon_45 : decode cX7_reckon 45 = .ok (.iinc 4 1, 3) := by decide +kernel
theorem dX7_reckon_48 : decode cX7_reckon 48 = .ok (.iload 5, 2) := by decide +kernel
theorem dX7_reckon_50 : decode cX7_reckon 50 = .ok (.ifCond .ne 13, 3) := by decide +kernel
theorem dX7_reckon_53 : decode cX7_reckon 53 = .ok (.aload_n 0, 1) := by decide +kernel
theorem dX7_reckon_54 : decode cX7_reckon 54 = .ok (.aload_n 0, 1) := by decide +kernel
theorem dX7_reckon_55 : decode cX7_reckon 55 = .ok (.invokevirtual 22, 3) := by decide +kernel
theorem dX7_reckon_58 : decode cX7_reckon 58 = .ok (.putfield 15, 3) := by decide +kernel
theorem dX7_reckon_61 : decode cX7_reckon 61 = .ok (.iconst 1, 1) := by decide +kernel
theorem dX7_reckon_62 : decode cX7_reckon 62 = .ok (.ireturn, 1) := by decide +kernel
theorem dX7_reckon_63 : decode cX7_reckon 63 = .ok (.iload 5, 2) := by decide +kernel
theorem dX7_reckon_65 : decode cX7_reckon 65 = .ok (.iconst 4, 1) := by decide +kernel
theorem dX7_reckon_66 : decode cX7_reckon 66 = .ok (.if_icmp .eq 9, 3) := by decide +kernel
theorem dX7_reckon_69 : decode cX7_reckon 69 = .ok (.iload 5, 2) := by decide +kernel
theorem dX7_reckon_71 : decode cX7_reckon 71 = .ok (.iconst 5, 1) := by decide +kernel
theorem dX7_reckon_72 : decode cX7_reckon 72 = .ok (.if_icmp .ne 43, 3) := by decide +kernel
theorem dX7_reckon_75 : decode cX7_reckon 75 = .ok (.aload_n 0, 1) := by decide +kernel
theorem dX7_reckon_76 : decode cX7_reckon 76 = .ok (.invokevirtual 22, 3) := by decide +kernel
theorem dX7_reckon_79 : decode cX7_reckon 79 = .ok (.istore 7, 2) := by decide +kernel
theorem dX7_reckon_81 : decode cX7_reckon 81 = .ok (.iload 7, 2) := by decide +kernel
theorem dX7_reckon_83 : decode cX7_reckon 83 = .ok (.iload 5, 2) := by decide +kernel
theorem dX7_reckon_85 : decode cX7_reckon 85 = .ok (.iconst 4, 1) := by decide +kernel
theorem dX7_reckon_86 : decode cX7_reckon 86 = .ok (.if_icmp .ne 7, 3) := by decide +kernel
theorem dX7_reckon_89 : decode cX7_reckon 89 = .ok (.iconst 1, 1) := by decide +kernel
theorem dX7_reckon_90 : decode cX7_reckon 90 = .ok (.goto 4, 3) := by decide +kernel
theorem dX7_reckon_93 : decode cX7_reckon 93 = .ok (.iconst 0, 1) := by decide +kernel
theorem dX7_reckon_94 : decode cX7_reckon 94 = .ok (.if_icmp .ne 18, 3) := by decide +kernel
theorem dX7_reckon_97 : decode cX7_reckon 97 = .ok (.aload_n 0, 1) := by decide +kernel
theorem dX7_reckon_98 : decode cX7_reckon 98 = .ok (.iload 7, 2) := by decide +kernel
theorem dX7_reckon_100 : decode cX7_reckon 100 = .ok (.invokevirtual 26, 3) := by decide +kernel
theorem dX7_reckon_103 : decode cX7_reckon 103 = .ok (.iload 4, 2) := by decide +kernel
theorem dX7_reckon_105 : decode cX7_reckon 105 = .ok (.iload 6, 2) := by decide +kernel
theorem dX7_reckon_107 : decode cX7_reckon 107 = .ok (.invokestatic 30, 3) := by decide +kernel
theorem dX7_reckon_110 : decode cX7_reckon 110 = .ok (.istore 4, 2) := by decide +kernel
theorem dX7_reckon_112 : decode cX7_reckon 112 = .ok (.goto 101, 3) := by decide +kernel
theorem dX7_reckon_115 : decode cX7_reckon 115 = .ok (.iload 5, 2) := by decide +kernel
theorem dX7_reckon_117 : decode cX7_reckon 117 = .ok (.bipush 6, 2) := by decide +kernel
theorem dX7_reckon_119 : decode cX7_reckon 119 = .ok (.if_icmp .lt 54, 3) := by decide +kernel
theorem dX7_reckon_122 : decode cX7_reckon 122 = .ok (.aload_n 0, 1) := by decide +kernel
theorem dX7_reckon_123 : decode cX7_reckon 123 = .ok (.invokevirtual 22, 3) := by decide +kernel
theorem dX7_reckon_126 : decode cX7_reckon 126 = .ok (.istore 7, 2) := by decide +kernel
theorem dX7_reckon_128 : decode cX7_reckon 128 = .ok (.iload 5, 2) := by decide +kernel
theorem dX7_reckon_130 : decode cX7_reckon 130 = .ok (.aload_n 0, 1) := by decide +kernel
theorem dX7_reckon_131 : decode cX7_reckon 131 = .ok (.invokevirtual 22, 3) := by decide +kernel
theorem dX7_reckon_134 : decode cX7_reckon 134 = .ok (.i2l, 1) := by decide +kernel
theorem dX7_reckon_135 : decode cX7_reckon 135 = .ok (.iload 7, 2) := by decide +kernel
theorem dX7_reckon_137 : decode cX7_reckon 137 = .ok (.i2l, 1) := by decide +kernel
theorem dX7_reckon_138 : decode cX7_reckon 138 = .ok (.invokestatic 36, 3) := by decide +kernel
theorem dX7_reckon_141 : decode cX7_reckon 141 = .ok (.lstore 8, 2) := by decide +kernel
theorem dX7_reckon_143 : decode cX7_reckon 143 = .ok (.lload 8, 2) := by decide +kernel
theorem dX7_reckon_145 : decode cX7_reckon 145 = .ok (.ldc2_w 40, 3) := by decide +kernel
theorem dX7_reckon_148 : decode cX7_reckon 148 = .ok (.lcmp, 1) := by decide +kernel
theorem dX7_reckon_149 : decode cX7_reckon 149 = .ok (.ifCond .gt 12, 3) := by decide +kernel
theorem dX7_reckon_152 : decode cX7_reckon 152 = .ok (.lload 8, 2) := by decide +kernel
theorem dX7_reckon_154 : decode cX7_reckon 154 = .ok (.ldc2_w 42, 3) := by decide +kernel
theorem dX7_reckon_157 : decode cX7_reckon 157 = .ok (.lcmp, 1) := by decide +kernel
theorem dX7_reckon_158 : decode cX7_reckon 158 = .ok (.ifCond .ge 5, 3) := by decide +kernel
theorem dX7_reckon_161 : decode cX7_reckon 161 = .ok (.iconst 0, 1) := by decide +kernel
theorem dX7_reckon_162 : decode cX7_reckon 162 = .ok (.ireturn, 1) := by decide +kernel
theorem dX7_reckon_163 : decode cX7_reckon 163 = .ok (.aload_n 0, 1) := by decide +kernel
theorem dX7_reckon_164 : decode cX7_reckon 164 = .ok (.lload 8, 2) := by decide +kernel
theorem dX7_reckon_166 : decode cX7_reckon 166 = .ok (.l2i, 1) := by decide +kernel
theorem dX7_reckon_167 : decode cX7_reckon 167 = .ok (.invokevirtual 26, 3) := by decide +kernel
theorem dX7_reckon_170 : decode cX7_reckon 170 = .ok (.goto 43, 3) := by decide +kernel
theorem dX7_reckon_173 : decode cX7_reckon 173 = .ok (.iload 5, 2) := by decide +kernel
theorem dX7_reckon_175 : decode cX7_reckon 175 = .ok (.iconst 3, 1) := by decide +kernel
theorem dX7_reckon_176 : decode cX7_reckon 176 = .ok (.if_icmp .ne 16, 3) := by decide +kernel
theorem dX7_reckon_179 : decode cX7_reckon 179 = .ok (.aload_n 0, 1) := by decide +kernel
theorem dX7_reckon_180 : decode cX7_reckon 180 = .ok (.iconst 1, 1) := by decide +kernel
theorem dX7_reckon_181 : decode cX7_reckon 181 = .ok (.aload_n 0, 1) := by decide +kernel
theorem dX7_reckon_182 : decode cX7_reckon 182 = .ok (.invokevirtual 22, 3) := by decide +kernel
theorem dX7_reckon_185 : decode cX7_reckon 185 = .ok (.isub, 1) := by decide +kernel
theorem dX7_reckon_186 : decode cX7_reckon 186 = .ok (.invokevirtual 26, 3) := by decide +kernel
theorem dX7_reckon_189 : decode cX7_reckon 189 = .ok (.goto 24, 3) := by decide +kernel
theorem dX7_reckon_192 : decode cX7_reckon 192 = .ok (.aload_n 0, 1) := by decide +kernel
theorem dX7_reckon_193 : decode cX7_reckon 193 = .ok (.iload 5, 2) := by decide +kernel
theorem dX7_reckon_195 : decode cX7_reckon 195 = .ok (.iconst 2, 1) := by decide +kernel
theorem dX7_reckon_196 : decode cX7_reckon 196 = .ok (.if_icmp .ne 12, 3) := by decide +kernel
theorem dX7_reckon_199 : decode cX7_reckon 199 = .ok (.aload_n 3, 1) := by decide +kernel
theorem dX7_reckon_200 : decode cX7_reckon 200 = .ok (.iload 6, 2) := by decide +kernel
theorem dX7_reckon_202 : decode cX7_reckon 202 = .ok (.invokestatic 44, 3) := by decide +kernel
theorem dX7_reckon_205 : decode cX7_reckon 205 = .ok (.goto 5, 3) := by decide +kernel
theorem dX7_reckon_208 : decode cX7_reckon 208 = .ok (.iload 6, 2) := by decide +kernel
theorem dX7_reckon_210 : decode cX7_reckon 210 = .ok (.invokevirtual 26, 3) := by decide +kernel
theorem dX7_reckon_213 : decode cX7_reckon 213 = .ok (.goto (-194), 3) := by decide +kernel
theorem dX7_reckon_216 : decode cX7_reckon 216 = .ok (.iconst 0, 1) := by decide +kernel
theorem dX7_reckon_217 : decode cX7_reckon 217 = .ok (.ireturn, 1) := by decide +kernel
theorem dX7_push_0 : decode cX7_push 0 = .ok (.aload_n 0, 1) := by decide +kernel
theorem dX7_push_1 : decode cX7_push 1 = .ok (.getfield 19, 3) := by decide +kernel
theorem dX7_push_4 : decode cX7_push 4 = .ok (.ifCond .lt 35, 3) := by decide +kernel
theorem dX7_push_7 : decode cX7_push 7 = .ok (.aload_n 0, 1) := by decide +kernel
theorem dX7_push_8 : decode cX7_push 8 = .ok (.getfield 19, 3) := by decide +kernel
theorem dX7_push_11 : decode cX7_push 11 = .ok (.aload_n 0, 1) := by decide +kernel
theorem dX7_push_12 : decode cX7_push 12 = .ok (.getfield 9, 3) := by decide +kernel
theorem dX7_push_15 : decode cX7_push 15 = .ok (.arraylength, 1) := by decide +kernel
theorem dX7_push_16 : decode cX7_push 16 = .ok (.if_icmp .ge 23, 3) := by decide +kernel
theorem dX7_push_19 : decode cX7_push 19 = .ok (.aload_n 0, 1) := by decide +kernel
theorem dX7_push_20 : decode cX7_push 20 = .ok (.getfield 9, 3) := by decide +kernel
theorem dX7_push_23 : decode cX7_push 23 = .ok (.aload_n 0, 1) := by decide +kernel
theorem dX7_push_24 : decode cX7_push 24 = .ok (.getfield 19, 3) := by decide +kernel
theorem dX7_push_27 : decode cX7_push 27 = .ok (.iload_n 1, 1) := by decide +kernel
theorem dX7_push_28 : decode cX7_push 28 = .ok (.iastore, 1) := by decide +kernel
theorem dX7_push_29 : decode cX7_push 29 = .ok (.aload_n 0, 1) := by decide +kernel
theorem dX7_push_30 : decode cX7_push 30 = .ok (.dup, 1) := by decide +kernel
theorem dX7_push_31 : decode cX7_push 31 = .ok (.getfield 19, 3) := by decide +kernel
theorem dX7_push_34 : decode cX7_push 34 = .ok (.iconst 1, 1) := by decide +kernel
theorem dX7_push_35 : decode cX7_push 35 = .ok (.iadd, 1) := by decide +kernel
theorem dX7_push_36 : decode cX7_push 36 = .ok (.putfield 19, 3) := by decide +kernel
theorem dX7_push_39 : decode cX7_push 39 = .ok (.return_, 1) := by decide +kernel
theorem dX7_pop_0 : decode cX7_pop 0 = .ok (.aload_n 0, 1) := by decide +kernel
theorem dX7_pop_1 : decode cX7_pop 1 = .ok (.getfield 19, 3) := by decide +kernel
theorem dX7_pop_4 : decode cX7_pop 4 = .ok (.ifCond .le 15, 3) := by decide +kernel
theorem dX7_pop_7 : decode cX7_pop 7 = .ok (.aload_n 0, 1) := by decide +kernel
theorem dX7_pop_8 : decode cX7_pop 8 = .ok (.getfield 19, 3) := by decide +kernel
theorem dX7_pop_11 : decode cX7_pop 11 = .ok (.aload_n 0, 1) := by decide +kernel
theorem dX7_pop_12 : decode cX7_pop 12 = .ok (.getfield 9, 3) := by decide +kernel
theorem dX7_pop_15 : decode cX7_pop 15 = .ok (.arraylength, 1) := by decide +kernel
theorem dX7_pop_16 : decode cX7_pop 16 = .ok (.if_icmp .le 5, 3) := by decide +kernel
theorem dX7_pop_19 : decode cX7_pop 19 = .ok (.iconst 0, 1) := by decide +kernel
theorem dX7_pop_20 : decode cX7_pop 20 = .ok (.ireturn, 1) := by decide +kernel
theorem dX7_pop_21 : decode cX7_pop 21 = .ok (.aload_n 0, 1) := by decide +kernel
theorem dX7_pop_22 : decode cX7_pop 22 = .ok (.dup, 1) := by decide +kernel
theorem dX7_pop_23 : decode cX7_pop 23 = .ok (.getfield 19, 3) := by decide +kernel
theorem dX7_pop_26 : decode cX7_pop 26 = .ok (.iconst 1, 1) := by decide +kernel
theorem dX7_pop_27 : decode cX7_pop 27 = .ok (.isub, 1) := by decide +kernel
theorem dX7_pop_28 : decode cX7_pop 28 = .ok (.putfield 19, 3) := by decide +kernel
theorem dX7_pop_31 : decode cX7_pop 31 = .ok (.aload_n 0, 1) := by decide +kernel
theorem dX7_pop_32 : decode cX7_pop 32 = .ok (.getfield 9, 3) := by decide +kernel
theorem dX7_pop_35 : decode cX7_pop 35 = .ok (.aload_n 0, 1) := by decide +kernel
theorem dX7_pop_36 : decode cX7_pop 36 = .ok (.getfield 19, 3) := by decide +kernel
theorem dX7_pop_39 : decode cX7_pop 39 = .ok (.iaload, 1) := by decide +kernel
theorem dX7_pop_40 : decode cX7_pop 40 = .ok (.ireturn, 1) := by decide +kernel
theorem dX7_join_0 : decode cX7_join 0 = .ok (.iload_n 0, 1) := by decide +kernel
theorem dX7_join_1 : decode cX7_join 1 = .ok (.tableswitch 127 6 13 #[47, 51, 55, 59, 75, 91, 103, 115], 47) := by decide +kernel
theorem dX7_join_48 : decode cX7_join 48 = .ok (.lload_n 1, 1) := by decide +kernel
theorem dX7_join_49 : decode cX7_join 49 = .ok (.lload_n 3, 1) := by decide +kernel
theorem dX7_join_50 : decode cX7_join 50 = .ok (.ladd, 1) := by decide +kernel
theorem dX7_join_51 : decode cX7_join 51 = .ok (.lreturn, 1) := by decide +kernel
theorem dX7_join_52 : decode cX7_join 52 = .ok (.lload_n 1, 1) := by decide +kernel
theorem dX7_join_53 : decode cX7_join 53 = .ok (.lload_n 3, 1) := by decide +kernel
theorem dX7_join_54 : decode cX7_join 54 = .ok (.lsub, 1) := by decide +kernel
theorem dX7_join_55 : decode cX7_join 55 = .ok (.lreturn, 1) := by decide +kernel
theorem dX7_join_56 : decode cX7_join 56 = .ok (.lload_n 1, 1) := by decide +kernel
theorem dX7_join_57 : decode cX7_join 57 = .ok (.lload_n 3, 1) := by decide +kernel
theorem dX7_join_58 : decode cX7_join 58 = .ok (.lmul, 1) := by decide +kernel
theorem dX7_join_59 : decode cX7_join 59 = .ok (.lreturn, 1) := by decide +kernel
theorem dX7_join_60 : decode cX7_join 60 = .ok (.lload_n 3, 1) := by decide +kernel
theorem dX7_join_61 : decode cX7_join 61 = .ok (.lconst 0, 1) := by decide +kernel
theorem dX7_join_62 : decode cX7_join 62 = .ok (.lcmp, 1) := by decide +kernel
theorem dX7_join_63 : decode cX7_join 63 = .ok (.ifCond .ne 9, 3) := by decide +kernel
theorem dX7_join_66 : decode cX7_join 66 = .ok (.ldc2_w 48, 3) := by decide +kernel
theorem dX7_join_69 : decode cX7_join 69 = .ok (.goto 6, 3) := by decide +kernel
theorem dX7_join_72 : decode cX7_join 72 = .ok (.lload_n 1, 1) := by decide +kernel
theorem dX7_join_73 : decode cX7_join 73 = .ok (.lload_n 3, 1) := by decide +kernel
theorem dX7_join_74 : decode cX7_join 74 = .ok (.ldiv, 1) := by decide +kernel
theorem dX7_join_75 : decode cX7_join 75 = .ok (.lreturn, 1) := by decide +kernel
theorem dX7_join_76 : decode cX7_join 76 = .ok (.lload_n 3, 1) := by decide +kernel
theorem dX7_join_77 : decode cX7_join 77 = .ok (.lconst 0, 1) := by decide +kernel
theorem dX7_join_78 : decode cX7_join 78 = .ok (.lcmp, 1) := by decide +kernel
theorem dX7_join_79 : decode cX7_join 79 = .ok (.ifCond .ne 9, 3) := by decide +kernel
theorem dX7_join_82 : decode cX7_join 82 = .ok (.ldc2_w 48, 3) := by decide +kernel
theorem dX7_join_85 : decode cX7_join 85 = .ok (.goto 6, 3) := by decide +kernel
theorem dX7_join_88 : decode cX7_join 88 = .ok (.lload_n 1, 1) := by decide +kernel
theorem dX7_join_89 : decode cX7_join 89 = .ok (.lload_n 3, 1) := by decide +kernel
theorem dX7_join_90 : decode cX7_join 90 = .ok (.lrem, 1) := by decide +kernel
theorem dX7_join_91 : decode cX7_join 91 = .ok (.lreturn, 1) := by decide +kernel
theorem dX7_join_92 : decode cX7_join 92 = .ok (.lload_n 1, 1) := by decide +kernel
theorem dX7_join_93 : decode cX7_join 93 = .ok (.lload_n 3, 1) := by decide +kernel
theorem dX7_join_94 : decode cX7_join 94 = .ok (.lcmp, 1) := by decide +kernel
theorem dX7_join_95 : decode cX7_join 95 = .ok (.ifCond .ge 7, 3) := by decide +kernel
theorem dX7_join_98 : decode cX7_join 98 = .ok (.lconst 1, 1) := by decide +kernel
theorem dX7_join_99 : decode cX7_join 99 = .ok (.goto 4, 3) := by decide +kernel
theorem dX7_join_102 : decode cX7_join 102 = .ok (.lconst 0, 1) := by decide +kernel
theorem dX7_join_103 : decode cX7_join 103 = .ok (.lreturn, 1) := by decide +kernel
theorem dX7_join_104 : decode cX7_join 104 = .ok (.lload_n 1, 1) := by decide +kernel
theorem dX7_join_105 : decode cX7_join 105 = .ok (.lload_n 3, 1) := by decide +kernel
theorem dX7_join_106 : decode cX7_join 106 = .ok (.lcmp, 1) := by decide +kernel
theorem dX7_join_107 : decode cX7_join 107 = .ok (.ifCond .le 7, 3) := by decide +kernel
theorem dX7_join_110 : decode cX7_join 110 = .ok (.lconst 1, 1) := by decide +kernel
theorem dX7_join_111 : decode cX7_join 111 = .ok (.goto 4, 3) := by decide +kernel
theorem dX7_join_114 : decode cX7_join 114 = .ok (.lconst 0, 1) := by decide +kernel
theorem dX7_join_115 : decode cX7_join 115 = .ok (.lreturn, 1) := by decide +kernel
theorem dX7_join_116 : decode cX7_join 116 = .ok (.lload_n 1, 1) := by decide +kernel
theorem dX7_join_117 : decode cX7_join 117 = .ok (.lload_n 3, 1) := by decide +kernel
theorem dX7_join_118 : decode cX7_join 118 = .ok (.lcmp, 1) := by decide +kernel
theorem dX7_join_119 : decode cX7_join 119 = .ok (.ifCond .ne 7, 3) := by decide +kernel
theorem dX7_join_122 : decode cX7_join 122 = .ok (.lconst 1, 1) := by decide +kernel
theorem dX7_join_123 : decode cX7_join 123 = .ok (.goto 4, 3) := by decide +kernel
theorem dX7_join_126 : decode cX7_join 126 = .ok (.lconst 0, 1) := by decide +kernel
theorem dX7_join_127 : decode cX7_join 127 = .ok (.lreturn, 1) := by decide +kernel
theorem dX7_join_128 : decode cX7_join 128 = .ok (.ldc2_w 48, 3) := by decide +kernel
theorem dX7_join_131 : decode cX7_join 131 = .ok (.lreturn, 1) := by decide +kernel
theorem dX8_init_0 : decode cX8_init 0 = .ok (.aload_n 0, 1) := by decide +kernel
theorem dX8_init_1 : decode cX8_init 1 = .ok (.invokespecial 3, 3) := by decide +kernel
theorem dX8_init_4 : decode cX8_init 4 = .ok (.aload_n 0, 1) := by decide +kernel
theorem dX8_init_5 : decode cX8_init 5 = .ok (.bipush 16, 2) := by decide +kernel
theorem dX8_init_7 : decode cX8_init 7 = .ok (.newarray .int, 2) := by decide +kernel
theorem dX8_init_9 : decode cX8_init 9 = .ok (.putfield 9, 3) := by decide +kernel
theorem dX8_init_12 : decode cX8_init 12 = .ok (.aload_n 0, 1) := by decide +kernel
theorem dX8_init_13 : decode cX8_init 13 = .ok (.bipush 16, 2) := by decide +kernel
theorem dX8_init_15 : decode cX8_init 15 = .ok (.newarray .int, 2) := by decide +kernel
theorem dX8_init_17 : decode cX8_init 17 = .ok (.putfield 15, 3) := by decide +kernel
theorem dX8_init_20 : decode cX8_init 20 = .ok (.aload_n 0, 1) := by decide +kernel
theorem dX8_init_21 : decode cX8_init 21 = .ok (.bipush 6, 2) := by decide +kernel
theorem dX8_init_23 : decode cX8_init 23 = .ok (.newarray .int, 2) := by decide +kernel
theorem dX8_init_25 : decode cX8_init 25 = .ok (.putfield 18, 3) := by decide +kernel
theorem dX8_init_28 : decode cX8_init 28 = .ok (.aload_n 0, 1) := by decide +kernel
theorem dX8_init_29 : decode cX8_init 29 = .ok (.bipush 6, 2) := by decide +kernel
theorem dX8_init_31 : decode cX8_init 31 = .ok (.newarray .int, 2) := by decide +kernel
theorem dX8_init_33 : decode cX8_init 33 = .ok (.putfield 21, 3) := by decide +kernel
theorem dX8_init_36 : decode cX8_init 36 = .ok (.aload_n 0, 1) := by decide +kernel
theorem dX8_init_37 : decode cX8_init 37 = .ok (.bipush 6, 2) := by decide +kernel
theorem dX8_init_39 : decode cX8_init 39 = .ok (.newarray .int, 2) := by decide +kernel
theorem dX8_init_41 : decode cX8_init 41 = .ok (.putfield 24, 3) := by decide +kernel
theorem dX8_init_44 : decode cX8_init 44 = .ok (.aload_n 0, 1) := by decide +kernel
theorem dX8_init_45 : decode cX8_init 45 = .ok (.bipush 6, 2) := by decide +kernel
theorem dX8_init_47 : decode cX8_init 47 = .ok (.newarray .int, 2) := by decide +kernel
theorem dX8_init_49 : decode cX8_init 49 = .ok (.putfield 27, 3) := by decide +kernel
theorem dX8_init_52 : decode cX8_init 52 = .ok (.aload_n 0, 1) := by decide +kernel
theorem dX8_init_53 : decode cX8_init 53 = .ok (.iconst 3, 1) := by decide +kernel
theorem dX8_init_54 : decode cX8_init 54 = .ok (.newarray .int, 2) := by decide +kernel
theorem dX8_init_56 : decode cX8_init 56 = .ok (.dup, 1) := by decide +kernel
theorem dX8_init_57 : decode cX8_init 57 = .ok (.iconst 0, 1) := by decide +kernel
theorem dX8_init_58 : decode cX8_init 58 = .ok (.iconst 0, 1) := by decide +kernel
theorem dX8_init_59 : decode cX8_init 59 = .ok (.iastore, 1) := by decide +kernel
theorem dX8_init_60 : decode cX8_init 60 = .ok (.dup, 1) := by decide +kernel
theorem dX8_init_61 : decode cX8_init 61 = .ok (.iconst 1, 1) := by decide +kernel
theorem dX8_init_62 : decode cX8_init 62 = .ok (.iconst 1, 1) := by decide +kernel
theorem dX8_init_63 : decode cX8_init 63 = .ok (.iastore, 1) := by decide +kernel
theorem dX8_init_64 : decode cX8_init 64 = .ok (.dup, 1) := by decide +kernel
theorem dX8_init_65 : decode cX8_init 65 = .ok (.iconst 2, 1) := by decide +kernel
theorem dX8_init_66 : decode cX8_init 66 = .ok (.iconst 0, 1) := by decide +kernel
theorem dX8_init_67 : decode cX8_init 67 = .ok (.iastore, 1) := by decide +kernel
theorem dX8_init_68 : decode cX8_init 68 = .ok (.putfield 30, 3) := by decide +kernel
theorem dX8_init_71 : decode cX8_init 71 = .ok (.return_, 1) := by decide +kernel
theorem dX8_copyFrom_0 : decode cX8_copyFrom 0 = .ok (.aload_n 1, 1) := by decide +kernel
theorem dX8_copyFrom_1 : decode cX8_copyFrom 1 = .ok (.getfield 9, 3) := by decide +kernel
theorem dX8_copyFrom_4 : decode cX8_copyFrom 4 = .ok (.aload_n 0, 1) := by decide +kernel
theorem dX8_copyFrom_5 : decode cX8_copyFrom 5 = .ok (.getfield 9, 3) := by decide +kernel
theorem dX8_copyFrom_8 : decode cX8_copyFrom 8 = .ok (.invokestatic 33, 3) := by decide +kernel
theorem dX8_copyFrom_11 : decode cX8_copyFrom 11 = .ok (.aload_n 1, 1) := by decide +kernel
theorem dX8_copyFrom_12 : decode cX8_copyFrom 12 = .ok (.getfield 15, 3) := by decide +kernel
theorem dX8_copyFrom_15 : decode cX8_copyFrom 15 = .ok (.aload_n 0, 1) := by decide +kernel
theorem dX8_copyFrom_16 : decode cX8_copyFrom 16 = .ok (.getfield 15, 3) := by decide +kernel
theorem dX8_copyFrom_19 : decode cX8_copyFrom 19 = .ok (.invokestatic 33, 3) := by decide +kernel
theorem dX8_copyFrom_22 : decode cX8_copyFrom 22 = .ok (.aload_n 1, 1) := by decide +kernel
theorem dX8_copyFrom_23 : decode cX8_copyFrom 23 = .ok (.getfield 18, 3) := by decide +kernel
theorem dX8_copyFrom_26 : decode cX8_copyFrom 26 = .ok (.aload_n 0, 1) := by decide +kernel
theorem dX8_copyFrom_27 : decode cX8_copyFrom 27 = .ok (.getfield 18, 3) := by decide +kernel
theorem dX8_copyFrom_30 : decode cX8_copyFrom 30 = .ok (.invokestatic 33, 3) := by decide +kernel
theorem dX8_copyFrom_33 : decode cX8_copyFrom 33 = .ok (.aload_n 1, 1) := by decide +kernel
theorem dX8_copyFrom_34 : decode cX8_copyFrom 34 = .ok (.getfield 21, 3) := by decide +kernel
theorem dX8_copyFrom_37 : decode cX8_copyFrom 37 = .ok (.aload_n 0, 1) := by decide +kernel
theorem dX8_copyFrom_38 : decode cX8_copyFrom 38 = .ok (.getfield 21, 3) := by decide +kernel
theorem dX8_copyFrom_41 : decode cX8_copyFrom 41 = .ok (.invokestatic 33, 3) := by decide +kernel
theorem dX8_copyFrom_44 : decode cX8_copyFrom 44 = .ok (.aload_n 1, 1) := by decide +kernel
theorem dX8_copyFrom_45 : decode cX8_copyFrom 45 = .ok (.getfield 24, 3) := by decide +kernel
theorem dX8_copyFrom_48 : decode cX8_copyFrom 48 = .ok (.aload_n 0, 1) := by decide +kernel
theorem dX8_copyFrom_49 : decode cX8_copyFrom 49 = .ok (.getfield 24, 3) := by decide +kernel
theorem dX8_copyFrom_52 : decode cX8_copyFrom 52 = .ok (.invokestatic 33, 3) := by decide +kernel
theorem dX8_copyFrom_55 : decode cX8_copyFrom 55 = .ok (.aload_n 1, 1) := by decide +kernel
theorem dX8_copyFrom_56 : decode cX8_copyFrom 56 = .ok (.getfield 27, 3) := by decide +kernel
theorem dX8_copyFrom_59 : decode cX8_copyFrom 59 = .ok (.aload_n 0, 1) := by decide +kernel
theorem dX8_copyFrom_60 : decode cX8_copyFrom 60 = .ok (.getfield 27, 3) := by decide +kernel
theorem dX8_copyFrom_63 : decode cX8_copyFrom 63 = .ok (.invokestatic 33, 3) := by decide +kernel
theorem dX8_copyFrom_66 : decode cX8_copyFrom 66 = .ok (.aload_n 1, 1) := by decide +kernel
theorem dX8_copyFrom_67 : decode cX8_copyFrom 67 = .ok (.getfield 30, 3) := by decide +kernel
theorem dX8_copyFrom_70 : decode cX8_copyFrom 70 = .ok (.aload_n 0, 1) := by decide +kernel
theorem dX8_copyFrom_71 : decode cX8_copyFrom 71 = .ok (.getfield 30, 3) := by decide +kernel
theorem dX8_copyFrom_74 : decode cX8_copyFrom 74 = .ok (.invokestatic 33, 3) := by decide +kernel
theorem dX8_copyFrom_77 : decode cX8_copyFrom 77 = .ok (.aload_n 0, 1) := by decide +kernel
theorem dX8_copyFrom_78 : decode cX8_copyFrom 78 = .ok (.aload_n 1, 1) := by decide +kernel
theorem dX8_copyFrom_79 : decode cX8_copyFrom 79 = .ok (.getfield 37, 3) := by decide +kernel
theorem dX8_copyFrom_82 : decode cX8_copyFrom 82 = .ok (.putfield 37, 3) := by decide +kernel
theorem dX8_copyFrom_85 : decode cX8_copyFrom 85 = .ok (.return_, 1) := by decide +kernel
theorem dX8_has_0 : decode cX8_has 0 = .ok (.iload_n 1, 1) := by decide +kernel
theorem dX8_has_1 : decode cX8_has 1 = .ok (.ifCond .lt 15, 3) := by decide +kernel
theorem dX8_has_4 : decode cX8_has 4 = .ok (.iload_n 1, 1) := by decide +kernel
theorem dX8_has_5 : decode cX8_has 5 = .ok (.aload_n 0, 1) := by decide +kernel
theorem dX8_has_6 : decode cX8_has 6 = .ok (.getfield 37, 3) := by decide +kernel
theorem dX8_has_9 : decode cX8_has 9 = .ok (.if_icmp .ge 7, 3) := by decide +kernel
theorem dX8_has_12 : decode cX8_has 12 = .ok (.iconst 1, 1) := by decide +kernel
theorem dX8_has_13 : decode cX8_has 13 = .ok (.goto 4, 3) := by decide +kernel
theorem dX8_has_16 : decode cX8_has 16 = .ok (.iconst 0, 1) := by decide +kernel
theorem dX8_has_17 : decode cX8_has 17 = .ok (.ireturn, 1) := by decide +kernel
theorem dX8_isFree_0 : decode cX8_isFree 0 = .ok (.aload_n 0, 1) := by decide +kernel
theorem dX8_isFree_1 : decode cX8_isFree 1 = .ok (.iload_n 1, 1) := by decide +kernel
theorem dX8_isFree_2 : decode cX8_isFree 2 = .ok (.invokevirtual 41, 3) := by decide +kernel
theorem dX8_isFree_5 : decode cX8_isFree 5 = .ok (.ifCond .eq 31, 3) := by decide +kernel
theorem dX8_isFree_8 : decode cX8_isFree 8 = .ok (.aload_n 0, 1) := by decide +kernel
theorem dX8_isFree_9 : decode cX8_isFree 9 = .ok (.getfield 24, 3) := by decide +kernel
theorem dX8_isFree_12 : decode cX8_isFree 12 = .ok (.iload_n 1, 1) := by decide +kernel
theorem dX8_isFree_13 : decode cX8_isFree 13 = .ok (.invokestatic 45, 3) := by decide +kernel
theorem dX8_isFree_16 : decode cX8_isFree 16 = .ok (.iconst 1, 1) := by decide +kernel
theorem dX8_isFree_17 : decode cX8_isFree 17 = .ok (.if_icmp .ne 19, 3) := by decide +kernel
theorem dX8_isFree_20 : decode cX8_isFree 20 = .ok (.aload_n 0, 1) := by decide +kernel
theorem dX8_isFree_21 : decode cX8_isFree 21 = .ok (.getfield 27, 3) := by decide +kernel
theorem dX8_isFree_24 : decode cX8_isFree 24 = .ok (.iload_n 1, 1) := by decide +kernel
theorem dX8_isFree_25 : decode cX8_isFree 25 = .ok (.invokestatic 45, 3) := by decide +kernel
theorem dX8_isFree_28 : decode cX8_isFree 28 = .ok (.iconst (-1), 1) := by decide +kernel
theorem dX8_isFree_29 : decode cX8_isFree 29 = .ok (.if_icmp .ne 7, 3) := by decide +kernel
theorem dX8_isFree_32 : decode cX8_isFree 32 = .ok (.iconst 1, 1) := by decide +kernel
theorem dX8_isFree_33 : decode cX8_isFree 33 = .ok (.goto 4, 3) := by decide +kernel
theorem dX8_isFree_36 : decode cX8_isFree 36 = .ok (.iconst 0, 1) := by decide +kernel
theorem dX8_isFree_37 : decode cX8_isFree 37 = .ok (.ireturn, 1) := by decide +kernel
theorem dX8_join_0 : decode cX8_join 0 = .ok (.iload_n 1, 1) := by decide +kernel
theorem dX8_join_1 : decode cX8_join 1 = .ok (.bipush 16, 2) := by decide +kernel
theorem dX8_join_3 : decode cX8_join 3 = .ok (.bipush 99, 2) := by decide +kernel
theorem dX8_join_5 : decode cX8_join 5 = .ok (.invokestatic 49, 3) := by decide +kernel
theorem dX8_join_8 : decode cX8_join 8 = .ok (.ifCond .eq 12, 3) := by decide +kernel
theorem dX8_join_11 : decode cX8_join 11 = .ok (.iload_n 2, 1) := by decide +kernel
theorem dX8_join_12 : decode cX8_join 12 = .ok (.iconst 1, 1) := by decide +kernel
theorem dX8_join_13 : decode cX8_join 13 = .ok (.iconst 3, 1) := by decide +kernel
theorem dX8_join_14 : decode cX8_join 14 = .ok (.invokestatic 49, 3) := by decide +kernel
theorem dX8_join_17 : decode cX8_join 17 = .ok (.ifCond .ne 5, 3) := by decide +kernel
theorem dX8_join_20 : decode cX8_join 20 = .ok (.iconst (-1), 1) := by decide +kernel
theorem dX8_join_21 : decode cX8_join 21 = .ok (.ireturn, 1) := by decide +kernel
theorem dX8_join_22 : decode cX8_join 22 = .ok (.aload_n 0, 1) := by decide +kernel
theorem dX8_join_23 : decode cX8_join 23 = .ok (.getfield 37, 3) := by decide +kernel
theorem dX8_join_26 : decode cX8_join 26 = .ok (.bipush 6, 2) := by decide +kernel
theorem dX8_join_28 : decode cX8_join 28 = .ok (.if_icmp .lt 6, 3) := by decide +kernel
theorem dX8_join_31 : decode cX8_join 31 = .ok (.bipush (-5), 2) := by decide +kernel
theorem dX8_join_33 : decode cX8_join 33 = .ok (.ireturn, 1) := by decide +kernel
theorem dX8_join_34 : decode cX8_join 34 = .ok (.aload_n 0, 1) := by decide +kernel
theorem dX8_join_35 : decode cX8_join 35 = .ok (.getfield 37, 3) := by decide +kernel
theorem dX8_join_38 : decode cX8_join 38 = .ok (.istore_n 3, 1) := by decide +kernel
theorem dX8_join_39 : decode cX8_join 39 = .ok (.aload_n 0, 1) := by decide +kernel
theorem dX8_join_40 : decode cX8_join 40 = .ok (.getfield 18, 3) := by decide +kernel
theorem dX8_join_43 : decode cX8_join 43 = .ok (.iload_n 3, 1) := by decide +kernel
theorem dX8_join_44 : decode cX8_join 44 = .ok (.iload_n 1, 1) := by decide +kernel
theorem dX8_join_45 : decode cX8_join 45 = .ok (.invokestatic 53, 3) := by decide +kernel
theorem dX8_join_48 : decode cX8_join 48 = .ok (.aload_n 0, 1) := by decide +kernel
theorem dX8_join_49 : decode cX8_join 49 = .ok (.getfield 21, 3) := by decide +kernel
theorem dX8_join_52 : decode cX8_join 52 = .ok (.iload_n 3, 1) := by decide +kernel
theorem dX8_join_53 : decode cX8_join 53 = .ok (.iload_n 2, 1) := by decide +kernel
theorem dX8_join_54 : decode cX8_join 54 = .ok (.invokestatic 53, 3) := by decide +kernel
theorem dX8_join_57 : decode cX8_join 57 = .ok (.aload_n 0, 1) := by decide +kernel
theorem dX8_join_58 : decode cX8_join 58 = .ok (.getfield 24, 3) := by decide +kernel
theorem dX8_join_61 : decode cX8_join 61 = .ok (.iload_n 3, 1) := by decide +kernel
theorem dX8_join_62 : decode cX8_join 62 = .ok (.iconst 1, 1) := by decide +kernel
theorem dX8_join_63 : decode cX8_join 63 = .ok (.invokestatic 53, 3) := by decide +kernel
theorem dX8_join_66 : decode cX8_join 66 = .ok (.aload_n 0, 1) := by decide +kernel
theorem dX8_join_67 : decode cX8_join 67 = .ok (.getfield 27, 3) := by decide +kernel
theorem dX8_join_70 : decode cX8_join 70 = .ok (.iload_n 3, 1) := by decide +kernel
