theorem dX8_join_71 : decode cX8_join 71 = .ok (.iconst (-1), 1) := by decide +kernel
theorem dX8_join_72 : decode cX8_join 72 = .ok (.invokestatic 53, 3) := by decide +kernel
theorem dX8_join_75 : decode cX8_join 75 = .ok (.aload_n 0, 1) := by decide +kernel
theorem dX8_join_76 : decode cX8_join 76 = .ok (.iload_n 3, 1) := by decide +kernel
theorem dX8_join_77 : decode cX8_join 77 = .ok (.iconst 1, 1) := by decide +kernel
theorem dX8_join_78 : decode cX8_join 78 = .ok (.iadd, 1) := by decide +kernel
theorem dX8_join_79 : decode cX8_join 79 = .ok (.putfield 37, 3) := by decide +kernel
theorem dX8_join_82 : decode cX8_join 82 = .ok (.iload_n 3, 1) := by decide +kernel
theorem dX8_join_83 : decode cX8_join 83 = .ok (.ireturn, 1) := by decide +kernel
theorem dX8_workerOn_0 : decode cX8_workerOn 0 = .ok (.iconst 0, 1) := by decide +kernel
theorem dX8_workerOn_1 : decode cX8_workerOn 1 = .ok (.istore_n 2, 1) := by decide +kernel
theorem dX8_workerOn_2 : decode cX8_workerOn 2 = .ok (.iload_n 2, 1) := by decide +kernel
theorem dX8_workerOn_3 : decode cX8_workerOn 3 = .ok (.aload_n 0, 1) := by decide +kernel
theorem dX8_workerOn_4 : decode cX8_workerOn 4 = .ok (.getfield 37, 3) := by decide +kernel
theorem dX8_workerOn_7 : decode cX8_workerOn 7 = .ok (.if_icmp .ge 23, 3) := by decide +kernel
theorem dX8_workerOn_10 : decode cX8_workerOn 10 = .ok (.aload_n 0, 1) := by decide +kernel
theorem dX8_workerOn_11 : decode cX8_workerOn 11 = .ok (.getfield 27, 3) := by decide +kernel
theorem dX8_workerOn_14 : decode cX8_workerOn 14 = .ok (.iload_n 2, 1) := by decide +kernel
theorem dX8_workerOn_15 : decode cX8_workerOn 15 = .ok (.invokestatic 45, 3) := by decide +kernel
theorem dX8_workerOn_18 : decode cX8_workerOn 18 = .ok (.iload_n 1, 1) := by decide +kernel
theorem dX8_workerOn_19 : decode cX8_workerOn 19 = .ok (.if_icmp .ne 5, 3) := by decide +kernel
theorem dX8_workerOn_22 : decode cX8_workerOn 22 = .ok (.iload_n 2, 1) := by decide +kernel
theorem dX8_workerOn_23 : decode cX8_workerOn 23 = .ok (.ireturn, 1) := by decide +kernel
theorem dX8_workerOn_24 : decode cX8_workerOn 24 = .ok (.iinc 2 1, 3) := by decide +kernel
theorem dX8_workerOn_27 : decode cX8_workerOn 27 = .ok (.goto (-25), 3) := by decide +kernel
theorem dX8_workerOn_30 : decode cX8_workerOn 30 = .ok (.iconst (-1), 1) := by decide +kernel
theorem dX8_workerOn_31 : decode cX8_workerOn 31 = .ok (.ireturn, 1) := by decide +kernel
theorem dX8_raise_0 : decode cX8_raise 0 = .ok (.aload_n 0, 1) := by decide +kernel
theorem dX8_raise_1 : decode cX8_raise 1 = .ok (.getfield 27, 3) := by decide +kernel
theorem dX8_raise_4 : decode cX8_raise 4 = .ok (.iload_n 1, 1) := by decide +kernel
theorem dX8_raise_5 : decode cX8_raise 5 = .ok (.invokestatic 45, 3) := by decide +kernel
theorem dX8_raise_8 : decode cX8_raise 8 = .ok (.istore_n 3, 1) := by decide +kernel
theorem dX8_raise_9 : decode cX8_raise 9 = .ok (.iload_n 3, 1) := by decide +kernel
theorem dX8_raise_10 : decode cX8_raise 10 = .ok (.iconst (-1), 1) := by decide +kernel
theorem dX8_raise_11 : decode cX8_raise 11 = .ok (.if_icmp .ne 5, 3) := by decide +kernel
theorem dX8_raise_14 : decode cX8_raise 14 = .ok (.iconst 0, 1) := by decide +kernel
theorem dX8_raise_15 : decode cX8_raise 15 = .ok (.ireturn, 1) := by decide +kernel
theorem dX8_raise_16 : decode cX8_raise 16 = .ok (.aload_n 0, 1) := by decide +kernel
theorem dX8_raise_17 : decode cX8_raise 17 = .ok (.getfield 9, 3) := by decide +kernel
theorem dX8_raise_20 : decode cX8_raise 20 = .ok (.iload_n 3, 1) := by decide +kernel
theorem dX8_raise_21 : decode cX8_raise 21 = .ok (.invokestatic 45, 3) := by decide +kernel
theorem dX8_raise_24 : decode cX8_raise 24 = .ok (.istore 4, 2) := by decide +kernel
theorem dX8_raise_26 : decode cX8_raise 26 = .ok (.bipush 9, 2) := by decide +kernel
theorem dX8_raise_28 : decode cX8_raise 28 = .ok (.iload 4, 2) := by decide +kernel
theorem dX8_raise_30 : decode cX8_raise 30 = .ok (.iload_n 2, 1) := by decide +kernel
theorem dX8_raise_31 : decode cX8_raise 31 = .ok (.iadd, 1) := by decide +kernel
theorem dX8_raise_32 : decode cX8_raise 32 = .ok (.invokestatic 57, 3) := by decide +kernel
theorem dX8_raise_35 : decode cX8_raise 35 = .ok (.istore 5, 2) := by decide +kernel
theorem dX8_raise_37 : decode cX8_raise 37 = .ok (.aload_n 0, 1) := by decide +kernel
theorem dX8_raise_38 : decode cX8_raise 38 = .ok (.getfield 9, 3) := by decide +kernel
theorem dX8_raise_41 : decode cX8_raise 41 = .ok (.iload_n 3, 1) := by decide +kernel
theorem dX8_raise_42 : decode cX8_raise 42 = .ok (.iload 5, 2) := by decide +kernel
theorem dX8_raise_44 : decode cX8_raise 44 = .ok (.invokestatic 53, 3) := by decide +kernel
theorem dX8_raise_47 : decode cX8_raise 47 = .ok (.iload 5, 2) := by decide +kernel
theorem dX8_raise_49 : decode cX8_raise 49 = .ok (.bipush 9, 2) := by decide +kernel
theorem dX8_raise_51 : decode cX8_raise 51 = .ok (.if_icmp .ne 12, 3) := by decide +kernel
theorem dX8_raise_54 : decode cX8_raise 54 = .ok (.aload_n 0, 1) := by decide +kernel
theorem dX8_raise_55 : decode cX8_raise 55 = .ok (.getfield 27, 3) := by decide +kernel
theorem dX8_raise_58 : decode cX8_raise 58 = .ok (.iload_n 1, 1) := by decide +kernel
theorem dX8_raise_59 : decode cX8_raise 59 = .ok (.iconst (-1), 1) := by decide +kernel
theorem dX8_raise_60 : decode cX8_raise 60 = .ok (.invokestatic 53, 3) := by decide +kernel
theorem dX8_raise_63 : decode cX8_raise 63 = .ok (.iload 5, 2) := by decide +kernel
theorem dX8_raise_65 : decode cX8_raise 65 = .ok (.iload 4, 2) := by decide +kernel
theorem dX8_raise_67 : decode cX8_raise 67 = .ok (.isub, 1) := by decide +kernel
theorem dX8_raise_68 : decode cX8_raise 68 = .ok (.ireturn, 1) := by decide +kernel
theorem dX8_lose_0 : decode cX8_lose 0 = .ok (.aload_n 0, 1) := by decide +kernel
theorem dX8_lose_1 : decode cX8_lose 1 = .ok (.getfield 27, 3) := by decide +kernel
theorem dX8_lose_4 : decode cX8_lose 4 = .ok (.iload_n 1, 1) := by decide +kernel
theorem dX8_lose_5 : decode cX8_lose 5 = .ok (.invokestatic 45, 3) := by decide +kernel
theorem dX8_lose_8 : decode cX8_lose 8 = .ok (.istore_n 2, 1) := by decide +kernel
theorem dX8_lose_9 : decode cX8_lose 9 = .ok (.aload_n 0, 1) := by decide +kernel
theorem dX8_lose_10 : decode cX8_lose 10 = .ok (.getfield 24, 3) := by decide +kernel
theorem dX8_lose_13 : decode cX8_lose 13 = .ok (.iload_n 1, 1) := by decide +kernel
theorem dX8_lose_14 : decode cX8_lose 14 = .ok (.iconst 0, 1) := by decide +kernel
theorem dX8_lose_15 : decode cX8_lose 15 = .ok (.invokestatic 53, 3) := by decide +kernel
theorem dX8_lose_18 : decode cX8_lose 18 = .ok (.aload_n 0, 1) := by decide +kernel
theorem dX8_lose_19 : decode cX8_lose 19 = .ok (.getfield 27, 3) := by decide +kernel
theorem dX8_lose_22 : decode cX8_lose 22 = .ok (.iload_n 1, 1) := by decide +kernel
theorem dX8_lose_23 : decode cX8_lose 23 = .ok (.iconst (-1), 1) := by decide +kernel
theorem dX8_lose_24 : decode cX8_lose 24 = .ok (.invokestatic 53, 3) := by decide +kernel
theorem dX8_lose_27 : decode cX8_lose 27 = .ok (.aload_n 0, 1) := by decide +kernel
theorem dX8_lose_28 : decode cX8_lose 28 = .ok (.getfield 15, 3) := by decide +kernel
theorem dX8_lose_31 : decode cX8_lose 31 = .ok (.iload_n 2, 1) := by decide +kernel
theorem dX8_lose_32 : decode cX8_lose 32 = .ok (.iconst 1, 1) := by decide +kernel
theorem dX8_lose_33 : decode cX8_lose 33 = .ok (.invokestatic 53, 3) := by decide +kernel
theorem dX8_lose_36 : decode cX8_lose 36 = .ok (.iload_n 2, 1) := by decide +kernel
theorem dX8_lose_37 : decode cX8_lose 37 = .ok (.iconst (-1), 1) := by decide +kernel
theorem dX8_lose_38 : decode cX8_lose 38 = .ok (.if_icmp .ne 7, 3) := by decide +kernel
theorem dX8_lose_41 : decode cX8_lose 41 = .ok (.iconst 0, 1) := by decide +kernel
theorem dX8_lose_42 : decode cX8_lose 42 = .ok (.goto 11, 3) := by decide +kernel
theorem dX8_lose_45 : decode cX8_lose 45 = .ok (.aload_n 0, 1) := by decide +kernel
theorem dX8_lose_46 : decode cX8_lose 46 = .ok (.getfield 9, 3) := by decide +kernel
theorem dX8_lose_49 : decode cX8_lose 49 = .ok (.iload_n 2, 1) := by decide +kernel
theorem dX8_lose_50 : decode cX8_lose 50 = .ok (.invokestatic 45, 3) := by decide +kernel
theorem dX8_lose_53 : decode cX8_lose 53 = .ok (.ireturn, 1) := by decide +kernel
theorem dX8_grow_0 : decode cX8_grow 0 = .ok (.iconst 0, 1) := by decide +kernel
theorem dX8_grow_1 : decode cX8_grow 1 = .ok (.istore_n 1, 1) := by decide +kernel
theorem dX8_grow_2 : decode cX8_grow 2 = .ok (.iload_n 1, 1) := by decide +kernel
theorem dX8_grow_3 : decode cX8_grow 3 = .ok (.aload_n 0, 1) := by decide +kernel
theorem dX8_grow_4 : decode cX8_grow 4 = .ok (.getfield 37, 3) := by decide +kernel
theorem dX8_grow_7 : decode cX8_grow 7 = .ok (.if_icmp .ge 44, 3) := by decide +kernel
theorem dX8_grow_10 : decode cX8_grow 10 = .ok (.aload_n 0, 1) := by decide +kernel
theorem dX8_grow_11 : decode cX8_grow 11 = .ok (.getfield 24, 3) := by decide +kernel
theorem dX8_grow_14 : decode cX8_grow 14 = .ok (.iload_n 1, 1) := by decide +kernel
theorem dX8_grow_15 : decode cX8_grow 15 = .ok (.invokestatic 45, 3) := by decide +kernel
theorem dX8_grow_18 : decode cX8_grow 18 = .ok (.iconst 1, 1) := by decide +kernel
theorem dX8_grow_19 : decode cX8_grow 19 = .ok (.if_icmp .ne 26, 3) := by decide +kernel
theorem dX8_grow_22 : decode cX8_grow 22 = .ok (.aload_n 0, 1) := by decide +kernel
theorem dX8_grow_23 : decode cX8_grow 23 = .ok (.getfield 18, 3) := by decide +kernel
theorem dX8_grow_26 : decode cX8_grow 26 = .ok (.iload_n 1, 1) := by decide +kernel
theorem dX8_grow_27 : decode cX8_grow 27 = .ok (.bipush 99, 2) := by decide +kernel
theorem dX8_grow_29 : decode cX8_grow 29 = .ok (.aload_n 0, 1) := by decide +kernel
theorem dX8_grow_30 : decode cX8_grow 30 = .ok (.getfield 18, 3) := by decide +kernel
theorem dX8_grow_33 : decode cX8_grow 33 = .ok (.iload_n 1, 1) := by decide +kernel
theorem dX8_grow_34 : decode cX8_grow 34 = .ok (.invokestatic 45, 3) := by decide +kernel
theorem dX8_grow_37 : decode cX8_grow 37 = .ok (.iconst 1, 1) := by decide +kernel
theorem dX8_grow_38 : decode cX8_grow 38 = .ok (.iadd, 1) := by decide +kernel
theorem dX8_grow_39 : decode cX8_grow 39 = .ok (.invokestatic 57, 3) := by decide +kernel
theorem dX8_grow_42 : decode cX8_grow 42 = .ok (.invokestatic 53, 3) := by decide +kernel
theorem dX8_grow_45 : decode cX8_grow 45 = .ok (.iinc 1 1, 3) := by decide +kernel
theorem dX8_grow_48 : decode cX8_grow 48 = .ok (.goto (-46), 3) := by decide +kernel
theorem dX8_grow_51 : decode cX8_grow 51 = .ok (.aload_n 0, 1) := by decide +kernel
theorem dX8_grow_52 : decode cX8_grow 52 = .ok (.getfield 30, 3) := by decide +kernel
theorem dX8_grow_55 : decode cX8_grow 55 = .ok (.iconst 0, 1) := by decide +kernel
theorem dX8_grow_56 : decode cX8_grow 56 = .ok (.aload_n 0, 1) := by decide +kernel
theorem dX8_grow_57 : decode cX8_grow 57 = .ok (.getfield 30, 3) := by decide +kernel
theorem dX8_grow_60 : decode cX8_grow 60 = .ok (.iconst 0, 1) := by decide +kernel
theorem dX8_grow_61 : decode cX8_grow 61 = .ok (.invokestatic 45, 3) := by decide +kernel
theorem dX8_grow_64 : decode cX8_grow 64 = .ok (.iconst 1, 1) := by decide +kernel
theorem dX8_grow_65 : decode cX8_grow 65 = .ok (.iadd, 1) := by decide +kernel
theorem dX8_grow_66 : decode cX8_grow 66 = .ok (.invokestatic 53, 3) := by decide +kernel
theorem dX8_grow_69 : decode cX8_grow 69 = .ok (.return_, 1) := by decide +kernel
theorem dX8_freeOnes_0 : decode cX8_freeOnes 0 = .ok (.iconst 0, 1) := by decide +kernel
theorem dX8_freeOnes_1 : decode cX8_freeOnes 1 = .ok (.istore_n 1, 1) := by decide +kernel
theorem dX8_freeOnes_2 : decode cX8_freeOnes 2 = .ok (.iconst 0, 1) := by decide +kernel
theorem dX8_freeOnes_3 : decode cX8_freeOnes 3 = .ok (.istore_n 2, 1) := by decide +kernel
theorem dX8_freeOnes_4 : decode cX8_freeOnes 4 = .ok (.iload_n 2, 1) := by decide +kernel
theorem dX8_freeOnes_5 : decode cX8_freeOnes 5 = .ok (.aload_n 0, 1) := by decide +kernel
theorem dX8_freeOnes_6 : decode cX8_freeOnes 6 = .ok (.getfield 37, 3) := by decide +kernel
theorem dX8_freeOnes_9 : decode cX8_freeOnes 9 = .ok (.if_icmp .ge 25, 3) := by decide +kernel
theorem dX8_freeOnes_12 : decode cX8_freeOnes 12 = .ok (.iload_n 1, 1) := by decide +kernel
theorem dX8_freeOnes_13 : decode cX8_freeOnes 13 = .ok (.aload_n 0, 1) := by decide +kernel
theorem dX8_freeOnes_14 : decode cX8_freeOnes 14 = .ok (.iload_n 2, 1) := by decide +kernel
theorem dX8_freeOnes_15 : decode cX8_freeOnes 15 = .ok (.invokevirtual 63, 3) := by decide +kernel
theorem dX8_freeOnes_18 : decode cX8_freeOnes 18 = .ok (.ifCond .eq 7, 3) := by decide +kernel
theorem dX8_freeOnes_21 : decode cX8_freeOnes 21 = .ok (.iconst 1, 1) := by decide +kernel
theorem dX8_freeOnes_22 : decode cX8_freeOnes 22 = .ok (.goto 4, 3) := by decide +kernel
theorem dX8_freeOnes_25 : decode cX8_freeOnes 25 = .ok (.iconst 0, 1) := by decide +kernel
theorem dX8_freeOnes_26 : decode cX8_freeOnes 26 = .ok (.iadd, 1) := by decide +kernel
theorem dX8_freeOnes_27 : decode cX8_freeOnes 27 = .ok (.istore_n 1, 1) := by decide +kernel
theorem dX8_freeOnes_28 : decode cX8_freeOnes 28 = .ok (.iinc 2 1, 3) := by decide +kernel
theorem dX8_freeOnes_31 : decode cX8_freeOnes 31 = .ok (.goto (-27), 3) := by decide +kernel
theorem dX8_freeOnes_34 : decode cX8_freeOnes 34 = .ok (.iload_n 1, 1) := by decide +kernel
theorem dX8_freeOnes_35 : decode cX8_freeOnes 35 = .ok (.ireturn, 1) := by decide +kernel
theorem dX8_aliveOnes_0 : decode cX8_aliveOnes 0 = .ok (.iconst 0, 1) := by decide +kernel
theorem dX8_aliveOnes_1 : decode cX8_aliveOnes 1 = .ok (.istore_n 1, 1) := by decide +kernel
theorem dX8_aliveOnes_2 : decode cX8_aliveOnes 2 = .ok (.iconst 0, 1) := by decide +kernel
theorem dX8_aliveOnes_3 : decode cX8_aliveOnes 3 = .ok (.istore_n 2, 1) := by decide +kernel
theorem dX8_aliveOnes_4 : decode cX8_aliveOnes 4 = .ok (.iload_n 2, 1) := by decide +kernel
theorem dX8_aliveOnes_5 : decode cX8_aliveOnes 5 = .ok (.aload_n 0, 1) := by decide +kernel
theorem dX8_aliveOnes_6 : decode cX8_aliveOnes 6 = .ok (.getfield 37, 3) := by decide +kernel
theorem dX8_aliveOnes_9 : decode cX8_aliveOnes 9 = .ok (.if_icmp .ge 20, 3) := by decide +kernel
theorem dX8_aliveOnes_12 : decode cX8_aliveOnes 12 = .ok (.iload_n 1, 1) := by decide +kernel
theorem dX8_aliveOnes_13 : decode cX8_aliveOnes 13 = .ok (.aload_n 0, 1) := by decide +kernel
theorem dX8_aliveOnes_14 : decode cX8_aliveOnes 14 = .ok (.getfield 24, 3) := by decide +kernel
theorem dX8_aliveOnes_17 : decode cX8_aliveOnes 17 = .ok (.iload_n 2, 1) := by decide +kernel
theorem dX8_aliveOnes_18 : decode cX8_aliveOnes 18 = .ok (.invokestatic 45, 3) := by decide +kernel
theorem dX8_aliveOnes_21 : decode cX8_aliveOnes 21 = .ok (.iadd, 1) := by decide +kernel
theorem dX8_aliveOnes_22 : decode cX8_aliveOnes 22 = .ok (.istore_n 1, 1) := by decide +kernel
theorem dX8_aliveOnes_23 : decode cX8_aliveOnes 23 = .ok (.iinc 2 1, 3) := by decide +kernel
theorem dX8_aliveOnes_26 : decode cX8_aliveOnes 26 = .ok (.goto (-22), 3) := by decide +kernel
theorem dX8_aliveOnes_29 : decode cX8_aliveOnes 29 = .ok (.iload_n 1, 1) := by decide +kernel
theorem dX8_aliveOnes_30 : decode cX8_aliveOnes 30 = .ok (.ireturn, 1) := by decide +kernel
theorem dX8_leftSet_0 : decode cX8_leftSet 0 = .ok (.iconst 0, 1) := by decide +kernel
theorem dX8_leftSet_1 : decode cX8_leftSet 1 = .ok (.istore_n 1, 1) := by decide +kernel
theorem dX8_leftSet_2 : decode cX8_leftSet 2 = .ok (.iconst 0, 1) := by decide +kernel
theorem dX8_leftSet_3 : decode cX8_leftSet 3 = .ok (.istore_n 2, 1) := by decide +kernel
theorem dX8_leftSet_4 : decode cX8_leftSet 4 = .ok (.iload_n 2, 1) := by decide +kernel
theorem dX8_leftSet_5 : decode cX8_leftSet 5 = .ok (.aload_n 0, 1) := by decide +kernel
theorem dX8_leftSet_6 : decode cX8_leftSet 6 = .ok (.getfield 15, 3) := by decide +kernel
theorem dX8_leftSet_9 : decode cX8_leftSet 9 = .ok (.arraylength, 1) := by decide +kernel
theorem dX8_leftSet_10 : decode cX8_leftSet 10 = .ok (.if_icmp .ge 20, 3) := by decide +kernel
theorem dX8_leftSet_13 : decode cX8_leftSet 13 = .ok (.iload_n 1, 1) := by decide +kernel
theorem dX8_leftSet_14 : decode cX8_leftSet 14 = .ok (.aload_n 0, 1) := by decide +kernel
theorem dX8_leftSet_15 : decode cX8_leftSet 15 = .ok (.getfield 15, 3) := by decide +kernel
theorem dX8_leftSet_18 : decode cX8_leftSet 18 = .ok (.iload_n 2, 1) := by decide +kernel
theorem dX8_leftSet_19 : decode cX8_leftSet 19 = .ok (.iaload, 1) := by decide +kernel
theorem dX8_leftSet_20 : decode cX8_leftSet 20 = .ok (.iload_n 2, 1) := by decide +kernel
theorem dX8_leftSet_21 : decode cX8_leftSet 21 = .ok (.ishl, 1) := by decide +kernel
theorem dX8_leftSet_22 : decode cX8_leftSet 22 = .ok (.ior, 1) := by decide +kernel
theorem dX8_leftSet_23 : decode cX8_leftSet 23 = .ok (.istore_n 1, 1) := by decide +kernel
theorem dX8_leftSet_24 : decode cX8_leftSet 24 = .ok (.iinc 2 1, 3) := by decide +kernel
theorem dX8_leftSet_27 : decode cX8_leftSet 27 = .ok (.goto (-23), 3) := by decide +kernel
theorem dX8_leftSet_30 : decode cX8_leftSet 30 = .ok (.iload_n 1, 1) := by decide +kernel
theorem dX8_leftSet_31 : decode cX8_leftSet 31 = .ok (.ireturn, 1) := by decide +kernel
theorem dX8_doneSet_0 : decode cX8_doneSet 0 = .ok (.iconst 0, 1) := by decide +kernel
theorem dX8_doneSet_1 : decode cX8_doneSet 1 = .ok (.istore_n 1, 1) := by decide +kernel
theorem dX8_doneSet_2 : decode cX8_doneSet 2 = .ok (.iconst 0, 1) := by decide +kernel
theorem dX8_doneSet_3 : decode cX8_doneSet 3 = .ok (.istore_n 2, 1) := by decide +kernel
theorem dX8_doneSet_4 : decode cX8_doneSet 4 = .ok (.iload_n 2, 1) := by decide +kernel
theorem dX8_doneSet_5 : decode cX8_doneSet 5 = .ok (.aload_n 0, 1) := by decide +kernel
theorem dX8_doneSet_6 : decode cX8_doneSet 6 = .ok (.getfield 9, 3) := by decide +kernel
theorem dX8_doneSet_9 : decode cX8_doneSet 9 = .ok (.arraylength, 1) := by decide +kernel
theorem dX8_doneSet_10 : decode cX8_doneSet 10 = .ok (.if_icmp .ge 30, 3) := by decide +kernel
theorem dX8_doneSet_13 : decode cX8_doneSet 13 = .ok (.iload_n 1, 1) := by decide +kernel
theorem dX8_doneSet_14 : decode cX8_doneSet 14 = .ok (.aload_n 0, 1) := by decide +kernel
theorem dX8_doneSet_15 : decode cX8_doneSet 15 = .ok (.getfield 9, 3) := by decide +kernel
theorem dX8_doneSet_18 : decode cX8_doneSet 18 = .ok (.iload_n 2, 1) := by decide +kernel
theorem dX8_doneSet_19 : decode cX8_doneSet 19 = .ok (.iaload, 1) := by decide +kernel
theorem dX8_doneSet_20 : decode cX8_doneSet 20 = .ok (.bipush 9, 2) := by decide +kernel
theorem dX8_doneSet_22 : decode cX8_doneSet 22 = .ok (.if_icmp .ne 9, 3) := by decide +kernel
theorem dX8_doneSet_25 : decode cX8_doneSet 25 = .ok (.iconst 1, 1) := by decide +kernel
theorem dX8_doneSet_26 : decode cX8_doneSet 26 = .ok (.iload_n 2, 1) := by decide +kernel
theorem dX8_doneSet_27 : decode cX8_doneSet 27 = .ok (.ishl, 1) := by decide +kernel
theorem dX8_doneSet_28 : decode cX8_doneSet 28 = .ok (.goto 4, 3) := by decide +kernel
theorem dX8_doneSet_31 : decode cX8_doneSet 31 = .ok (.iconst 0, 1) := by decide +kernel
theorem dX8_doneSet_32 : decode cX8_doneSet 32 = .ok (.ior, 1) := by decide +kernel
theorem dX8_doneSet_33 : decode cX8_doneSet 33 = .ok (.istore_n 1, 1) := by decide +kernel
theorem dX8_doneSet_34 : decode cX8_doneSet 34 = .ok (.iinc 2 1, 3) := by decide +kernel
theorem dX8_doneSet_37 : decode cX8_doneSet 37 = .ok (.goto (-33), 3) := by decide +kernel
theorem dX8_doneSet_40 : decode cX8_doneSet 40 = .ok (.iload_n 1, 1) := by decide +kernel
theorem dX8_doneSet_41 : decode cX8_doneSet 41 = .ok (.ireturn, 1) := by decide +kernel
theorem dX8_longestStair_0 : decode cX8_longestStair 0 = .ok (.iconst 0, 1) := by decide +kernel
theorem dX8_longestStair_1 : decode cX8_longestStair 1 = .ok (.istore_n 2, 1) := by decide +kernel
theorem dX8_longestStair_2 : decode cX8_longestStair 2 = .ok (.iconst (-1), 1) := by decide +kernel
theorem dX8_longestStair_3 : decode cX8_longestStair 3 = .ok (.istore_n 3, 1) := by decide +kernel
theorem dX8_longestStair_4 : decode cX8_longestStair 4 = .ok (.iconst 0, 1) := by decide +kernel
theorem dX8_longestStair_5 : decode cX8_longestStair 5 = .ok (.istore 4, 2) := by decide +kernel
theorem dX8_longestStair_7 : decode cX8_longestStair 7 = .ok (.iconst 0, 1) := by decide +kernel
theorem dX8_longestStair_8 : decode cX8_longestStair 8 = .ok (.istore 5, 2) := by decide +kernel
theorem dX8_longestStair_10 : decode cX8_longestStair 10 = .ok (.iload 5, 2) := by decide +kernel
theorem dX8_longestStair_12 : decode cX8_longestStair 12 = .ok (.bipush 16, 2) := by decide +kernel
theorem dX8_longestStair_14 : decode cX8_longestStair 14 = .ok (.if_icmp .ge 82, 3) := by decide +kernel
theorem dX8_longestStair_17 : decode cX8_longestStair 17 = .ok (.iload 5, 2) := by decide +kernel
theorem dX8_longestStair_19 : decode cX8_longestStair 19 = .ok (.ifCond .le 32, 3) := by decide +kernel
theorem dX8_longestStair_22 : decode cX8_longestStair 22 = .ok (.aload_n 0, 1) := by decide +kernel
theorem dX8_longestStair_23 : decode cX8_longestStair 23 = .ok (.getfield 9, 3) := by decide +kernel
theorem dX8_longestStair_26 : decode cX8_longestStair 26 = .ok (.iload 5, 2) := by decide +kernel
theorem dX8_longestStair_28 : decode cX8_longestStair 28 = .ok (.invokestatic 45, 3) := by decide +kernel
theorem dX8_longestStair_31 : decode cX8_longestStair 31 = .ok (.aload_n 0, 1) := by decide +kernel
theorem dX8_longestStair_32 : decode cX8_longestStair 32 = .ok (.getfield 9, 3) := by decide +kernel
theorem dX8_longestStair_35 : decode cX8_longestStair 35 = .ok (.iload 5, 2) := by decide +kernel
theorem dX8_longestStair_37 : decode cX8_longestStair 37 = .ok (.iconst 1, 1) := by decide +kernel
theorem dX8_longestStair_38 : decode cX8_longestStair 38 = .ok (.isub, 1) := by decide +kernel
theorem dX8_longestStair_39 : decode cX8_longestStair 39 = .ok (.invokestatic 45, 3) := by decide +kernel
theorem dX8_longestStair_42 : decode cX8_longestStair 42 = .ok (.iconst 1, 1) := by decide +kernel
theorem dX8_longestStair_43 : decode cX8_longestStair 43 = .ok (.iadd, 1) := by decide +kernel
theorem dX8_longestStair_44 : decode cX8_longestStair 44 = .ok (.if_icmp .ne 7, 3) := by decide +kernel
theorem dX8_longestStair_47 : decode cX8_longestStair 47 = .ok (.iconst 1, 1) := by decide +kernel
theorem dX8_longestStair_48 : decode cX8_longestStair 48 = .ok (.goto 4, 3) := by decide +kernel
theorem dX8_longestStair_51 : decode cX8_longestStair 51 = .ok (.iconst 0, 1) := by decide +kernel
theorem dX8_longestStair_52 : decode cX8_longestStair 52 = .ok (.istore 6, 2) := by decide +kernel
theorem dX8_longestStair_54 : decode cX8_longestStair 54 = .ok (.iload 6, 2) := by decide +kernel
theorem dX8_longestStair_56 : decode cX8_longestStair 56 = .ok (.ifCond .eq 8, 3) := by decide +kernel
theorem dX8_longestStair_59 : decode cX8_longestStair 59 = .ok (.iload 4, 2) := by decide +kernel
theorem dX8_longestStair_61 : decode cX8_longestStair 61 = .ok (.goto 5, 3) := by decide +kernel
theorem dX8_longestStair_64 : decode cX8_longestStair 64 = .ok (.iload 5, 2) := by decide +kernel
theorem dX8_longestStair_66 : decode cX8_longestStair 66 = .ok (.istore 4, 2) := by decide +kernel
theorem dX8_longestStair_68 : decode cX8_longestStair 68 = .ok (.iload 5, 2) := by decide +kernel
theorem dX8_longestStair_70 : decode cX8_longestStair 70 = .ok (.iload 4, 2) := by decide +kernel
theorem dX8_longestStair_72 : decode cX8_longestStair 72 = .ok (.isub, 1) := by decide +kernel
theorem dX8_longestStair_73 : decode cX8_longestStair 73 = .ok (.iconst 1, 1) := by decide +kernel
theorem dX8_longestStair_74 : decode cX8_longestStair 74 = .ok (.iadd, 1) := by decide +kernel
theorem dX8_longestStair_75 : decode cX8_longestStair 75 = .ok (.iload_n 2, 1) := by decide +kernel
theorem dX8_longestStair_76 : decode cX8_longestStair 76 = .ok (.if_icmp .le 14, 3) := by decide +kernel
theorem dX8_longestStair_79 : decode cX8_longestStair 79 = .ok (.iload 5, 2) := by decide +kernel
theorem dX8_longestStair_81 : decode cX8_longestStair 81 = .ok (.iload 4, 2) := by decide +kernel
theorem dX8_longestStair_83 : decode cX8_longestStair 83 = .ok (.isub, 1) := by decide +kernel
theorem dX8_longestStair_84 : decode cX8_longestStair 84 = .ok (.iconst 1, 1) := by decide +kernel
theorem dX8_longestStair_85 : decode cX8_longestStair 85 = .ok (.iadd, 1) := by decide +kernel
theorem dX8_longestStair_86 : decode cX8_longestStair 86 = .ok (.istore_n 2, 1) := by decide +kernel
theorem dX8_longestStair_87 : decode cX8_longestStair 87 = .ok (.iload 4, 2) := by decide +kernel
theorem dX8_longestStair_89 : decode cX8_longestStair 89 = .ok (.istore_n 3, 1) := by decide +kernel
theorem dX8_longestStair_90 : decode cX8_longestStair 90 = .ok (.iinc 5 1, 3) := by decide +kernel
theorem dX8_longestStair_93 : decode cX8_longestStair 93 = .ok (.goto (-83), 3) := by decide +kernel
theorem dX8_longestStair_96 : decode cX8_longestStair 96 = .ok (.iload_n 1, 1) := by decide +kernel
theorem dX8_longestStair_97 : decode cX8_longestStair 97 = .ok (.ifCond .eq 7, 3) := by decide +kernel
theorem dX8_longestStair_100 : decode cX8_longestStair 100 = .ok (.iload_n 2, 1) := by decide +kernel
theorem dX8_longestStair_101 : decode cX8_longestStair 101 = .ok (.goto 4, 3) := by decide +kernel
theorem dX8_longestStair_104 : decode cX8_longestStair 104 = .ok (.iload_n 3, 1) := by decide +kernel
theorem dX8_longestStair_105 : decode cX8_longestStair 105 = .ok (.ireturn, 1) := by decide +kernel
theorem dX8_longestBelow_0 : decode cX8_longestBelow 0 = .ok (.iconst 0, 1) := by decide +kernel
theorem dX8_longestBelow_1 : decode cX8_longestBelow 1 = .ok (.istore_n 3, 1) := by decide +kernel
theorem dX8_longestBelow_2 : decode cX8_longestBelow 2 = .ok (.iconst (-1), 1) := by decide +kernel
theorem dX8_longestBelow_3 : decode cX8_longestBelow 3 = .ok (.istore 4, 2) := by decide +kernel
theorem dX8_longestBelow_5 : decode cX8_longestBelow 5 = .ok (.iconst 0, 1) := by decide +kernel
theorem dX8_longestBelow_6 : decode cX8_longestBelow 6 = .ok (.istore 5, 2) := by decide +kernel
theorem dX8_longestBelow_8 : decode cX8_longestBelow 8 = .ok (.iconst 0, 1) := by decide +kernel
theorem dX8_longestBelow_9 : decode cX8_longestBelow 9 = .ok (.istore 6, 2) := by decide +kernel
theorem dX8_longestBelow_11 : decode cX8_longestBelow 11 = .ok (.iload 6, 2) := by decide +kernel
theorem dX8_longestBelow_13 : decode cX8_longestBelow 13 = .ok (.aload_n 0, 1) := by decide +kernel
theorem dX8_longestBelow_14 : decode cX8_longestBelow 14 = .ok (.getfield 9, 3) := by decide +kernel
theorem dX8_longestBelow_17 : decode cX8_longestBelow 17 = .ok (.arraylength, 1) := by decide +kernel
theorem dX8_longestBelow_18 : decode cX8_longestBelow 18 = .ok (.if_icmp .ge 48, 3) := by decide +kernel
theorem dX8_longestBelow_21 : decode cX8_longestBelow 21 = .ok (.aload_n 0, 1) := by decide +kernel
theorem dX8_longestBelow_22 : decode cX8_longestBelow 22 = .ok (.getfield 9, 3) := by decide +kernel
theorem dX8_longestBelow_25 : decode cX8_longestBelow 25 = .ok (.iload 6, 2) := by decide +kernel
theorem dX8_longestBelow_27 : decode cX8_longestBelow 27 = .ok (.iaload, 1) := by decide +kernel
theorem dX8_longestBelow_28 : decode cX8_longestBelow 28 = .ok (.iload_n 1, 1) := by decide +kernel
theorem dX8_longestBelow_29 : decode cX8_longestBelow 29 = .ok (.if_icmp .ge 10, 3) := by decide +kernel
theorem dX8_longestBelow_32 : decode cX8_longestBelow 32 = .ok (.iload 5, 2) := by decide +kernel
theorem dX8_longestBelow_34 : decode cX8_longestBelow 34 = .ok (.iconst 1, 1) := by decide +kernel
theorem dX8_longestBelow_35 : decode cX8_longestBelow 35 = .ok (.iadd, 1) := by decide +kernel
theorem dX8_longestBelow_36 : decode cX8_longestBelow 36 = .ok (.goto 4, 3) := by decide +kernel
theorem dX8_longestBelow_39 : decode cX8_longestBelow 39 = .ok (.iconst 0, 1) := by decide +kernel
theorem dX8_longestBelow_40 : decode cX8_longestBelow 40 = .ok (.istore 5, 2) := by decide +kernel
theorem dX8_longestBelow_42 : decode cX8_longestBelow 42 = .ok (.iload 5, 2) := by decide +kernel
theorem dX8_longestBelow_44 : decode cX8_longestBelow 44 = .ok (.iload_n 3, 1) := by decide +kernel
theorem dX8_longestBelow_45 : decode cX8_longestBelow 45 = .ok (.if_icmp .le 15, 3) := by decide +kernel
theorem dX8_longestBelow_48 : decode cX8_longestBelow 48 = .ok (.iload 5, 2) := by decide +kernel
theorem dX8_longestBelow_50 : decode cX8_longestBelow 50 = .ok (.istore_n 3, 1) := by decide +kernel
theorem dX8_longestBelow_51 : decode cX8_longestBelow 51 = .ok (.iload 6, 2) := by decide +kernel
theorem dX8_longestBelow_53 : decode cX8_longestBelow 53 = .ok (.iload 5, 2) := by decide +kernel
theorem dX8_longestBelow_55 : decode cX8_longestBelow 55 = .ok (.isub, 1) := by decide +kernel
theorem dX8_longestBelow_56 : decode cX8_longestBelow 56 = .ok (.iconst 1, 1) := by decide +kernel
theorem dX8_longestBelow_57 : decode cX8_longestBelow 57 = .ok (.iadd, 1) := by decide +kernel
theorem dX8_longestBelow_58 : decode cX8_longestBelow 58 = .ok (.istore 4, 2) := by decide +kernel
theorem dX8_longestBelow_60 : decode cX8_longestBelow 60 = .ok (.iinc 6 1, 3) := by decide +kernel
theorem dX8_longestBelow_63 : decode cX8_longestBelow 63 = .ok (.goto (-52), 3) := by decide +kernel
theorem dX8_longestBelow_66 : decode cX8_longestBelow 66 = .ok (.iload_n 2, 1) := by decide +kernel
theorem dX8_longestBelow_67 : decode cX8_longestBelow 67 = .ok (.ifCond .eq 7, 3) := by decide +kernel
theorem dX8_longestBelow_70 : decode cX8_longestBelow 70 = .ok (.iload_n 3, 1) := by decide +kernel
theorem dX8_longestBelow_71 : decode cX8_longestBelow 71 = .ok (.goto 5, 3) := by decide +kernel
theorem dX8_longestBelow_74 : decode cX8_longestBelow 74 = .ok (.iload 4, 2) := by decide +kernel
theorem dX8_longestBelow_76 : decode cX8_longestBelow 76 = .ok (.ireturn, 1) := by decide +kernel
theorem dX8_rowsBelow_0 : decode cX8_rowsBelow 0 = .ok (.iconst 0, 1) := by decide +kernel
theorem dX8_rowsBelow_1 : decode cX8_rowsBelow 1 = .ok (.istore_n 2, 1) := by decide +kernel
theorem dX8_rowsBelow_2 : decode cX8_rowsBelow 2 = .ok (.iconst 0, 1) := by decide +kernel
theorem dX8_rowsBelow_3 : decode cX8_rowsBelow 3 = .ok (.istore_n 3, 1) := by decide +kernel
theorem dX8_rowsBelow_4 : decode cX8_rowsBelow 4 = .ok (.iconst 0, 1) := by decide +kernel
theorem dX8_rowsBelow_5 : decode cX8_rowsBelow 5 = .ok (.istore 4, 2) := by decide +kernel
theorem dX8_rowsBelow_7 : decode cX8_rowsBelow 7 = .ok (.iload 4, 2) := by decide +kernel
theorem dX8_rowsBelow_9 : decode cX8_rowsBelow 9 = .ok (.aload_n 0, 1) := by decide +kernel
theorem dX8_rowsBelow_10 : decode cX8_rowsBelow 10 = .ok (.getfield 9, 3) := by decide +kernel
theorem dX8_rowsBelow_13 : decode cX8_rowsBelow 13 = .ok (.arraylength, 1) := by decide +kernel
theorem dX8_rowsBelow_14 : decode cX8_rowsBelow 14 = .ok (.if_icmp .ge 47, 3) := by decide +kernel
theorem dX8_rowsBelow_17 : decode cX8_rowsBelow 17 = .ok (.aload_n 0, 1) := by decide +kernel
theorem dX8_rowsBelow_18 : decode cX8_rowsBelow 18 = .ok (.getfield 9, 3) := by decide +kernel
theorem dX8_rowsBelow_21 : decode cX8_rowsBelow 21 = .ok (.iload 4, 2) := by decide +kernel
theorem dX8_rowsBelow_23 : decode cX8_rowsBelow 23 = .ok (.iaload, 1) := by decide +kernel
theorem dX8_rowsBelow_24 : decode cX8_rowsBelow 24 = .ok (.iload_n 1, 1) := by decide +kernel
theorem dX8_rowsBelow_25 : decode cX8_rowsBelow 25 = .ok (.if_icmp .ge 7, 3) := by decide +kernel
theorem dX8_rowsBelow_28 : decode cX8_rowsBelow 28 = .ok (.iconst 1, 1) := by decide +kernel
theorem dX8_rowsBelow_29 : decode cX8_rowsBelow 29 = .ok (.goto 4, 3) := by decide +kernel
theorem dX8_rowsBelow_32 : decode cX8_rowsBelow 32 = .ok (.iconst 0, 1) := by decide +kernel
theorem dX8_rowsBelow_33 : decode cX8_rowsBelow 33 = .ok (.istore 5, 2) := by decide +kernel
theorem dX8_rowsBelow_35 : decode cX8_rowsBelow 35 = .ok (.iload_n 2, 1) := by decide +kernel
theorem dX8_rowsBelow_36 : decode cX8_rowsBelow 36 = .ok (.iload 5, 2) := by decide +kernel
theorem dX8_rowsBelow_38 : decode cX8_rowsBelow 38 = .ok (.ifCond .eq 11, 3) := by decide +kernel
theorem dX8_rowsBelow_41 : decode cX8_rowsBelow 41 = .ok (.iload_n 3, 1) := by decide +kernel
theorem dX8_rowsBelow_42 : decode cX8_rowsBelow 42 = .ok (.ifCond .ne 7, 3) := by decide +kernel
theorem dX8_rowsBelow_45 : decode cX8_rowsBelow 45 = .ok (.iconst 1, 1) := by decide +kernel
theorem dX8_rowsBelow_46 : decode cX8_rowsBelow 46 = .ok (.goto 4, 3) := by decide +kernel
theorem dX8_rowsBelow_49 : decode cX8_rowsBelow 49 = .ok (.iconst 0, 1) := by decide +kernel
theorem dX8_rowsBelow_50 : decode cX8_rowsBelow 50 = .ok (.iadd, 1) := by decide +kernel
theorem dX8_rowsBelow_51 : decode cX8_rowsBelow 51 = .ok (.istore_n 2, 1) := by decide +kernel
theorem dX8_rowsBelow_52 : decode cX8_rowsBelow 52 = .ok (.iload 5, 2) := by decide +kernel
theorem dX8_rowsBelow_54 : decode cX8_rowsBelow 54 = .ok (.istore_n 3, 1) := by decide +kernel
theorem dX8_rowsBelow_55 : decode cX8_rowsBelow 55 = .ok (.iinc 4 1, 3) := by decide +kernel
theorem dX8_rowsBelow_58 : decode cX8_rowsBelow 58 = .ok (.goto (-51), 3) := by decide +kernel
theorem dX8_rowsBelow_61 : decode cX8_rowsBelow 61 = .ok (.iload_n 2, 1) := by decide +kernel
theorem dX8_rowsBelow_62 : decode cX8_rowsBelow 62 = .ok (.ireturn, 1) := by decide +kernel
theorem dX9_init_0 : decode cX9_init 0 = .ok (.aload_n 0, 1) := by decide +kernel
theorem dX9_init_1 : decode cX9_init 1 = .ok (.invokespecial 3, 3) := by decide +kernel
theorem dX9_init_4 : decode cX9_init 4 = .ok (.aload_n 0, 1) := by decide +kernel
theorem dX9_init_5 : decode cX9_init 5 = .ok (.sipush 400, 3) := by decide +kernel
theorem dX9_init_8 : decode cX9_init 8 = .ok (.newarray .int, 2) := by decide +kernel
theorem dX9_init_10 : decode cX9_init 10 = .ok (.putfield 9, 3) := by decide +kernel
theorem dX9_init_13 : decode cX9_init 13 = .ok (.aload_n 0, 1) := by decide +kernel
theorem dX9_init_14 : decode cX9_init 14 = .ok (.bipush 12, 2) := by decide +kernel
theorem dX9_init_16 : decode cX9_init 16 = .ok (.newarray .int, 2) := by decide +kernel
theorem dX9_init_18 : decode cX9_init 18 = .ok (.putfield 15, 3) := by decide +kernel
theorem dX9_init_21 : decode cX9_init 21 = .ok (.aload_n 0, 1) := by decide +kernel
theorem dX9_init_22 : decode cX9_init 22 = .ok (.bipush 12, 2) := by decide +kernel
theorem dX9_init_24 : decode cX9_init 24 = .ok (.newarray .int, 2) := by decide +kernel
theorem dX9_init_26 : decode cX9_init 26 = .ok (.putfield 18, 3) := by decide +kernel
theorem dX9_init_29 : decode cX9_init 29 = .ok (.aload_n 0, 1) := by decide +kernel
theorem dX9_init_30 : decode cX9_init 30 = .ok (.bipush 12, 2) := by decide +kernel
theorem dX9_init_32 : decode cX9_init 32 = .ok (.newarray .int, 2) := by decide +kernel
theorem dX9_init_34 : decode cX9_init 34 = .ok (.putfield 21, 3) := by decide +kernel
theorem dX9_init_37 : decode cX9_init 37 = .ok (.aload_n 0, 1) := by decide +kernel
theorem dX9_init_38 : decode cX9_init 38 = .ok (.bipush 12, 2) := by decide +kernel
theorem dX9_init_40 : decode cX9_init 40 = .ok (.newarray .int, 2) := by decide +kernel
theorem dX9_init_42 : decode cX9_init 42 = .ok (.putfield 24, 3) := by decide +kernel
theorem dX9_init_45 : decode cX9_init 45 = .ok (.aload_n 0, 1) := by decide +kernel
theorem dX9_init_46 : decode cX9_init 46 = .ok (.bipush 12, 2) := by decide +kernel
theorem dX9_init_48 : decode cX9_init 48 = .ok (.newarray .int, 2) := by decide +kernel
theorem dX9_init_50 : decode cX9_init 50 = .ok (.putfield 27, 3) := by decide +kernel
theorem dX9_init_53 : decode cX9_init 53 = .ok (.return_, 1) := by decide +kernel
theorem dX9_copyFrom_0 : decode cX9_copyFrom 0 = .ok (.aload_n 1, 1) := by decide +kernel
theorem dX9_copyFrom_1 : decode cX9_copyFrom 1 = .ok (.getfield 9, 3) := by decide +kernel
theorem dX9_copyFrom_4 : decode cX9_copyFrom 4 = .ok (.aload_n 0, 1) := by decide +kernel
theorem dX9_copyFrom_5 : decode cX9_copyFrom 5 = .ok (.getfield 9, 3) := by decide +kernel
theorem dX9_copyFrom_8 : decode cX9_copyFrom 8 = .ok (.invokestatic 30, 3) := by decide +kernel
theorem dX9_copyFrom_11 : decode cX9_copyFrom 11 = .ok (.aload_n 1, 1) := by decide +kernel
theorem dX9_copyFrom_12 : decode cX9_copyFrom 12 = .ok (.getfield 15, 3) := by decide +kernel
theorem dX9_copyFrom_15 : decode cX9_copyFrom 15 = .ok (.aload_n 0, 1) := by decide +kernel
theorem dX9_copyFrom_16 : decode cX9_copyFrom 16 = .ok (.getfield 15, 3) := by decide +kernel
theorem dX9_copyFrom_19 : decode cX9_copyFrom 19 = .ok (.invokestatic 30, 3) := by decide +kernel
theorem dX9_copyFrom_22 : decode cX9_copyFrom 22 = .ok (.aload_n 1, 1) := by decide +kernel
theorem dX9_copyFrom_23 : decode cX9_copyFrom 23 = .ok (.getfield 18, 3) := by decide +kernel
theorem dX9_copyFrom_26 : decode cX9_copyFrom 26 = .ok (.aload_n 0, 1) := by decide +kernel
theorem dX9_copyFrom_27 : decode cX9_copyFrom 27 = .ok (.getfield 18, 3) := by decide +kernel
theorem dX9_copyFrom_30 : decode cX9_copyFrom 30 = .ok (.invokestatic 30, 3) := by decide +kernel
theorem dX9_copyFrom_33 : decode cX9_copyFrom 33 = .ok (.aload_n 1, 1) := by decide +kernel
theorem dX9_copyFrom_34 : decode cX9_copyFrom 34 = .ok (.getfield 21, 3) := by decide +kernel
theorem dX9_copyFrom_37 : decode cX9_copyFrom 37 = .ok (.aload_n 0, 1) := by decide +kernel
theorem dX9_copyFrom_38 : decode cX9_copyFrom 38 = .ok (.getfield 21, 3) := by decide +kernel
theorem dX9_copyFrom_41 : decode cX9_copyFrom 41 = .ok (.invokestatic 30, 3) := by decide +kernel
theorem dX9_copyFrom_44 : decode cX9_copyFrom 44 = .ok (.aload_n 1, 1) := by decide +kernel
theorem dX9_copyFrom_45 : decode cX9_copyFrom 45 = .ok (.getfield 24, 3) := by decide +kernel
theorem dX9_copyFrom_48 : decode cX9_copyFrom 48 = .ok (.aload_n 0, 1) := by decide +kernel
theorem dX9_copyFrom_49 : decode cX9_copyFrom 49 = .ok (.getfield 24, 3) := by decide +kernel
theorem dX9_copyFrom_52 : decode cX9_copyFrom 52 = .ok (.invokestatic 30, 3) := by decide +kernel
theorem dX9_copyFrom_55 : decode cX9_copyFrom 55 = .ok (.aload_n 1, 1) := by decide +kernel
theorem dX9_copyFrom_56 : decode cX9_copyFrom 56 = .ok (.getfield 27, 3) := by decide +kernel
theorem dX9_copyFrom_59 : decode cX9_copyFrom 59 = .ok (.aload_n 0, 1) := by decide +kernel
theorem dX9_copyFrom_60 : decode cX9_copyFrom 60 = .ok (.getfield 27, 3) := by decide +kernel
theorem dX9_copyFrom_63 : decode cX9_copyFrom 63 = .ok (.invokestatic 30, 3) := by decide +kernel
theorem dX9_copyFrom_66 : decode cX9_copyFrom 66 = .ok (.aload_n 0, 1) := by decide +kernel
theorem dX9_copyFrom_67 : decode cX9_copyFrom 67 = .ok (.aload_n 1, 1) := by decide +kernel
theorem dX9_copyFrom_68 : decode cX9_copyFrom 68 = .ok (.getfield 34, 3) := by decide +kernel
theorem dX9_copyFrom_71 : decode cX9_copyFrom 71 = .ok (.putfield 34, 3) := by decide +kernel
theorem dX9_copyFrom_74 : decode cX9_copyFrom 74 = .ok (.aload_n 0, 1) := by decide +kernel
theorem dX9_copyFrom_75 : decode cX9_copyFrom 75 = .ok (.aload_n 1, 1) := by decide +kernel
theorem dX9_copyFrom_76 : decode cX9_copyFrom 76 = .ok (.getfield 38, 3) := by decide +kernel
theorem dX9_copyFrom_79 : decode cX9_copyFrom 79 = .ok (.putfield 38, 3) := by decide +kernel
theorem dX9_copyFrom_82 : decode cX9_copyFrom 82 = .ok (.return_, 1) := by decide +kernel
theorem dX9_open_0 : decode cX9_open 0 = .ok (.aload_n 0, 1) := by decide +kernel
theorem dX9_open_1 : decode cX9_open 1 = .ok (.getfield 15, 3) := by decide +kernel
theorem dX9_open_4 : decode cX9_open 4 = .ok (.aload_n 0, 1) := by decide +kernel
theorem dX9_open_5 : decode cX9_open 5 = .ok (.getfield 38, 3) := by decide +kernel
theorem dX9_open_8 : decode cX9_open 8 = .ok (.iload_n 1, 1) := by decide +kernel
theorem dX9_open_9 : decode cX9_open 9 = .ok (.invokestatic 41, 3) := by decide +kernel
theorem dX9_open_12 : decode cX9_open 12 = .ok (.aload_n 0, 1) := by decide +kernel
theorem dX9_open_13 : decode cX9_open 13 = .ok (.getfield 18, 3) := by decide +kernel
theorem dX9_open_16 : decode cX9_open 16 = .ok (.aload_n 0, 1) := by decide +kernel
theorem dX9_open_17 : decode cX9_open 17 = .ok (.getfield 38, 3) := by decide +kernel
theorem dX9_open_20 : decode cX9_open 20 = .ok (.iconst (-1), 1) := by decide +kernel
theorem dX9_open_21 : decode cX9_open 21 = .ok (.invokestatic 41, 3) := by decide +kernel
theorem dX9_open_24 : decode cX9_open 24 = .ok (.aload_n 0, 1) := by decide +kernel
theorem dX9_open_25 : decode cX9_open 25 = .ok (.getfield 21, 3) := by decide +kernel
theorem dX9_open_28 : decode cX9_open 28 = .ok (.aload_n 0, 1) := by decide +kernel
theorem dX9_open_29 : decode cX9_open 29 = .ok (.getfield 38, 3) := by decide +kernel
theorem dX9_open_32 : decode cX9_open 32 = .ok (.iconst (-1), 1) := by decide +kernel
theorem dX9_open_33 : decode cX9_open 33 = .ok (.invokestatic 41, 3) := by decide +kernel
theorem dX9_open_36 : decode cX9_open 36 = .ok (.aload_n 0, 1) := by decide +kernel
theorem dX9_open_37 : decode cX9_open 37 = .ok (.getfield 24, 3) := by decide +kernel
theorem dX9_open_40 : decode cX9_open 40 = .ok (.aload_n 0, 1) := by decide +kernel
theorem dX9_open_41 : decode cX9_open 41 = .ok (.getfield 38, 3) := by decide +kernel
theorem dX9_open_44 : decode cX9_open 44 = .ok (.iconst 1, 1) := by decide +kernel
theorem dX9_open_45 : decode cX9_open 45 = .ok (.invokestatic 41, 3) := by decide +kernel
theorem dX9_open_48 : decode cX9_open 48 = .ok (.aload_n 0, 1) := by decide +kernel
theorem dX9_open_49 : decode cX9_open 49 = .ok (.getfield 27, 3) := by decide +kernel
theorem dX9_open_52 : decode cX9_open 52 = .ok (.aload_n 0, 1) := by decide +kernel
theorem dX9_open_53 : decode cX9_open 53 = .ok (.getfield 38, 3) := by decide +kernel
theorem dX9_open_56 : decode cX9_open 56 = .ok (.iconst (-1), 1) := by decide +kernel
theorem dX9_open_57 : decode cX9_open 57 = .ok (.invokestatic 41, 3) := by decide +kernel
theorem dX9_open_60 : decode cX9_open 60 = .ok (.return_, 1) := by decide +kernel
theorem dX9_mark_0 : decode cX9_mark 0 = .ok (.aload_n 1, 1) := by decide +kernel
theorem dX9_mark_1 : decode cX9_mark 1 = .ok (.aload_n 0, 1) := by decide +kernel
theorem dX9_mark_2 : decode cX9_mark 2 = .ok (.getfield 38, 3) := by decide +kernel
theorem dX9_mark_5 : decode cX9_mark 5 = .ok (.aload_n 0, 1) := by decide +kernel
theorem dX9_mark_6 : decode cX9_mark 6 = .ok (.getfield 34, 3) := by decide +kernel
theorem dX9_mark_9 : decode cX9_mark 9 = .ok (.invokestatic 41, 3) := by decide +kernel
theorem dX9_mark_12 : decode cX9_mark 12 = .ok (.return_, 1) := by decide +kernel
theorem dX9_add_0 : decode cX9_add 0 = .ok (.aload_n 0, 1) := by decide +kernel
theorem dX9_add_1 : decode cX9_add 1 = .ok (.getfield 34, 3) := by decide +kernel
theorem dX9_add_4 : decode cX9_add 4 = .ok (.ifCond .lt 40, 3) := by decide +kernel
theorem dX9_add_7 : decode cX9_add 7 = .ok (.aload_n 0, 1) := by decide +kernel
theorem dX9_add_8 : decode cX9_add 8 = .ok (.getfield 34, 3) := by decide +kernel
theorem dX9_add_11 : decode cX9_add 11 = .ok (.aload_n 0, 1) := by decide +kernel
theorem dX9_add_12 : decode cX9_add 12 = .ok (.getfield 9, 3) := by decide +kernel
theorem dX9_add_15 : decode cX9_add 15 = .ok (.arraylength, 1) := by decide +kernel
theorem dX9_add_16 : decode cX9_add 16 = .ok (.if_icmp .ge 28, 3) := by decide +kernel
theorem dX9_add_19 : decode cX9_add 19 = .ok (.aload_n 0, 1) := by decide +kernel
theorem dX9_add_20 : decode cX9_add 20 = .ok (.getfield 9, 3) := by decide +kernel
theorem dX9_add_23 : decode cX9_add 23 = .ok (.aload_n 0, 1) := by decide +kernel
theorem dX9_add_24 : decode cX9_add 24 = .ok (.getfield 34, 3) := by decide +kernel
theorem dX9_add_27 : decode cX9_add 27 = .ok (.iload_n 1, 1) := by decide +kernel
theorem dX9_add_28 : decode cX9_add 28 = .ok (.bipush 10, 2) := by decide +kernel
theorem dX9_add_30 : decode cX9_add 30 = .ok (.ishl, 1) := by decide +kernel
theorem dX9_add_31 : decode cX9_add 31 = .ok (.iload_n 2, 1) := by decide +kernel
theorem dX9_add_32 : decode cX9_add 32 = .ok (.ior, 1) := by decide +kernel
theorem dX9_add_33 : decode cX9_add 33 = .ok (.iastore, 1) := by decide +kernel
theorem dX9_add_34 : decode cX9_add 34 = .ok (.aload_n 0, 1) := by decide +kernel
theorem dX9_add_35 : decode cX9_add 35 = .ok (.dup, 1) := by decide +kernel
theorem dX9_add_36 : decode cX9_add 36 = .ok (.getfield 34, 3) := by decide +kernel
theorem dX9_add_39 : decode cX9_add 39 = .ok (.iconst 1, 1) := by decide +kernel
theorem dX9_add_40 : decode cX9_add 40 = .ok (.iadd, 1) := by decide +kernel
theorem dX9_add_41 : decode cX9_add 41 = .ok (.putfield 34, 3) := by decide +kernel
theorem dX9_add_44 : decode cX9_add 44 = .ok (.return_, 1) := by decide +kernel
theorem dX9_aim_0 : decode cX9_aim 0 = .ok (.aload_n 0, 1) := by decide +kernel
theorem dX9_aim_1 : decode cX9_aim 1 = .ok (.getfield 9, 3) := by decide +kernel
theorem dX9_aim_4 : decode cX9_aim 4 = .ok (.iload_n 1, 1) := by decide +kernel
theorem dX9_aim_5 : decode cX9_aim 5 = .ok (.iload_n 2, 1) := by decide +kernel
theorem dX9_aim_6 : decode cX9_aim 6 = .ok (.bipush 10, 2) := by decide +kernel
theorem dX9_aim_8 : decode cX9_aim 8 = .ok (.ishl, 1) := by decide +kernel
theorem dX9_aim_9 : decode cX9_aim 9 = .ok (.aload_n 0, 1) := by decide +kernel
theorem dX9_aim_10 : decode cX9_aim 10 = .ok (.getfield 34, 3) := by decide +kernel
theorem dX9_aim_13 : decode cX9_aim 13 = .ok (.ior, 1) := by decide +kernel
theorem dX9_aim_14 : decode cX9_aim 14 = .ok (.invokestatic 41, 3) := by decide +kernel
theorem dX9_aim_17 : decode cX9_aim 17 = .ok (.return_, 1) := by decide +kernel
theorem dX10_init_0 : decode cX10_init 0 = .ok (.aload_n 0, 1) := by decide +kernel
theorem dX10_init_1 : decode cX10_init 1 = .ok (.invokespecial 3, 3) := by decide +kernel
theorem dX10_init_4 : decode cX10_init 4 = .ok (.aload_n 0, 1) := by decide +kernel
theorem dX10_init_5 : decode cX10_init 5 = .ok (.new 9, 3) := by decide +kernel
theorem dX10_init_8 : decode cX10_init 8 = .ok (.dup, 1) := by decide +kernel
theorem dX10_init_9 : decode cX10_init 9 = .ok (.invokespecial 11, 3) := by decide +kernel
theorem dX10_init_12 : decode cX10_init 12 = .ok (.putfield 12, 3) := by decide +kernel
theorem dX10_init_15 : decode cX10_init 15 = .ok (.aload_n 0, 1) := by decide +kernel
theorem dX10_init_16 : decode cX10_init 16 = .ok (.new 18, 3) := by decide +kernel
theorem dX10_init_19 : decode cX10_init 19 = .ok (.dup, 1) := by decide +kernel
theorem dX10_init_20 : decode cX10_init 20 = .ok (.invokespecial 20, 3) := by decide +kernel
theorem dX10_init_23 : decode cX10_init 23 = .ok (.putfield 21, 3) := by decide +kernel
theorem dX10_init_26 : decode cX10_init 26 = .ok (.aload_n 0, 1) := by decide +kernel
theorem dX10_init_27 : decode cX10_init 27 = .ok (.new 25, 3) := by decide +kernel
theorem dX10_init_30 : decode cX10_init 30 = .ok (.dup, 1) := by decide +kernel
theorem dX10_init_31 : decode cX10_init 31 = .ok (.invokespecial 27, 3) := by decide +kernel
theorem dX10_init_34 : decode cX10_init 34 = .ok (.putfield 28, 3) := by decide +kernel
theorem dX10_init_37 : decode cX10_init 37 = .ok (.aload_n 0, 1) := by decide +kernel
theorem dX10_init_38 : decode cX10_init 38 = .ok (.bipush 27, 2) := by decide +kernel
theorem dX10_init_40 : decode cX10_init 40 = .ok (.newarray .int, 2) := by decide +kernel
theorem dX10_init_42 : decode cX10_init 42 = .ok (.putfield 32, 3) := by decide +kernel
theorem dX10_init_45 : decode cX10_init 45 = .ok (.aload_n 0, 1) := by decide +kernel
theorem dX10_init_46 : decode cX10_init 46 = .ok (.new 18, 3) := by decide +kernel
theorem dX10_init_49 : decode cX10_init 49 = .ok (.dup, 1) := by decide +kernel
theorem dX10_init_50 : decode cX10_init 50 = .ok (.invokespecial 20, 3) := by decide +kernel
theorem dX10_init_53 : decode cX10_init 53 = .ok (.putfield 36, 3) := by decide +kernel
theorem dX10_init_56 : decode cX10_init 56 = .ok (.aload_n 0, 1) := by decide +kernel
theorem dX10_init_57 : decode cX10_init 57 = .ok (.aload_n 1, 1) := by decide +kernel
theorem dX10_init_58 : decode cX10_init 58 = .ok (.putfield 39, 3) := by decide +kernel
theorem dX10_init_61 : decode cX10_init 61 = .ok (.aload_n 0, 1) := by decide +kernel
theorem dX10_init_62 : decode cX10_init 62 = .ok (.aload_n 2, 1) := by decide +kernel
theorem dX10_init_63 : decode cX10_init 63 = .ok (.putfield 42, 3) := by decide +kernel
theorem dX10_init_66 : decode cX10_init 66 = .ok (.return_, 1) := by decide +kernel
theorem dX10_startOn_0 : decode cX10_startOn 0 = .ok (.iload_n 2, 1) := by decide +kernel
theorem dX10_startOn_1 : decode cX10_startOn 1 = .ok (.iconst 0, 1) := by decide +kernel
theorem dX10_startOn_2 : decode cX10_startOn 2 = .ok (.bipush 15, 2) := by decide +kernel
theorem dX10_startOn_4 : decode cX10_startOn 4 = .ok (.invokestatic 46, 3) := by decide +kernel
theorem dX10_startOn_7 : decode cX10_startOn 7 = .ok (.ifCond .ne 5, 3) := by decide +kernel
theorem dX10_startOn_10 : decode cX10_startOn 10 = .ok (.iconst (-1), 1) := by decide +kernel
theorem dX10_startOn_11 : decode cX10_startOn 11 = .ok (.ireturn, 1) := by decide +kernel
theorem dX10_startOn_12 : decode cX10_startOn 12 = .ok (.aload_n 0, 1) := by decide +kernel
theorem dX10_startOn_13 : decode cX10_startOn 13 = .ok (.getfield 39, 3) := by decide +kernel
theorem dX10_startOn_16 : decode cX10_startOn 16 = .ok (.iload_n 1, 1) := by decide +kernel
theorem dX10_startOn_17 : decode cX10_startOn 17 = .ok (.invokevirtual 50, 3) := by decide +kernel
theorem dX10_startOn_20 : decode cX10_startOn 20 = .ok (.ifCond .ne 6, 3) := by decide +kernel
theorem dX10_startOn_23 : decode cX10_startOn 23 = .ok (.bipush (-2), 2) := by decide +kernel
theorem dX10_startOn_25 : decode cX10_startOn 25 = .ok (.ireturn, 1) := by decide +kernel
theorem dX10_startOn_26 : decode cX10_startOn 26 = .ok (.aload_n 0, 1) := by decide +kernel
theorem dX10_startOn_27 : decode cX10_startOn 27 = .ok (.getfield 42, 3) := by decide +kernel
theorem dX10_startOn_30 : decode cX10_startOn 30 = .ok (.aload_n 0, 1) := by decide +kernel
theorem dX10_startOn_31 : decode cX10_startOn 31 = .ok (.getfield 39, 3) := by decide +kernel
theorem dX10_startOn_34 : decode cX10_startOn 34 = .ok (.iload_n 1, 1) := by decide +kernel
theorem dX10_startOn_35 : decode cX10_startOn 35 = .ok (.iload_n 2, 1) := by decide +kernel
theorem dX10_startOn_36 : decode cX10_startOn 36 = .ok (.invokevirtual 54, 3) := by decide +kernel
theorem dX10_startOn_39 : decode cX10_startOn 39 = .ok (.ifCond .ne 6, 3) := by decide +kernel
theorem dX10_startOn_42 : decode cX10_startOn 42 = .ok (.bipush (-3), 2) := by decide +kernel
theorem dX10_startOn_44 : decode cX10_startOn 44 = .ok (.ireturn, 1) := by decide +kernel
theorem dX10_startOn_45 : decode cX10_startOn 45 = .ok (.aload_n 0, 1) := by decide +kernel
theorem dX10_startOn_46 : decode cX10_startOn 46 = .ok (.getfield 36, 3) := by decide +kernel
theorem dX10_startOn_49 : decode cX10_startOn 49 = .ok (.iconst 0, 1) := by decide +kernel
theorem dX10_startOn_50 : decode cX10_startOn 50 = .ok (.aload_n 0, 1) := by decide +kernel
theorem dX10_startOn_51 : decode cX10_startOn 51 = .ok (.getfield 39, 3) := by decide +kernel
theorem dX10_startOn_54 : decode cX10_startOn 54 = .ok (.invokevirtual 60, 3) := by decide +kernel
theorem dX10_startOn_57 : decode cX10_startOn 57 = .ok (.aload_n 0, 1) := by decide +kernel
theorem dX10_startOn_58 : decode cX10_startOn 58 = .ok (.getfield 39, 3) := by decide +kernel
theorem dX10_startOn_61 : decode cX10_startOn 61 = .ok (.getfield 64, 3) := by decide +kernel
theorem dX10_startOn_64 : decode cX10_startOn 64 = .ok (.iload_n 1, 1) := by decide +kernel
theorem dX10_startOn_65 : decode cX10_startOn 65 = .ok (.iload_n 2, 1) := by decide +kernel
theorem dX10_startOn_66 : decode cX10_startOn 66 = .ok (.invokestatic 67, 3) := by decide +kernel
theorem dX10_startOn_69 : decode cX10_startOn 69 = .ok (.aload_n 0, 1) := by decide +kernel
theorem dX10_startOn_70 : decode cX10_startOn 70 = .ok (.getfield 39, 3) := by decide +kernel
theorem dX10_startOn_73 : decode cX10_startOn 73 = .ok (.invokevirtual 71, 3) := by decide +kernel
theorem dX10_startOn_76 : decode cX10_startOn 76 = .ok (.ireturn, 1) := by decide +kernel
theorem dX10_addCourse_0 : decode cX10_addCourse 0 = .ok (.aload_n 0, 1) := by decide +kernel
theorem dX10_addCourse_1 : decode cX10_addCourse 1 = .ok (.getfield 39, 3) := by decide +kernel
theorem dX10_addCourse_4 : decode cX10_addCourse 4 = .ok (.iload_n 1, 1) := by decide +kernel
theorem dX10_addCourse_5 : decode cX10_addCourse 5 = .ok (.invokevirtual 50, 3) := by decide +kernel
theorem dX10_addCourse_8 : decode cX10_addCourse 8 = .ok (.ifCond .ne 6, 3) := by decide +kernel
theorem dX10_addCourse_11 : decode cX10_addCourse 11 = .ok (.bipush (-2), 2) := by decide +kernel
theorem dX10_addCourse_13 : decode cX10_addCourse 13 = .ok (.ireturn, 1) := by decide +kernel
theorem dX10_addCourse_14 : decode cX10_addCourse 14 = .ok (.aload_n 0, 1) := by decide +kernel
theorem dX10_addCourse_15 : decode cX10_addCourse 15 = .ok (.getfield 39, 3) := by decide +kernel
theorem dX10_addCourse_18 : decode cX10_addCourse 18 = .ok (.getfield 64, 3) := by decide +kernel
theorem dX10_addCourse_21 : decode cX10_addCourse 21 = .ok (.iload_n 1, 1) := by decide +kernel
theorem dX10_addCourse_22 : decode cX10_addCourse 22 = .ok (.invokestatic 75, 3) := by decide +kernel
theorem dX10_addCourse_25 : decode cX10_addCourse 25 = .ok (.istore_n 2, 1) := by decide +kernel
theorem dX10_addCourse_26 : decode cX10_addCourse 26 = .ok (.iload_n 2, 1) := by decide +kernel
theorem dX10_addCourse_27 : decode cX10_addCourse 27 = .ok (.iconst (-1), 1) := by decide +kernel
theorem dX10_addCourse_28 : decode cX10_addCourse 28 = .ok (.if_icmp .ne 6, 3) := by decide +kernel
theorem dX10_addCourse_31 : decode cX10_addCourse 31 = .ok (.bipush (-3), 2) := by decide +kernel
theorem dX10_addCourse_33 : decode cX10_addCourse 33 = .ok (.ireturn, 1) := by decide +kernel
theorem dX10_addCourse_34 : decode cX10_addCourse 34 = .ok (.aload_n 0, 1) := by decide +kernel
theorem dX10_addCourse_35 : decode cX10_addCourse 35 = .ok (.getfield 36, 3) := by decide +kernel
theorem dX10_addCourse_38 : decode cX10_addCourse 38 = .ok (.iconst 1, 1) := by decide +kernel
theorem dX10_addCourse_39 : decode cX10_addCourse 39 = .ok (.aload_n 0, 1) := by decide +kernel
theorem dX10_addCourse_40 : decode cX10_addCourse 40 = .ok (.getfield 39, 3) := by decide +kernel
theorem dX10_addCourse_43 : decode cX10_addCourse 43 = .ok (.invokevirtual 60, 3) := by decide +kernel
theorem dX10_addCourse_46 : decode cX10_addCourse 46 = .ok (.aload_n 0, 1) := by decide +kernel
theorem dX10_addCourse_47 : decode cX10_addCourse 47 = .ok (.getfield 39, 3) := by decide +kernel
theorem dX10_addCourse_50 : decode cX10_addCourse 50 = .ok (.iload_n 1, 1) := by decide +kernel
theorem dX10_addCourse_51 : decode cX10_addCourse 51 = .ok (.iconst 1, 1) := by decide +kernel
theorem dX10_addCourse_52 : decode cX10_addCourse 52 = .ok (.invokevirtual 79, 3) := by decide +kernel
theorem dX10_addCourse_55 : decode cX10_addCourse 55 = .ok (.pop, 1) := by decide +kernel
theorem dX10_addCourse_56 : decode cX10_addCourse 56 = .ok (.aload_n 0, 1) := by decide +kernel
theorem dX10_addCourse_57 : decode cX10_addCourse 57 = .ok (.getfield 39, 3) := by decide +kernel
theorem dX10_addCourse_60 : decode cX10_addCourse 60 = .ok (.getfield 83, 3) := by decide +kernel
theorem dX10_addCourse_63 : decode cX10_addCourse 63 = .ok (.iload_n 2, 1) := by decide +kernel
theorem dX10_addCourse_64 : decode cX10_addCourse 64 = .ok (.invokestatic 75, 3) := by decide +kernel
theorem dX10_addCourse_67 : decode cX10_addCourse 67 = .ok (.ireturn, 1) := by decide +kernel
theorem dX10_bury_0 : decode cX10_bury 0 = .ok (.aload_n 0, 1) := by decide +kernel
theorem dX10_bury_1 : decode cX10_bury 1 = .ok (.getfield 39, 3) := by decide +kernel
theorem dX10_bury_4 : decode cX10_bury 4 = .ok (.iload_n 1, 1) := by decide +kernel
theorem dX10_bury_5 : decode cX10_bury 5 = .ok (.invokevirtual 50, 3) := by decide +kernel
theorem dX10_bury_8 : decode cX10_bury 8 = .ok (.ifCond .ne 6, 3) := by decide +kernel
theorem dX10_bury_11 : decode cX10_bury 11 = .ok (.bipush (-2), 2) := by decide +kernel
theorem dX10_bury_13 : decode cX10_bury 13 = .ok (.ireturn, 1) := by decide +kernel
theorem dX10_bury_14 : decode cX10_bury 14 = .ok (.aload_n 0, 1) := by decide +kernel
theorem dX10_bury_15 : decode cX10_bury 15 = .ok (.getfield 39, 3) := by decide +kernel
theorem dX10_bury_18 : decode cX10_bury 18 = .ok (.getfield 86, 3) := by decide +kernel
theorem dX10_bury_21 : decode cX10_bury 21 = .ok (.iload_n 1, 1) := by decide +kernel
theorem dX10_bury_22 : decode cX10_bury 22 = .ok (.invokestatic 75, 3) := by decide +kernel
theorem dX10_bury_25 : decode cX10_bury 25 = .ok (.ifCond .ne 6, 3) := by decide +kernel
theorem dX10_bury_28 : decode cX10_bury 28 = .ok (.bipush (-3), 2) := by decide +kernel
theorem dX10_bury_30 : decode cX10_bury 30 = .ok (.ireturn, 1) := by decide +kernel
theorem dX10_bury_31 : decode cX10_bury 31 = .ok (.aload_n 0, 1) := by decide +kernel
theorem dX10_bury_32 : decode cX10_bury 32 = .ok (.getfield 36, 3) := by decide +kernel
theorem dX10_bury_35 : decode cX10_bury 35 = .ok (.iconst 2, 1) := by decide +kernel
theorem dX10_bury_36 : decode cX10_bury 36 = .ok (.aload_n 0, 1) := by decide +kernel
theorem dX10_bury_37 : decode cX10_bury 37 = .ok (.getfield 39, 3) := by decide +kernel
theorem dX10_bury_40 : decode cX10_bury 40 = .ok (.invokevirtual 60, 3) := by decide +kernel
theorem dX10_bury_43 : decode cX10_bury 43 = .ok (.aload_n 0, 1) := by decide +kernel
theorem dX10_bury_44 : decode cX10_bury 44 = .ok (.getfield 39, 3) := by decide +kernel
theorem dX10_bury_47 : decode cX10_bury 47 = .ok (.iload_n 1, 1) := by decide +kernel
theorem dX10_bury_48 : decode cX10_bury 48 = .ok (.invokevirtual 89, 3) := by decide +kernel
theorem dX10_bury_51 : decode cX10_bury 51 = .ok (.ireturn, 1) := by decide +kernel
theorem dX10_passYear_0 : decode cX10_passYear 0 = .ok (.aload_n 0, 1) := by decide +kernel
theorem dX10_passYear_1 : decode cX10_passYear 1 = .ok (.getfield 39, 3) := by decide +kernel
theorem dX10_passYear_4 : decode cX10_passYear 4 = .ok (.getfield 93, 3) := by decide +kernel
theorem dX10_passYear_7 : decode cX10_passYear 7 = .ok (.iconst 0, 1) := by decide +kernel
theorem dX10_passYear_8 : decode cX10_passYear 8 = .ok (.invokestatic 75, 3) := by decide +kernel
theorem dX10_passYear_11 : decode cX10_passYear 11 = .ok (.sipush 999, 3) := by decide +kernel
theorem dX10_passYear_14 : decode cX10_passYear 14 = .ok (.if_icmp .lt 6, 3) := by decide +kernel
theorem dX10_passYear_17 : decode cX10_passYear 17 = .ok (.bipush (-3), 2) := by decide +kernel
theorem dX10_passYear_19 : decode cX10_passYear 19 = .ok (.ireturn, 1) := by decide +kernel
theorem dX10_passYear_20 : decode cX10_passYear 20 = .ok (.aload_n 0, 1) := by decide +kernel
theorem dX10_passYear_21 : decode cX10_passYear 21 = .ok (.getfield 36, 3) := by decide +kernel
theorem dX10_passYear_24 : decode cX10_passYear 24 = .ok (.iconst 3, 1) := by decide +kernel
theorem dX10_passYear_25 : decode cX10_passYear 25 = .ok (.aload_n 0, 1) := by decide +kernel
theorem dX10_passYear_26 : decode cX10_passYear 26 = .ok (.getfield 39, 3) := by decide +kernel
theorem dX10_passYear_29 : decode cX10_passYear 29 = .ok (.invokevirtual 60, 3) := by decide +kernel
theorem dX10_passYear_32 : decode cX10_passYear 32 = .ok (.aload_n 0, 1) := by decide +kernel
theorem dX10_passYear_33 : decode cX10_passYear 33 = .ok (.getfield 42, 3) := by decide +kernel
theorem dX10_passYear_36 : decode cX10_passYear 36 = .ok (.aload_n 0, 1) := by decide +kernel
theorem dX10_passYear_37 : decode cX10_passYear 37 = .ok (.getfield 39, 3) := by decide +kernel
theorem dX10_passYear_40 : decode cX10_passYear 40 = .ok (.invokevirtual 96, 3) := by decide +kernel
theorem dX10_passYear_43 : decode cX10_passYear 43 = .ok (.ireturn, 1) := by decide +kernel
theorem dX10_takeBack_0 : decode cX10_takeBack 0 = .ok (.aload_n 0, 1) := by decide +kernel
theorem dX10_takeBack_1 : decode cX10_takeBack 1 = .ok (.getfield 36, 3) := by decide +kernel
theorem dX10_takeBack_4 : decode cX10_takeBack 4 = .ok (.aload_n 0, 1) := by decide +kernel
theorem dX10_takeBack_5 : decode cX10_takeBack 5 = .ok (.getfield 39, 3) := by decide +kernel
theorem dX10_takeBack_8 : decode cX10_takeBack 8 = .ok (.invokevirtual 100, 3) := by decide +kernel
theorem dX10_takeBack_11 : decode cX10_takeBack 11 = .ok (.ireturn, 1) := by decide +kernel
theorem dX10_runAll_0 : decode cX10_runAll 0 = .ok (.aload_n 0, 1) := by decide +kernel
theorem dX10_runAll_1 : decode cX10_runAll 1 = .ok (.getfield 12, 3) := by decide +kernel
theorem dX10_runAll_4 : decode cX10_runAll 4 = .ok (.aload_n 0, 1) := by decide +kernel
theorem dX10_runAll_5 : decode cX10_runAll 5 = .ok (.getfield 39, 3) := by decide +kernel
theorem dX10_runAll_8 : decode cX10_runAll 8 = .ok (.invokevirtual 103, 3) := by decide +kernel
theorem dX10_runAll_11 : decode cX10_runAll 11 = .ok (.aload_n 0, 1) := by decide +kernel
theorem dX10_runAll_12 : decode cX10_runAll 12 = .ok (.getfield 21, 3) := by decide +kernel
theorem dX10_runAll_15 : decode cX10_runAll 15 = .ok (.aload_n 0, 1) := by decide +kernel
theorem dX10_runAll_16 : decode cX10_runAll 16 = .ok (.getfield 36, 3) := by decide +kernel
theorem dX10_runAll_19 : decode cX10_runAll 19 = .ok (.invokevirtual 107, 3) := by decide +kernel
theorem dX10_runAll_22 : decode cX10_runAll 22 = .ok (.aload_n 0, 1) := by decide +kernel
theorem dX10_runAll_23 : decode cX10_runAll 23 = .ok (.iconst 0, 1) := by decide +kernel
theorem dX10_runAll_24 : decode cX10_runAll 24 = .ok (.putfield 110, 3) := by decide +kernel
theorem dX10_runAll_27 : decode cX10_runAll 27 = .ok (.aload_n 0, 1) := by decide +kernel
theorem dX10_runAll_28 : decode cX10_runAll 28 = .ok (.iconst (-1), 1) := by decide +kernel
theorem dX10_runAll_29 : decode cX10_runAll 29 = .ok (.putfield 114, 3) := by decide +kernel
theorem dX10_runAll_32 : decode cX10_runAll 32 = .ok (.aload_n 0, 1) := by decide +kernel
theorem dX10_runAll_33 : decode cX10_runAll 33 = .ok (.iconst (-1), 1) := by decide +kernel
theorem dX10_runAll_34 : decode cX10_runAll 34 = .ok (.putfield 117, 3) := by decide +kernel
theorem dX10_runAll_37 : decode cX10_runAll 37 = .ok (.iconst 0, 1) := by decide +kernel
theorem dX10_runAll_38 : decode cX10_runAll 38 = .ok (.istore_n 2, 1) := by decide +kernel
theorem dX10_runAll_39 : decode cX10_runAll 39 = .ok (.iload_n 2, 1) := by decide +kernel
theorem dX10_runAll_40 : decode cX10_runAll 40 = .ok (.aload_n 1, 1) := by decide +kernel
theorem dX10_runAll_41 : decode cX10_runAll 41 = .ok (.getfield 120, 3) := by decide +kernel
theorem dX10_runAll_44 : decode cX10_runAll 44 = .ok (.if_icmp .ge 72, 3) := by decide +kernel
theorem dX10_runAll_47 : decode cX10_runAll 47 = .ok (.aload_n 1, 1) := by decide +kernel
theorem dX10_runAll_48 : decode cX10_runAll 48 = .ok (.getfield 125, 3) := by decide +kernel
theorem dX10_runAll_51 : decode cX10_runAll 51 = .ok (.iload_n 2, 1) := by decide +kernel
theorem dX10_runAll_52 : decode cX10_runAll 52 = .ok (.invokestatic 75, 3) := by decide +kernel
theorem dX10_runAll_55 : decode cX10_runAll 55 = .ok (.istore_n 3, 1) := by decide +kernel
theorem dX10_runAll_56 : decode cX10_runAll 56 = .ok (.iconst 0, 1) := by decide +kernel
theorem dX10_runAll_57 : decode cX10_runAll 57 = .ok (.istore 4, 2) := by decide +kernel
theorem dX10_runAll_59 : decode cX10_runAll 59 = .ok (.iload 4, 2) := by decide +kernel
theorem dX10_runAll_61 : decode cX10_runAll 61 = .ok (.iload_n 3, 1) := by decide +kernel
theorem dX10_runAll_62 : decode cX10_runAll 62 = .ok (.if_icmp .ge 48, 3) := by decide +kernel
theorem dX10_runAll_65 : decode cX10_runAll 65 = .ok (.aload_n 0, 1) := by decide +kernel
theorem dX10_runAll_66 : decode cX10_runAll 66 = .ok (.aload_n 1, 1) := by decide +kernel
theorem dX10_runAll_67 : decode cX10_runAll 67 = .ok (.iload_n 2, 1) := by decide +kernel
theorem dX10_runAll_68 : decode cX10_runAll 68 = .ok (.invokevirtual 128, 3) := by decide +kernel
theorem dX10_runAll_71 : decode cX10_runAll 71 = .ok (.ifCond .ne 33, 3) := by decide +kernel
theorem dX10_runAll_74 : decode cX10_runAll 74 = .ok (.aload_n 0, 1) := by decide +kernel
theorem dX10_runAll_75 : decode cX10_runAll 75 = .ok (.iload_n 2, 1) := by decide +kernel
theorem dX10_runAll_76 : decode cX10_runAll 76 = .ok (.putfield 117, 3) := by decide +kernel
theorem dX10_runAll_79 : decode cX10_runAll 79 = .ok (.aload_n 0, 1) := by decide +kernel
theorem dX10_runAll_80 : decode cX10_runAll 80 = .ok (.getfield 39, 3) := by decide +kernel
theorem dX10_runAll_83 : decode cX10_runAll 83 = .ok (.aload_n 0, 1) := by decide +kernel
theorem dX10_runAll_84 : decode cX10_runAll 84 = .ok (.getfield 12, 3) := by decide +kernel
theorem dX10_runAll_87 : decode cX10_runAll 87 = .ok (.invokevirtual 103, 3) := by decide +kernel
theorem dX10_runAll_90 : decode cX10_runAll 90 = .ok (.aload_n 0, 1) := by decide +kernel
theorem dX10_runAll_91 : decode cX10_runAll 91 = .ok (.getfield 36, 3) := by decide +kernel
theorem dX10_runAll_94 : decode cX10_runAll 94 = .ok (.aload_n 0, 1) := by decide +kernel
theorem dX10_runAll_95 : decode cX10_runAll 95 = .ok (.getfield 21, 3) := by decide +kernel
theorem dX10_runAll_98 : decode cX10_runAll 98 = .ok (.invokevirtual 107, 3) := by decide +kernel
theorem dX10_runAll_101 : decode cX10_runAll 101 = .ok (.bipush (-3), 2) := by decide +kernel
theorem dX10_runAll_103 : decode cX10_runAll 103 = .ok (.ireturn, 1) := by decide +kernel
theorem dX10_runAll_104 : decode cX10_runAll 104 = .ok (.iinc 4 1, 3) := by decide +kernel
theorem dX10_runAll_107 : decode cX10_runAll 107 = .ok (.goto (-48), 3) := by decide +kernel
theorem dX10_runAll_110 : decode cX10_runAll 110 = .ok (.iinc 2 1, 3) := by decide +kernel
theorem dX10_runAll_113 : decode cX10_runAll 113 = .ok (.goto (-74), 3) := by decide +kernel
theorem dX10_runAll_116 : decode cX10_runAll 116 = .ok (.aload_n 0, 1) := by decide +kernel
theorem dX10_runAll_117 : decode cX10_runAll 117 = .ok (.getfield 110, 3) := by decide +kernel
theorem dX10_runAll_120 : decode cX10_runAll 120 = .ok (.ireturn, 1) := by decide +kernel
theorem dX10_runOnce_0 : decode cX10_runOnce 0 = .ok (.aload_n 0, 1) := by decide +kernel
theorem dX10_runOnce_1 : decode cX10_runOnce 1 = .ok (.invokevirtual 132, 3) := by decide +kernel
theorem dX10_runOnce_4 : decode cX10_runOnce 4 = .ok (.aload_n 0, 1) := by decide +kernel
theorem dX10_runOnce_5 : decode cX10_runOnce 5 = .ok (.getfield 28, 3) := by decide +kernel
theorem dX10_runOnce_8 : decode cX10_runOnce 8 = .ok (.aload_n 1, 1) := by decide +kernel
theorem dX10_runOnce_9 : decode cX10_runOnce 9 = .ok (.getfield 135, 3) := by decide +kernel
theorem dX10_runOnce_12 : decode cX10_runOnce 12 = .ok (.aload_n 1, 1) := by decide +kernel
theorem dX10_runOnce_13 : decode cX10_runOnce 13 = .ok (.getfield 138, 3) := by decide +kernel
theorem dX10_runOnce_16 : decode cX10_runOnce 16 = .ok (.iload_n 2, 1) := by decide +kernel
theorem dX10_runOnce_17 : decode cX10_runOnce 17 = .ok (.invokestatic 75, 3) := by decide +kernel
theorem dX10_runOnce_20 : decode cX10_runOnce 20 = .ok (.aload_n 0, 1) := by decide +kernel
theorem dX10_runOnce_21 : decode cX10_runOnce 21 = .ok (.getfield 32, 3) := by decide +kernel
theorem dX10_runOnce_24 : decode cX10_runOnce 24 = .ok (.invokevirtual 141, 3) := by decide +kernel
theorem dX10_runOnce_27 : decode cX10_runOnce 27 = .ok (.ifCond .eq 18, 3) := by decide +kernel
theorem dX10_runOnce_30 : decode cX10_runOnce 30 = .ok (.aload_n 0, 1) := by decide +kernel
theorem dX10_runOnce_31 : decode cX10_runOnce 31 = .ok (.getfield 28, 3) := by decide +kernel
theorem dX10_runOnce_34 : decode cX10_runOnce 34 = .ok (.getfield 145, 3) := by decide +kernel
theorem dX10_runOnce_37 : decode cX10_runOnce 37 = .ok (.iconst 1, 1) := by decide +kernel
theorem dX10_runOnce_38 : decode cX10_runOnce 38 = .ok (.if_icmp .ne 7, 3) := by decide +kernel
theorem dX10_runOnce_41 : decode cX10_runOnce 41 = .ok (.iconst 1, 1) := by decide +kernel
theorem dX10_runOnce_42 : decode cX10_runOnce 42 = .ok (.goto 4, 3) := by decide +kernel
theorem dX10_runOnce_45 : decode cX10_runOnce 45 = .ok (.iconst 0, 1) := by decide +kernel
theorem dX10_runOnce_46 : decode cX10_runOnce 46 = .ok (.istore_n 3, 1) := by decide +kernel
theorem dX10_runOnce_47 : decode cX10_runOnce 47 = .ok (.iload_n 3, 1) := by decide +kernel
theorem dX10_runOnce_48 : decode cX10_runOnce 48 = .ok (.ifCond .ne 5, 3) := by decide +kernel
theorem dX10_runOnce_51 : decode cX10_runOnce 51 = .ok (.iconst 1, 1) := by decide +kernel
theorem dX10_runOnce_52 : decode cX10_runOnce 52 = .ok (.ireturn, 1) := by decide +kernel
theorem dX10_runOnce_53 : decode cX10_runOnce 53 = .ok (.aload_n 0, 1) := by decide +kernel
theorem dX10_runOnce_54 : decode cX10_runOnce 54 = .ok (.getfield 28, 3) := by decide +kernel
theorem dX10_runOnce_57 : decode cX10_runOnce 57 = .ok (.aload_n 1, 1) := by decide +kernel
theorem dX10_runOnce_58 : decode cX10_runOnce 58 = .ok (.getfield 135, 3) := by decide +kernel
theorem dX10_runOnce_61 : decode cX10_runOnce 61 = .ok (.aload_n 1, 1) := by decide +kernel
theorem dX10_runOnce_62 : decode cX10_runOnce 62 = .ok (.getfield 148, 3) := by decide +kernel
theorem dX10_runOnce_65 : decode cX10_runOnce 65 = .ok (.iload_n 2, 1) := by decide +kernel
theorem dX10_runOnce_66 : decode cX10_runOnce 66 = .ok (.invokestatic 75, 3) := by decide +kernel
theorem dX10_runOnce_69 : decode cX10_runOnce 69 = .ok (.aload_n 0, 1) := by decide +kernel
theorem dX10_runOnce_70 : decode cX10_runOnce 70 = .ok (.getfield 32, 3) := by decide +kernel
theorem dX10_runOnce_73 : decode cX10_runOnce 73 = .ok (.invokevirtual 141, 3) := by decide +kernel
theorem dX10_runOnce_76 : decode cX10_runOnce 76 = .ok (.ifCond .ne 5, 3) := by decide +kernel
theorem dX10_runOnce_79 : decode cX10_runOnce 79 = .ok (.iconst 0, 1) := by decide +kernel
theorem dX10_runOnce_80 : decode cX10_runOnce 80 = .ok (.ireturn, 1) := by decide +kernel
theorem dX10_runOnce_81 : decode cX10_runOnce 81 = .ok (.aload_n 0, 1) := by decide +kernel
theorem dX10_runOnce_82 : decode cX10_runOnce 82 = .ok (.getfield 28, 3) := by decide +kernel
theorem dX10_runOnce_85 : decode cX10_runOnce 85 = .ok (.getfield 145, 3) := by decide +kernel
theorem dX10_runOnce_88 : decode cX10_runOnce 88 = .ok (.istore 4, 2) := by decide +kernel
theorem dX10_runOnce_90 : decode cX10_runOnce 90 = .ok (.aload_n 0, 1) := by decide +kernel
theorem dX10_runOnce_91 : decode cX10_runOnce 91 = .ok (.getfield 28, 3) := by decide +kernel
theorem dX10_runOnce_94 : decode cX10_runOnce 94 = .ok (.aload_n 1, 1) := by decide +kernel
theorem dX10_runOnce_95 : decode cX10_runOnce 95 = .ok (.getfield 135, 3) := by decide +kernel
theorem dX10_runOnce_98 : decode cX10_runOnce 98 = .ok (.aload_n 1, 1) := by decide +kernel
theorem dX10_runOnce_99 : decode cX10_runOnce 99 = .ok (.getfield 151, 3) := by decide +kernel
theorem dX10_runOnce_102 : decode cX10_runOnce 102 = .ok (.iload_n 2, 1) := by decide +kernel
theorem dX10_runOnce_103 : decode cX10_runOnce 103 = .ok (.invokestatic 75, 3) := by decide +kernel
theorem dX10_runOnce_106 : decode cX10_runOnce 106 = .ok (.aload_n 0, 1) := by decide +kernel
theorem dX10_runOnce_107 : decode cX10_runOnce 107 = .ok (.getfield 32, 3) := by decide +kernel
theorem dX10_runOnce_110 : decode cX10_runOnce 110 = .ok (.invokevirtual 141, 3) := by decide +kernel
theorem dX10_runOnce_113 : decode cX10_runOnce 113 = .ok (.ifCond .ne 5, 3) := by decide +kernel
theorem dX10_runOnce_116 : decode cX10_runOnce 116 = .ok (.iconst 0, 1) := by decide +kernel
theorem dX10_runOnce_117 : decode cX10_runOnce 117 = .ok (.ireturn, 1) := by decide +kernel
theorem dX10_runOnce_118 : decode cX10_runOnce 118 = .ok (.aload_n 0, 1) := by decide +kernel
theorem dX10_runOnce_119 : decode cX10_runOnce 119 = .ok (.dup, 1) := by decide +kernel
theorem dX10_runOnce_120 : decode cX10_runOnce 120 = .ok (.getfield 110, 3) := by decide +kernel
theorem dX10_runOnce_123 : decode cX10_runOnce 123 = .ok (.iconst 1, 1) := by decide +kernel
theorem dX10_runOnce_124 : decode cX10_runOnce 124 = .ok (.iadd, 1) := by decide +kernel
theorem dX10_runOnce_125 : decode cX10_runOnce 125 = .ok (.putfield 110, 3) := by decide +kernel
theorem dX10_runOnce_128 : decode cX10_runOnce 128 = .ok (.aload_n 1, 1) := by decide +kernel
theorem dX10_runOnce_129 : decode cX10_runOnce 129 = .ok (.getfield 154, 3) := by decide +kernel
theorem dX10_runOnce_132 : decode cX10_runOnce 132 = .ok (.iload_n 2, 1) := by decide +kernel
theorem dX10_runOnce_133 : decode cX10_runOnce 133 = .ok (.invokestatic 75, 3) := by decide +kernel
theorem dX10_runOnce_136 : decode cX10_runOnce 136 = .ok (.tableswitch 105 0 3 #[32, 54, 69, 84], 32) := by decide +kernel
theorem dX10_runOnce_168 : decode cX10_runOnce 168 = .ok (.aload_n 0, 1) := by decide +kernel
theorem dX10_runOnce_169 : decode cX10_runOnce 169 = .ok (.iload 4, 2) := by decide +kernel
theorem dX10_runOnce_171 : decode cX10_runOnce 171 = .ok (.aload_n 0, 1) := by decide +kernel
theorem dX10_runOnce_172 : decode cX10_runOnce 172 = .ok (.getfield 28, 3) := by decide +kernel
theorem dX10_runOnce_175 : decode cX10_runOnce 175 = .ok (.getfield 145, 3) := by decide +kernel
theorem dX10_runOnce_178 : decode cX10_runOnce 178 = .ok (.invokevirtual 157, 3) := by decide +kernel
theorem dX10_runOnce_181 : decode cX10_runOnce 181 = .ok (.ifCond .lt 7, 3) := by decide +kernel
theorem dX10_runOnce_184 : decode cX10_runOnce 184 = .ok (.iconst 1, 1) := by decide +kernel
theorem dX10_runOnce_185 : decode cX10_runOnce 185 = .ok (.goto 4, 3) := by decide +kernel
theorem dX10_runOnce_188 : decode cX10_runOnce 188 = .ok (.iconst 0, 1) := by decide +kernel
theorem dX10_runOnce_189 : decode cX10_runOnce 189 = .ok (.ireturn, 1) := by decide +kernel
theorem dX10_runOnce_190 : decode cX10_runOnce 190 = .ok (.aload_n 0, 1) := by decide +kernel
theorem dX10_runOnce_191 : decode cX10_runOnce 191 = .ok (.iload 4, 2) := by decide +kernel
theorem dX10_runOnce_193 : decode cX10_runOnce 193 = .ok (.invokevirtual 160, 3) := by decide +kernel
theorem dX10_runOnce_196 : decode cX10_runOnce 196 = .ok (.ifCond .lt 7, 3) := by decide +kernel
theorem dX10_runOnce_199 : decode cX10_runOnce 199 = .ok (.iconst 1, 1) := by decide +kernel
theorem dX10_runOnce_200 : decode cX10_runOnce 200 = .ok (.goto 4, 3) := by decide +kernel
theorem dX10_runOnce_203 : decode cX10_runOnce 203 = .ok (.iconst 0, 1) := by decide +kernel
theorem dX10_runOnce_204 : decode cX10_runOnce 204 = .ok (.ireturn, 1) := by decide +kernel
theorem dX10_runOnce_205 : decode cX10_runOnce 205 = .ok (.aload_n 0, 1) := by decide +kernel
theorem dX10_runOnce_206 : decode cX10_runOnce 206 = .ok (.iload 4, 2) := by decide +kernel
theorem dX10_runOnce_208 : decode cX10_runOnce 208 = .ok (.invokevirtual 163, 3) := by decide +kernel
theorem dX10_runOnce_211 : decode cX10_runOnce 211 = .ok (.ifCond .lt 7, 3) := by decide +kernel
theorem dX10_runOnce_214 : decode cX10_runOnce 214 = .ok (.iconst 1, 1) := by decide +kernel
theorem dX10_runOnce_215 : decode cX10_runOnce 215 = .ok (.goto 4, 3) := by decide +kernel
theorem dX10_runOnce_218 : decode cX10_runOnce 218 = .ok (.iconst 0, 1) := by decide +kernel
theorem dX10_runOnce_219 : decode cX10_runOnce 219 = .ok (.ireturn, 1) := by decide +kernel
theorem dX10_runOnce_220 : decode cX10_runOnce 220 = .ok (.aload_n 0, 1) := by decide +kernel
theorem dX10_runOnce_221 : decode cX10_runOnce 221 = .ok (.aload_n 0, 1) := by decide +kernel
theorem dX10_runOnce_222 : decode cX10_runOnce 222 = .ok (.invokevirtual 166, 3) := by decide +kernel
theorem dX10_runOnce_225 : decode cX10_runOnce 225 = .ok (.putfield 114, 3) := by decide +kernel
theorem dX10_runOnce_228 : decode cX10_runOnce 228 = .ok (.aload_n 0, 1) := by decide +kernel
theorem dX10_runOnce_229 : decode cX10_runOnce 229 = .ok (.getfield 114, 3) := by decide +kernel
theorem dX10_runOnce_232 : decode cX10_runOnce 232 = .ok (.ifCond .lt 7, 3) := by decide +kernel
theorem dX10_runOnce_235 : decode cX10_runOnce 235 = .ok (.iconst 1, 1) := by decide +kernel
theorem dX10_runOnce_236 : decode cX10_runOnce 236 = .ok (.goto 4, 3) := by decide +kernel
theorem dX10_runOnce_239 : decode cX10_runOnce 239 = .ok (.iconst 0, 1) := by decide +kernel
theorem dX10_runOnce_240 : decode cX10_runOnce 240 = .ok (.ireturn, 1) := by decide +kernel
theorem dX10_runOnce_241 : decode cX10_runOnce 241 = .ok (.iconst 0, 1) := by decide +kernel
theorem dX10_runOnce_242 : decode cX10_runOnce 242 = .ok (.ireturn, 1) := by decide +kernel
theorem dX10_fillWords_0 : decode cX10_fillWords 0 = .ok (.aload_n 0, 1) := by decide +kernel
theorem dX10_fillWords_1 : decode cX10_fillWords 1 = .ok (.getfield 32, 3) := by decide +kernel
theorem dX10_fillWords_4 : decode cX10_fillWords 4 = .ok (.iconst 0, 1) := by decide +kernel
theorem dX10_fillWords_5 : decode cX10_fillWords 5 = .ok (.aload_n 0, 1) := by decide +kernel
theorem dX10_fillWords_6 : decode cX10_fillWords 6 = .ok (.getfield 39, 3) := by decide +kernel
theorem dX10_fillWords_9 : decode cX10_fillWords 9 = .ok (.getfield 93, 3) := by decide +kernel
theorem dX10_fillWords_12 : decode cX10_fillWords 12 = .ok (.iconst 0, 1) := by decide +kernel
theorem dX10_fillWords_13 : decode cX10_fillWords 13 = .ok (.invokestatic 75, 3) := by decide +kernel
theorem dX10_fillWords_16 : decode cX10_fillWords 16 = .ok (.invokestatic 67, 3) := by decide +kernel
theorem dX10_fillWords_19 : decode cX10_fillWords 19 = .ok (.aload_n 0, 1) := by decide +kernel
theorem dX10_fillWords_20 : decode cX10_fillWords 20 = .ok (.getfield 32, 3) := by decide +kernel
theorem dX10_fillWords_23 : decode cX10_fillWords 23 = .ok (.iconst 1, 1) := by decide +kernel
theorem dX10_fillWords_24 : decode cX10_fillWords 24 = .ok (.aload_n 0, 1) := by decide +kernel
theorem dX10_fillWords_25 : decode cX10_fillWords 25 = .ok (.getfield 110, 3) := by decide +kernel
theorem dX10_fillWords_28 : decode cX10_fillWords 28 = .ok (.invokestatic 67, 3) := by decide +kernel
theorem dX10_fillWords_31 : decode cX10_fillWords 31 = .ok (.aload_n 0, 1) := by decide +kernel
theorem dX10_fillWords_32 : decode cX10_fillWords 32 = .ok (.getfield 32, 3) := by decide +kernel
theorem dX10_fillWords_35 : decode cX10_fillWords 35 = .ok (.iconst 2, 1) := by decide +kernel
theorem dX10_fillWords_36 : decode cX10_fillWords 36 = .ok (.aload_n 0, 1) := by decide +kernel
theorem dX10_fillWords_37 : decode cX10_fillWords 37 = .ok (.getfield 114, 3) := by decide +kernel
theorem dX10_fillWords_40 : decode cX10_fillWords 40 = .ok (.invokestatic 67, 3) := by decide +kernel
theorem dX10_fillWords_43 : decode cX10_fillWords 43 = .ok (.aload_n 0, 1) := by decide +kernel
theorem dX10_fillWords_44 : decode cX10_fillWords 44 = .ok (.getfield 32, 3) := by decide +kernel
theorem dX10_fillWords_47 : decode cX10_fillWords 47 = .ok (.iconst 3, 1) := by decide +kernel
theorem dX10_fillWords_48 : decode cX10_fillWords 48 = .ok (.aload_n 0, 1) := by decide +kernel
theorem dX10_fillWords_49 : decode cX10_fillWords 49 = .ok (.getfield 39, 3) := by decide +kernel
theorem dX10_fillWords_52 : decode cX10_fillWords 52 = .ok (.invokevirtual 169, 3) := by decide +kernel
theorem dX10_fillWords_55 : decode cX10_fillWords 55 = .ok (.invokestatic 172, 3) := by decide +kernel
theorem dX10_fillWords_58 : decode cX10_fillWords 58 = .ok (.invokestatic 67, 3) := by decide +kernel
theorem dX10_fillWords_61 : decode cX10_fillWords 61 = .ok (.aload_n 0, 1) := by decide +kernel
theorem dX10_fillWords_62 : decode cX10_fillWords 62 = .ok (.getfield 32, 3) := by decide +kernel
theorem dX10_fillWords_65 : decode cX10_fillWords 65 = .ok (.iconst 4, 1) := by decide +kernel
theorem dX10_fillWords_66 : decode cX10_fillWords 66 = .ok (.aload_n 0, 1) := by decide +kernel
theorem dX10_fillWords_67 : decode cX10_fillWords 67 = .ok (.getfield 39, 3) := by decide +kernel
theorem dX10_fillWords_70 : decode cX10_fillWords 70 = .ok (.invokevirtual 71, 3) := by decide +kernel
theorem dX10_fillWords_73 : decode cX10_fillWords 73 = .ok (.invokestatic 67, 3) := by decide +kernel
theorem dX10_fillWords_76 : decode cX10_fillWords 76 = .ok (.iconst 0, 1) := by decide +kernel
theorem dX10_fillWords_77 : decode cX10_fillWords 77 = .ok (.istore_n 1, 1) := by decide +kernel
theorem dX10_fillWords_78 : decode cX10_fillWords 78 = .ok (.iload_n 1, 1) := by decide +kernel
theorem dX10_fillWords_79 : decode cX10_fillWords 79 = .ok (.bipush 16, 2) := by decide +kernel
theorem dX10_fillWords_81 : decode cX10_fillWords 81 = .ok (.if_icmp .ge 30, 3) := by decide +kernel
theorem dX10_fillWords_84 : decode cX10_fillWords 84 = .ok (.aload_n 0, 1) := by decide +kernel
theorem dX10_fillWords_85 : decode cX10_fillWords 85 = .ok (.getfield 32, 3) := by decide +kernel
theorem dX10_fillWords_88 : decode cX10_fillWords 88 = .ok (.iconst 5, 1) := by decide +kernel
theorem dX10_fillWords_89 : decode cX10_fillWords 89 = .ok (.iload_n 1, 1) := by decide +kernel
theorem dX10_fillWords_90 : decode cX10_fillWords 90 = .ok (.iadd, 1) := by decide +kernel
theorem dX10_fillWords_91 : decode cX10_fillWords 91 = .ok (.aload_n 0, 1) := by decide +kernel
theorem dX10_fillWords_92 : decode cX10_fillWords 92 = .ok (.getfield 39, 3) := by decide +kernel
theorem dX10_fillWords_95 : decode cX10_fillWords 95 = .ok (.getfield 83, 3) := by decide +kernel
theorem dX10_fillWords_98 : decode cX10_fillWords 98 = .ok (.iload_n 1, 1) := by decide +kernel
theorem dX10_fillWords_99 : decode cX10_fillWords 99 = .ok (.invokestatic 75, 3) := by decide +kernel
theorem dX10_fillWords_102 : decode cX10_fillWords 102 = .ok (.invokestatic 67, 3) := by decide +kernel
theorem dX10_fillWords_105 : decode cX10_fillWords 105 = .ok (.iinc 1 1, 3) := by decide +kernel
theorem dX10_fillWords_108 : decode cX10_fillWords 108 = .ok (.goto (-30), 3) := by decide +kernel
theorem dX10_fillWords_111 : decode cX10_fillWords 111 = .ok (.iconst 0, 1) := by decide +kernel
theorem dX10_fillWords_112 : decode cX10_fillWords 112 = .ok (.istore_n 1, 1) := by decide +kernel
theorem dX10_fillWords_113 : decode cX10_fillWords 113 = .ok (.iload_n 1, 1) := by decide +kernel
theorem dX10_fillWords_114 : decode cX10_fillWords 114 = .ok (.bipush 6, 2) := by decide +kernel
theorem dX10_fillWords_116 : decode cX10_fillWords 116 = .ok (.if_icmp .ge 46, 3) := by decide +kernel
theorem dX10_fillWords_119 : decode cX10_fillWords 119 = .ok (.aload_n 0, 1) := by decide +kernel
theorem dX10_fillWords_120 : decode cX10_fillWords 120 = .ok (.getfield 32, 3) := by decide +kernel
theorem dX10_fillWords_123 : decode cX10_fillWords 123 = .ok (.bipush 21, 2) := by decide +kernel
theorem dX10_fillWords_125 : decode cX10_fillWords 125 = .ok (.iload_n 1, 1) := by decide +kernel
theorem dX10_fillWords_126 : decode cX10_fillWords 126 = .ok (.iadd, 1) := by decide +kernel
theorem dX10_fillWords_127 : decode cX10_fillWords 127 = .ok (.aload_n 0, 1) := by decide +kernel
theorem dX10_fillWords_128 : decode cX10_fillWords 128 = .ok (.getfield 39, 3) := by decide +kernel
theorem dX10_fillWords_131 : decode cX10_fillWords 131 = .ok (.iload_n 1, 1) := by decide +kernel
theorem dX10_fillWords_132 : decode cX10_fillWords 132 = .ok (.invokevirtual 50, 3) := by decide +kernel
theorem dX10_fillWords_135 : decode cX10_fillWords 135 = .ok (.ifCond .eq 17, 3) := by decide +kernel
theorem dX10_fillWords_138 : decode cX10_fillWords 138 = .ok (.aload_n 0, 1) := by decide +kernel
theorem dX10_fillWords_139 : decode cX10_fillWords 139 = .ok (.getfield 39, 3) := by decide +kernel
theorem dX10_fillWords_142 : decode cX10_fillWords 142 = .ok (.getfield 177, 3) := by decide +kernel
theorem dX10_fillWords_145 : decode cX10_fillWords 145 = .ok (.iload_n 1, 1) := by decide +kernel
theorem dX10_fillWords_146 : decode cX10_fillWords 146 = .ok (.invokestatic 75, 3) := by decide +kernel
theorem dX10_fillWords_149 : decode cX10_fillWords 149 = .ok (.goto 4, 3) := by decide +kernel
theorem dX10_fillWords_152 : decode cX10_fillWords 152 = .ok (.iconst (-1), 1) := by decide +kernel
theorem dX10_fillWords_153 : decode cX10_fillWords 153 = .ok (.invokestatic 67, 3) := by decide +kernel
theorem dX10_fillWords_156 : decode cX10_fillWords 156 = .ok (.iinc 1 1, 3) := by decide +kernel
theorem dX10_fillWords_159 : decode cX10_fillWords 159 = .ok (.goto (-46), 3) := by decide +kernel
theorem dX10_fillWords_162 : decode cX10_fillWords 162 = .ok (.return_, 1) := by decide +kernel
theorem dX11_init_0 : decode cX11_init 0 = .ok (.aload_n 0, 1) := by decide +kernel
theorem dX11_init_1 : decode cX11_init 1 = .ok (.invokespecial 1, 3) := by decide +kernel
theorem dX11_init_4 : decode cX11_init 4 = .ok (.aload_n 0, 1) := by decide +kernel
theorem dX11_init_5 : decode cX11_init 5 = .ok (.new 7, 3) := by decide +kernel
theorem dX11_init_8 : decode cX11_init 8 = .ok (.dup, 1) := by decide +kernel
theorem dX11_init_9 : decode cX11_init 9 = .ok (.invokespecial 9, 3) := by decide +kernel
theorem dX11_init_12 : decode cX11_init 12 = .ok (.putfield 10, 3) := by decide +kernel
theorem dX11_init_15 : decode cX11_init 15 = .ok (.aload_n 0, 1) := by decide +kernel
theorem dX11_init_16 : decode cX11_init 16 = .ok (.iconst 2, 1) := by decide +kernel
theorem dX11_init_17 : decode cX11_init 17 = .ok (.anewarray 7, 3) := by decide +kernel
theorem dX11_init_20 : decode cX11_init 20 = .ok (.putfield 16, 3) := by decide +kernel
theorem dX11_init_23 : decode cX11_init 23 = .ok (.aload_n 0, 1) := by decide +kernel
theorem dX11_init_24 : decode cX11_init 24 = .ok (.new 20, 3) := by decide +kernel
theorem dX11_init_27 : decode cX11_init 27 = .ok (.dup, 1) := by decide +kernel
theorem dX11_init_28 : decode cX11_init 28 = .ok (.invokespecial 22, 3) := by decide +kernel
theorem dX11_init_31 : decode cX11_init 31 = .ok (.putfield 23, 3) := by decide +kernel
theorem dX11_init_34 : decode cX11_init 34 = .ok (.aload_n 0, 1) := by decide +kernel
theorem dX11_init_35 : decode cX11_init 35 = .ok (.new 27, 3) := by decide +kernel
theorem dX11_init_38 : decode cX11_init 38 = .ok (.dup, 1) := by decide +kernel
theorem dX11_init_39 : decode cX11_init 39 = .ok (.aload_n 0, 1) := by decide +kernel
theorem dX11_init_40 : decode cX11_init 40 = .ok (.getfield 10, 3) := by decide +kernel
theorem dX11_init_43 : decode cX11_init 43 = .ok (.invokespecial 29, 3) := by decide +kernel
theorem dX11_init_46 : decode cX11_init 46 = .ok (.putfield 32, 3) := by decide +kernel
theorem dX11_init_49 : decode cX11_init 49 = .ok (.aload_n 0, 1) := by decide +kernel
theorem dX11_init_50 : decode cX11_init 50 = .ok (.new 36, 3) := by decide +kernel
theorem dX11_init_53 : decode cX11_init 53 = .ok (.dup, 1) := by decide +kernel
theorem dX11_init_54 : decode cX11_init 54 = .ok (.aload_n 0, 1) := by decide +kernel
theorem dX11_init_55 : decode cX11_init 55 = .ok (.getfield 10, 3) := by decide +kernel
theorem dX11_init_58 : decode cX11_init 58 = .ok (.getfield 38, 3) := by decide +kernel
theorem dX11_init_61 : decode cX11_init 61 = .ok (.aload_n 0, 1) := by decide +kernel
theorem dX11_init_62 : decode cX11_init 62 = .ok (.getfield 32, 3) := by decide +kernel
theorem dX11_init_65 : decode cX11_init 65 = .ok (.invokespecial 42, 3) := by decide +kernel
theorem dX11_init_68 : decode cX11_init 68 = .ok (.putfield 45, 3) := by decide +kernel
theorem dX11_init_71 : decode cX11_init 71 = .ok (.aload_n 0, 1) := by decide +kernel
theorem dX11_init_72 : decode cX11_init 72 = .ok (.new 49, 3) := by decide +kernel
theorem dX11_init_75 : decode cX11_init 75 = .ok (.dup, 1) := by decide +kernel
theorem dX11_init_76 : decode cX11_init 76 = .ok (.aload_n 0, 1) := by decide +kernel
theorem dX11_init_77 : decode cX11_init 77 = .ok (.getfield 10, 3) := by decide +kernel
theorem dX11_init_80 : decode cX11_init 80 = .ok (.aload_n 0, 1) := by decide +kernel
theorem dX11_init_81 : decode cX11_init 81 = .ok (.getfield 32, 3) := by decide +kernel
theorem dX11_init_84 : decode cX11_init 84 = .ok (.invokespecial 51, 3) := by decide +kernel
theorem dX11_init_87 : decode cX11_init 87 = .ok (.putfield 54, 3) := by decide +kernel
theorem dX11_init_90 : decode cX11_init 90 = .ok (.aload_n 0, 1) := by decide +kernel
theorem dX11_init_91 : decode cX11_init 91 = .ok (.new 58, 3) := by decide +kernel
theorem dX11_init_94 : decode cX11_init 94 = .ok (.dup, 1) := by decide +kernel
theorem dX11_init_95 : decode cX11_init 95 = .ok (.aload_n 0, 1) := by decide +kernel
theorem dX11_init_96 : decode cX11_init 96 = .ok (.getfield 10, 3) := by decide +kernel
theorem dX11_init_99 : decode cX11_init 99 = .ok (.getfield 38, 3) := by decide +kernel
theorem dX11_init_102 : decode cX11_init 102 = .ok (.aload_n 0, 1) := by decide +kernel
theorem dX11_init_103 : decode cX11_init 103 = .ok (.getfield 32, 3) := by decide +kernel
theorem dX11_init_106 : decode cX11_init 106 = .ok (.aload_n 0, 1) := by decide +kernel
theorem dX11_init_107 : decode cX11_init 107 = .ok (.getfield 54, 3) := by decide +kernel
theorem dX11_init_110 : decode cX11_init 110 = .ok (.invokespecial 60, 3) := by decide +kernel
theorem dX11_init_113 : decode cX11_init 113 = .ok (.putfield 63, 3) := by decide +kernel
theorem dX11_init_116 : decode cX11_init 116 = .ok (.aload_n 0, 1) := by decide +kernel
theorem dX11_init_117 : decode cX11_init 117 = .ok (.new 67, 3) := by decide +kernel
theorem dX11_init_120 : decode cX11_init 120 = .ok (.dup, 1) := by decide +kernel
theorem dX11_init_121 : decode cX11_init 121 = .ok (.aload_n 0, 1) := by decide +kernel
theorem dX11_init_122 : decode cX11_init 122 = .ok (.getfield 10, 3) := by decide +kernel
theorem dX11_init_125 : decode cX11_init 125 = .ok (.aload_n 0, 1) := by decide +kernel
theorem dX11_init_126 : decode cX11_init 126 = .ok (.getfield 32, 3) := by decide +kernel
theorem dX11_init_129 : decode cX11_init 129 = .ok (.invokespecial 69, 3) := by decide +kernel
theorem dX11_init_132 : decode cX11_init 132 = .ok (.putfield 70, 3) := by decide +kernel
theorem dX11_init_135 : decode cX11_init 135 = .ok (.aload_n 0, 1) := by decide +kernel
theorem dX11_init_136 : decode cX11_init 136 = .ok (.bipush 7, 2) := by decide +kernel
theorem dX11_init_138 : decode cX11_init 138 = .ok (.newarray .int, 2) := by decide +kernel
theorem dX11_init_140 : decode cX11_init 140 = .ok (.putfield 74, 3) := by decide +kernel
theorem dX11_init_143 : decode cX11_init 143 = .ok (.aload_n 0, 1) := by decide +kernel
theorem dX11_init_144 : decode cX11_init 144 = .ok (.iconst (-1), 1) := by decide +kernel
theorem dX11_init_145 : decode cX11_init 145 = .ok (.putfield 78, 3) := by decide +kernel
theorem dX11_init_148 : decode cX11_init 148 = .ok (.iconst 0, 1) := by decide +kernel
theorem dX11_init_149 : decode cX11_init 149 = .ok (.istore_n 1, 1) := by decide +kernel
theorem dX11_init_150 : decode cX11_init 150 = .ok (.iload_n 1, 1) := by decide +kernel
theorem dX11_init_151 : decode cX11_init 151 = .ok (.aload_n 0, 1) := by decide +kernel
theorem dX11_init_152 : decode cX11_init 152 = .ok (.getfield 16, 3) := by decide +kernel
theorem dX11_init_155 : decode cX11_init 155 = .ok (.arraylength, 1) := by decide +kernel
theorem dX11_init_156 : decode cX11_init 156 = .ok (.if_icmp .ge 22, 3) := by decide +kernel
theorem dX11_init_159 : decode cX11_init 159 = .ok (.aload_n 0, 1) := by decide +kernel
theorem dX11_init_160 : decode cX11_init 160 = .ok (.getfield 16, 3) := by decide +kernel
theorem dX11_init_163 : decode cX11_init 163 = .ok (.iload_n 1, 1) := by decide +kernel
theorem dX11_init_164 : decode cX11_init 164 = .ok (.new 7, 3) := by decide +kernel
theorem dX11_init_167 : decode cX11_init 167 = .ok (.dup, 1) := by decide +kernel
theorem dX11_init_168 : decode cX11_init 168 = .ok (.invokespecial 9, 3) := by decide +kernel
theorem dX11_init_171 : decode cX11_init 171 = .ok (.aastore, 1) := by decide +kernel
theorem dX11_init_172 : decode cX11_init 172 = .ok (.iinc 1 1, 3) := by decide +kernel
theorem dX11_init_175 : decode cX11_init 175 = .ok (.goto (-25), 3) := by decide +kernel
theorem dX11_init_178 : decode cX11_init 178 = .ok (.return_, 1) := by decide +kernel
theorem dX11_builder_0 : decode cX11_builder 0 = .ok (.aload_n 0, 1) := by decide +kernel
theorem dX11_builder_1 : decode cX11_builder 1 = .ok (.getfield 10, 3) := by decide +kernel
theorem dX11_builder_4 : decode cX11_builder 4 = .ok (.getfield 38, 3) := by decide +kernel
theorem dX11_builder_7 : decode cX11_builder 7 = .ok (.iload_n 1, 1) := by decide +kernel
theorem dX11_builder_8 : decode cX11_builder 8 = .ok (.iload_n 2, 1) := by decide +kernel
theorem dX11_builder_9 : decode cX11_builder 9 = .ok (.invokevirtual 82, 3) := by decide +kernel
theorem dX11_builder_12 : decode cX11_builder 12 = .ok (.istore_n 3, 1) := by decide +kernel
theorem dX11_builder_13 : decode cX11_builder 13 = .ok (.iload_n 3, 1) := by decide +kernel
theorem dX11_builder_14 : decode cX11_builder 14 = .ok (.ifCond .lt 13, 3) := by decide +kernel
theorem dX11_builder_17 : decode cX11_builder 17 = .ok (.aload_n 0, 1) := by decide +kernel
theorem dX11_builder_18 : decode cX11_builder 18 = .ok (.getfield 45, 3) := by decide +kernel
theorem dX11_builder_21 : decode cX11_builder 21 = .ok (.getfield 88, 3) := by decide +kernel
theorem dX11_builder_24 : decode cX11_builder 24 = .ok (.invokevirtual 92, 3) := by decide +kernel
theorem dX11_builder_27 : decode cX11_builder 27 = .ok (.aload_n 0, 1) := by decide +kernel
theorem dX11_builder_28 : decode cX11_builder 28 = .ok (.iload_n 3, 1) := by decide +kernel
theorem dX11_builder_29 : decode cX11_builder 29 = .ok (.invokevirtual 97, 3) := by decide +kernel
theorem dX11_builder_32 : decode cX11_builder 32 = .ok (.ireturn, 1) := by decide +kernel
theorem dX11_of_0 : decode cX11_of 0 = .ok (.aload_n 0, 1) := by decide +kernel
theorem dX11_of_1 : decode cX11_of 1 = .ok (.getfield 10, 3) := by decide +kernel
theorem dX11_of_4 : decode cX11_of 4 = .ok (.getfield 38, 3) := by decide +kernel
theorem dX11_of_7 : decode cX11_of 7 = .ok (.astore_n 3, 1) := by decide +kernel
theorem dX11_of_8 : decode cX11_of 8 = .ok (.aload_n 3, 1) := by decide +kernel
theorem dX11_of_9 : decode cX11_of 9 = .ok (.iload_n 1, 1) := by decide +kernel
theorem dX11_of_10 : decode cX11_of 10 = .ok (.invokevirtual 101, 3) := by decide +kernel
theorem dX11_of_13 : decode cX11_of 13 = .ok (.ifCond .ne 5, 3) := by decide +kernel
theorem dX11_of_16 : decode cX11_of 16 = .ok (.iconst (-1), 1) := by decide +kernel
theorem dX11_of_17 : decode cX11_of 17 = .ok (.ireturn, 1) := by decide +kernel
theorem dX11_of_18 : decode cX11_of 18 = .ok (.iload_n 2, 1) := by decide +kernel
theorem dX11_of_19 : decode cX11_of 19 = .ok (.tableswitch 130 0 5 #[37, 46, 55, 64, 73, 105], 37) := by decide +kernel
theorem dX11_of_56 : decode cX11_of 56 = .ok (.aload_n 3, 1) := by decide +kernel
theorem dX11_of_57 : decode cX11_of 57 = .ok (.getfield 105, 3) := by decide +kernel
theorem dX11_of_60 : decode cX11_of 60 = .ok (.iload_n 1, 1) := by decide +kernel
theorem dX11_of_61 : decode cX11_of 61 = .ok (.invokestatic 108, 3) := by decide +kernel
theorem dX11_of_64 : decode cX11_of 64 = .ok (.ireturn, 1) := by decide +kernel
theorem dX11_of_65 : decode cX11_of 65 = .ok (.aload_n 3, 1) := by decide +kernel
theorem dX11_of_66 : decode cX11_of 66 = .ok (.getfield 112, 3) := by decide +kernel
theorem dX11_of_69 : decode cX11_of 69 = .ok (.iload_n 1, 1) := by decide +kernel
theorem dX11_of_70 : decode cX11_of 70 = .ok (.invokestatic 108, 3) := by decide +kernel
theorem dX11_of_73 : decode cX11_of 73 = .ok (.ireturn, 1) := by decide +kernel
theorem dX11_of_74 : decode cX11_of 74 = .ok (.aload_n 3, 1) := by decide +kernel
theorem dX11_of_75 : decode cX11_of 75 = .ok (.getfield 115, 3) := by decide +kernel
theorem dX11_of_78 : decode cX11_of 78 = .ok (.iload_n 1, 1) := by decide +kernel
theorem dX11_of_79 : decode cX11_of 79 = .ok (.invokestatic 108, 3) := by decide +kernel
theorem dX11_of_82 : decode cX11_of 82 = .ok (.ireturn, 1) := by decide +kernel
theorem dX11_of_83 : decode cX11_of 83 = .ok (.aload_n 3, 1) := by decide +kernel
theorem dX11_of_84 : decode cX11_of 84 = .ok (.getfield 118, 3) := by decide +kernel
theorem dX11_of_87 : decode cX11_of 87 = .ok (.iload_n 1, 1) := by decide +kernel
theorem dX11_of_88 : decode cX11_of 88 = .ok (.invokestatic 108, 3) := by decide +kernel
theorem dX11_of_91 : decode cX11_of 91 = .ok (.ireturn, 1) := by decide +kernel
theorem dX11_of_92 : decode cX11_of 92 = .ok (.aload_n 0, 1) := by decide +kernel
theorem dX11_of_93 : decode cX11_of 93 = .ok (.getfield 32, 3) := by decide +kernel
theorem dX11_of_96 : decode cX11_of 96 = .ok (.aload_n 3, 1) := by decide +kernel
theorem dX11_of_97 : decode cX11_of 97 = .ok (.iload_n 1, 1) := by decide +kernel
theorem dX11_of_98 : decode cX11_of 98 = .ok (.aload_n 3, 1) := by decide +kernel
theorem dX11_of_99 : decode cX11_of 99 = .ok (.getfield 118, 3) := by decide +kernel
theorem dX11_of_102 : decode cX11_of 102 = .ok (.iload_n 1, 1) := by decide +kernel
theorem dX11_of_103 : decode cX11_of 103 = .ok (.invokestatic 108, 3) := by decide +kernel
theorem dX11_of_106 : decode cX11_of 106 = .ok (.invokevirtual 121, 3) := by decide +kernel
theorem dX11_of_109 : decode cX11_of 109 = .ok (.aload_n 0, 1) := by decide +kernel
theorem dX11_of_110 : decode cX11_of 110 = .ok (.getfield 32, 3) := by decide +kernel
theorem dX11_of_113 : decode cX11_of 113 = .ok (.aload_n 0, 1) := by decide +kernel
theorem dX11_of_114 : decode cX11_of 114 = .ok (.getfield 10, 3) := by decide +kernel
theorem dX11_of_117 : decode cX11_of 117 = .ok (.invokevirtual 125, 3) := by decide +kernel
theorem dX11_of_120 : decode cX11_of 120 = .ok (.invokevirtual 129, 3) := by decide +kernel
theorem dX11_of_123 : decode cX11_of 123 = .ok (.ireturn, 1) := by decide +kernel
theorem dX11_of_124 : decode cX11_of 124 = .ok (.aload_n 0, 1) := by decide +kernel
theorem dX11_of_125 : decode cX11_of 125 = .ok (.getfield 32, 3) := by decide +kernel
theorem dX11_of_128 : decode cX11_of 128 = .ok (.aload_n 3, 1) := by decide +kernel
theorem dX11_of_129 : decode cX11_of 129 = .ok (.iload_n 1, 1) := by decide +kernel
theorem dX11_of_130 : decode cX11_of 130 = .ok (.aload_n 3, 1) := by decide +kernel
theorem dX11_of_131 : decode cX11_of 131 = .ok (.getfield 118, 3) := by decide +kernel
theorem dX11_of_134 : decode cX11_of 134 = .ok (.iload_n 1, 1) := by decide +kernel
theorem dX11_of_135 : decode cX11_of 135 = .ok (.invokestatic 108, 3) := by decide +kernel
theorem dX11_of_138 : decode cX11_of 138 = .ok (.invokevirtual 121, 3) := by decide +kernel
theorem dX11_of_141 : decode cX11_of 141 = .ok (.aload_n 0, 1) := by decide +kernel
theorem dX11_of_142 : decode cX11_of 142 = .ok (.getfield 32, 3) := by decide +kernel
theorem dX11_of_145 : decode cX11_of 145 = .ok (.invokevirtual 133, 3) := by decide +kernel
theorem dX11_of_148 : decode cX11_of 148 = .ok (.ireturn, 1) := by decide +kernel
theorem dX11_of_149 : decode cX11_of 149 = .ok (.iconst (-1), 1) := by decide +kernel
theorem dX11_of_150 : decode cX11_of 150 = .ok (.ireturn, 1) := by decide +kernel
theorem dX11_at_0 : decode cX11_at 0 = .ok (.aload_n 0, 1) := by decide +kernel
theorem dX11_at_1 : decode cX11_at 1 = .ok (.getfield 10, 3) := by decide +kernel
theorem dX11_at_4 : decode cX11_at 4 = .ok (.getfield 38, 3) := by decide +kernel
theorem dX11_at_7 : decode cX11_at 7 = .ok (.astore_n 3, 1) := by decide +kernel
theorem dX11_at_8 : decode cX11_at 8 = .ok (.iload_n 1, 1) := by decide +kernel
theorem dX11_at_9 : decode cX11_at 9 = .ok (.iconst 0, 1) := by decide +kernel
theorem dX11_at_10 : decode cX11_at 10 = .ok (.bipush 15, 2) := by decide +kernel
theorem dX11_at_12 : decode cX11_at 12 = .ok (.invokestatic 137, 3) := by decide +kernel
theorem dX11_at_15 : decode cX11_at 15 = .ok (.ifCond .ne 5, 3) := by decide +kernel
theorem dX11_at_18 : decode cX11_at 18 = .ok (.iconst (-1), 1) := by decide +kernel
theorem dX11_at_19 : decode cX11_at 19 = .ok (.ireturn, 1) := by decide +kernel
theorem dX11_at_20 : decode cX11_at 20 = .ok (.iload_n 2, 1) := by decide +kernel
theorem dX11_at_21 : decode cX11_at 21 = .ok (.tableswitch 73 0 3 #[31, 40, 49, 55], 31) := by decide +kernel
theorem dX11_at_52 : decode cX11_at 52 = .ok (.aload_n 3, 1) := by decide +kernel
theorem dX11_at_53 : decode cX11_at 53 = .ok (.getfield 141, 3) := by decide +kernel
theorem dX11_at_56 : decode cX11_at 56 = .ok (.iload_n 1, 1) := by decide +kernel
theorem dX11_at_57 : decode cX11_at 57 = .ok (.invokestatic 108, 3) := by decide +kernel
theorem dX11_at_60 : decode cX11_at 60 = .ok (.ireturn, 1) := by decide +kernel
theorem dX11_at_61 : decode cX11_at 61 = .ok (.aload_n 3, 1) := by decide +kernel
theorem dX11_at_62 : decode cX11_at 62 = .ok (.getfield 144, 3) := by decide +kernel
theorem dX11_at_65 : decode cX11_at 65 = .ok (.iload_n 1, 1) := by decide +kernel
theorem dX11_at_66 : decode cX11_at 66 = .ok (.invokestatic 108, 3) := by decide +kernel
theorem dX11_at_69 : decode cX11_at 69 = .ok (.ireturn, 1) := by decide +kernel
theorem dX11_at_70 : decode cX11_at 70 = .ok (.aload_n 3, 1) := by decide +kernel
theorem dX11_at_71 : decode cX11_at 71 = .ok (.iload_n 1, 1) := by decide +kernel
theorem dX11_at_72 : decode cX11_at 72 = .ok (.invokevirtual 147, 3) := by decide +kernel
theorem dX11_at_75 : decode cX11_at 75 = .ok (.ireturn, 1) := by decide +kernel
theorem dX11_at_76 : decode cX11_at 76 = .ok (.aload_n 0, 1) := by decide +kernel
theorem dX11_at_77 : decode cX11_at 77 = .ok (.getfield 32, 3) := by decide +kernel
theorem dX11_at_80 : decode cX11_at 80 = .ok (.aload_n 3, 1) := by decide +kernel
theorem dX11_at_81 : decode cX11_at 81 = .ok (.iconst (-1), 1) := by decide +kernel
theorem dX11_at_82 : decode cX11_at 82 = .ok (.iload_n 1, 1) := by decide +kernel
theorem dX11_at_83 : decode cX11_at 83 = .ok (.invokevirtual 121, 3) := by decide +kernel
theorem dX11_at_86 : decode cX11_at 86 = .ok (.aload_n 0, 1) := by decide +kernel
theorem dX11_at_87 : decode cX11_at 87 = .ok (.getfield 32, 3) := by decide +kernel
theorem dX11_at_90 : decode cX11_at 90 = .ok (.invokevirtual 150, 3) := by decide +kernel
theorem dX11_at_93 : decode cX11_at 93 = .ok (.ireturn, 1) := by decide +kernel
theorem dX11_at_94 : decode cX11_at 94 = .ok (.iconst (-1), 1) := by decide +kernel
theorem dX11_at_95 : decode cX11_at 95 = .ok (.ireturn, 1) := by decide +kernel
theorem dX11_can_0 : decode cX11_can 0 = .ok (.aload_n 0, 1) := by decide +kernel
theorem dX11_can_1 : decode cX11_can 1 = .ok (.getfield 10, 3) := by decide +kernel
theorem dX11_can_4 : decode cX11_can 4 = .ok (.getfield 38, 3) := by decide +kernel
theorem dX11_can_7 : decode cX11_can 7 = .ok (.iload_n 1, 1) := by decide +kernel
theorem dX11_can_8 : decode cX11_can 8 = .ok (.invokevirtual 101, 3) := by decide +kernel
theorem dX11_can_11 : decode cX11_can 11 = .ok (.ifCond .eq 13, 3) := by decide +kernel
theorem dX11_can_14 : decode cX11_can 14 = .ok (.iload_n 2, 1) := by decide +kernel
theorem dX11_can_15 : decode cX11_can 15 = .ok (.iconst 0, 1) := by decide +kernel
theorem dX11_can_16 : decode cX11_can 16 = .ok (.bipush 15, 2) := by decide +kernel
theorem dX11_can_18 : decode cX11_can 18 = .ok (.invokestatic 137, 3) := by decide +kernel
theorem dX11_can_21 : decode cX11_can 21 = .ok (.ifCond .ne 5, 3) := by decide +kernel
theorem dX11_can_24 : decode cX11_can 24 = .ok (.iconst (-1), 1) := by decide +kernel
theorem dX11_can_25 : decode cX11_can 25 = .ok (.ireturn, 1) := by decide +kernel
theorem dX11_can_26 : decode cX11_can 26 = .ok (.aload_n 0, 1) := by decide +kernel
theorem dX11_can_27 : decode cX11_can 27 = .ok (.getfield 32, 3) := by decide +kernel
theorem dX11_can_30 : decode cX11_can 30 = .ok (.aload_n 0, 1) := by decide +kernel
theorem dX11_can_31 : decode cX11_can 31 = .ok (.getfield 10, 3) := by decide +kernel
theorem dX11_can_34 : decode cX11_can 34 = .ok (.getfield 38, 3) := by decide +kernel
theorem dX11_can_37 : decode cX11_can 37 = .ok (.iload_n 1, 1) := by decide +kernel
theorem dX11_can_38 : decode cX11_can 38 = .ok (.iload_n 2, 1) := by decide +kernel
theorem dX11_can_39 : decode cX11_can 39 = .ok (.invokevirtual 153, 3) := by decide +kernel
theorem dX11_can_42 : decode cX11_can 42 = .ok (.ifCond .eq 7, 3) := by decide +kernel
theorem dX11_can_45 : decode cX11_can 45 = .ok (.iconst 1, 1) := by decide +kernel
theorem dX11_can_46 : decode cX11_can 46 = .ok (.goto 4, 3) := by decide +kernel
theorem dX11_can_49 : decode cX11_can 49 = .ok (.iconst 0, 1) := by decide +kernel
theorem dX11_can_50 : decode cX11_can 50 = .ok (.ireturn, 1) := by decide +kernel
theorem dX11_terms_0 : decode cX11_terms 0 = .ok (.iload_n 1, 1) := by decide +kernel
theorem dX11_terms_1 : decode cX11_terms 1 = .ok (.iconst 0, 1) := by decide +kernel
theorem dX11_terms_2 : decode cX11_terms 2 = .ok (.iconst 2, 1) := by decide +kernel
theorem dX11_terms_3 : decode cX11_terms 3 = .ok (.invokestatic 137, 3) := by decide +kernel
theorem dX11_terms_6 : decode cX11_terms 6 = .ok (.ifCond .eq 18, 3) := by decide +kernel
theorem dX11_terms_9 : decode cX11_terms 9 = .ok (.iload_n 2, 1) := by decide +kernel
theorem dX11_terms_10 : decode cX11_terms 10 = .ok (.iconst 0, 1) := by decide +kernel
theorem dX11_terms_11 : decode cX11_terms 11 = .ok (.getstatic 157, 3) := by decide +kernel
theorem dX11_terms_14 : decode cX11_terms 14 = .ok (.iload_n 1, 1) := by decide +kernel
theorem dX11_terms_15 : decode cX11_terms 15 = .ok (.invokestatic 108, 3) := by decide +kernel
theorem dX11_terms_18 : decode cX11_terms 18 = .ok (.invokestatic 137, 3) := by decide +kernel
theorem dX11_terms_21 : decode cX11_terms 21 = .ok (.ifCond .ne 9, 3) := by decide +kernel
theorem dX11_terms_24 : decode cX11_terms 24 = .ok (.aload_n 0, 1) := by decide +kernel
theorem dX11_terms_25 : decode cX11_terms 25 = .ok (.iconst (-1), 1) := by decide +kernel
theorem dX11_terms_26 : decode cX11_terms 26 = .ok (.invokevirtual 97, 3) := by decide +kernel
theorem dX11_terms_29 : decode cX11_terms 29 = .ok (.ireturn, 1) := by decide +kernel
theorem dX11_terms_30 : decode cX11_terms 30 = .ok (.aload_n 0, 1) := by decide +kernel
theorem dX11_terms_31 : decode cX11_terms 31 = .ok (.getfield 10, 3) := by decide +kernel
theorem dX11_terms_34 : decode cX11_terms 34 = .ok (.getfield 38, 3) := by decide +kernel
theorem dX11_terms_37 : decode cX11_terms 37 = .ok (.getfield 160, 3) := by decide +kernel
theorem dX11_terms_40 : decode cX11_terms 40 = .ok (.iload_n 1, 1) := by decide +kernel
theorem dX11_terms_41 : decode cX11_terms 41 = .ok (.invokestatic 108, 3) := by decide +kernel
theorem dX11_terms_44 : decode cX11_terms 44 = .ok (.istore_n 3, 1) := by decide +kernel
theorem dX11_terms_45 : decode cX11_terms 45 = .ok (.aload_n 0, 1) := by decide +kernel
theorem dX11_terms_46 : decode cX11_terms 46 = .ok (.getfield 10, 3) := by decide +kernel
theorem dX11_terms_49 : decode cX11_terms 49 = .ok (.getfield 38, 3) := by decide +kernel
theorem dX11_terms_52 : decode cX11_terms 52 = .ok (.getfield 160, 3) := by decide +kernel
theorem dX11_terms_55 : decode cX11_terms 55 = .ok (.iload_n 1, 1) := by decide +kernel
theorem dX11_terms_56 : decode cX11_terms 56 = .ok (.iload_n 2, 1) := by decide +kernel
theorem dX11_terms_57 : decode cX11_terms 57 = .ok (.invokestatic 163, 3) := by decide +kernel
theorem dX11_terms_60 : decode cX11_terms 60 = .ok (.aload_n 0, 1) := by decide +kernel
theorem dX11_terms_61 : decode cX11_terms 61 = .ok (.getfield 45, 3) := by decide +kernel
theorem dX11_terms_64 : decode cX11_terms 64 = .ok (.getfield 88, 3) := by decide +kernel
theorem dX11_terms_67 : decode cX11_terms 67 = .ok (.invokevirtual 92, 3) := by decide +kernel
theorem dX11_terms_70 : decode cX11_terms 70 = .ok (.aload_n 0, 1) := by decide +kernel
theorem dX11_terms_71 : decode cX11_terms 71 = .ok (.iload_n 3, 1) := by decide +kernel
theorem dX11_terms_72 : decode cX11_terms 72 = .ok (.invokevirtual 97, 3) := by decide +kernel
theorem dX11_terms_75 : decode cX11_terms 75 = .ok (.ireturn, 1) := by decide +kernel
theorem dX11_feed_0 : decode cX11_feed 0 = .ok (.aload_n 0, 1) := by decide +kernel
theorem dX11_feed_1 : decode cX11_feed 1 = .ok (.getfield 23, 3) := by decide +kernel
theorem dX11_feed_4 : decode cX11_feed 4 = .ok (.getfield 167, 3) := by decide +kernel
theorem dX11_feed_7 : decode cX11_feed 7 = .ok (.sipush 380, 3) := by decide +kernel
theorem dX11_feed_10 : decode cX11_feed 10 = .ok (.if_icmp .le 5, 3) := by decide +kernel
theorem dX11_feed_13 : decode cX11_feed 13 = .ok (.iconst (-1), 1) := by decide +kernel
theorem dX11_feed_14 : decode cX11_feed 14 = .ok (.ireturn, 1) := by decide +kernel
theorem dX11_feed_15 : decode cX11_feed 15 = .ok (.aload_n 0, 1) := by decide +kernel
theorem dX11_feed_16 : decode cX11_feed 16 = .ok (.getfield 23, 3) := by decide +kernel
theorem dX11_feed_19 : decode cX11_feed 19 = .ok (.iload_n 1, 1) := by decide +kernel
theorem dX11_feed_20 : decode cX11_feed 20 = .ok (.invokevirtual 170, 3) := by decide +kernel
theorem dX11_feed_23 : decode cX11_feed 23 = .ok (.aload_n 0, 1) := by decide +kernel
theorem dX11_feed_24 : decode cX11_feed 24 = .ok (.getfield 23, 3) := by decide +kernel
theorem dX11_feed_27 : decode cX11_feed 27 = .ok (.iload_n 2, 1) := by decide +kernel
theorem dX11_feed_28 : decode cX11_feed 28 = .ok (.invokevirtual 170, 3) := by decide +kernel
theorem dX11_feed_31 : decode cX11_feed 31 = .ok (.aload_n 0, 1) := by decide +kernel
theorem dX11_feed_32 : decode cX11_feed 32 = .ok (.getfield 23, 3) := by decide +kernel
theorem dX11_feed_35 : decode cX11_feed 35 = .ok (.iload_n 3, 1) := by decide +kernel
theorem dX11_feed_36 : decode cX11_feed 36 = .ok (.invokevirtual 170, 3) := by decide +kernel
theorem dX11_feed_39 : decode cX11_feed 39 = .ok (.aload_n 0, 1) := by decide +kernel
theorem dX11_feed_40 : decode cX11_feed 40 = .ok (.getfield 23, 3) := by decide +kernel
theorem dX11_feed_43 : decode cX11_feed 43 = .ok (.iload 4, 2) := by decide +kernel
theorem dX11_feed_45 : decode cX11_feed 45 = .ok (.invokevirtual 170, 3) := by decide +kernel
theorem dX11_feed_48 : decode cX11_feed 48 = .ok (.aload_n 0, 1) := by decide +kernel
theorem dX11_feed_49 : decode cX11_feed 49 = .ok (.getfield 23, 3) := by decide +kernel
theorem dX11_feed_52 : decode cX11_feed 52 = .ok (.iload 5, 2) := by decide +kernel
theorem dX11_feed_54 : decode cX11_feed 54 = .ok (.invokevirtual 170, 3) := by decide +kernel
theorem dX11_feed_57 : decode cX11_feed 57 = .ok (.aload_n 0, 1) := by decide +kernel
theorem dX11_feed_58 : decode cX11_feed 58 = .ok (.getfield 23, 3) := by decide +kernel
theorem dX11_feed_61 : decode cX11_feed 61 = .ok (.getfield 167, 3) := by decide +kernel
theorem dX11_feed_64 : decode cX11_feed 64 = .ok (.ireturn, 1) := by decide +kernel
theorem dX11_end_0 : decode cX11_end 0 = .ok (.iload_n 1, 1) := by decide +kernel
theorem dX11_end_1 : decode cX11_end 1 = .ok (.iconst 0, 1) := by decide +kernel
theorem dX11_end_2 : decode cX11_end 2 = .ok (.aload_n 0, 1) := by decide +kernel
theorem dX11_end_3 : decode cX11_end 3 = .ok (.getfield 23, 3) := by decide +kernel
theorem dX11_end_6 : decode cX11_end 6 = .ok (.getfield 167, 3) := by decide +kernel
theorem dX11_end_9 : decode cX11_end 9 = .ok (.invokestatic 137, 3) := by decide +kernel
theorem dX11_end_12 : decode cX11_end 12 = .ok (.ifCond .ne 5, 3) := by decide +kernel
theorem dX11_end_15 : decode cX11_end 15 = .ok (.iconst (-1), 1) := by decide +kernel
theorem dX11_end_16 : decode cX11_end 16 = .ok (.ireturn, 1) := by decide +kernel
theorem dX11_end_17 : decode cX11_end 17 = .ok (.aload_n 0, 1) := by decide +kernel
theorem dX11_end_18 : decode cX11_end 18 = .ok (.getfield 23, 3) := by decide +kernel
theorem dX11_end_21 : decode cX11_end 21 = .ok (.iload_n 1, 1) := by decide +kernel
theorem dX11_end_22 : decode cX11_end 22 = .ok (.putfield 167, 3) := by decide +kernel
theorem dX11_end_25 : decode cX11_end 25 = .ok (.iload_n 1, 1) := by decide +kernel
theorem dX11_end_26 : decode cX11_end 26 = .ok (.ireturn, 1) := by decide +kernel
theorem dX11_row_0 : decode cX11_row 0 = .ok (.aload_n 0, 1) := by decide +kernel
theorem dX11_row_1 : decode cX11_row 1 = .ok (.getfield 23, 3) := by decide +kernel
theorem dX11_row_4 : decode cX11_row 4 = .ok (.getfield 167, 3) := by decide +kernel
theorem dX11_row_7 : decode cX11_row 7 = .ok (.istore_n 1, 1) := by decide +kernel
theorem dX11_row_8 : decode cX11_row 8 = .ok (.aload_n 0, 1) := by decide +kernel
theorem dX11_row_9 : decode cX11_row 9 = .ok (.getfield 23, 3) := by decide +kernel
theorem dX11_row_12 : decode cX11_row 12 = .ok (.iconst 0, 1) := by decide +kernel
theorem dX11_row_13 : decode cX11_row 13 = .ok (.putfield 167, 3) := by decide +kernel
theorem dX11_row_16 : decode cX11_row 16 = .ok (.iload_n 1, 1) := by decide +kernel
theorem dX11_row_17 : decode cX11_row 17 = .ok (.ifCond .ne 10, 3) := by decide +kernel
theorem dX11_row_20 : decode cX11_row 20 = .ok (.aload_n 0, 1) := by decide +kernel
theorem dX11_row_21 : decode cX11_row 21 = .ok (.bipush (-6), 2) := by decide +kernel
theorem dX11_row_23 : decode cX11_row 23 = .ok (.invokevirtual 97, 3) := by decide +kernel
theorem dX11_row_26 : decode cX11_row 26 = .ok (.ireturn, 1) := by decide +kernel
theorem dX11_row_27 : decode cX11_row 27 = .ok (.iconst 0, 1) := by decide +kernel
theorem dX11_row_28 : decode cX11_row 28 = .ok (.istore_n 2, 1) := by decide +kernel
theorem dX11_row_29 : decode cX11_row 29 = .ok (.iconst 0, 1) := by decide +kernel
theorem dX11_row_30 : decode cX11_row 30 = .ok (.istore_n 3, 1) := by decide +kernel
theorem dX11_row_31 : decode cX11_row 31 = .ok (.iconst 0, 1) := by decide +kernel
theorem dX11_row_32 : decode cX11_row 32 = .ok (.istore 4, 2) := by decide +kernel
theorem dX11_row_34 : decode cX11_row 34 = .ok (.iload 4, 2) := by decide +kernel
theorem dX11_row_36 : decode cX11_row 36 = .ok (.iload_n 1, 1) := by decide +kernel
theorem dX11_row_37 : decode cX11_row 37 = .ok (.if_icmp .ge 77, 3) := by decide +kernel
theorem dX11_row_40 : decode cX11_row 40 = .ok (.iload 4, 2) := by decide +kernel
theorem dX11_row_42 : decode cX11_row 42 = .ok (.iconst 1, 1) := by decide +kernel
theorem dX11_row_43 : decode cX11_row 43 = .ok (.iadd, 1) := by decide +kernel
theorem dX11_row_44 : decode cX11_row 44 = .ok (.iload_n 1, 1) := by decide +kernel
theorem dX11_row_45 : decode cX11_row 45 = .ok (.if_icmp .ge 7, 3) := by decide +kernel
theorem dX11_row_48 : decode cX11_row 48 = .ok (.iconst 1, 1) := by decide +kernel
theorem dX11_row_49 : decode cX11_row 49 = .ok (.goto 4, 3) := by decide +kernel
theorem dX11_row_52 : decode cX11_row 52 = .ok (.iconst 0, 1) := by decide +kernel
theorem dX11_row_53 : decode cX11_row 53 = .ok (.istore 5, 2) := by decide +kernel
theorem dX11_row_55 : decode cX11_row 55 = .ok (.iload 5, 2) := by decide +kernel
theorem dX11_row_57 : decode cX11_row 57 = .ok (.ifCond .eq 48, 3) := by decide +kernel
theorem dX11_row_60 : decode cX11_row 60 = .ok (.aload_n 0, 1) := by decide +kernel
theorem dX11_row_61 : decode cX11_row 61 = .ok (.getfield 10, 3) := by decide +kernel
theorem dX11_row_64 : decode cX11_row 64 = .ok (.getfield 38, 3) := by decide +kernel
theorem dX11_row_67 : decode cX11_row 67 = .ok (.aload_n 0, 1) := by decide +kernel
theorem dX11_row_68 : decode cX11_row 68 = .ok (.getfield 23, 3) := by decide +kernel
theorem dX11_row_71 : decode cX11_row 71 = .ok (.getfield 174, 3) := by decide +kernel
theorem dX11_row_74 : decode cX11_row 74 = .ok (.iload 4, 2) := by decide +kernel
theorem dX11_row_76 : decode cX11_row 76 = .ok (.invokestatic 108, 3) := by decide +kernel
theorem dX11_row_79 : decode cX11_row 79 = .ok (.aload_n 0, 1) := by decide +kernel
theorem dX11_row_80 : decode cX11_row 80 = .ok (.getfield 23, 3) := by decide +kernel
theorem dX11_row_83 : decode cX11_row 83 = .ok (.getfield 174, 3) := by decide +kernel
theorem dX11_row_86 : decode cX11_row 86 = .ok (.iload 4, 2) := by decide +kernel
theorem dX11_row_88 : decode cX11_row 88 = .ok (.iconst 1, 1) := by decide +kernel
theorem dX11_row_89 : decode cX11_row 89 = .ok (.iadd, 1) := by decide +kernel
theorem dX11_row_90 : decode cX11_row 90 = .ok (.invokestatic 108, 3) := by decide +kernel
theorem dX11_row_93 : decode cX11_row 93 = .ok (.invokevirtual 82, 3) := by decide +kernel
theorem dX11_row_96 : decode cX11_row 96 = .ok (.ifCond .lt 9, 3) := by decide +kernel
theorem dX11_row_99 : decode cX11_row 99 = .ok (.iinc 2 1, 3) := by decide +kernel
theorem dX11_row_102 : decode cX11_row 102 = .ok (.goto 6, 3) := by decide +kernel
theorem dX11_row_105 : decode cX11_row 105 = .ok (.iinc 3 1, 3) := by decide +kernel
theorem dX11_row_108 : decode cX11_row 108 = .ok (.iinc 4 2, 3) := by decide +kernel
theorem dX11_row_111 : decode cX11_row 111 = .ok (.goto (-77), 3) := by decide +kernel
theorem dX11_row_114 : decode cX11_row 114 = .ok (.aload_n 0, 1) := by decide +kernel
theorem dX11_row_115 : decode cX11_row 115 = .ok (.iload_n 3, 1) := by decide +kernel
theorem dX11_row_116 : decode cX11_row 116 = .ok (.putfield 177, 3) := by decide +kernel
theorem dX11_row_119 : decode cX11_row 119 = .ok (.aload_n 0, 1) := by decide +kernel
theorem dX11_row_120 : decode cX11_row 120 = .ok (.getfield 45, 3) := by decide +kernel
theorem dX11_row_123 : decode cX11_row 123 = .ok (.getfield 88, 3) := by decide +kernel
theorem dX11_row_126 : decode cX11_row 126 = .ok (.invokevirtual 92, 3) := by decide +kernel
theorem dX11_row_129 : decode cX11_row 129 = .ok (.aload_n 0, 1) := by decide +kernel
theorem dX11_row_130 : decode cX11_row 130 = .ok (.iload_n 2, 1) := by decide +kernel
theorem dX11_row_131 : decode cX11_row 131 = .ok (.invokevirtual 97, 3) := by decide +kernel
theorem dX11_row_134 : decode cX11_row 134 = .ok (.ireturn, 1) := by decide +kernel
theorem dX11_bubbles_0 : decode cX11_bubbles 0 = .ok (.aload_n 0, 1) := by decide +kernel
theorem dX11_bubbles_1 : decode cX11_bubbles 1 = .ok (.getfield 177, 3) := by decide +kernel
theorem dX11_bubbles_4 : decode cX11_bubbles 4 = .ok (.ireturn, 1) := by decide +kernel
theorem dX11_law_0 : decode cX11_law 0 = .ok (.aload_n 0, 1) := by decide +kernel
theorem dX11_law_1 : decode cX11_law 1 = .ok (.getfield 10, 3) := by decide +kernel
theorem dX11_law_4 : decode cX11_law 4 = .ok (.getfield 180, 3) := by decide +kernel
theorem dX11_law_7 : decode cX11_law 7 = .ok (.bipush 6, 2) := by decide +kernel
theorem dX11_law_9 : decode cX11_law 9 = .ok (.if_icmp .lt 18, 3) := by decide +kernel
theorem dX11_law_12 : decode cX11_law 12 = .ok (.aload_n 0, 1) := by decide +kernel
theorem dX11_law_13 : decode cX11_law 13 = .ok (.getfield 23, 3) := by decide +kernel
theorem dX11_law_16 : decode cX11_law 16 = .ok (.iconst 0, 1) := by decide +kernel
theorem dX11_law_17 : decode cX11_law 17 = .ok (.putfield 167, 3) := by decide +kernel
theorem dX11_law_20 : decode cX11_law 20 = .ok (.aload_n 0, 1) := by decide +kernel
theorem dX11_law_21 : decode cX11_law 21 = .ok (.bipush (-5), 2) := by decide +kernel
theorem dX11_law_23 : decode cX11_law 23 = .ok (.invokevirtual 97, 3) := by decide +kernel
theorem dX11_law_26 : decode cX11_law 26 = .ok (.ireturn, 1) := by decide +kernel
theorem dX11_law_27 : decode cX11_law 27 = .ok (.aload_n 0, 1) := by decide +kernel
theorem dX11_law_28 : decode cX11_law 28 = .ok (.aload_n 0, 1) := by decide +kernel
theorem dX11_law_29 : decode cX11_law 29 = .ok (.getfield 23, 3) := by decide +kernel
theorem dX11_law_32 : decode cX11_law 32 = .ok (.iconst 0, 1) := by decide +kernel
theorem dX11_law_33 : decode cX11_law 33 = .ok (.invokevirtual 183, 3) := by decide +kernel
theorem dX11_law_36 : decode cX11_law 36 = .ok (.ifCond .eq 20, 3) := by decide +kernel
theorem dX11_law_39 : decode cX11_law 39 = .ok (.aload_n 0, 1) := by decide +kernel
theorem dX11_law_40 : decode cX11_law 40 = .ok (.getfield 10, 3) := by decide +kernel
theorem dX11_law_43 : decode cX11_law 43 = .ok (.aload_n 0, 1) := by decide +kernel
theorem dX11_law_44 : decode cX11_law 44 = .ok (.getfield 23, 3) := by decide +kernel
theorem dX11_law_47 : decode cX11_law 47 = .ok (.getfield 187, 3) := by decide +kernel
theorem dX11_law_50 : decode cX11_law 50 = .ok (.invokevirtual 191, 3) := by decide +kernel
theorem dX11_law_53 : decode cX11_law 53 = .ok (.goto 5, 3) := by decide +kernel
theorem dX11_law_56 : decode cX11_law 56 = .ok (.bipush (-6), 2) := by decide +kernel
theorem dX11_law_58 : decode cX11_law 58 = .ok (.invokevirtual 97, 3) := by decide +kernel
theorem dX11_law_61 : decode cX11_law 61 = .ok (.ireturn, 1) := by decide +kernel
theorem dX11_orders_0 : decode cX11_orders 0 = .ok (.aload_n 0, 1) := by decide +kernel
theorem dX11_orders_1 : decode cX11_orders 1 = .ok (.getfield 23, 3) := by decide +kernel
theorem dX11_orders_4 : decode cX11_orders 4 = .ok (.iconst 1, 1) := by decide +kernel
theorem dX11_orders_5 : decode cX11_orders 5 = .ok (.invokevirtual 183, 3) := by decide +kernel
theorem dX11_orders_8 : decode cX11_orders 8 = .ok (.ifCond .ne 15, 3) := by decide +kernel
theorem dX11_orders_11 : decode cX11_orders 11 = .ok (.aload_n 0, 1) := by decide +kernel
theorem dX11_orders_12 : decode cX11_orders 12 = .ok (.iconst (-1), 1) := by decide +kernel
theorem dX11_orders_13 : decode cX11_orders 13 = .ok (.putfield 78, 3) := by decide +kernel
theorem dX11_orders_16 : decode cX11_orders 16 = .ok (.aload_n 0, 1) := by decide +kernel
theorem dX11_orders_17 : decode cX11_orders 17 = .ok (.bipush (-6), 2) := by decide +kernel
theorem dX11_orders_19 : decode cX11_orders 19 = .ok (.invokevirtual 97, 3) := by decide +kernel
theorem dX11_orders_22 : decode cX11_orders 22 = .ok (.ireturn, 1) := by decide +kernel
theorem dX11_orders_23 : decode cX11_orders 23 = .ok (.aload_n 0, 1) := by decide +kernel
theorem dX11_orders_24 : decode cX11_orders 24 = .ok (.getfield 45, 3) := by decide +kernel
theorem dX11_orders_27 : decode cX11_orders 27 = .ok (.aload_n 0, 1) := by decide +kernel
theorem dX11_orders_28 : decode cX11_orders 28 = .ok (.getfield 23, 3) := by decide +kernel
theorem dX11_orders_31 : decode cX11_orders 31 = .ok (.getfield 187, 3) := by decide +kernel
theorem dX11_orders_34 : decode cX11_orders 34 = .ok (.invokevirtual 194, 3) := by decide +kernel
theorem dX11_orders_37 : decode cX11_orders 37 = .ok (.istore_n 1, 1) := by decide +kernel
theorem dX11_orders_38 : decode cX11_orders 38 = .ok (.aload_n 0, 1) := by decide +kernel
theorem dX11_orders_39 : decode cX11_orders 39 = .ok (.aload_n 0, 1) := by decide +kernel
theorem dX11_orders_40 : decode cX11_orders 40 = .ok (.getfield 45, 3) := by decide +kernel
theorem dX11_orders_43 : decode cX11_orders 43 = .ok (.getfield 197, 3) := by decide +kernel
theorem dX11_orders_46 : decode cX11_orders 46 = .ok (.putfield 78, 3) := by decide +kernel
theorem dX11_orders_49 : decode cX11_orders 49 = .ok (.aload_n 0, 1) := by decide +kernel
theorem dX11_orders_50 : decode cX11_orders 50 = .ok (.iload_n 1, 1) := by decide +kernel
theorem dX11_orders_51 : decode cX11_orders 51 = .ok (.invokevirtual 97, 3) := by decide +kernel
theorem dX11_orders_54 : decode cX11_orders 54 = .ok (.ireturn, 1) := by decide +kernel
theorem dX11_fault_0 : decode cX11_fault 0 = .ok (.aload_n 0, 1) := by decide +kernel
theorem dX11_fault_1 : decode cX11_fault 1 = .ok (.getfield 23, 3) := by decide +kernel
theorem dX11_fault_4 : decode cX11_fault 4 = .ok (.getfield 200, 3) := by decide +kernel
theorem dX11_fault_7 : decode cX11_fault 7 = .ok (.ireturn, 1) := by decide +kernel
theorem dX11_stopped_0 : decode cX11_stopped 0 = .ok (.aload_n 0, 1) := by decide +kernel
theorem dX11_stopped_1 : decode cX11_stopped 1 = .ok (.getfield 78, 3) := by decide +kernel
theorem dX11_stopped_4 : decode cX11_stopped 4 = .ok (.ireturn, 1) := by decide +kernel
theorem dX11_force_0 : decode cX11_force 0 = .ok (.iload_n 1, 1) := by decide +kernel
theorem dX11_force_1 : decode cX11_force 1 = .ok (.iconst (-1), 1) := by decide +kernel
theorem dX11_force_2 : decode cX11_force 2 = .ok (.if_icmp .eq 27, 3) := by decide +kernel
theorem dX11_force_5 : decode cX11_force 5 = .ok (.iload_n 1, 1) := by decide +kernel
theorem dX11_force_6 : decode cX11_force 6 = .ok (.iconst 0, 1) := by decide +kernel
theorem dX11_force_7 : decode cX11_force 7 = .ok (.aload_n 0, 1) := by decide +kernel
theorem dX11_force_8 : decode cX11_force 8 = .ok (.getfield 10, 3) := by decide +kernel
theorem dX11_force_11 : decode cX11_force 11 = .ok (.getfield 180, 3) := by decide +kernel
theorem dX11_force_14 : decode cX11_force 14 = .ok (.iconst 1, 1) := by decide +kernel
theorem dX11_force_15 : decode cX11_force 15 = .ok (.isub, 1) := by decide +kernel
theorem dX11_force_16 : decode cX11_force 16 = .ok (.invokestatic 137, 3) := by decide +kernel
theorem dX11_force_19 : decode cX11_force 19 = .ok (.ifCond .ne 10, 3) := by decide +kernel
theorem dX11_force_22 : decode cX11_force 22 = .ok (.aload_n 0, 1) := by decide +kernel
theorem dX11_force_23 : decode cX11_force 23 = .ok (.bipush (-2), 2) := by decide +kernel
theorem dX11_force_25 : decode cX11_force 25 = .ok (.invokevirtual 97, 3) := by decide +kernel
theorem dX11_force_28 : decode cX11_force 28 = .ok (.ireturn, 1) := by decide +kernel
theorem dX11_force_29 : decode cX11_force 29 = .ok (.aload_n 0, 1) := by decide +kernel
theorem dX11_force_30 : decode cX11_force 30 = .ok (.getfield 10, 3) := by decide +kernel
theorem dX11_force_33 : decode cX11_force 33 = .ok (.getfield 203, 3) := by decide +kernel
theorem dX11_force_36 : decode cX11_force 36 = .ok (.istore_n 2, 1) := by decide +kernel
theorem dX11_force_37 : decode cX11_force 37 = .ok (.aload_n 0, 1) := by decide +kernel
theorem dX11_force_38 : decode cX11_force 38 = .ok (.getfield 10, 3) := by decide +kernel
theorem dX11_force_41 : decode cX11_force 41 = .ok (.iload_n 1, 1) := by decide +kernel
theorem dX11_force_42 : decode cX11_force 42 = .ok (.putfield 203, 3) := by decide +kernel
theorem dX11_force_45 : decode cX11_force 45 = .ok (.aload_n 0, 1) := by decide +kernel
theorem dX11_force_46 : decode cX11_force 46 = .ok (.iconst 0, 1) := by decide +kernel
theorem dX11_force_47 : decode cX11_force 47 = .ok (.putfield 206, 3) := by decide +kernel
theorem dX11_force_50 : decode cX11_force 50 = .ok (.iload_n 2, 1) := by decide +kernel
theorem dX11_force_51 : decode cX11_force 51 = .ok (.ireturn, 1) := by decide +kernel
theorem dX11_begin_0 : decode cX11_begin 0 = .ok (.aload_n 0, 1) := by decide +kernel
theorem dX11_begin_1 : decode cX11_begin 1 = .ok (.aload_n 0, 1) := by decide +kernel
theorem dX11_begin_2 : decode cX11_begin 2 = .ok (.getfield 45, 3) := by decide +kernel
theorem dX11_begin_5 : decode cX11_begin 5 = .ok (.iload_n 1, 1) := by decide +kernel
theorem dX11_begin_6 : decode cX11_begin 6 = .ok (.iload_n 2, 1) := by decide +kernel
theorem dX11_begin_7 : decode cX11_begin 7 = .ok (.invokevirtual 209, 3) := by decide +kernel
theorem dX11_begin_10 : decode cX11_begin 10 = .ok (.invokevirtual 97, 3) := by decide +kernel
theorem dX11_begin_13 : decode cX11_begin 13 = .ok (.ireturn, 1) := by decide +kernel
theorem dX11_lay_0 : decode cX11_lay 0 = .ok (.aload_n 0, 1) := by decide +kernel
theorem dX11_lay_1 : decode cX11_lay 1 = .ok (.aload_n 0, 1) := by decide +kernel
theorem dX11_lay_2 : decode cX11_lay 2 = .ok (.getfield 45, 3) := by decide +kernel
theorem dX11_lay_5 : decode cX11_lay 5 = .ok (.iload_n 1, 1) := by decide +kernel
theorem dX11_lay_6 : decode cX11_lay 6 = .ok (.invokevirtual 212, 3) := by decide +kernel
theorem dX11_lay_9 : decode cX11_lay 9 = .ok (.invokevirtual 97, 3) := by decide +kernel
theorem dX11_lay_12 : decode cX11_lay 12 = .ok (.ireturn, 1) := by decide +kernel
theorem dX11_die_0 : decode cX11_die 0 = .ok (.aload_n 0, 1) := by decide +kernel
theorem dX11_die_1 : decode cX11_die 1 = .ok (.aload_n 0, 1) := by decide +kernel
theorem dX11_die_2 : decode cX11_die 2 = .ok (.getfield 45, 3) := by decide +kernel
theorem dX11_die_5 : decode cX11_die 5 = .ok (.iload_n 1, 1) := by decide +kernel
theorem dX11_die_6 : decode cX11_die 6 = .ok (.invokevirtual 215, 3) := by decide +kernel
theorem dX11_die_9 : decode cX11_die 9 = .ok (.invokevirtual 97, 3) := by decide +kernel
theorem dX11_die_12 : decode cX11_die 12 = .ok (.ireturn, 1) := by decide +kernel
theorem dX11_pass_0 : decode cX11_pass 0 = .ok (.aload_n 0, 1) := by decide +kernel
theorem dX11_pass_1 : decode cX11_pass 1 = .ok (.aload_n 0, 1) := by decide +kernel
theorem dX11_pass_2 : decode cX11_pass 2 = .ok (.getfield 45, 3) := by decide +kernel
theorem dX11_pass_5 : decode cX11_pass 5 = .ok (.invokevirtual 218, 3) := by decide +kernel
theorem dX11_pass_8 : decode cX11_pass 8 = .ok (.invokevirtual 97, 3) := by decide +kernel
theorem dX11_pass_11 : decode cX11_pass 11 = .ok (.ireturn, 1) := by decide +kernel
theorem dX11_undo_0 : decode cX11_undo 0 = .ok (.aload_n 0, 1) := by decide +kernel
theorem dX11_undo_1 : decode cX11_undo 1 = .ok (.aload_n 0, 1) := by decide +kernel
theorem dX11_undo_2 : decode cX11_undo 2 = .ok (.getfield 45, 3) := by decide +kernel
theorem dX11_undo_5 : decode cX11_undo 5 = .ok (.invokevirtual 221, 3) := by decide +kernel
theorem dX11_undo_8 : decode cX11_undo 8 = .ok (.invokevirtual 97, 3) := by decide +kernel
theorem dX11_undo_11 : decode cX11_undo 11 = .ok (.ireturn, 1) := by decide +kernel
theorem dX11_chance_0 : decode cX11_chance 0 = .ok (.aload_n 0, 1) := by decide +kernel
theorem dX11_chance_1 : decode cX11_chance 1 = .ok (.getfield 10, 3) := by decide +kernel
theorem dX11_chance_4 : decode cX11_chance 4 = .ok (.getfield 38, 3) := by decide +kernel
theorem dX11_chance_7 : decode cX11_chance 7 = .ok (.iload_n 1, 1) := by decide +kernel
theorem dX11_chance_8 : decode cX11_chance 8 = .ok (.invokevirtual 101, 3) := by decide +kernel
theorem dX11_chance_11 : decode cX11_chance 11 = .ok (.ifCond .eq 13, 3) := by decide +kernel
theorem dX11_chance_14 : decode cX11_chance 14 = .ok (.iload_n 2, 1) := by decide +kernel
theorem dX11_chance_15 : decode cX11_chance 15 = .ok (.iconst 0, 1) := by decide +kernel
theorem dX11_chance_16 : decode cX11_chance 16 = .ok (.bipush 15, 2) := by decide +kernel
theorem dX11_chance_18 : decode cX11_chance 18 = .ok (.invokestatic 137, 3) := by decide +kernel
theorem dX11_chance_21 : decode cX11_chance 21 = .ok (.ifCond .ne 7, 3) := by decide +kernel
theorem dX11_chance_24 : decode cX11_chance 24 = .ok (.ldc2_w 224, 3) := by decide +kernel
theorem dX11_chance_27 : decode cX11_chance 27 = .ok (.lreturn, 1) := by decide +kernel
theorem dX11_chance_28 : decode cX11_chance 28 = .ok (.aload_n 0, 1) := by decide +kernel
theorem dX11_chance_29 : decode cX11_chance 29 = .ok (.getfield 10, 3) := by decide +kernel
theorem dX11_chance_32 : decode cX11_chance 32 = .ok (.getfield 38, 3) := by decide +kernel
theorem dX11_chance_35 : decode cX11_chance 35 = .ok (.getfield 115, 3) := by decide +kernel
theorem dX11_chance_38 : decode cX11_chance 38 = .ok (.iload_n 1, 1) := by decide +kernel
theorem dX11_chance_39 : decode cX11_chance 39 = .ok (.invokestatic 108, 3) := by decide +kernel
theorem dX11_chance_42 : decode cX11_chance 42 = .ok (.ifCond .ne 5, 3) := by decide +kernel
theorem dX11_chance_45 : decode cX11_chance 45 = .ok (.lconst 0, 1) := by decide +kernel
theorem dX11_chance_46 : decode cX11_chance 46 = .ok (.lreturn, 1) := by decide +kernel
theorem dX11_chance_47 : decode cX11_chance 47 = .ok (.aload_n 0, 1) := by decide +kernel
theorem dX11_chance_48 : decode cX11_chance 48 = .ok (.getfield 54, 3) := by decide +kernel
theorem dX11_chance_51 : decode cX11_chance 51 = .ok (.iload_n 1, 1) := by decide +kernel
theorem dX11_chance_52 : decode cX11_chance 52 = .ok (.iload_n 2, 1) := by decide +kernel
theorem dX11_chance_53 : decode cX11_chance 53 = .ok (.invokevirtual 226, 3) := by decide +kernel
theorem dX11_chance_56 : decode cX11_chance 56 = .ok (.pop, 1) := by decide +kernel
theorem dX11_chance_57 : decode cX11_chance 57 = .ok (.aload_n 0, 1) := by decide +kernel
theorem dX11_chance_58 : decode cX11_chance 58 = .ok (.getfield 54, 3) := by decide +kernel
theorem dX11_chance_61 : decode cX11_chance 61 = .ok (.getfield 229, 3) := by decide +kernel
theorem dX11_chance_64 : decode cX11_chance 64 = .ok (.lreturn, 1) := by decide +kernel
theorem dX11_years_0 : decode cX11_years 0 = .ok (.aload_n 0, 1) := by decide +kernel
theorem dX11_years_1 : decode cX11_years 1 = .ok (.getfield 10, 3) := by decide +kernel
theorem dX11_years_4 : decode cX11_years 4 = .ok (.getfield 38, 3) := by decide +kernel
theorem dX11_years_7 : decode cX11_years 7 = .ok (.iload_n 1, 1) := by decide +kernel
theorem dX11_years_8 : decode cX11_years 8 = .ok (.invokevirtual 101, 3) := by decide +kernel
theorem dX11_years_11 : decode cX11_years 11 = .ok (.ifCond .eq 13, 3) := by decide +kernel
theorem dX11_years_14 : decode cX11_years 14 = .ok (.iload_n 2, 1) := by decide +kernel
theorem dX11_years_15 : decode cX11_years 15 = .ok (.iconst 0, 1) := by decide +kernel
theorem dX11_years_16 : decode cX11_years 16 = .ok (.bipush 15, 2) := by decide +kernel
theorem dX11_years_18 : decode cX11_years 18 = .ok (.invokestatic 137, 3) := by decide +kernel
theorem dX11_years_21 : decode cX11_years 21 = .ok (.ifCond .ne 5, 3) := by decide +kernel
theorem dX11_years_24 : decode cX11_years 24 = .ok (.iconst (-1), 1) := by decide +kernel
theorem dX11_years_25 : decode cX11_years 25 = .ok (.ireturn, 1) := by decide +kernel
theorem dX11_years_26 : decode cX11_years 26 = .ok (.aload_n 0, 1) := by decide +kernel
theorem dX11_years_27 : decode cX11_years 27 = .ok (.getfield 10, 3) := by decide +kernel
theorem dX11_years_30 : decode cX11_years 30 = .ok (.getfield 38, 3) := by decide +kernel
theorem dX11_years_33 : decode cX11_years 33 = .ok (.getfield 115, 3) := by decide +kernel
theorem dX11_years_36 : decode cX11_years 36 = .ok (.iload_n 1, 1) := by decide +kernel
theorem dX11_years_37 : decode cX11_years 37 = .ok (.invokestatic 108, 3) := by decide +kernel
theorem dX11_years_40 : decode cX11_years 40 = .ok (.ifCond .ne 7, 3) := by decide +kernel
theorem dX11_years_43 : decode cX11_years 43 = .ok (.iconst (-1), 1) := by decide +kernel
theorem dX11_years_44 : decode cX11_years 44 = .ok (.goto 12, 3) := by decide +kernel
theorem dX11_years_47 : decode cX11_years 47 = .ok (.aload_n 0, 1) := by decide +kernel
theorem dX11_years_48 : decode cX11_years 48 = .ok (.getfield 54, 3) := by decide +kernel
theorem dX11_years_51 : decode cX11_years 51 = .ok (.iload_n 1, 1) := by decide +kernel
theorem dX11_years_52 : decode cX11_years 52 = .ok (.iload_n 2, 1) := by decide +kernel
theorem dX11_years_53 : decode cX11_years 53 = .ok (.invokevirtual 226, 3) := by decide +kernel
theorem dX11_years_56 : decode cX11_years 56 = .ok (.ireturn, 1) := by decide +kernel
theorem dX11_lives_0 : decode cX11_lives 0 = .ok (.aload_n 0, 1) := by decide +kernel
theorem dX11_lives_1 : decode cX11_lives 1 = .ok (.getfield 10, 3) := by decide +kernel
theorem dX11_lives_4 : decode cX11_lives 4 = .ok (.getfield 38, 3) := by decide +kernel
theorem dX11_lives_7 : decode cX11_lives 7 = .ok (.iload_n 1, 1) := by decide +kernel
theorem dX11_lives_8 : decode cX11_lives 8 = .ok (.invokevirtual 101, 3) := by decide +kernel
theorem dX11_lives_11 : decode cX11_lives 11 = .ok (.ifCond .eq 13, 3) := by decide +kernel
theorem dX11_lives_14 : decode cX11_lives 14 = .ok (.iload_n 2, 1) := by decide +kernel
theorem dX11_lives_15 : decode cX11_lives 15 = .ok (.iconst 0, 1) := by decide +kernel
theorem dX11_lives_16 : decode cX11_lives 16 = .ok (.bipush 99, 2) := by decide +kernel
theorem dX11_lives_18 : decode cX11_lives 18 = .ok (.invokestatic 137, 3) := by decide +kernel
theorem dX11_lives_21 : decode cX11_lives 21 = .ok (.ifCond .ne 7, 3) := by decide +kernel
theorem dX11_lives_24 : decode cX11_lives 24 = .ok (.ldc2_w 224, 3) := by decide +kernel
theorem dX11_lives_27 : decode cX11_lives 27 = .ok (.lreturn, 1) := by decide +kernel
theorem dX11_lives_28 : decode cX11_lives 28 = .ok (.aload_n 0, 1) := by decide +kernel
theorem dX11_lives_29 : decode cX11_lives 29 = .ok (.getfield 10, 3) := by decide +kernel
theorem dX11_lives_32 : decode cX11_lives 32 = .ok (.getfield 38, 3) := by decide +kernel
theorem dX11_lives_35 : decode cX11_lives 35 = .ok (.getfield 115, 3) := by decide +kernel
theorem dX11_lives_38 : decode cX11_lives 38 = .ok (.iload_n 1, 1) := by decide +kernel
theorem dX11_lives_39 : decode cX11_lives 39 = .ok (.invokestatic 108, 3) := by decide +kernel
theorem dX11_lives_42 : decode cX11_lives 42 = .ok (.ifCond .ne 7, 3) := by decide +kernel
theorem dX11_lives_45 : decode cX11_lives 45 = .ok (.lconst 0, 1) := by decide +kernel
theorem dX11_lives_46 : decode cX11_lives 46 = .ok (.goto 12, 3) := by decide +kernel
theorem dX11_lives_49 : decode cX11_lives 49 = .ok (.aload_n 0, 1) := by decide +kernel
theorem dX11_lives_50 : decode cX11_lives 50 = .ok (.getfield 54, 3) := by decide +kernel
theorem dX11_lives_53 : decode cX11_lives 53 = .ok (.iload_n 1, 1) := by decide +kernel
theorem dX11_lives_54 : decode cX11_lives 54 = .ok (.iload_n 2, 1) := by decide +kernel
theorem dX11_lives_55 : decode cX11_lives 55 = .ok (.invokevirtual 233, 3) := by decide +kernel
theorem dX11_lives_58 : decode cX11_lives 58 = .ok (.lreturn, 1) := by decide +kernel
theorem dX11_plan_0 : decode cX11_plan 0 = .ok (.iload_n 2, 1) := by decide +kernel
theorem dX11_plan_1 : decode cX11_plan 1 = .ok (.iconst (-1), 1) := by decide +kernel
theorem dX11_plan_2 : decode cX11_plan 2 = .ok (.if_icmp .ne 7, 3) := by decide +kernel
theorem dX11_plan_5 : decode cX11_plan 5 = .ok (.iconst 1, 1) := by decide +kernel
theorem dX11_plan_6 : decode cX11_plan 6 = .ok (.goto 4, 3) := by decide +kernel
theorem dX11_plan_9 : decode cX11_plan 9 = .ok (.iconst 0, 1) := by decide +kernel
theorem dX11_plan_10 : decode cX11_plan 10 = .ok (.istore_n 3, 1) := by decide +kernel
theorem dX11_plan_11 : decode cX11_plan 11 = .ok (.iload_n 3, 1) := by decide +kernel
theorem dX11_plan_12 : decode cX11_plan 12 = .ok (.ifCond .ne 21, 3) := by decide +kernel
theorem dX11_plan_15 : decode cX11_plan 15 = .ok (.aload_n 0, 1) := by decide +kernel
theorem dX11_plan_16 : decode cX11_plan 16 = .ok (.getfield 10, 3) := by decide +kernel
theorem dX11_plan_19 : decode cX11_plan 19 = .ok (.getfield 38, 3) := by decide +kernel
theorem dX11_plan_22 : decode cX11_plan 22 = .ok (.iload_n 2, 1) := by decide +kernel
theorem dX11_plan_23 : decode cX11_plan 23 = .ok (.invokevirtual 101, 3) := by decide +kernel
theorem dX11_plan_26 : decode cX11_plan 26 = .ok (.ifCond .ne 7, 3) := by decide +kernel
theorem dX11_plan_29 : decode cX11_plan 29 = .ok (.ldc2_w 224, 3) := by decide +kernel
theorem dX11_plan_32 : decode cX11_plan 32 = .ok (.lreturn, 1) := by decide +kernel
theorem dX11_plan_33 : decode cX11_plan 33 = .ok (.iload_n 1, 1) := by decide +kernel
theorem dX11_plan_34 : decode cX11_plan 34 = .ok (.iconst 0, 1) := by decide +kernel
theorem dX11_plan_35 : decode cX11_plan 35 = .ok (.ldc 237, 2) := by decide +kernel
theorem dX11_plan_37 : decode cX11_plan 37 = .ok (.invokestatic 137, 3) := by decide +kernel
theorem dX11_plan_40 : decode cX11_plan 40 = .ok (.ifCond .eq 12, 3) := by decide +kernel
theorem dX11_plan_43 : decode cX11_plan 43 = .ok (.iload_n 1, 1) := by decide +kernel
theorem dX11_plan_44 : decode cX11_plan 44 = .ok (.invokestatic 238, 3) := by decide +kernel
theorem dX11_plan_47 : decode cX11_plan 47 = .ok (.bipush 6, 2) := by decide +kernel
theorem dX11_plan_49 : decode cX11_plan 49 = .ok (.if_icmp .le 7, 3) := by decide +kernel
theorem dX11_plan_52 : decode cX11_plan 52 = .ok (.ldc2_w 224, 3) := by decide +kernel
theorem dX11_plan_55 : decode cX11_plan 55 = .ok (.lreturn, 1) := by decide +kernel
theorem dX11_plan_56 : decode cX11_plan 56 = .ok (.aload_n 0, 1) := by decide +kernel
theorem dX11_plan_57 : decode cX11_plan 57 = .ok (.getfield 63, 3) := by decide +kernel
theorem dX11_plan_60 : decode cX11_plan 60 = .ok (.iload_n 1, 1) := by decide +kernel
theorem dX11_plan_61 : decode cX11_plan 61 = .ok (.invokevirtual 243, 3) := by decide +kernel
theorem dX11_plan_64 : decode cX11_plan 64 = .ok (.iload_n 3, 1) := by decide +kernel
theorem dX11_plan_65 : decode cX11_plan 65 = .ok (.ifCond .eq 13, 3) := by decide +kernel
theorem dX11_plan_68 : decode cX11_plan 68 = .ok (.aload_n 0, 1) := by decide +kernel
theorem dX11_plan_69 : decode cX11_plan 69 = .ok (.getfield 63, 3) := by decide +kernel
theorem dX11_plan_72 : decode cX11_plan 72 = .ok (.invokevirtual 246, 3) := by decide +kernel
theorem dX11_plan_75 : decode cX11_plan 75 = .ok (.goto 12, 3) := by decide +kernel
theorem dX11_plan_78 : decode cX11_plan 78 = .ok (.aload_n 0, 1) := by decide +kernel
theorem dX11_plan_79 : decode cX11_plan 79 = .ok (.getfield 63, 3) := by decide +kernel
theorem dX11_plan_82 : decode cX11_plan 82 = .ok (.iload_n 2, 1) := by decide +kernel
theorem dX11_plan_83 : decode cX11_plan 83 = .ok (.invokevirtual 250, 3) := by decide +kernel
theorem dX11_plan_86 : decode cX11_plan 86 = .ok (.i2l, 1) := by decide +kernel
theorem dX11_plan_87 : decode cX11_plan 87 = .ok (.lreturn, 1) := by decide +kernel
theorem dX11_bridge_0 : decode cX11_bridge 0 = .ok (.aload_n 0, 1) := by decide +kernel
theorem dX11_bridge_1 : decode cX11_bridge 1 = .ok (.getfield 10, 3) := by decide +kernel
theorem dX11_bridge_4 : decode cX11_bridge 4 = .ok (.getfield 38, 3) := by decide +kernel
theorem dX11_bridge_7 : decode cX11_bridge 7 = .ok (.astore 4, 2) := by decide +kernel
theorem dX11_bridge_9 : decode cX11_bridge 9 = .ok (.iload_n 1, 1) := by decide +kernel
theorem dX11_bridge_10 : decode cX11_bridge 10 = .ok (.iload_n 2, 1) := by decide +kernel
theorem dX11_bridge_11 : decode cX11_bridge 11 = .ok (.if_icmp .eq 31, 3) := by decide +kernel
theorem dX11_bridge_14 : decode cX11_bridge 14 = .ok (.aload 4, 2) := by decide +kernel
theorem dX11_bridge_16 : decode cX11_bridge 16 = .ok (.iload_n 1, 1) := by decide +kernel
theorem dX11_bridge_17 : decode cX11_bridge 17 = .ok (.invokevirtual 101, 3) := by decide +kernel
theorem dX11_bridge_20 : decode cX11_bridge 20 = .ok (.ifCond .eq 22, 3) := by decide +kernel
theorem dX11_bridge_23 : decode cX11_bridge 23 = .ok (.aload 4, 2) := by decide +kernel
theorem dX11_bridge_25 : decode cX11_bridge 25 = .ok (.iload_n 2, 1) := by decide +kernel
theorem dX11_bridge_26 : decode cX11_bridge 26 = .ok (.invokevirtual 101, 3) := by decide +kernel
theorem dX11_bridge_29 : decode cX11_bridge 29 = .ok (.ifCond .eq 13, 3) := by decide +kernel
theorem dX11_bridge_32 : decode cX11_bridge 32 = .ok (.iload_n 3, 1) := by decide +kernel
theorem dX11_bridge_33 : decode cX11_bridge 33 = .ok (.iconst 1, 1) := by decide +kernel
theorem dX11_bridge_34 : decode cX11_bridge 34 = .ok (.bipush 40, 2) := by decide +kernel
theorem dX11_bridge_36 : decode cX11_bridge 36 = .ok (.invokestatic 137, 3) := by decide +kernel
theorem dX11_bridge_39 : decode cX11_bridge 39 = .ok (.ifCond .ne 7, 3) := by decide +kernel
theorem dX11_bridge_42 : decode cX11_bridge 42 = .ok (.ldc2_w 224, 3) := by decide +kernel
theorem dX11_bridge_45 : decode cX11_bridge 45 = .ok (.lreturn, 1) := by decide +kernel
theorem dX11_bridge_46 : decode cX11_bridge 46 = .ok (.aload_n 0, 1) := by decide +kernel
theorem dX11_bridge_47 : decode cX11_bridge 47 = .ok (.getfield 54, 3) := by decide +kernel
theorem dX11_bridge_50 : decode cX11_bridge 50 = .ok (.iload_n 1, 1) := by decide +kernel
theorem dX11_bridge_51 : decode cX11_bridge 51 = .ok (.iload_n 2, 1) := by decide +kernel
theorem dX11_bridge_52 : decode cX11_bridge 52 = .ok (.iload_n 3, 1) := by decide +kernel
theorem dX11_bridge_53 : decode cX11_bridge 53 = .ok (.invokevirtual 253, 3) := by decide +kernel
theorem dX11_bridge_56 : decode cX11_bridge 56 = .ok (.lreturn, 1) := by decide +kernel
theorem dX11_stair_0 : decode cX11_stair 0 = .ok (.iload_n 1, 1) := by decide +kernel
theorem dX11_stair_1 : decode cX11_stair 1 = .ok (.iconst 0, 1) := by decide +kernel
theorem dX11_stair_2 : decode cX11_stair 2 = .ok (.iconst 1, 1) := by decide +kernel
theorem dX11_stair_3 : decode cX11_stair 3 = .ok (.invokestatic 137, 3) := by decide +kernel
theorem dX11_stair_6 : decode cX11_stair 6 = .ok (.ifCond .eq 25, 3) := by decide +kernel
theorem dX11_stair_9 : decode cX11_stair 9 = .ok (.aload_n 0, 1) := by decide +kernel
theorem dX11_stair_10 : decode cX11_stair 10 = .ok (.getfield 10, 3) := by decide +kernel
theorem dX11_stair_13 : decode cX11_stair 13 = .ok (.getfield 38, 3) := by decide +kernel
theorem dX11_stair_16 : decode cX11_stair 16 = .ok (.iload_n 1, 1) := by decide +kernel
theorem dX11_stair_17 : decode cX11_stair 17 = .ok (.ifCond .ne 7, 3) := by decide +kernel
theorem dX11_stair_20 : decode cX11_stair 20 = .ok (.iconst 1, 1) := by decide +kernel
theorem dX11_stair_21 : decode cX11_stair 21 = .ok (.goto 4, 3) := by decide +kernel
theorem dX11_stair_24 : decode cX11_stair 24 = .ok (.iconst 0, 1) := by decide +kernel
theorem dX11_stair_25 : decode cX11_stair 25 = .ok (.invokevirtual 257, 3) := by decide +kernel
theorem dX11_stair_28 : decode cX11_stair 28 = .ok (.goto 4, 3) := by decide +kernel
theorem dX11_stair_31 : decode cX11_stair 31 = .ok (.iconst (-1), 1) := by decide +kernel
theorem dX11_stair_32 : decode cX11_stair 32 = .ok (.ireturn, 1) := by decide +kernel
theorem dX11_stretch_0 : decode cX11_stretch 0 = .ok (.iload_n 1, 1) := by decide +kernel
theorem dX11_stretch_1 : decode cX11_stretch 1 = .ok (.iconst 1, 1) := by decide +kernel
theorem dX11_stretch_2 : decode cX11_stretch 2 = .ok (.bipush 9, 2) := by decide +kernel
theorem dX11_stretch_4 : decode cX11_stretch 4 = .ok (.invokestatic 137, 3) := by decide +kernel
theorem dX11_stretch_7 : decode cX11_stretch 7 = .ok (.ifCond .eq 12, 3) := by decide +kernel
theorem dX11_stretch_10 : decode cX11_stretch 10 = .ok (.iload_n 2, 1) := by decide +kernel
theorem dX11_stretch_11 : decode cX11_stretch 11 = .ok (.iconst 0, 1) := by decide +kernel
theorem dX11_stretch_12 : decode cX11_stretch 12 = .ok (.iconst 1, 1) := by decide +kernel
theorem dX11_stretch_13 : decode cX11_stretch 13 = .ok (.invokestatic 137, 3) := by decide +kernel
theorem dX11_stretch_16 : decode cX11_stretch 16 = .ok (.ifCond .ne 5, 3) := by decide +kernel
theorem dX11_stretch_19 : decode cX11_stretch 19 = .ok (.iconst (-1), 1) := by decide +kernel
theorem dX11_stretch_20 : decode cX11_stretch 20 = .ok (.ireturn, 1) := by decide +kernel
theorem dX11_stretch_21 : decode cX11_stretch 21 = .ok (.aload_n 0, 1) := by decide +kernel
theorem dX11_stretch_22 : decode cX11_stretch 22 = .ok (.getfield 10, 3) := by decide +kernel
theorem dX11_stretch_25 : decode cX11_stretch 25 = .ok (.getfield 38, 3) := by decide +kernel
theorem dX11_stretch_28 : decode cX11_stretch 28 = .ok (.iload_n 1, 1) := by decide +kernel
theorem dX11_stretch_29 : decode cX11_stretch 29 = .ok (.iload_n 2, 1) := by decide +kernel
theorem dX11_stretch_30 : decode cX11_stretch 30 = .ok (.ifCond .ne 7, 3) := by decide +kernel
theorem dX11_stretch_33 : decode cX11_stretch 33 = .ok (.iconst 1, 1) := by decide +kernel
theorem dX11_stretch_34 : decode cX11_stretch 34 = .ok (.goto 4, 3) := by decide +kernel
theorem dX11_stretch_37 : decode cX11_stretch 37 = .ok (.iconst 0, 1) := by decide +kernel
theorem dX11_stretch_38 : decode cX11_stretch 38 = .ok (.invokevirtual 261, 3) := by decide +kernel
theorem dX11_stretch_41 : decode cX11_stretch 41 = .ok (.ireturn, 1) := by decide +kernel
theorem dX11_rooms_0 : decode cX11_rooms 0 = .ok (.iload_n 1, 1) := by decide +kernel
theorem dX11_rooms_1 : decode cX11_rooms 1 = .ok (.iconst 1, 1) := by decide +kernel
theorem dX11_rooms_2 : decode cX11_rooms 2 = .ok (.bipush 9, 2) := by decide +kernel
theorem dX11_rooms_4 : decode cX11_rooms 4 = .ok (.invokestatic 137, 3) := by decide +kernel
theorem dX11_rooms_7 : decode cX11_rooms 7 = .ok (.ifCond .eq 17, 3) := by decide +kernel
theorem dX11_rooms_10 : decode cX11_rooms 10 = .ok (.aload_n 0, 1) := by decide +kernel
theorem dX11_rooms_11 : decode cX11_rooms 11 = .ok (.getfield 10, 3) := by decide +kernel
theorem dX11_rooms_14 : decode cX11_rooms 14 = .ok (.getfield 38, 3) := by decide +kernel
theorem dX11_rooms_17 : decode cX11_rooms 17 = .ok (.iload_n 1, 1) := by decide +kernel
theorem dX11_rooms_18 : decode cX11_rooms 18 = .ok (.invokevirtual 265, 3) := by decide +kernel
theorem dX11_rooms_21 : decode cX11_rooms 21 = .ok (.goto 4, 3) := by decide +kernel
theorem dX11_rooms_24 : decode cX11_rooms 24 = .ok (.iconst (-1), 1) := by decide +kernel
theorem dX11_rooms_25 : decode cX11_rooms 25 = .ok (.ireturn, 1) := by decide +kernel
theorem dX11_seat_0 : decode cX11_seat 0 = .ok (.iconst (-1), 1) := by decide +kernel
theorem dX11_seat_1 : decode cX11_seat 1 = .ok (.istore_n 1, 1) := by decide +kernel
theorem dX11_seat_2 : decode cX11_seat 2 = .ok (.iconst (-1), 1) := by decide +kernel
theorem dX11_seat_3 : decode cX11_seat 3 = .ok (.istore_n 2, 1) := by decide +kernel
theorem dX11_seat_4 : decode cX11_seat 4 = .ok (.iconst 0, 1) := by decide +kernel
theorem dX11_seat_5 : decode cX11_seat 5 = .ok (.istore_n 3, 1) := by decide +kernel
theorem dX11_seat_6 : decode cX11_seat 6 = .ok (.iload_n 3, 1) := by decide +kernel
theorem dX11_seat_7 : decode cX11_seat 7 = .ok (.bipush 16, 2) := by decide +kernel
theorem dX11_seat_9 : decode cX11_seat 9 = .ok (.if_icmp .ge 63, 3) := by decide +kernel
theorem dX11_seat_12 : decode cX11_seat 12 = .ok (.aload_n 0, 1) := by decide +kernel
theorem dX11_seat_13 : decode cX11_seat 13 = .ok (.getfield 10, 3) := by decide +kernel
theorem dX11_seat_16 : decode cX11_seat 16 = .ok (.getfield 38, 3) := by decide +kernel
theorem dX11_seat_19 : decode cX11_seat 19 = .ok (.getfield 144, 3) := by decide +kernel
theorem dX11_seat_22 : decode cX11_seat 22 = .ok (.iload_n 3, 1) := by decide +kernel
theorem dX11_seat_23 : decode cX11_seat 23 = .ok (.invokestatic 108, 3) := by decide +kernel
theorem dX11_seat_26 : decode cX11_seat 26 = .ok (.iconst 1, 1) := by decide +kernel
theorem dX11_seat_27 : decode cX11_seat 27 = .ok (.if_icmp .ne 39, 3) := by decide +kernel
theorem dX11_seat_30 : decode cX11_seat 30 = .ok (.aload_n 0, 1) := by decide +kernel
theorem dX11_seat_31 : decode cX11_seat 31 = .ok (.getfield 32, 3) := by decide +kernel
theorem dX11_seat_34 : decode cX11_seat 34 = .ok (.aload_n 0, 1) := by decide +kernel
theorem dX11_seat_35 : decode cX11_seat 35 = .ok (.getfield 10, 3) := by decide +kernel
theorem dX11_seat_38 : decode cX11_seat 38 = .ok (.getfield 38, 3) := by decide +kernel
theorem dX11_seat_41 : decode cX11_seat 41 = .ok (.iconst (-1), 1) := by decide +kernel
theorem dX11_seat_42 : decode cX11_seat 42 = .ok (.iload_n 3, 1) := by decide +kernel
theorem dX11_seat_43 : decode cX11_seat 43 = .ok (.invokevirtual 121, 3) := by decide +kernel
theorem dX11_seat_46 : decode cX11_seat 46 = .ok (.aload_n 0, 1) := by decide +kernel
theorem dX11_seat_47 : decode cX11_seat 47 = .ok (.getfield 32, 3) := by decide +kernel
theorem dX11_seat_50 : decode cX11_seat 50 = .ok (.invokevirtual 150, 3) := by decide +kernel
theorem dX11_seat_53 : decode cX11_seat 53 = .ok (.istore 4, 2) := by decide +kernel
theorem dX11_seat_55 : decode cX11_seat 55 = .ok (.iload 4, 2) := by decide +kernel
theorem dX11_seat_57 : decode cX11_seat 57 = .ok (.iload_n 2, 1) := by decide +kernel
theorem dX11_seat_58 : decode cX11_seat 58 = .ok (.if_icmp .le 8, 3) := by decide +kernel
theorem dX11_seat_61 : decode cX11_seat 61 = .ok (.iload 4, 2) := by decide +kernel
theorem dX11_seat_63 : decode cX11_seat 63 = .ok (.istore_n 2, 1) := by decide +kernel
theorem dX11_seat_64 : decode cX11_seat 64 = .ok (.iload_n 3, 1) := by decide +kernel
theorem dX11_seat_65 : decode cX11_seat 65 = .ok (.istore_n 1, 1) := by decide +kernel
theorem dX11_seat_66 : decode cX11_seat 66 = .ok (.iinc 3 1, 3) := by decide +kernel
theorem dX11_seat_69 : decode cX11_seat 69 = .ok (.goto (-63), 3) := by decide +kernel
theorem dX11_seat_72 : decode cX11_seat 72 = .ok (.iload_n 1, 1) := by decide +kernel
theorem dX11_seat_73 : decode cX11_seat 73 = .ok (.ireturn, 1) := by decide +kernel
theorem dX11_seen_0 : decode cX11_seen 0 = .ok (.aload_n 0, 1) := by decide +kernel
theorem dX11_seen_1 : decode cX11_seen 1 = .ok (.aload_n 0, 1) := by decide +kernel
theorem dX11_seen_2 : decode cX11_seen 2 = .ok (.getfield 10, 3) := by decide +kernel
theorem dX11_seen_5 : decode cX11_seen 5 = .ok (.iload_n 1, 1) := by decide +kernel
theorem dX11_seen_6 : decode cX11_seen 6 = .ok (.iload_n 2, 1) := by decide +kernel
theorem dX11_seen_7 : decode cX11_seen 7 = .ok (.invokevirtual 268, 3) := by decide +kernel
theorem dX11_seen_10 : decode cX11_seen 10 = .ok (.invokevirtual 97, 3) := by decide +kernel
theorem dX11_seen_13 : decode cX11_seen 13 = .ok (.ireturn, 1) := by decide +kernel
theorem dX11_forget_0 : decode cX11_forget 0 = .ok (.aload_n 0, 1) := by decide +kernel
theorem dX11_forget_1 : decode cX11_forget 1 = .ok (.getfield 10, 3) := by decide +kernel
theorem dX11_forget_4 : decode cX11_forget 4 = .ok (.getfield 271, 3) := by decide +kernel
theorem dX11_forget_7 : decode cX11_forget 7 = .ok (.istore_n 1, 1) := by decide +kernel
theorem dX11_forget_8 : decode cX11_forget 8 = .ok (.aload_n 0, 1) := by decide +kernel
theorem dX11_forget_9 : decode cX11_forget 9 = .ok (.getfield 10, 3) := by decide +kernel
theorem dX11_forget_12 : decode cX11_forget 12 = .ok (.iconst 0, 1) := by decide +kernel
theorem dX11_forget_13 : decode cX11_forget 13 = .ok (.putfield 271, 3) := by decide +kernel
theorem dX11_forget_16 : decode cX11_forget 16 = .ok (.iload_n 1, 1) := by decide +kernel
theorem dX11_forget_17 : decode cX11_forget 17 = .ok (.ireturn, 1) := by decide +kernel
theorem dX11_canBe_0 : decode cX11_canBe 0 = .ok (.aload_n 0, 1) := by decide +kernel
theorem dX11_canBe_1 : decode cX11_canBe 1 = .ok (.getfield 54, 3) := by decide +kernel
theorem dX11_canBe_4 : decode cX11_canBe 4 = .ok (.invokevirtual 274, 3) := by decide +kernel
theorem dX11_canBe_7 : decode cX11_canBe 7 = .ok (.ireturn, 1) := by decide +kernel
theorem dX11_look_0 : decode cX11_look 0 = .ok (.iload_n 1, 1) := by decide +kernel
theorem dX11_look_1 : decode cX11_look 1 = .ok (.iconst 0, 1) := by decide +kernel
theorem dX11_look_2 : decode cX11_look 2 = .ok (.iconst 1, 1) := by decide +kernel
theorem dX11_look_3 : decode cX11_look 3 = .ok (.invokestatic 137, 3) := by decide +kernel
theorem dX11_look_6 : decode cX11_look 6 = .ok (.ifCond .eq 22, 3) := by decide +kernel
theorem dX11_look_9 : decode cX11_look 9 = .ok (.aload_n 0, 1) := by decide +kernel
theorem dX11_look_10 : decode cX11_look 10 = .ok (.getfield 54, 3) := by decide +kernel
theorem dX11_look_13 : decode cX11_look 13 = .ok (.iload_n 1, 1) := by decide +kernel
theorem dX11_look_14 : decode cX11_look 14 = .ok (.ifCond .ne 7, 3) := by decide +kernel
theorem dX11_look_17 : decode cX11_look 17 = .ok (.iconst 1, 1) := by decide +kernel
theorem dX11_look_18 : decode cX11_look 18 = .ok (.goto 4, 3) := by decide +kernel
theorem dX11_look_21 : decode cX11_look 21 = .ok (.iconst 0, 1) := by decide +kernel
theorem dX11_look_22 : decode cX11_look 22 = .ok (.invokevirtual 277, 3) := by decide +kernel
theorem dX11_look_25 : decode cX11_look 25 = .ok (.goto 4, 3) := by decide +kernel
theorem dX11_look_28 : decode cX11_look 28 = .ok (.iconst (-1), 1) := by decide +kernel
theorem dX11_look_29 : decode cX11_look 29 = .ok (.ireturn, 1) := by decide +kernel
theorem dX11_few_0 : decode cX11_few 0 = .ok (.iload_n 1, 1) := by decide +kernel
theorem dX11_few_1 : decode cX11_few 1 = .ok (.iconst 1, 1) := by decide +kernel
theorem dX11_few_2 : decode cX11_few 2 = .ok (.bipush 20, 2) := by decide +kernel
theorem dX11_few_4 : decode cX11_few 4 = .ok (.invokestatic 137, 3) := by decide +kernel
theorem dX11_few_7 : decode cX11_few 7 = .ok (.ifCond .eq 13, 3) := by decide +kernel
theorem dX11_few_10 : decode cX11_few 10 = .ok (.iload_n 2, 1) := by decide +kernel
theorem dX11_few_11 : decode cX11_few 11 = .ok (.iconst 0, 1) := by decide +kernel
theorem dX11_few_12 : decode cX11_few 12 = .ok (.bipush 99, 2) := by decide +kernel
theorem dX11_few_14 : decode cX11_few 14 = .ok (.invokestatic 137, 3) := by decide +kernel
theorem dX11_few_17 : decode cX11_few 17 = .ok (.ifCond .ne 7, 3) := by decide +kernel
theorem dX11_few_20 : decode cX11_few 20 = .ok (.ldc2_w 224, 3) := by decide +kernel
theorem dX11_few_23 : decode cX11_few 23 = .ok (.lreturn, 1) := by decide +kernel
theorem dX11_few_24 : decode cX11_few 24 = .ok (.aload_n 0, 1) := by decide +kernel
theorem dX11_few_25 : decode cX11_few 25 = .ok (.getfield 54, 3) := by decide +kernel
theorem dX11_few_28 : decode cX11_few 28 = .ok (.iload_n 1, 1) := by decide +kernel
theorem dX11_few_29 : decode cX11_few 29 = .ok (.iload_n 2, 1) := by decide +kernel
theorem dX11_few_30 : decode cX11_few 30 = .ok (.invokevirtual 280, 3) := by decide +kernel
theorem dX11_few_33 : decode cX11_few 33 = .ok (.lreturn, 1) := by decide +kernel
theorem dX11_compare_0 : decode cX11_compare 0 = .ok (.aload_n 0, 1) := by decide +kernel
theorem dX11_compare_1 : decode cX11_compare 1 = .ok (.getfield 10, 3) := by decide +kernel
theorem dX11_compare_4 : decode cX11_compare 4 = .ok (.getfield 38, 3) := by decide +kernel
theorem dX11_compare_7 : decode cX11_compare 7 = .ok (.iload_n 2, 1) := by decide +kernel
theorem dX11_compare_8 : decode cX11_compare 8 = .ok (.invokevirtual 101, 3) := by decide +kernel
theorem dX11_compare_11 : decode cX11_compare 11 = .ok (.ifCond .eq 25, 3) := by decide +kernel
theorem dX11_compare_14 : decode cX11_compare 14 = .ok (.iload_n 1, 1) := by decide +kernel
theorem dX11_compare_15 : decode cX11_compare 15 = .ok (.iconst (-1), 1) := by decide +kernel
theorem dX11_compare_16 : decode cX11_compare 16 = .ok (.if_icmp .eq 22, 3) := by decide +kernel
theorem dX11_compare_19 : decode cX11_compare 19 = .ok (.iload_n 1, 1) := by decide +kernel
theorem dX11_compare_20 : decode cX11_compare 20 = .ok (.iconst 0, 1) := by decide +kernel
theorem dX11_compare_21 : decode cX11_compare 21 = .ok (.aload_n 0, 1) := by decide +kernel
theorem dX11_compare_22 : decode cX11_compare 22 = .ok (.getfield 10, 3) := by decide +kernel
theorem dX11_compare_25 : decode cX11_compare 25 = .ok (.getfield 180, 3) := by decide +kernel
theorem dX11_compare_28 : decode cX11_compare 28 = .ok (.iconst 1, 1) := by decide +kernel
theorem dX11_compare_29 : decode cX11_compare 29 = .ok (.isub, 1) := by decide +kernel
theorem dX11_compare_30 : decode cX11_compare 30 = .ok (.invokestatic 137, 3) := by decide +kernel
theorem dX11_compare_33 : decode cX11_compare 33 = .ok (.ifCond .ne 5, 3) := by decide +kernel
theorem dX11_compare_36 : decode cX11_compare 36 = .ok (.iconst (-1), 1) := by decide +kernel
theorem dX11_compare_37 : decode cX11_compare 37 = .ok (.ireturn, 1) := by decide +kernel
theorem dX11_compare_38 : decode cX11_compare 38 = .ok (.aload_n 0, 1) := by decide +kernel
theorem dX11_compare_39 : decode cX11_compare 39 = .ok (.getfield 32, 3) := by decide +kernel
theorem dX11_compare_42 : decode cX11_compare 42 = .ok (.aload_n 0, 1) := by decide +kernel
theorem dX11_compare_43 : decode cX11_compare 43 = .ok (.getfield 10, 3) := by decide +kernel
theorem dX11_compare_46 : decode cX11_compare 46 = .ok (.getfield 38, 3) := by decide +kernel
theorem dX11_compare_49 : decode cX11_compare 49 = .ok (.iload_n 2, 1) := by decide +kernel
theorem dX11_compare_50 : decode cX11_compare 50 = .ok (.aload_n 0, 1) := by decide +kernel
theorem dX11_compare_51 : decode cX11_compare 51 = .ok (.getfield 10, 3) := by decide +kernel
theorem dX11_compare_54 : decode cX11_compare 54 = .ok (.getfield 38, 3) := by decide +kernel
theorem dX11_compare_57 : decode cX11_compare 57 = .ok (.getfield 118, 3) := by decide +kernel
theorem dX11_compare_60 : decode cX11_compare 60 = .ok (.iload_n 2, 1) := by decide +kernel
theorem dX11_compare_61 : decode cX11_compare 61 = .ok (.invokestatic 108, 3) := by decide +kernel
theorem dX11_compare_64 : decode cX11_compare 64 = .ok (.invokevirtual 121, 3) := by decide +kernel
theorem dX11_compare_67 : decode cX11_compare 67 = .ok (.aload_n 0, 1) := by decide +kernel
theorem dX11_compare_68 : decode cX11_compare 68 = .ok (.getfield 32, 3) := by decide +kernel
theorem dX11_compare_71 : decode cX11_compare 71 = .ok (.aload_n 0, 1) := by decide +kernel
theorem dX11_compare_72 : decode cX11_compare 72 = .ok (.getfield 10, 3) := by decide +kernel
theorem dX11_compare_75 : decode cX11_compare 75 = .ok (.iload_n 1, 1) := by decide +kernel
theorem dX11_compare_76 : decode cX11_compare 76 = .ok (.invokevirtual 283, 3) := by decide +kernel
theorem dX11_compare_79 : decode cX11_compare 79 = .ok (.invokevirtual 129, 3) := by decide +kernel
theorem dX11_compare_82 : decode cX11_compare 82 = .ok (.ireturn, 1) := by decide +kernel
theorem dX11_centuries_0 : decode cX11_centuries 0 = .ok (.iload_n 1, 1) := by decide +kernel
theorem dX11_centuries_1 : decode cX11_centuries 1 = .ok (.iconst 0, 1) := by decide +kernel
theorem dX11_centuries_2 : decode cX11_centuries 2 = .ok (.ldc_w 287, 3) := by decide +kernel
theorem dX11_centuries_5 : decode cX11_centuries 5 = .ok (.invokestatic 137, 3) := by decide +kernel
theorem dX11_centuries_8 : decode cX11_centuries 8 = .ok (.ifCond .eq 13, 3) := by decide +kernel
theorem dX11_centuries_11 : decode cX11_centuries 11 = .ok (.iload_n 2, 1) := by decide +kernel
theorem dX11_centuries_12 : decode cX11_centuries 12 = .ok (.iconst 1, 1) := by decide +kernel
theorem dX11_centuries_13 : decode cX11_centuries 13 = .ok (.bipush 60, 2) := by decide +kernel
theorem dX11_centuries_15 : decode cX11_centuries 15 = .ok (.invokestatic 137, 3) := by decide +kernel
theorem dX11_centuries_18 : decode cX11_centuries 18 = .ok (.ifCond .ne 9, 3) := by decide +kernel
theorem dX11_centuries_21 : decode cX11_centuries 21 = .ok (.aload_n 0, 1) := by decide +kernel
theorem dX11_centuries_22 : decode cX11_centuries 22 = .ok (.iconst (-1), 1) := by decide +kernel
theorem dX11_centuries_23 : decode cX11_centuries 23 = .ok (.invokevirtual 97, 3) := by decide +kernel
theorem dX11_centuries_26 : decode cX11_centuries 26 = .ok (.ireturn, 1) := by decide +kernel
theorem dX11_centuries_27 : decode cX11_centuries 27 = .ok (.aload_n 0, 1) := by decide +kernel
theorem dX11_centuries_28 : decode cX11_centuries 28 = .ok (.getfield 10, 3) := by decide +kernel
theorem dX11_centuries_31 : decode cX11_centuries 31 = .ok (.getfield 38, 3) := by decide +kernel
theorem dX11_centuries_34 : decode cX11_centuries 34 = .ok (.getfield 288, 3) := by decide +kernel
theorem dX11_centuries_37 : decode cX11_centuries 37 = .ok (.ifCond .ne 10, 3) := by decide +kernel
theorem dX11_centuries_40 : decode cX11_centuries 40 = .ok (.aload_n 0, 1) := by decide +kernel
theorem dX11_centuries_41 : decode cX11_centuries 41 = .ok (.bipush (-3), 2) := by decide +kernel
theorem dX11_centuries_43 : decode cX11_centuries 43 = .ok (.invokevirtual 97, 3) := by decide +kernel
theorem dX11_centuries_46 : decode cX11_centuries 46 = .ok (.ireturn, 1) := by decide +kernel
theorem dX11_centuries_47 : decode cX11_centuries 47 = .ok (.aload_n 0, 1) := by decide +kernel
theorem dX11_centuries_48 : decode cX11_centuries 48 = .ok (.getfield 70, 3) := by decide +kernel
theorem dX11_centuries_51 : decode cX11_centuries 51 = .ok (.aload_n 0, 1) := by decide +kernel
theorem dX11_centuries_52 : decode cX11_centuries 52 = .ok (.getfield 10, 3) := by decide +kernel
theorem dX11_centuries_55 : decode cX11_centuries 55 = .ok (.getfield 38, 3) := by decide +kernel
theorem dX11_centuries_58 : decode cX11_centuries 58 = .ok (.iload_n 1, 1) := by decide +kernel
theorem dX11_centuries_59 : decode cX11_centuries 59 = .ok (.iload_n 2, 1) := by decide +kernel
theorem dX11_centuries_60 : decode cX11_centuries 60 = .ok (.invokevirtual 291, 3) := by decide +kernel
theorem dX11_centuries_63 : decode cX11_centuries 63 = .ok (.aload_n 0, 1) := by decide +kernel
theorem dX11_centuries_64 : decode cX11_centuries 64 = .ok (.aload_n 0, 1) := by decide +kernel
theorem dX11_centuries_65 : decode cX11_centuries 65 = .ok (.getfield 70, 3) := by decide +kernel
theorem dX11_centuries_68 : decode cX11_centuries 68 = .ok (.getfield 294, 3) := by decide +kernel
theorem dX11_centuries_71 : decode cX11_centuries 71 = .ok (.invokevirtual 295, 3) := by decide +kernel
theorem dX11_centuries_74 : decode cX11_centuries 74 = .ok (.invokestatic 238, 3) := by decide +kernel
theorem dX11_centuries_77 : decode cX11_centuries 77 = .ok (.invokevirtual 97, 3) := by decide +kernel
theorem dX11_centuries_80 : decode cX11_centuries 80 = .ok (.ireturn, 1) := by decide +kernel
theorem dX11_drawn_0 : decode cX11_drawn 0 = .ok (.aload_n 0, 1) := by decide +kernel
theorem dX11_drawn_1 : decode cX11_drawn 1 = .ok (.getfield 70, 3) := by decide +kernel
theorem dX11_drawn_4 : decode cX11_drawn 4 = .ok (.getfield 294, 3) := by decide +kernel
theorem dX11_drawn_7 : decode cX11_drawn 7 = .ok (.astore_n 3, 1) := by decide +kernel
theorem dX11_drawn_8 : decode cX11_drawn 8 = .ok (.aload_n 0, 1) := by decide +kernel
theorem dX11_drawn_9 : decode cX11_drawn 9 = .ok (.getfield 70, 3) := by decide +kernel
theorem dX11_drawn_12 : decode cX11_drawn 12 = .ok (.getfield 298, 3) := by decide +kernel
theorem dX11_drawn_15 : decode cX11_drawn 15 = .ok (.ifCond .ne 5, 3) := by decide +kernel
theorem dX11_drawn_18 : decode cX11_drawn 18 = .ok (.iconst (-1), 1) := by decide +kernel
theorem dX11_drawn_19 : decode cX11_drawn 19 = .ok (.ireturn, 1) := by decide +kernel
theorem dX11_drawn_20 : decode cX11_drawn 20 = .ok (.iload_n 2, 1) := by decide +kernel
theorem dX11_drawn_21 : decode cX11_drawn 21 = .ok (.tableswitch 66 0 2 #[27, 36, 45], 27) := by decide +kernel
theorem dX11_drawn_48 : decode cX11_drawn 48 = .ok (.aload_n 3, 1) := by decide +kernel
theorem dX11_drawn_49 : decode cX11_drawn 49 = .ok (.getfield 141, 3) := by decide +kernel
theorem dX11_drawn_52 : decode cX11_drawn 52 = .ok (.iload_n 1, 1) := by decide +kernel
theorem dX11_drawn_53 : decode cX11_drawn 53 = .ok (.invokestatic 108, 3) := by decide +kernel
theorem dX11_drawn_56 : decode cX11_drawn 56 = .ok (.ireturn, 1) := by decide +kernel
theorem dX11_drawn_57 : decode cX11_drawn 57 = .ok (.aload_n 3, 1) := by decide +kernel
theorem dX11_drawn_58 : decode cX11_drawn 58 = .ok (.getfield 144, 3) := by decide +kernel
theorem dX11_drawn_61 : decode cX11_drawn 61 = .ok (.iload_n 1, 1) := by decide +kernel
theorem dX11_drawn_62 : decode cX11_drawn 62 = .ok (.invokestatic 108, 3) := by decide +kernel
theorem dX11_drawn_65 : decode cX11_drawn 65 = .ok (.ireturn, 1) := by decide +kernel
theorem dX11_drawn_66 : decode cX11_drawn 66 = .ok (.aload_n 3, 1) := by decide +kernel
theorem dX11_drawn_67 : decode cX11_drawn 67 = .ok (.iload_n 1, 1) := by decide +kernel
theorem dX11_drawn_68 : decode cX11_drawn 68 = .ok (.invokevirtual 101, 3) := by decide +kernel
theorem dX11_drawn_71 : decode cX11_drawn 71 = .ok (.ifCond .eq 14, 3) := by decide +kernel
theorem dX11_drawn_74 : decode cX11_drawn 74 = .ok (.aload_n 3, 1) := by decide +kernel
theorem dX11_drawn_75 : decode cX11_drawn 75 = .ok (.getfield 115, 3) := by decide +kernel
theorem dX11_drawn_78 : decode cX11_drawn 78 = .ok (.iload_n 1, 1) := by decide +kernel
theorem dX11_drawn_79 : decode cX11_drawn 79 = .ok (.invokestatic 108, 3) := by decide +kernel
theorem dX11_drawn_82 : decode cX11_drawn 82 = .ok (.goto 4, 3) := by decide +kernel
theorem dX11_drawn_85 : decode cX11_drawn 85 = .ok (.iconst (-1), 1) := by decide +kernel
theorem dX11_drawn_86 : decode cX11_drawn 86 = .ok (.ireturn, 1) := by decide +kernel
theorem dX11_drawn_87 : decode cX11_drawn 87 = .ok (.iconst (-1), 1) := by decide +kernel
theorem dX11_drawn_88 : decode cX11_drawn 88 = .ok (.ireturn, 1) := by decide +kernel
theorem dX11_image_0 : decode cX11_image 0 = .ok (.aload_n 0, 1) := by decide +kernel
theorem dX11_image_1 : decode cX11_image 1 = .ok (.iload_n 1, 1) := by decide +kernel
theorem dX11_image_2 : decode cX11_image 2 = .ok (.invokevirtual 302, 3) := by decide +kernel
theorem dX11_image_5 : decode cX11_image 5 = .ok (.astore_n 2, 1) := by decide +kernel
theorem dX11_image_6 : decode cX11_image 6 = .ok (.aload_n 2, 1) := by decide +kernel
theorem dX11_image_7 : decode cX11_image 7 = .ok (.ifnonnull 9, 3) := by decide +kernel
theorem dX11_image_10 : decode cX11_image 10 = .ok (.aload_n 0, 1) := by decide +kernel
theorem dX11_image_11 : decode cX11_image 11 = .ok (.iconst (-1), 1) := by decide +kernel
theorem dX11_image_12 : decode cX11_image 12 = .ok (.invokevirtual 97, 3) := by decide +kernel
theorem dX11_image_15 : decode cX11_image 15 = .ok (.ireturn, 1) := by decide +kernel
theorem dX11_image_16 : decode cX11_image 16 = .ok (.aload_n 2, 1) := by decide +kernel
theorem dX11_image_17 : decode cX11_image 17 = .ok (.aload_n 0, 1) := by decide +kernel
theorem dX11_image_18 : decode cX11_image 18 = .ok (.getfield 10, 3) := by decide +kernel
theorem dX11_image_21 : decode cX11_image 21 = .ok (.invokevirtual 306, 3) := by decide +kernel
theorem dX11_image_24 : decode cX11_image 24 = .ok (.aload_n 2, 1) := by decide +kernel
theorem dX11_image_25 : decode cX11_image 25 = .ok (.iconst 1, 1) := by decide +kernel
theorem dX11_image_26 : decode cX11_image 26 = .ok (.putfield 309, 3) := by decide +kernel
theorem dX11_image_29 : decode cX11_image 29 = .ok (.aload_n 0, 1) := by decide +kernel
theorem dX11_image_30 : decode cX11_image 30 = .ok (.iconst 0, 1) := by decide +kernel
theorem dX11_image_31 : decode cX11_image 31 = .ok (.invokevirtual 97, 3) := by decide +kernel
theorem dX11_image_34 : decode cX11_image 34 = .ok (.ireturn, 1) := by decide +kernel
theorem dX11_back_0 : decode cX11_back 0 = .ok (.aload_n 0, 1) := by decide +kernel
theorem dX11_back_1 : decode cX11_back 1 = .ok (.iload_n 1, 1) := by decide +kernel
theorem dX11_back_2 : decode cX11_back 2 = .ok (.invokevirtual 302, 3) := by decide +kernel
theorem dX11_back_5 : decode cX11_back 5 = .ok (.astore_n 2, 1) := by decide +kernel
theorem dX11_back_6 : decode cX11_back 6 = .ok (.aload_n 2, 1) := by decide +kernel
theorem dX11_back_7 : decode cX11_back 7 = .ok (.ifnonnull 9, 3) := by decide +kernel
theorem dX11_back_10 : decode cX11_back 10 = .ok (.aload_n 0, 1) := by decide +kernel
theorem dX11_back_11 : decode cX11_back 11 = .ok (.iconst (-1), 1) := by decide +kernel
theorem dX11_back_12 : decode cX11_back 12 = .ok (.invokevirtual 97, 3) := by decide +kernel
theorem dX11_back_15 : decode cX11_back 15 = .ok (.ireturn, 1) := by decide +kernel
theorem dX11_back_16 : decode cX11_back 16 = .ok (.aload_n 2, 1) := by decide +kernel
theorem dX11_back_17 : decode cX11_back 17 = .ok (.getfield 309, 3) := by decide +kernel
theorem dX11_back_20 : decode cX11_back 20 = .ok (.ifCond .ne 10, 3) := by decide +kernel
theorem dX11_back_23 : decode cX11_back 23 = .ok (.aload_n 0, 1) := by decide +kernel
theorem dX11_back_24 : decode cX11_back 24 = .ok (.bipush (-2), 2) := by decide +kernel
theorem dX11_back_26 : decode cX11_back 26 = .ok (.invokevirtual 97, 3) := by decide +kernel
theorem dX11_back_29 : decode cX11_back 29 = .ok (.ireturn, 1) := by decide +kernel
theorem dX11_back_30 : decode cX11_back 30 = .ok (.aload_n 0, 1) := by decide +kernel
theorem dX11_back_31 : decode cX11_back 31 = .ok (.getfield 10, 3) := by decide +kernel
theorem dX11_back_34 : decode cX11_back 34 = .ok (.aload_n 2, 1) := by decide +kernel
theorem dX11_back_35 : decode cX11_back 35 = .ok (.invokevirtual 306, 3) := by decide +kernel
theorem dX11_back_38 : decode cX11_back 38 = .ok (.aload_n 0, 1) := by decide +kernel
theorem dX11_back_39 : decode cX11_back 39 = .ok (.getfield 45, 3) := by decide +kernel
theorem dX11_back_42 : decode cX11_back 42 = .ok (.getfield 88, 3) := by decide +kernel
theorem dX11_back_45 : decode cX11_back 45 = .ok (.invokevirtual 92, 3) := by decide +kernel
theorem dX11_back_48 : decode cX11_back 48 = .ok (.aload_n 0, 1) := by decide +kernel
theorem dX11_back_49 : decode cX11_back 49 = .ok (.iconst 0, 1) := by decide +kernel
theorem dX11_back_50 : decode cX11_back 50 = .ok (.invokevirtual 97, 3) := by decide +kernel
theorem dX11_back_53 : decode cX11_back 53 = .ok (.ireturn, 1) := by decide +kernel
theorem dX11_count_0 : decode cX11_count 0 = .ok (.aload_n 0, 1) := by decide +kernel
theorem dX11_count_1 : decode cX11_count 1 = .ok (.getfield 10, 3) := by decide +kernel
theorem dX11_count_4 : decode cX11_count 4 = .ok (.getfield 38, 3) := by decide +kernel
theorem dX11_count_7 : decode cX11_count 7 = .ok (.astore_n 2, 1) := by decide +kernel
theorem dX11_count_8 : decode cX11_count 8 = .ok (.iload_n 1, 1) := by decide +kernel
theorem dX11_count_9 : decode cX11_count 9 = .ok (.tableswitch 219 0 16 #[83, 88, 93, 98, 103, 111, 119, 130, 138, 147, 156, 165, 174, 184, 192, 201, 210], 83) := by decide +kernel
theorem dX11_count_92 : decode cX11_count 92 = .ok (.aload_n 2, 1) := by decide +kernel
theorem dX11_count_93 : decode cX11_count 93 = .ok (.getfield 288, 3) := by decide +kernel
theorem dX11_count_96 : decode cX11_count 96 = .ok (.ireturn, 1) := by decide +kernel
theorem dX11_count_97 : decode cX11_count 97 = .ok (.aload_n 2, 1) := by decide +kernel
theorem dX11_count_98 : decode cX11_count 98 = .ok (.invokevirtual 312, 3) := by decide +kernel
theorem dX11_count_101 : decode cX11_count 101 = .ok (.ireturn, 1) := by decide +kernel
theorem dX11_count_102 : decode cX11_count 102 = .ok (.aload_n 2, 1) := by decide +kernel
theorem dX11_count_103 : decode cX11_count 103 = .ok (.invokevirtual 295, 3) := by decide +kernel
theorem dX11_count_106 : decode cX11_count 106 = .ok (.ireturn, 1) := by decide +kernel
theorem dX11_count_107 : decode cX11_count 107 = .ok (.aload_n 2, 1) := by decide +kernel
theorem dX11_count_108 : decode cX11_count 108 = .ok (.invokevirtual 315, 3) := by decide +kernel
theorem dX11_count_111 : decode cX11_count 111 = .ok (.ireturn, 1) := by decide +kernel
theorem dX11_count_112 : decode cX11_count 112 = .ok (.aload_n 0, 1) := by decide +kernel
theorem dX11_count_113 : decode cX11_count 113 = .ok (.getfield 10, 3) := by decide +kernel
theorem dX11_count_116 : decode cX11_count 116 = .ok (.getfield 271, 3) := by decide +kernel
theorem dX11_count_119 : decode cX11_count 119 = .ok (.ireturn, 1) := by decide +kernel
theorem dX11_count_120 : decode cX11_count 120 = .ok (.aload_n 0, 1) := by decide +kernel
theorem dX11_count_121 : decode cX11_count 121 = .ok (.getfield 10, 3) := by decide +kernel
theorem dX11_count_124 : decode cX11_count 124 = .ok (.getfield 180, 3) := by decide +kernel
theorem dX11_count_127 : decode cX11_count 127 = .ok (.ireturn, 1) := by decide +kernel
theorem dX11_count_128 : decode cX11_count 128 = .ok (.aload_n 0, 1) := by decide +kernel
theorem dX11_count_129 : decode cX11_count 129 = .ok (.getfield 45, 3) := by decide +kernel
theorem dX11_count_132 : decode cX11_count 132 = .ok (.getfield 88, 3) := by decide +kernel
theorem dX11_count_135 : decode cX11_count 135 = .ok (.getfield 318, 3) := by decide +kernel
theorem dX11_count_138 : decode cX11_count 138 = .ok (.ireturn, 1) := by decide +kernel
theorem dX11_count_139 : decode cX11_count 139 = .ok (.aload_n 0, 1) := by decide +kernel
theorem dX11_count_140 : decode cX11_count 140 = .ok (.getfield 23, 3) := by decide +kernel
theorem dX11_count_143 : decode cX11_count 143 = .ok (.getfield 167, 3) := by decide +kernel
theorem dX11_count_146 : decode cX11_count 146 = .ok (.ireturn, 1) := by decide +kernel
theorem dX11_count_147 : decode cX11_count 147 = .ok (.aload_n 0, 1) := by decide +kernel
theorem dX11_count_148 : decode cX11_count 148 = .ok (.getfield 74, 3) := by decide +kernel
theorem dX11_count_151 : decode cX11_count 151 = .ok (.iconst 1, 1) := by decide +kernel
theorem dX11_count_152 : decode cX11_count 152 = .ok (.invokestatic 108, 3) := by decide +kernel
theorem dX11_count_155 : decode cX11_count 155 = .ok (.ireturn, 1) := by decide +kernel
theorem dX11_count_156 : decode cX11_count 156 = .ok (.aload_n 0, 1) := by decide +kernel
theorem dX11_count_157 : decode cX11_count 157 = .ok (.getfield 74, 3) := by decide +kernel
theorem dX11_count_160 : decode cX11_count 160 = .ok (.iconst 2, 1) := by decide +kernel
theorem dX11_count_161 : decode cX11_count 161 = .ok (.invokestatic 108, 3) := by decide +kernel
theorem dX11_count_164 : decode cX11_count 164 = .ok (.ireturn, 1) := by decide +kernel
theorem dX11_count_165 : decode cX11_count 165 = .ok (.aload_n 0, 1) := by decide +kernel
theorem dX11_count_166 : decode cX11_count 166 = .ok (.getfield 74, 3) := by decide +kernel
theorem dX11_count_169 : decode cX11_count 169 = .ok (.iconst 3, 1) := by decide +kernel
theorem dX11_count_170 : decode cX11_count 170 = .ok (.invokestatic 108, 3) := by decide +kernel
theorem dX11_count_173 : decode cX11_count 173 = .ok (.ireturn, 1) := by decide +kernel
theorem dX11_count_174 : decode cX11_count 174 = .ok (.aload_n 0, 1) := by decide +kernel
theorem dX11_count_175 : decode cX11_count 175 = .ok (.getfield 74, 3) := by decide +kernel
theorem dX11_count_178 : decode cX11_count 178 = .ok (.iconst 5, 1) := by decide +kernel
theorem dX11_count_179 : decode cX11_count 179 = .ok (.invokestatic 108, 3) := by decide +kernel
theorem dX11_count_182 : decode cX11_count 182 = .ok (.ireturn, 1) := by decide +kernel
theorem dX11_count_183 : decode cX11_count 183 = .ok (.aload_n 0, 1) := by decide +kernel
theorem dX11_count_184 : decode cX11_count 184 = .ok (.getfield 74, 3) := by decide +kernel
theorem dX11_count_187 : decode cX11_count 187 = .ok (.bipush 6, 2) := by decide +kernel
theorem dX11_count_189 : decode cX11_count 189 = .ok (.invokestatic 108, 3) := by decide +kernel
theorem dX11_count_192 : decode cX11_count 192 = .ok (.ireturn, 1) := by decide +kernel
theorem dX11_count_193 : decode cX11_count 193 = .ok (.aload_n 0, 1) := by decide +kernel
theorem dX11_count_194 : decode cX11_count 194 = .ok (.getfield 10, 3) := by decide +kernel
theorem dX11_count_197 : decode cX11_count 197 = .ok (.getfield 203, 3) := by decide +kernel
theorem dX11_count_200 : decode cX11_count 200 = .ok (.ireturn, 1) := by decide +kernel
theorem dX11_count_201 : decode cX11_count 201 = .ok (.aload_n 2, 1) := by decide +kernel
theorem dX11_count_202 : decode cX11_count 202 = .ok (.getfield 160, 3) := by decide +kernel
theorem dX11_count_205 : decode cX11_count 205 = .ok (.iconst 0, 1) := by decide +kernel
theorem dX11_count_206 : decode cX11_count 206 = .ok (.invokestatic 108, 3) := by decide +kernel
theorem dX11_count_209 : decode cX11_count 209 = .ok (.ireturn, 1) := by decide +kernel
theorem dX11_count_210 : decode cX11_count 210 = .ok (.aload_n 2, 1) := by decide +kernel
theorem dX11_count_211 : decode cX11_count 211 = .ok (.getfield 160, 3) := by decide +kernel
theorem dX11_count_214 : decode cX11_count 214 = .ok (.iconst 1, 1) := by decide +kernel
theorem dX11_count_215 : decode cX11_count 215 = .ok (.invokestatic 108, 3) := by decide +kernel
theorem dX11_count_218 : decode cX11_count 218 = .ok (.ireturn, 1) := by decide +kernel
theorem dX11_count_219 : decode cX11_count 219 = .ok (.aload_n 2, 1) := by decide +kernel
theorem dX11_count_220 : decode cX11_count 220 = .ok (.getfield 160, 3) := by decide +kernel
theorem dX11_count_223 : decode cX11_count 223 = .ok (.iconst 2, 1) := by decide +kernel
theorem dX11_count_224 : decode cX11_count 224 = .ok (.invokestatic 108, 3) := by decide +kernel
theorem dX11_count_227 : decode cX11_count 227 = .ok (.ireturn, 1) := by decide +kernel
theorem dX11_count_228 : decode cX11_count 228 = .ok (.iconst (-1), 1) := by decide +kernel
theorem dX11_count_229 : decode cX11_count 229 = .ok (.ireturn, 1) := by decide +kernel
theorem dX11_status_0 : decode cX11_status 0 = .ok (.aload_n 0, 1) := by decide +kernel
theorem dX11_status_1 : decode cX11_status 1 = .ok (.getfield 206, 3) := by decide +kernel
theorem dX11_status_4 : decode cX11_status 4 = .ok (.ireturn, 1) := by decide +kernel
theorem dX11_answer_0 : decode cX11_answer 0 = .ok (.aload_n 0, 1) := by decide +kernel
theorem dX11_answer_1 : decode cX11_answer 1 = .ok (.iload_n 1, 1) := by decide +kernel
theorem dX11_answer_2 : decode cX11_answer 2 = .ok (.iconst 0, 1) := by decide +kernel
theorem dX11_answer_3 : decode cX11_answer 3 = .ok (.invokestatic 321, 3) := by decide +kernel
theorem dX11_answer_6 : decode cX11_answer 6 = .ok (.putfield 206, 3) := by decide +kernel
theorem dX11_answer_9 : decode cX11_answer 9 = .ok (.iload_n 1, 1) := by decide +kernel
theorem dX11_answer_10 : decode cX11_answer 10 = .ok (.ifCond .ge 23, 3) := by decide +kernel
theorem dX11_answer_13 : decode cX11_answer 13 = .ok (.aload_n 0, 1) := by decide +kernel
theorem dX11_answer_14 : decode cX11_answer 14 = .ok (.getfield 74, 3) := by decide +kernel
theorem dX11_answer_17 : decode cX11_answer 17 = .ok (.iload_n 1, 1) := by decide +kernel
theorem dX11_answer_18 : decode cX11_answer 18 = .ok (.ineg, 1) := by decide +kernel
theorem dX11_answer_19 : decode cX11_answer 19 = .ok (.aload_n 0, 1) := by decide +kernel
theorem dX11_answer_20 : decode cX11_answer 20 = .ok (.getfield 74, 3) := by decide +kernel
theorem dX11_answer_23 : decode cX11_answer 23 = .ok (.iload_n 1, 1) := by decide +kernel
theorem dX11_answer_24 : decode cX11_answer 24 = .ok (.ineg, 1) := by decide +kernel
theorem dX11_answer_25 : decode cX11_answer 25 = .ok (.invokestatic 108, 3) := by decide +kernel
theorem dX11_answer_28 : decode cX11_answer 28 = .ok (.iconst 1, 1) := by decide +kernel
theorem dX11_answer_29 : decode cX11_answer 29 = .ok (.iadd, 1) := by decide +kernel
theorem dX11_answer_30 : decode cX11_answer 30 = .ok (.invokestatic 163, 3) := by decide +kernel
theorem dX11_answer_33 : decode cX11_answer 33 = .ok (.iload_n 1, 1) := by decide +kernel
theorem dX11_answer_34 : decode cX11_answer 34 = .ok (.ireturn, 1) := by decide +kernel
theorem dX11_imageAt_0 : decode cX11_imageAt 0 = .ok (.iload_n 1, 1) := by decide +kernel
theorem dX11_imageAt_1 : decode cX11_imageAt 1 = .ok (.ifCond .lt 21, 3) := by decide +kernel
theorem dX11_imageAt_4 : decode cX11_imageAt 4 = .ok (.iload_n 1, 1) := by decide +kernel
theorem dX11_imageAt_5 : decode cX11_imageAt 5 = .ok (.aload_n 0, 1) := by decide +kernel
theorem dX11_imageAt_6 : decode cX11_imageAt 6 = .ok (.getfield 16, 3) := by decide +kernel
theorem dX11_imageAt_9 : decode cX11_imageAt 9 = .ok (.arraylength, 1) := by decide +kernel
theorem dX11_imageAt_10 : decode cX11_imageAt 10 = .ok (.if_icmp .ge 12, 3) := by decide +kernel
theorem dX11_imageAt_13 : decode cX11_imageAt 13 = .ok (.aload_n 0, 1) := by decide +kernel
theorem dX11_imageAt_14 : decode cX11_imageAt 14 = .ok (.getfield 16, 3) := by decide +kernel
theorem dX11_imageAt_17 : decode cX11_imageAt 17 = .ok (.iload_n 1, 1) := by decide +kernel
theorem dX11_imageAt_18 : decode cX11_imageAt 18 = .ok (.aaload, 1) := by decide +kernel
theorem dX11_imageAt_19 : decode cX11_imageAt 19 = .ok (.goto 4, 3) := by decide +kernel
theorem dX11_imageAt_22 : decode cX11_imageAt 22 = .ok (.aconst_null, 1) := by decide +kernel
theorem dX11_imageAt_23 : decode cX11_imageAt 23 = .ok (.areturn, 1) := by decide +kernel
theorem dX11_within_0 : decode cX11_within 0 = .ok (.iload_n 0, 1) := by decide +kernel
theorem dX11_within_1 : decode cX11_within 1 = .ok (.iload_n 1, 1) := by decide +kernel
theorem dX11_within_2 : decode cX11_within 2 = .ok (.if_icmp .lt 12, 3) := by decide +kernel
theorem dX11_within_5 : decode cX11_within 5 = .ok (.iload_n 0, 1) := by decide +kernel
theorem dX11_within_6 : decode cX11_within 6 = .ok (.iload_n 2, 1) := by decide +kernel
theorem dX11_within_7 : decode cX11_within 7 = .ok (.if_icmp .gt 7, 3) := by decide +kernel
theorem dX11_within_10 : decode cX11_within 10 = .ok (.iconst 1, 1) := by decide +kernel
theorem dX11_within_11 : decode cX11_within 11 = .ok (.goto 4, 3) := by decide +kernel
theorem dX11_within_14 : decode cX11_within 14 = .ok (.iconst 0, 1) := by decide +kernel
theorem dX11_within_15 : decode cX11_within 15 = .ok (.ireturn, 1) := by decide +kernel
theorem dX11_nearest_0 : decode cX11_nearest 0 = .ok (.iload_n 1, 1) := by decide +kernel
theorem dX11_nearest_1 : decode cX11_nearest 1 = .ok (.iload_n 2, 1) := by decide +kernel
theorem dX11_nearest_2 : decode cX11_nearest 2 = .ok (.iload_n 0, 1) := by decide +kernel
theorem dX11_nearest_3 : decode cX11_nearest 3 = .ok (.invokestatic 321, 3) := by decide +kernel
theorem dX11_nearest_6 : decode cX11_nearest 6 = .ok (.invokestatic 326, 3) := by decide +kernel
theorem dX11_nearest_9 : decode cX11_nearest 9 = .ok (.ireturn, 1) := by decide +kernel
theorem dX11_get_0 : decode cX11_get 0 = .ok (.aload_n 0, 1) := by decide +kernel
theorem dX11_get_1 : decode cX11_get 1 = .ok (.ifnull 19, 3) := by decide +kernel
theorem dX11_get_4 : decode cX11_get 4 = .ok (.iload_n 1, 1) := by decide +kernel
theorem dX11_get_5 : decode cX11_get 5 = .ok (.ifCond .lt 15, 3) := by decide +kernel
theorem dX11_get_8 : decode cX11_get 8 = .ok (.iload_n 1, 1) := by decide +kernel
theorem dX11_get_9 : decode cX11_get 9 = .ok (.aload_n 0, 1) := by decide +kernel
theorem dX11_get_10 : decode cX11_get 10 = .ok (.arraylength, 1) := by decide +kernel
theorem dX11_get_11 : decode cX11_get 11 = .ok (.if_icmp .ge 9, 3) := by decide +kernel
theorem dX11_get_14 : decode cX11_get 14 = .ok (.aload_n 0, 1) := by decide +kernel
theorem dX11_get_15 : decode cX11_get 15 = .ok (.iload_n 1, 1) := by decide +kernel
theorem dX11_get_16 : decode cX11_get 16 = .ok (.iaload, 1) := by decide +kernel
theorem dX11_get_17 : decode cX11_get 17 = .ok (.goto 4, 3) := by decide +kernel
theorem dX11_get_20 : decode cX11_get 20 = .ok (.iconst (-1), 1) := by decide +kernel
theorem dX11_get_21 : decode cX11_get 21 = .ok (.ireturn, 1) := by decide +kernel
theorem dX11_put_0 : decode cX11_put 0 = .ok (.aload_n 0, 1) := by decide +kernel
theorem dX11_put_1 : decode cX11_put 1 = .ok (.ifnull 17, 3) := by decide +kernel
theorem dX11_put_4 : decode cX11_put 4 = .ok (.iload_n 1, 1) := by decide +kernel
theorem dX11_put_5 : decode cX11_put 5 = .ok (.ifCond .lt 13, 3) := by decide +kernel
theorem dX11_put_8 : decode cX11_put 8 = .ok (.iload_n 1, 1) := by decide +kernel
theorem dX11_put_9 : decode cX11_put 9 = .ok (.aload_n 0, 1) := by decide +kernel
theorem dX11_put_10 : decode cX11_put 10 = .ok (.arraylength, 1) := by decide +kernel
theorem dX11_put_11 : decode cX11_put 11 = .ok (.if_icmp .ge 7, 3) := by decide +kernel
theorem dX11_put_14 : decode cX11_put 14 = .ok (.aload_n 0, 1) := by decide +kernel
theorem dX11_put_15 : decode cX11_put 15 = .ok (.iload_n 1, 1) := by decide +kernel
theorem dX11_put_16 : decode cX11_put 16 = .ok (.iload_n 2, 1) := by decide +kernel
theorem dX11_put_17 : decode cX11_put 17 = .ok (.iastore, 1) := by decide +kernel
theorem dX11_put_18 : decode cX11_put 18 = .ok (.return_, 1) := by decide +kernel
theorem dX11_getLong_0 : decode cX11_getLong 0 = .ok (.aload_n 0, 1) := by decide +kernel
theorem dX11_getLong_1 : decode cX11_getLong 1 = .ok (.ifnull 19, 3) := by decide +kernel
theorem dX11_getLong_4 : decode cX11_getLong 4 = .ok (.iload_n 1, 1) := by decide +kernel
theorem dX11_getLong_5 : decode cX11_getLong 5 = .ok (.ifCond .lt 15, 3) := by decide +kernel
theorem dX11_getLong_8 : decode cX11_getLong 8 = .ok (.iload_n 1, 1) := by decide +kernel
theorem dX11_getLong_9 : decode cX11_getLong 9 = .ok (.aload_n 0, 1) := by decide +kernel
theorem dX11_getLong_10 : decode cX11_getLong 10 = .ok (.arraylength, 1) := by decide +kernel
theorem dX11_getLong_11 : decode cX11_getLong 11 = .ok (.if_icmp .ge 9, 3) := by decide +kernel
theorem dX11_getLong_14 : decode cX11_getLong 14 = .ok (.aload_n 0, 1) := by decide +kernel
theorem dX11_getLong_15 : decode cX11_getLong 15 = .ok (.iload_n 1, 1) := by decide +kernel
theorem dX11_getLong_16 : decode cX11_getLong 16 = .ok (.laload, 1) := by decide +kernel
theorem dX11_getLong_17 : decode cX11_getLong 17 = .ok (.goto 6, 3) := by decide +kernel
theorem dX11_getLong_20 : decode cX11_getLong 20 = .ok (.ldc2_w 224, 3) := by decide +kernel
theorem dX11_getLong_23 : decode cX11_getLong 23 = .ok (.lreturn, 1) := by decide +kernel
theorem dX11_putLong_0 : decode cX11_putLong 0 = .ok (.aload_n 0, 1) := by decide +kernel
theorem dX11_putLong_1 : decode cX11_putLong 1 = .ok (.ifnull 17, 3) := by decide +kernel
theorem dX11_putLong_4 : decode cX11_putLong 4 = .ok (.iload_n 1, 1) := by decide +kernel
theorem dX11_putLong_5 : decode cX11_putLong 5 = .ok (.ifCond .lt 13, 3) := by decide +kernel
theorem dX11_putLong_8 : decode cX11_putLong 8 = .ok (.iload_n 1, 1) := by decide +kernel
theorem dX11_putLong_9 : decode cX11_putLong 9 = .ok (.aload_n 0, 1) := by decide +kernel
theorem dX11_putLong_10 : decode cX11_putLong 10 = .ok (.arraylength, 1) := by decide +kernel
theorem dX11_putLong_11 : decode cX11_putLong 11 = .ok (.if_icmp .ge 7, 3) := by decide +kernel
theorem dX11_putLong_14 : decode cX11_putLong 14 = .ok (.aload_n 0, 1) := by decide +kernel
theorem dX11_putLong_15 : decode cX11_putLong 15 = .ok (.iload_n 1, 1) := by decide +kernel
theorem dX11_putLong_16 : decode cX11_putLong 16 = .ok (.lload_n 2, 1) := by decide +kernel
theorem dX11_putLong_17 : decode cX11_putLong 17 = .ok (.lastore, 1) := by decide +kernel
theorem dX11_putLong_18 : decode cX11_putLong 18 = .ok (.return_, 1) := by decide +kernel
theorem dX11_copyRow_0 : decode cX11_copyRow 0 = .ok (.aload_n 0, 1) := by decide +kernel
theorem dX11_copyRow_1 : decode cX11_copyRow 1 = .ok (.ifnull 21, 3) := by decide +kernel
theorem dX11_copyRow_4 : decode cX11_copyRow 4 = .ok (.aload_n 1, 1) := by decide +kernel
theorem dX11_copyRow_5 : decode cX11_copyRow 5 = .ok (.ifnull 17, 3) := by decide +kernel
theorem dX11_copyRow_8 : decode cX11_copyRow 8 = .ok (.aload_n 0, 1) := by decide +kernel
theorem dX11_copyRow_9 : decode cX11_copyRow 9 = .ok (.iconst 0, 1) := by decide +kernel
theorem dX11_copyRow_10 : decode cX11_copyRow 10 = .ok (.aload_n 1, 1) := by decide +kernel
theorem dX11_copyRow_11 : decode cX11_copyRow 11 = .ok (.iconst 0, 1) := by decide +kernel
theorem dX11_copyRow_12 : decode cX11_copyRow 12 = .ok (.aload_n 0, 1) := by decide +kernel
theorem dX11_copyRow_13 : decode cX11_copyRow 13 = .ok (.arraylength, 1) := by decide +kernel
theorem dX11_copyRow_14 : decode cX11_copyRow 14 = .ok (.aload_n 1, 1) := by decide +kernel
theorem dX11_copyRow_15 : decode cX11_copyRow 15 = .ok (.arraylength, 1) := by decide +kernel
theorem dX11_copyRow_16 : decode cX11_copyRow 16 = .ok (.invokestatic 321, 3) := by decide +kernel
theorem dX11_copyRow_19 : decode cX11_copyRow 19 = .ok (.invokestatic 329, 3) := by decide +kernel
theorem dX11_copyRow_22 : decode cX11_copyRow 22 = .ok (.return_, 1) := by decide +kernel
theorem dX11_staying_0 : decode cX11_staying 0 = .ok (.lload_n 0, 1) := by decide +kernel
theorem dX11_staying_1 : decode cX11_staying 1 = .ok (.sipush 1000, 3) := by decide +kernel
theorem dX11_staying_4 : decode cX11_staying 4 = .ok (.iload_n 2, 1) := by decide +kernel
theorem dX11_staying_5 : decode cX11_staying 5 = .ok (.isub, 1) := by decide +kernel
theorem dX11_staying_6 : decode cX11_staying 6 = .ok (.i2l, 1) := by decide +kernel
theorem dX11_staying_7 : decode cX11_staying 7 = .ok (.lmul, 1) := by decide +kernel
theorem dX11_staying_8 : decode cX11_staying 8 = .ok (.ldc2_w 335, 3) := by decide +kernel
theorem dX11_staying_11 : decode cX11_staying 11 = .ok (.ldiv, 1) := by decide +kernel
theorem dX11_staying_12 : decode cX11_staying 12 = .ok (.lreturn, 1) := by decide +kernel
theorem dX12_init_0 : decode cX12_init 0 = .ok (.aload_n 0, 1) := by decide +kernel
theorem dX12_init_1 : decode cX12_init 1 = .ok (.invokespecial 1, 3) := by decide +kernel
theorem dX12_init_4 : decode cX12_init 4 = .ok (.aload_n 0, 1) := by decide +kernel
theorem dX12_init_5 : decode cX12_init 5 = .ok (.bipush 7, 2) := by decide +kernel
theorem dX12_init_7 : decode cX12_init 7 = .ok (.newarray .int, 2) := by decide +kernel
theorem dX12_init_9 : decode cX12_init 9 = .ok (.putfield 7, 3) := by decide +kernel
theorem dX12_init_12 : decode cX12_init 12 = .ok (.aload_n 0, 1) := by decide +kernel
theorem dX12_init_13 : decode cX12_init 13 = .ok (.sipush 5475, 3) := by decide +kernel
theorem dX12_init_16 : decode cX12_init 16 = .ok (.newarray .int, 2) := by decide +kernel
theorem dX12_init_18 : decode cX12_init 18 = .ok (.putfield 13, 3) := by decide +kernel
theorem dX12_init_21 : decode cX12_init 21 = .ok (.aload_n 0, 1) := by decide +kernel
theorem dX12_init_22 : decode cX12_init 22 = .ok (.sipush 10950, 3) := by decide +kernel
theorem dX12_init_25 : decode cX12_init 25 = .ok (.newarray .int, 2) := by decide +kernel
theorem dX12_init_27 : decode cX12_init 27 = .ok (.putfield 16, 3) := by decide +kernel
theorem dX12_init_30 : decode cX12_init 30 = .ok (.aload_n 0, 1) := by decide +kernel
theorem dX12_init_31 : decode cX12_init 31 = .ok (.iconst 2, 1) := by decide +kernel
theorem dX12_init_32 : decode cX12_init 32 = .ok (.newarray .boolean, 2) := by decide +kernel
theorem dX12_init_34 : decode cX12_init 34 = .ok (.putfield 19, 3) := by decide +kernel
theorem dX12_init_37 : decode cX12_init 37 = .ok (.aload_n 0, 1) := by decide +kernel
theorem dX12_init_38 : decode cX12_init 38 = .ok (.sipush 954, 3) := by decide +kernel
theorem dX12_init_41 : decode cX12_init 41 = .ok (.newarray .int, 2) := by decide +kernel
theorem dX12_init_43 : decode cX12_init 43 = .ok (.putfield 23, 3) := by decide +kernel
theorem dX12_init_46 : decode cX12_init 46 = .ok (.aload_n 0, 1) := by decide +kernel
theorem dX12_init_47 : decode cX12_init 47 = .ok (.bipush 16, 2) := by decide +kernel
theorem dX12_init_49 : decode cX12_init 49 = .ok (.newarray .int, 2) := by decide +kernel
theorem dX12_init_51 : decode cX12_init 51 = .ok (.putfield 26, 3) := by decide +kernel
theorem dX12_init_54 : decode cX12_init 54 = .ok (.aload_n 0, 1) := by decide +kernel
theorem dX12_init_55 : decode cX12_init 55 = .ok (.sipush 848, 3) := by decide +kernel
theorem dX12_init_58 : decode cX12_init 58 = .ok (.newarray .int, 2) := by decide +kernel
theorem dX12_init_60 : decode cX12_init 60 = .ok (.putfield 29, 3) := by decide +kernel
theorem dX12_init_63 : decode cX12_init 63 = .ok (.aload_n 0, 1) := by decide +kernel
theorem dX12_init_64 : decode cX12_init 64 = .ok (.bipush 16, 2) := by decide +kernel
theorem dX12_init_66 : decode cX12_init 66 = .ok (.newarray .int, 2) := by decide +kernel
theorem dX12_init_68 : decode cX12_init 68 = .ok (.putfield 32, 3) := by decide +kernel
theorem dX12_init_71 : decode cX12_init 71 = .ok (.aload_n 0, 1) := by decide +kernel
theorem dX12_init_72 : decode cX12_init 72 = .ok (.sipush 400, 3) := by decide +kernel
theorem dX12_init_75 : decode cX12_init 75 = .ok (.newarray .int, 2) := by decide +kernel
theorem dX12_init_77 : decode cX12_init 77 = .ok (.putfield 35, 3) := by decide +kernel
theorem dX12_init_80 : decode cX12_init 80 = .ok (.aload_n 0, 1) := by decide +kernel
theorem dX12_init_81 : decode cX12_init 81 = .ok (.iconst (-1), 1) := by decide +kernel
theorem dX12_init_82 : decode cX12_init 82 = .ok (.putfield 38, 3) := by decide +kernel
theorem dX12_init_85 : decode cX12_init 85 = .ok (.aload_n 0, 1) := by decide +kernel
theorem dX12_init_86 : decode cX12_init 86 = .ok (.bipush 96, 2) := by decide +kernel
theorem dX12_init_88 : decode cX12_init 88 = .ok (.newarray .int, 2) := by decide +kernel
theorem dX12_init_90 : decode cX12_init 90 = .ok (.putfield 42, 3) := by decide +kernel
theorem dX12_init_93 : decode cX12_init 93 = .ok (.aload_n 0, 1) := by decide +kernel
theorem dX12_init_94 : decode cX12_init 94 = .ok (.sipush 400, 3) := by decide +kernel
theorem dX12_init_97 : decode cX12_init 97 = .ok (.newarray .int, 2) := by decide +kernel
theorem dX12_init_99 : decode cX12_init 99 = .ok (.putfield 45, 3) := by decide +kernel
theorem dX12_init_102 : decode cX12_init 102 = .ok (.aload_n 0, 1) := by decide +kernel
theorem dX12_init_103 : decode cX12_init 103 = .ok (.sipush 400, 3) := by decide +kernel
theorem dX12_init_106 : decode cX12_init 106 = .ok (.newarray .int, 2) := by decide +kernel
theorem dX12_init_108 : decode cX12_init 108 = .ok (.putfield 48, 3) := by decide +kernel
theorem dX12_init_111 : decode cX12_init 111 = .ok (.aload_n 0, 1) := by decide +kernel
theorem dX12_init_112 : decode cX12_init 112 = .ok (.sipush 400, 3) := by decide +kernel
theorem dX12_init_115 : decode cX12_init 115 = .ok (.newarray .int, 2) := by decide +kernel
theorem dX12_init_117 : decode cX12_init 117 = .ok (.putfield 51, 3) := by decide +kernel
theorem dX12_init_120 : decode cX12_init 120 = .ok (.aload_n 0, 1) := by decide +kernel
theorem dX12_init_121 : decode cX12_init 121 = .ok (.sipush 400, 3) := by decide +kernel
theorem dX12_init_124 : decode cX12_init 124 = .ok (.newarray .int, 2) := by decide +kernel
theorem dX12_init_126 : decode cX12_init 126 = .ok (.putfield 54, 3) := by decide +kernel
theorem dX12_init_129 : decode cX12_init 129 = .ok (.aload_n 0, 1) := by decide +kernel
theorem dX12_init_130 : decode cX12_init 130 = .ok (.bipush 8, 2) := by decide +kernel
theorem dX12_init_132 : decode cX12_init 132 = .ok (.newarray .long, 2) := by decide +kernel
theorem dX12_init_134 : decode cX12_init 134 = .ok (.dup, 1) := by decide +kernel
theorem dX12_init_135 : decode cX12_init 135 = .ok (.iconst 0, 1) := by decide +kernel
theorem dX12_init_136 : decode cX12_init 136 = .ok (.ldc2_w 57, 3) := by decide +kernel
theorem dX12_init_139 : decode cX12_init 139 = .ok (.lastore, 1) := by decide +kernel
theorem dX12_init_140 : decode cX12_init 140 = .ok (.dup, 1) := by decide +kernel
theorem dX12_init_141 : decode cX12_init 141 = .ok (.iconst 1, 1) := by decide +kernel
theorem dX12_init_142 : decode cX12_init 142 = .ok (.ldc2_w 59, 3) := by decide +kernel
theorem dX12_init_145 : decode cX12_init 145 = .ok (.lastore, 1) := by decide +kernel
theorem dX12_init_146 : decode cX12_init 146 = .ok (.dup, 1) := by decide +kernel
theorem dX12_init_147 : decode cX12_init 147 = .ok (.iconst 2, 1) := by decide +kernel
theorem dX12_init_148 : decode cX12_init 148 = .ok (.ldc2_w 61, 3) := by decide +kernel
theorem dX12_init_151 : decode cX12_init 151 = .ok (.lastore, 1) := by decide +kernel
theorem dX12_init_152 : decode cX12_init 152 = .ok (.dup, 1) := by decide +kernel
theorem dX12_init_153 : decode cX12_init 153 = .ok (.iconst 3, 1) := by decide +kernel
theorem dX12_init_154 : decode cX12_init 154 = .ok (.ldc2_w 63, 3) := by decide +kernel
theorem dX12_init_157 : decode cX12_init 157 = .ok (.lastore, 1) := by decide +kernel
theorem dX12_init_158 : decode cX12_init 158 = .ok (.dup, 1) := by decide +kernel
theorem dX12_init_159 : decode cX12_init 159 = .ok (.iconst 4, 1) := by decide +kernel
theorem dX12_init_160 : decode cX12_init 160 = .ok (.ldc2_w 65, 3) := by decide +kernel
theorem dX12_init_163 : decode cX12_init 163 = .ok (.lastore, 1) := by decide +kernel
theorem dX12_init_164 : decode cX12_init 164 = .ok (.dup, 1) := by decide +kernel
theorem dX12_init_165 : decode cX12_init 165 = .ok (.iconst 5, 1) := by decide +kernel
theorem dX12_init_166 : decode cX12_init 166 = .ok (.ldc2_w 67, 3) := by decide +kernel
theorem dX12_init_169 : decode cX12_init 169 = .ok (.lastore, 1) := by decide +kernel
theorem dX12_init_170 : decode cX12_init 170 = .ok (.dup, 1) := by decide +kernel
theorem dX12_init_171 : decode cX12_init 171 = .ok (.bipush 6, 2) := by decide +kernel
theorem dX12_init_173 : decode cX12_init 173 = .ok (.ldc2_w 69, 3) := by decide +kernel
theorem dX12_init_176 : decode cX12_init 176 = .ok (.lastore, 1) := by decide +kernel
theorem dX12_init_177 : decode cX12_init 177 = .ok (.dup, 1) := by decide +kernel
theorem dX12_init_178 : decode cX12_init 178 = .ok (.bipush 7, 2) := by decide +kernel
theorem dX12_init_180 : decode cX12_init 180 = .ok (.ldc2_w 71, 3) := by decide +kernel
theorem dX12_init_183 : decode cX12_init 183 = .ok (.lastore, 1) := by decide +kernel
theorem dX12_init_184 : decode cX12_init 184 = .ok (.putfield 73, 3) := by decide +kernel
theorem dX12_init_187 : decode cX12_init 187 = .ok (.aload_n 0, 1) := by decide +kernel
theorem dX12_init_188 : decode cX12_init 188 = .ok (.bipush 7, 2) := by decide +kernel
theorem dX12_init_190 : decode cX12_init 190 = .ok (.newarray .long, 2) := by decide +kernel
theorem dX12_init_192 : decode cX12_init 192 = .ok (.dup, 1) := by decide +kernel
theorem dX12_init_193 : decode cX12_init 193 = .ok (.iconst 0, 1) := by decide +kernel
theorem dX12_init_194 : decode cX12_init 194 = .ok (.ldc2_w 69, 3) := by decide +kernel
theorem dX12_init_197 : decode cX12_init 197 = .ok (.lastore, 1) := by decide +kernel
theorem dX12_init_198 : decode cX12_init 198 = .ok (.dup, 1) := by decide +kernel
theorem dX12_init_199 : decode cX12_init 199 = .ok (.iconst 1, 1) := by decide +kernel
theorem dX12_init_200 : decode cX12_init 200 = .ok (.ldc2_w 77, 3) := by decide +kernel
theorem dX12_init_203 : decode cX12_init 203 = .ok (.lastore, 1) := by decide +kernel
theorem dX12_init_204 : decode cX12_init 204 = .ok (.dup, 1) := by decide +kernel
theorem dX12_init_205 : decode cX12_init 205 = .ok (.iconst 2, 1) := by decide +kernel
theorem dX12_init_206 : decode cX12_init 206 = .ok (.ldc2_w 79, 3) := by decide +kernel
theorem dX12_init_209 : decode cX12_init 209 = .ok (.lastore, 1) := by decide +kernel
theorem dX12_init_210 : decode cX12_init 210 = .ok (.dup, 1) := by decide +kernel
theorem dX12_init_211 : decode cX12_init 211 = .ok (.iconst 3, 1) := by decide +kernel
theorem dX12_init_212 : decode cX12_init 212 = .ok (.ldc2_w 67, 3) := by decide +kernel
theorem dX12_init_215 : decode cX12_init 215 = .ok (.lastore, 1) := by decide +kernel
theorem dX12_init_216 : decode cX12_init 216 = .ok (.dup, 1) := by decide +kernel
theorem dX12_init_217 : decode cX12_init 217 = .ok (.iconst 4, 1) := by decide +kernel
theorem dX12_init_218 : decode cX12_init 218 = .ok (.ldc2_w 81, 3) := by decide +kernel
theorem dX12_init_221 : decode cX12_init 221 = .ok (.lastore, 1) := by decide +kernel
theorem dX12_init_222 : decode cX12_init 222 = .ok (.dup, 1) := by decide +kernel
theorem dX12_init_223 : decode cX12_init 223 = .ok (.iconst 5, 1) := by decide +kernel
theorem dX12_init_224 : decode cX12_init 224 = .ok (.ldc2_w 65, 3) := by decide +kernel
theorem dX12_init_227 : decode cX12_init 227 = .ok (.lastore, 1) := by decide +kernel
theorem dX12_init_228 : decode cX12_init 228 = .ok (.dup, 1) := by decide +kernel
theorem dX12_init_229 : decode cX12_init 229 = .ok (.bipush 6, 2) := by decide +kernel
theorem dX12_init_231 : decode cX12_init 231 = .ok (.ldc2_w 59, 3) := by decide +kernel
theorem dX12_init_234 : decode cX12_init 234 = .ok (.lastore, 1) := by decide +kernel
theorem dX12_init_235 : decode cX12_init 235 = .ok (.putfield 83, 3) := by decide +kernel
theorem dX12_init_238 : decode cX12_init 238 = .ok (.aload_n 0, 1) := by decide +kernel
theorem dX12_init_239 : decode cX12_init 239 = .ok (.iconst 4, 1) := by decide +kernel
theorem dX12_init_240 : decode cX12_init 240 = .ok (.newarray .long, 2) := by decide +kernel
theorem dX12_init_242 : decode cX12_init 242 = .ok (.dup, 1) := by decide +kernel
theorem dX12_init_243 : decode cX12_init 243 = .ok (.iconst 0, 1) := by decide +kernel
theorem dX12_init_244 : decode cX12_init 244 = .ok (.ldc2_w 86, 3) := by decide +kernel
theorem dX12_init_247 : decode cX12_init 247 = .ok (.lastore, 1) := by decide +kernel
theorem dX12_init_248 : decode cX12_init 248 = .ok (.dup, 1) := by decide +kernel
theorem dX12_init_249 : decode cX12_init 249 = .ok (.iconst 1, 1) := by decide +kernel
theorem dX12_init_250 : decode cX12_init 250 = .ok (.ldc2_w 88, 3) := by decide +kernel
theorem dX12_init_253 : decode cX12_init 253 = .ok (.lastore, 1) := by decide +kernel
theorem dX12_init_254 : decode cX12_init 254 = .ok (.dup, 1) := by decide +kernel
theorem dX12_init_255 : decode cX12_init 255 = .ok (.iconst 2, 1) := by decide +kernel
theorem dX12_init_256 : decode cX12_init 256 = .ok (.ldc2_w 90, 3) := by decide +kernel
theorem dX12_init_259 : decode cX12_init 259 = .ok (.lastore, 1) := by decide +kernel
theorem dX12_init_260 : decode cX12_init 260 = .ok (.dup, 1) := by decide +kernel
theorem dX12_init_261 : decode cX12_init 261 = .ok (.iconst 3, 1) := by decide +kernel
theorem dX12_init_262 : decode cX12_init 262 = .ok (.ldc2_w 92, 3) := by decide +kernel
theorem dX12_init_265 : decode cX12_init 265 = .ok (.lastore, 1) := by decide +kernel
theorem dX12_init_266 : decode cX12_init 266 = .ok (.putfield 94, 3) := by decide +kernel
theorem dX12_init_269 : decode cX12_init 269 = .ok (.aload_n 0, 1) := by decide +kernel
theorem dX12_init_270 : decode cX12_init 270 = .ok (.bipush 13, 2) := by decide +kernel
theorem dX12_init_272 : decode cX12_init 272 = .ok (.newarray .long, 2) := by decide +kernel
theorem dX12_init_274 : decode cX12_init 274 = .ok (.putfield 97, 3) := by decide +kernel
theorem dX12_init_277 : decode cX12_init 277 = .ok (.aload_n 0, 1) := by decide +kernel
theorem dX12_init_278 : decode cX12_init 278 = .ok (.bipush 13, 2) := by decide +kernel
theorem dX12_init_280 : decode cX12_init 280 = .ok (.newarray .long, 2) := by decide +kernel
theorem dX12_init_282 : decode cX12_init 282 = .ok (.putfield 100, 3) := by decide +kernel
theorem dX12_init_285 : decode cX12_init 285 = .ok (.aload_n 0, 1) := by decide +kernel
theorem dX12_init_286 : decode cX12_init 286 = .ok (.sipush 400, 3) := by decide +kernel
theorem dX12_init_289 : decode cX12_init 289 = .ok (.newarray .long, 2) := by decide +kernel
theorem dX12_init_291 : decode cX12_init 291 = .ok (.putfield 103, 3) := by decide +kernel
theorem dX12_init_294 : decode cX12_init 294 = .ok (.aload_n 0, 1) := by decide +kernel
theorem dX12_init_295 : decode cX12_init 295 = .ok (.bipush 6, 2) := by decide +kernel
theorem dX12_init_297 : decode cX12_init 297 = .ok (.newarray .int, 2) := by decide +kernel
theorem dX12_init_299 : decode cX12_init 299 = .ok (.putfield 106, 3) := by decide +kernel
theorem dX12_init_302 : decode cX12_init 302 = .ok (.aload_n 0, 1) := by decide +kernel
theorem dX12_init_303 : decode cX12_init 303 = .ok (.bipush 36, 2) := by decide +kernel
theorem dX12_init_305 : decode cX12_init 305 = .ok (.newarray .long, 2) := by decide +kernel
theorem dX12_init_307 : decode cX12_init 307 = .ok (.putfield 109, 3) := by decide +kernel
theorem dX12_init_310 : decode cX12_init 310 = .ok (.aload_n 0, 1) := by decide +kernel
theorem dX12_init_311 : decode cX12_init 311 = .ok (.bipush 36, 2) := by decide +kernel
theorem dX12_init_313 : decode cX12_init 313 = .ok (.newarray .boolean, 2) := by decide +kernel
theorem dX12_init_315 : decode cX12_init 315 = .ok (.putfield 112, 3) := by decide +kernel
theorem dX12_init_318 : decode cX12_init 318 = .ok (.aload_n 0, 1) := by decide +kernel
theorem dX12_init_319 : decode cX12_init 319 = .ok (.sipush 448, 3) := by decide +kernel
theorem dX12_init_322 : decode cX12_init 322 = .ok (.newarray .long, 2) := by decide +kernel
theorem dX12_init_324 : decode cX12_init 324 = .ok (.putfield 115, 3) := by decide +kernel
theorem dX12_init_327 : decode cX12_init 327 = .ok (.aload_n 0, 1) := by decide +kernel
theorem dX12_init_328 : decode cX12_init 328 = .ok (.bipush 120, 2) := by decide +kernel
theorem dX12_init_330 : decode cX12_init 330 = .ok (.newarray .long, 2) := by decide +kernel
theorem dX12_init_332 : decode cX12_init 332 = .ok (.putfield 118, 3) := by decide +kernel
theorem dX12_init_335 : decode cX12_init 335 = .ok (.aload_n 0, 1) := by decide +kernel
theorem dX12_init_336 : decode cX12_init 336 = .ok (.bipush 120, 2) := by decide +kernel
theorem dX12_init_338 : decode cX12_init 338 = .ok (.newarray .long, 2) := by decide +kernel
theorem dX12_init_340 : decode cX12_init 340 = .ok (.putfield 121, 3) := by decide +kernel
theorem dX12_init_343 : decode cX12_init 343 = .ok (.aload_n 0, 1) := by decide +kernel
theorem dX12_init_344 : decode cX12_init 344 = .ok (.bipush 6, 2) := by decide +kernel
theorem dX12_init_346 : decode cX12_init 346 = .ok (.newarray .int, 2) := by decide +kernel
theorem dX12_init_348 : decode cX12_init 348 = .ok (.putfield 124, 3) := by decide +kernel
theorem dX12_init_351 : decode cX12_init 351 = .ok (.aload_n 0, 1) := by decide +kernel
theorem dX12_init_352 : decode cX12_init 352 = .ok (.bipush 21, 2) := by decide +kernel
theorem dX12_init_354 : decode cX12_init 354 = .ok (.newarray .long, 2) := by decide +kernel
theorem dX12_init_356 : decode cX12_init 356 = .ok (.putfield 127, 3) := by decide +kernel
theorem dX12_init_359 : decode cX12_init 359 = .ok (.aload_n 0, 1) := by decide +kernel
theorem dX12_init_360 : decode cX12_init 360 = .ok (.iconst 4, 1) := by decide +kernel
theorem dX12_init_361 : decode cX12_init 361 = .ok (.newarray .long, 2) := by decide +kernel
theorem dX12_init_363 : decode cX12_init 363 = .ok (.dup, 1) := by decide +kernel
theorem dX12_init_364 : decode cX12_init 364 = .ok (.iconst 0, 1) := by decide +kernel
theorem dX12_init_365 : decode cX12_init 365 = .ok (.ldc2_w 130, 3) := by decide +kernel
theorem dX12_init_368 : decode cX12_init 368 = .ok (.lastore, 1) := by decide +kernel
theorem dX12_init_369 : decode cX12_init 369 = .ok (.dup, 1) := by decide +kernel
theorem dX12_init_370 : decode cX12_init 370 = .ok (.iconst 1, 1) := by decide +kernel
theorem dX12_init_371 : decode cX12_init 371 = .ok (.ldc2_w 132, 3) := by decide +kernel
theorem dX12_init_374 : decode cX12_init 374 = .ok (.lastore, 1) := by decide +kernel
theorem dX12_init_375 : decode cX12_init 375 = .ok (.dup, 1) := by decide +kernel
theorem dX12_init_376 : decode cX12_init 376 = .ok (.iconst 2, 1) := by decide +kernel
theorem dX12_init_377 : decode cX12_init 377 = .ok (.ldc2_w 134, 3) := by decide +kernel
theorem dX12_init_380 : decode cX12_init 380 = .ok (.lastore, 1) := by decide +kernel
theorem dX12_init_381 : decode cX12_init 381 = .ok (.dup, 1) := by decide +kernel
theorem dX12_init_382 : decode cX12_init 382 = .ok (.iconst 3, 1) := by decide +kernel
theorem dX12_init_383 : decode cX12_init 383 = .ok (.ldc2_w 136, 3) := by decide +kernel
theorem dX12_init_386 : decode cX12_init 386 = .ok (.lastore, 1) := by decide +kernel
theorem dX12_init_387 : decode cX12_init 387 = .ok (.putfield 138, 3) := by decide +kernel
theorem dX12_init_390 : decode cX12_init 390 = .ok (.aload_n 0, 1) := by decide +kernel
theorem dX12_init_391 : decode cX12_init 391 = .ok (.bipush 96, 2) := by decide +kernel
theorem dX12_init_393 : decode cX12_init 393 = .ok (.newarray .int, 2) := by decide +kernel
theorem dX12_init_395 : decode cX12_init 395 = .ok (.putfield 141, 3) := by decide +kernel
theorem dX12_init_398 : decode cX12_init 398 = .ok (.aload_n 0, 1) := by decide +kernel
theorem dX12_init_399 : decode cX12_init 399 = .ok (.iconst (-1), 1) := by decide +kernel
theorem dX12_init_400 : decode cX12_init 400 = .ok (.putfield 144, 3) := by decide +kernel
theorem dX12_init_403 : decode cX12_init 403 = .ok (.aload_n 0, 1) := by decide +kernel
theorem dX12_init_404 : decode cX12_init 404 = .ok (.bipush 53, 2) := by decide +kernel
theorem dX12_init_406 : decode cX12_init 406 = .ok (.newarray .int, 2) := by decide +kernel
theorem dX12_init_408 : decode cX12_init 408 = .ok (.putfield 147, 3) := by decide +kernel
theorem dX12_init_411 : decode cX12_init 411 = .ok (.aload_n 0, 1) := by decide +kernel
theorem dX12_init_412 : decode cX12_init 412 = .ok (.iconst (-1), 1) := by decide +kernel
theorem dX12_init_413 : decode cX12_init 413 = .ok (.putfield 150, 3) := by decide +kernel
theorem dX12_init_416 : decode cX12_init 416 = .ok (.aload_n 0, 1) := by decide +kernel
theorem dX12_init_417 : decode cX12_init 417 = .ok (.getfield 13, 3) := by decide +kernel
theorem dX12_init_420 : decode cX12_init 420 = .ok (.iconst 3, 1) := by decide +kernel
theorem dX12_init_421 : decode cX12_init 421 = .ok (.iconst (-1), 1) := by decide +kernel
theorem dX12_init_422 : decode cX12_init 422 = .ok (.iastore, 1) := by decide +kernel
theorem dX12_init_423 : decode cX12_init 423 = .ok (.aload_n 0, 1) := by decide +kernel
theorem dX12_init_424 : decode cX12_init 424 = .ok (.getfield 13, 3) := by decide +kernel
theorem dX12_init_427 : decode cX12_init 427 = .ok (.iconst 5, 1) := by decide +kernel
theorem dX12_init_428 : decode cX12_init 428 = .ok (.iconst 1, 1) := by decide +kernel
theorem dX12_init_429 : decode cX12_init 429 = .ok (.iastore, 1) := by decide +kernel
theorem dX12_init_430 : decode cX12_init 430 = .ok (.return_, 1) := by decide +kernel
theorem dX12_in_0 : decode cX12_in 0 = .ok (.lload_n 0, 1) := by decide +kernel
theorem dX12_in_1 : decode cX12_in 1 = .ok (.lload_n 2, 1) := by decide +kernel
theorem dX12_in_2 : decode cX12_in 2 = .ok (.lcmp, 1) := by decide +kernel
theorem dX12_in_3 : decode cX12_in 3 = .ok (.ifCond .lt 14, 3) := by decide +kernel
theorem dX12_in_6 : decode cX12_in 6 = .ok (.lload_n 0, 1) := by decide +kernel
theorem dX12_in_7 : decode cX12_in 7 = .ok (.lload 4, 2) := by decide +kernel
theorem dX12_in_9 : decode cX12_in 9 = .ok (.lcmp, 1) := by decide +kernel
theorem dX12_in_10 : decode cX12_in 10 = .ok (.ifCond .gt 7, 3) := by decide +kernel
theorem dX12_in_13 : decode cX12_in 13 = .ok (.iconst 1, 1) := by decide +kernel
theorem dX12_in_14 : decode cX12_in 14 = .ok (.goto 4, 3) := by decide +kernel
theorem dX12_in_17 : decode cX12_in 17 = .ok (.iconst 0, 1) := by decide +kernel
theorem dX12_in_18 : decode cX12_in 18 = .ok (.ireturn, 1) := by decide +kernel
theorem dX12_is_0 : decode cX12_is 0 = .ok (.iload_n 0, 1) := by decide +kernel
theorem dX12_is_1 : decode cX12_is 1 = .ok (.iload_n 1, 1) := by decide +kernel
theorem dX12_is_2 : decode cX12_is 2 = .ok (.ishr, 1) := by decide +kernel
theorem dX12_is_3 : decode cX12_is 3 = .ok (.iconst 1, 1) := by decide +kernel
theorem dX12_is_4 : decode cX12_is 4 = .ok (.iand, 1) := by decide +kernel
theorem dX12_is_5 : decode cX12_is 5 = .ok (.iconst 1, 1) := by decide +kernel
theorem dX12_is_6 : decode cX12_is 6 = .ok (.if_icmp .ne 7, 3) := by decide +kernel
theorem dX12_is_9 : decode cX12_is 9 = .ok (.iconst 1, 1) := by decide +kernel
theorem dX12_is_10 : decode cX12_is 10 = .ok (.goto 4, 3) := by decide +kernel
theorem dX12_is_13 : decode cX12_is 13 = .ok (.iconst 0, 1) := by decide +kernel
theorem dX12_is_14 : decode cX12_is 14 = .ok (.ireturn, 1) := by decide +kernel
theorem dX12_bounded_0 : decode cX12_bounded 0 = .ok (.lload_n 0, 1) := by decide +kernel
theorem dX12_bounded_1 : decode cX12_bounded 1 = .ok (.iload_n 2, 1) := by decide +kernel
theorem dX12_bounded_2 : decode cX12_bounded 2 = .ok (.i2l, 1) := by decide +kernel
theorem dX12_bounded_3 : decode cX12_bounded 3 = .ok (.lcmp, 1) := by decide +kernel
theorem dX12_bounded_4 : decode cX12_bounded 4 = .ok (.ifCond .ge 7, 3) := by decide +kernel
theorem dX12_bounded_7 : decode cX12_bounded 7 = .ok (.iload_n 2, 1) := by decide +kernel
theorem dX12_bounded_8 : decode cX12_bounded 8 = .ok (.goto 16, 3) := by decide +kernel
theorem dX12_bounded_11 : decode cX12_bounded 11 = .ok (.lload_n 0, 1) := by decide +kernel
theorem dX12_bounded_12 : decode cX12_bounded 12 = .ok (.iload_n 3, 1) := by decide +kernel
theorem dX12_bounded_13 : decode cX12_bounded 13 = .ok (.i2l, 1) := by decide +kernel
theorem dX12_bounded_14 : decode cX12_bounded 14 = .ok (.lcmp, 1) := by decide +kernel
theorem dX12_bounded_15 : decode cX12_bounded 15 = .ok (.ifCond .le 7, 3) := by decide +kernel
theorem dX12_bounded_18 : decode cX12_bounded 18 = .ok (.iload_n 3, 1) := by decide +kernel
theorem dX12_bounded_19 : decode cX12_bounded 19 = .ok (.goto 5, 3) := by decide +kernel
theorem dX12_bounded_22 : decode cX12_bounded 22 = .ok (.lload_n 0, 1) := by decide +kernel
theorem dX12_bounded_23 : decode cX12_bounded 23 = .ok (.l2i, 1) := by decide +kernel
theorem dX12_bounded_24 : decode cX12_bounded 24 = .ok (.ireturn, 1) := by decide +kernel
theorem dX12_tell_0 : decode cX12_tell 0 = .ok (.aload_n 0, 1) := by decide +kernel
theorem dX12_tell_1 : decode cX12_tell 1 = .ok (.iload_n 1, 1) := by decide +kernel
theorem dX12_tell_2 : decode cX12_tell 2 = .ok (.ifCond .ge 7, 3) := by decide +kernel
theorem dX12_tell_5 : decode cX12_tell 5 = .ok (.iload_n 1, 1) := by decide +kernel
theorem dX12_tell_6 : decode cX12_tell 6 = .ok (.goto 4, 3) := by decide +kernel
theorem dX12_tell_9 : decode cX12_tell 9 = .ok (.iconst 0, 1) := by decide +kernel
theorem dX12_tell_10 : decode cX12_tell 10 = .ok (.putfield 156, 3) := by decide +kernel
theorem dX12_tell_13 : decode cX12_tell 13 = .ok (.iload_n 1, 1) := by decide +kernel
theorem dX12_tell_14 : decode cX12_tell 14 = .ok (.ifCond .ge 14, 3) := by decide +kernel
theorem dX12_tell_17 : decode cX12_tell 17 = .ok (.aload_n 0, 1) := by decide +kernel
theorem dX12_tell_18 : decode cX12_tell 18 = .ok (.getfield 7, 3) := by decide +kernel
theorem dX12_tell_21 : decode cX12_tell 21 = .ok (.iload_n 1, 1) := by decide +kernel
theorem dX12_tell_22 : decode cX12_tell 22 = .ok (.ineg, 1) := by decide +kernel
theorem dX12_tell_23 : decode cX12_tell 23 = .ok (.dup2, 1) := by decide +kernel
theorem dX12_tell_24 : decode cX12_tell 24 = .ok (.iaload, 1) := by decide +kernel
theorem dX12_tell_25 : decode cX12_tell 25 = .ok (.iconst 1, 1) := by decide +kernel
theorem dX12_tell_26 : decode cX12_tell 26 = .ok (.iadd, 1) := by decide +kernel
theorem dX12_tell_27 : decode cX12_tell 27 = .ok (.iastore, 1) := by decide +kernel
theorem dX12_tell_28 : decode cX12_tell 28 = .ok (.iload_n 1, 1) := by decide +kernel
theorem dX12_tell_29 : decode cX12_tell 29 = .ok (.ireturn, 1) := by decide +kernel
theorem dX12_change_0 : decode cX12_change 0 = .ok (.aload_n 0, 1) := by decide +kernel
theorem dX12_change_1 : decode cX12_change 1 = .ok (.getfield 13, 3) := by decide +kernel
theorem dX12_change_4 : decode cX12_change 4 = .ok (.iload_n 1, 1) := by decide +kernel
theorem dX12_change_5 : decode cX12_change 5 = .ok (.iaload, 1) := by decide +kernel
theorem dX12_change_6 : decode cX12_change 6 = .ok (.istore_n 3, 1) := by decide +kernel
theorem dX12_change_7 : decode cX12_change 7 = .ok (.aload_n 0, 1) := by decide +kernel
theorem dX12_change_8 : decode cX12_change 8 = .ok (.getfield 13, 3) := by decide +kernel
theorem dX12_change_11 : decode cX12_change 11 = .ok (.iload_n 1, 1) := by decide +kernel
theorem dX12_change_12 : decode cX12_change 12 = .ok (.iload_n 2, 1) := by decide +kernel
theorem dX12_change_13 : decode cX12_change 13 = .ok (.iastore, 1) := by decide +kernel
theorem dX12_change_14 : decode cX12_change 14 = .ok (.aload_n 0, 1) := by decide +kernel
theorem dX12_change_15 : decode cX12_change 15 = .ok (.iconst 0, 1) := by decide +kernel
theorem dX12_change_16 : decode cX12_change 16 = .ok (.putfield 156, 3) := by decide +kernel
theorem dX12_change_19 : decode cX12_change 19 = .ok (.iload_n 3, 1) := by decide +kernel
theorem dX12_change_20 : decode cX12_change 20 = .ok (.ireturn, 1) := by decide +kernel
theorem dX12_lasting_0 : decode cX12_lasting 0 = .ok (.aload_n 0, 1) := by decide +kernel
theorem dX12_lasting_1 : decode cX12_lasting 1 = .ok (.iload_n 1, 1) := by decide +kernel
theorem dX12_lasting_2 : decode cX12_lasting 2 = .ok (.ifCond .ge 10, 3) := by decide +kernel
theorem dX12_lasting_5 : decode cX12_lasting 5 = .ok (.aload_n 0, 1) := by decide +kernel
theorem dX12_lasting_6 : decode cX12_lasting 6 = .ok (.getfield 159, 3) := by decide +kernel
theorem dX12_lasting_9 : decode cX12_lasting 9 = .ok (.goto 4, 3) := by decide +kernel
theorem dX12_lasting_12 : decode cX12_lasting 12 = .ok (.iconst 0, 1) := by decide +kernel
theorem dX12_lasting_13 : decode cX12_lasting 13 = .ok (.putfield 159, 3) := by decide +kernel
theorem dX12_lasting_16 : decode cX12_lasting 16 = .ok (.aload_n 0, 1) := by decide +kernel
theorem dX12_lasting_17 : decode cX12_lasting 17 = .ok (.iload_n 1, 1) := by decide +kernel
theorem dX12_lasting_18 : decode cX12_lasting 18 = .ok (.invokevirtual 162, 3) := by decide +kernel
theorem dX12_lasting_21 : decode cX12_lasting 21 = .ok (.ireturn, 1) := by decide +kernel
theorem dX12_keepAll_0 : decode cX12_keepAll 0 = .ok (.iconst 0, 1) := by decide +kernel
theorem dX12_keepAll_1 : decode cX12_keepAll 1 = .ok (.istore_n 2, 1) := by decide +kernel
theorem dX12_keepAll_2 : decode cX12_keepAll 2 = .ok (.iload_n 2, 1) := by decide +kernel
theorem dX12_keepAll_3 : decode cX12_keepAll 3 = .ok (.bipush 53, 2) := by decide +kernel
theorem dX12_keepAll_5 : decode cX12_keepAll 5 = .ok (.if_icmp .ge 28, 3) := by decide +kernel
theorem dX12_keepAll_8 : decode cX12_keepAll 8 = .ok (.aload_n 0, 1) := by decide +kernel
theorem dX12_keepAll_9 : decode cX12_keepAll 9 = .ok (.getfield 23, 3) := by decide +kernel
theorem dX12_keepAll_12 : decode cX12_keepAll 12 = .ok (.bipush 53, 2) := by decide +kernel
theorem dX12_keepAll_14 : decode cX12_keepAll 14 = .ok (.iload_n 1, 1) := by decide +kernel
theorem dX12_keepAll_15 : decode cX12_keepAll 15 = .ok (.imul, 1) := by decide +kernel
theorem dX12_keepAll_16 : decode cX12_keepAll 16 = .ok (.iload_n 2, 1) := by decide +kernel
theorem dX12_keepAll_17 : decode cX12_keepAll 17 = .ok (.iadd, 1) := by decide +kernel
theorem dX12_keepAll_18 : decode cX12_keepAll 18 = .ok (.aload_n 0, 1) := by decide +kernel
theorem dX12_keepAll_19 : decode cX12_keepAll 19 = .ok (.getfield 13, 3) := by decide +kernel
theorem dX12_keepAll_22 : decode cX12_keepAll 22 = .ok (.iconst 4, 1) := by decide +kernel
theorem dX12_keepAll_23 : decode cX12_keepAll 23 = .ok (.iload_n 2, 1) := by decide +kernel
theorem dX12_keepAll_24 : decode cX12_keepAll 24 = .ok (.iadd, 1) := by decide +kernel
theorem dX12_keepAll_25 : decode cX12_keepAll 25 = .ok (.iaload, 1) := by decide +kernel
theorem dX12_keepAll_26 : decode cX12_keepAll 26 = .ok (.iastore, 1) := by decide +kernel
theorem dX12_keepAll_27 : decode cX12_keepAll 27 = .ok (.iinc 2 1, 3) := by decide +kernel
theorem dX12_keepAll_30 : decode cX12_keepAll 30 = .ok (.goto (-28), 3) := by decide +kernel
theorem dX12_keepAll_33 : decode cX12_keepAll 33 = .ok (.return_, 1) := by decide +kernel
theorem dX12_putBack_0 : decode cX12_putBack 0 = .ok (.iconst 0, 1) := by decide +kernel
theorem dX12_putBack_1 : decode cX12_putBack 1 = .ok (.istore_n 2, 1) := by decide +kernel
theorem dX12_putBack_2 : decode cX12_putBack 2 = .ok (.iload_n 2, 1) := by decide +kernel
theorem dX12_putBack_3 : decode cX12_putBack 3 = .ok (.bipush 53, 2) := by decide +kernel
theorem dX12_putBack_5 : decode cX12_putBack 5 = .ok (.if_icmp .ge 28, 3) := by decide +kernel
theorem dX12_putBack_8 : decode cX12_putBack 8 = .ok (.aload_n 0, 1) := by decide +kernel
theorem dX12_putBack_9 : decode cX12_putBack 9 = .ok (.getfield 13, 3) := by decide +kernel
theorem dX12_putBack_12 : decode cX12_putBack 12 = .ok (.iconst 4, 1) := by decide +kernel
theorem dX12_putBack_13 : decode cX12_putBack 13 = .ok (.iload_n 2, 1) := by decide +kernel
theorem dX12_putBack_14 : decode cX12_putBack 14 = .ok (.iadd, 1) := by decide +kernel
theorem dX12_putBack_15 : decode cX12_putBack 15 = .ok (.aload_n 0, 1) := by decide +kernel
theorem dX12_putBack_16 : decode cX12_putBack 16 = .ok (.getfield 23, 3) := by decide +kernel
theorem dX12_putBack_19 : decode cX12_putBack 19 = .ok (.bipush 53, 2) := by decide +kernel
theorem dX12_putBack_21 : decode cX12_putBack 21 = .ok (.iload_n 1, 1) := by decide +kernel
theorem dX12_putBack_22 : decode cX12_putBack 22 = .ok (.imul, 1) := by decide +kernel
theorem dX12_putBack_23 : decode cX12_putBack 23 = .ok (.iload_n 2, 1) := by decide +kernel
theorem dX12_putBack_24 : decode cX12_putBack 24 = .ok (.iadd, 1) := by decide +kernel
theorem dX12_putBack_25 : decode cX12_putBack 25 = .ok (.iaload, 1) := by decide +kernel
theorem dX12_putBack_26 : decode cX12_putBack 26 = .ok (.iastore, 1) := by decide +kernel
theorem dX12_putBack_27 : decode cX12_putBack 27 = .ok (.iinc 2 1, 3) := by decide +kernel
theorem dX12_putBack_30 : decode cX12_putBack 30 = .ok (.goto (-28), 3) := by decide +kernel
theorem dX12_putBack_33 : decode cX12_putBack 33 = .ok (.return_, 1) := by decide +kernel
theorem dX12_remember_0 : decode cX12_remember 0 = .ok (.aload_n 0, 1) := by decide +kernel
theorem dX12_remember_1 : decode cX12_remember 1 = .ok (.getfield 159, 3) := by decide +kernel
theorem dX12_remember_4 : decode cX12_remember 4 = .ok (.bipush 16, 2) := by decide +kernel
theorem dX12_remember_6 : decode cX12_remember 6 = .ok (.if_icmp .ne 71, 3) := by decide +kernel
theorem dX12_remember_9 : decode cX12_remember 9 = .ok (.iconst 0, 1) := by decide +kernel
theorem dX12_remember_10 : decode cX12_remember 10 = .ok (.istore_n 2, 1) := by decide +kernel
theorem dX12_remember_11 : decode cX12_remember 11 = .ok (.iload_n 2, 1) := by decide +kernel
theorem dX12_remember_12 : decode cX12_remember 12 = .ok (.sipush 795, 3) := by decide +kernel
theorem dX12_remember_15 : decode cX12_remember 15 = .ok (.if_icmp .ge 24, 3) := by decide +kernel
theorem dX12_remember_18 : decode cX12_remember 18 = .ok (.aload_n 0, 1) := by decide +kernel
theorem dX12_remember_19 : decode cX12_remember 19 = .ok (.getfield 23, 3) := by decide +kernel
theorem dX12_remember_22 : decode cX12_remember 22 = .ok (.iload_n 2, 1) := by decide +kernel
theorem dX12_remember_23 : decode cX12_remember 23 = .ok (.aload_n 0, 1) := by decide +kernel
theorem dX12_remember_24 : decode cX12_remember 24 = .ok (.getfield 23, 3) := by decide +kernel
theorem dX12_remember_27 : decode cX12_remember 27 = .ok (.iload_n 2, 1) := by decide +kernel
theorem dX12_remember_28 : decode cX12_remember 28 = .ok (.bipush 53, 2) := by decide +kernel
theorem dX12_remember_30 : decode cX12_remember 30 = .ok (.iadd, 1) := by decide +kernel
theorem dX12_remember_31 : decode cX12_remember 31 = .ok (.iaload, 1) := by decide +kernel
theorem dX12_remember_32 : decode cX12_remember 32 = .ok (.iastore, 1) := by decide +kernel
theorem dX12_remember_33 : decode cX12_remember 33 = .ok (.iinc 2 1, 3) := by decide +kernel
theorem dX12_remember_36 : decode cX12_remember 36 = .ok (.goto (-25), 3) := by decide +kernel
theorem dX12_remember_39 : decode cX12_remember 39 = .ok (.iconst 0, 1) := by decide +kernel
theorem dX12_remember_40 : decode cX12_remember 40 = .ok (.istore_n 2, 1) := by decide +kernel
theorem dX12_remember_41 : decode cX12_remember 41 = .ok (.iload_n 2, 1) := by decide +kernel
theorem dX12_remember_42 : decode cX12_remember 42 = .ok (.bipush 15, 2) := by decide +kernel
theorem dX12_remember_44 : decode cX12_remember 44 = .ok (.if_icmp .ge 23, 3) := by decide +kernel
theorem dX12_remember_47 : decode cX12_remember 47 = .ok (.aload_n 0, 1) := by decide +kernel
theorem dX12_remember_48 : decode cX12_remember 48 = .ok (.getfield 26, 3) := by decide +kernel
theorem dX12_remember_51 : decode cX12_remember 51 = .ok (.iload_n 2, 1) := by decide +kernel
theorem dX12_remember_52 : decode cX12_remember 52 = .ok (.aload_n 0, 1) := by decide +kernel
theorem dX12_remember_53 : decode cX12_remember 53 = .ok (.getfield 26, 3) := by decide +kernel
theorem dX12_remember_56 : decode cX12_remember 56 = .ok (.iload_n 2, 1) := by decide +kernel
theorem dX12_remember_57 : decode cX12_remember 57 = .ok (.iconst 1, 1) := by decide +kernel
theorem dX12_remember_58 : decode cX12_remember 58 = .ok (.iadd, 1) := by decide +kernel
theorem dX12_remember_59 : decode cX12_remember 59 = .ok (.iaload, 1) := by decide +kernel
theorem dX12_remember_60 : decode cX12_remember 60 = .ok (.iastore, 1) := by decide +kernel
theorem dX12_remember_61 : decode cX12_remember 61 = .ok (.iinc 2 1, 3) := by decide +kernel
theorem dX12_remember_64 : decode cX12_remember 64 = .ok (.goto (-23), 3) := by decide +kernel
theorem dX12_remember_67 : decode cX12_remember 67 = .ok (.aload_n 0, 1) := by decide +kernel
theorem dX12_remember_68 : decode cX12_remember 68 = .ok (.dup, 1) := by decide +kernel
theorem dX12_remember_69 : decode cX12_remember 69 = .ok (.getfield 159, 3) := by decide +kernel
theorem dX12_remember_72 : decode cX12_remember 72 = .ok (.iconst 1, 1) := by decide +kernel
theorem dX12_remember_73 : decode cX12_remember 73 = .ok (.isub, 1) := by decide +kernel
theorem dX12_remember_74 : decode cX12_remember 74 = .ok (.putfield 159, 3) := by decide +kernel
theorem dX12_remember_77 : decode cX12_remember 77 = .ok (.aload_n 0, 1) := by decide +kernel
theorem dX12_remember_78 : decode cX12_remember 78 = .ok (.aload_n 0, 1) := by decide +kernel
theorem dX12_remember_79 : decode cX12_remember 79 = .ok (.getfield 159, 3) := by decide +kernel
theorem dX12_remember_82 : decode cX12_remember 82 = .ok (.invokevirtual 166, 3) := by decide +kernel
theorem dX12_remember_85 : decode cX12_remember 85 = .ok (.aload_n 0, 1) := by decide +kernel
theorem dX12_remember_86 : decode cX12_remember 86 = .ok (.getfield 26, 3) := by decide +kernel
theorem dX12_remember_89 : decode cX12_remember 89 = .ok (.aload_n 0, 1) := by decide +kernel
theorem dX12_remember_90 : decode cX12_remember 90 = .ok (.getfield 159, 3) := by decide +kernel
theorem dX12_remember_93 : decode cX12_remember 93 = .ok (.iload_n 1, 1) := by decide +kernel
theorem dX12_remember_94 : decode cX12_remember 94 = .ok (.iastore, 1) := by decide +kernel
theorem dX12_remember_95 : decode cX12_remember 95 = .ok (.aload_n 0, 1) := by decide +kernel
theorem dX12_remember_96 : decode cX12_remember 96 = .ok (.dup, 1) := by decide +kernel
theorem dX12_remember_97 : decode cX12_remember 97 = .ok (.getfield 159, 3) := by decide +kernel
theorem dX12_remember_100 : decode cX12_remember 100 = .ok (.iconst 1, 1) := by decide +kernel
theorem dX12_remember_101 : decode cX12_remember 101 = .ok (.iadd, 1) := by decide +kernel
theorem dX12_remember_102 : decode cX12_remember 102 = .ok (.putfield 159, 3) := by decide +kernel
theorem dX12_remember_105 : decode cX12_remember 105 = .ok (.return_, 1) := by decide +kernel
theorem dX12_undo_0 : decode cX12_undo 0 = .ok (.aload_n 0, 1) := by decide +kernel
theorem dX12_undo_1 : decode cX12_undo 1 = .ok (.iconst 0, 1) := by decide +kernel
theorem dX12_undo_2 : decode cX12_undo 2 = .ok (.putfield 153, 3) := by decide +kernel
theorem dX12_undo_5 : decode cX12_undo 5 = .ok (.aload_n 0, 1) := by decide +kernel
theorem dX12_undo_6 : decode cX12_undo 6 = .ok (.getfield 159, 3) := by decide +kernel
theorem dX12_undo_9 : decode cX12_undo 9 = .ok (.ifCond .ne 10, 3) := by decide +kernel
theorem dX12_undo_12 : decode cX12_undo 12 = .ok (.aload_n 0, 1) := by decide +kernel
theorem dX12_undo_13 : decode cX12_undo 13 = .ok (.bipush (-3), 2) := by decide +kernel
theorem dX12_undo_15 : decode cX12_undo 15 = .ok (.invokevirtual 162, 3) := by decide +kernel
theorem dX12_undo_18 : decode cX12_undo 18 = .ok (.ireturn, 1) := by decide +kernel
theorem dX12_undo_19 : decode cX12_undo 19 = .ok (.aload_n 0, 1) := by decide +kernel
theorem dX12_undo_20 : decode cX12_undo 20 = .ok (.dup, 1) := by decide +kernel
theorem dX12_undo_21 : decode cX12_undo 21 = .ok (.getfield 159, 3) := by decide +kernel
theorem dX12_undo_24 : decode cX12_undo 24 = .ok (.iconst 1, 1) := by decide +kernel
theorem dX12_undo_25 : decode cX12_undo 25 = .ok (.isub, 1) := by decide +kernel
theorem dX12_undo_26 : decode cX12_undo 26 = .ok (.putfield 159, 3) := by decide +kernel
theorem dX12_undo_29 : decode cX12_undo 29 = .ok (.aload_n 0, 1) := by decide +kernel
theorem dX12_undo_30 : decode cX12_undo 30 = .ok (.aload_n 0, 1) := by decide +kernel
theorem dX12_undo_31 : decode cX12_undo 31 = .ok (.getfield 159, 3) := by decide +kernel
theorem dX12_undo_34 : decode cX12_undo 34 = .ok (.invokevirtual 170, 3) := by decide +kernel
theorem dX12_undo_37 : decode cX12_undo 37 = .ok (.aload_n 0, 1) := by decide +kernel
theorem dX12_undo_38 : decode cX12_undo 38 = .ok (.aload_n 0, 1) := by decide +kernel
theorem dX12_undo_39 : decode cX12_undo 39 = .ok (.getfield 26, 3) := by decide +kernel
theorem dX12_undo_42 : decode cX12_undo 42 = .ok (.aload_n 0, 1) := by decide +kernel
theorem dX12_undo_43 : decode cX12_undo 43 = .ok (.getfield 159, 3) := by decide +kernel
theorem dX12_undo_46 : decode cX12_undo 46 = .ok (.iaload, 1) := by decide +kernel
theorem dX12_undo_47 : decode cX12_undo 47 = .ok (.invokevirtual 162, 3) := by decide +kernel
theorem dX12_undo_50 : decode cX12_undo 50 = .ok (.ireturn, 1) := by decide +kernel
theorem dX12_image_0 : decode cX12_image 0 = .ok (.aload_n 0, 1) := by decide +kernel
theorem dX12_image_1 : decode cX12_image 1 = .ok (.iconst 0, 1) := by decide +kernel
theorem dX12_image_2 : decode cX12_image 2 = .ok (.putfield 153, 3) := by decide +kernel
theorem dX12_image_5 : decode cX12_image 5 = .ok (.iload_n 1, 1) := by decide +kernel
theorem dX12_image_6 : decode cX12_image 6 = .ok (.i2l, 1) := by decide +kernel
theorem dX12_image_7 : decode cX12_image 7 = .ok (.lconst 0, 1) := by decide +kernel
theorem dX12_image_8 : decode cX12_image 8 = .ok (.lconst 1, 1) := by decide +kernel
theorem dX12_image_9 : decode cX12_image 9 = .ok (.invokestatic 173, 3) := by decide +kernel
theorem dX12_image_12 : decode cX12_image 12 = .ok (.ifCond .ne 9, 3) := by decide +kernel
theorem dX12_image_15 : decode cX12_image 15 = .ok (.aload_n 0, 1) := by decide +kernel
theorem dX12_image_16 : decode cX12_image 16 = .ok (.iconst (-1), 1) := by decide +kernel
theorem dX12_image_17 : decode cX12_image 17 = .ok (.invokevirtual 162, 3) := by decide +kernel
theorem dX12_image_20 : decode cX12_image 20 = .ok (.ireturn, 1) := by decide +kernel
theorem dX12_image_21 : decode cX12_image 21 = .ok (.iconst 0, 1) := by decide +kernel
theorem dX12_image_22 : decode cX12_image 22 = .ok (.istore_n 2, 1) := by decide +kernel
theorem dX12_image_23 : decode cX12_image 23 = .ok (.iload_n 2, 1) := by decide +kernel
theorem dX12_image_24 : decode cX12_image 24 = .ok (.sipush 5475, 3) := by decide +kernel
theorem dX12_image_27 : decode cX12_image 27 = .ok (.if_icmp .ge 27, 3) := by decide +kernel
theorem dX12_image_30 : decode cX12_image 30 = .ok (.aload_n 0, 1) := by decide +kernel
theorem dX12_image_31 : decode cX12_image 31 = .ok (.getfield 16, 3) := by decide +kernel
theorem dX12_image_34 : decode cX12_image 34 = .ok (.sipush 5475, 3) := by decide +kernel
theorem dX12_image_37 : decode cX12_image 37 = .ok (.iload_n 1, 1) := by decide +kernel
theorem dX12_image_38 : decode cX12_image 38 = .ok (.imul, 1) := by decide +kernel
theorem dX12_image_39 : decode cX12_image 39 = .ok (.iload_n 2, 1) := by decide +kernel
theorem dX12_image_40 : decode cX12_image 40 = .ok (.iadd, 1) := by decide +kernel
theorem dX12_image_41 : decode cX12_image 41 = .ok (.aload_n 0, 1) := by decide +kernel
theorem dX12_image_42 : decode cX12_image 42 = .ok (.getfield 13, 3) := by decide +kernel
theorem dX12_image_45 : decode cX12_image 45 = .ok (.iload_n 2, 1) := by decide +kernel
theorem dX12_image_46 : decode cX12_image 46 = .ok (.iaload, 1) := by decide +kernel
theorem dX12_image_47 : decode cX12_image 47 = .ok (.iastore, 1) := by decide +kernel
theorem dX12_image_48 : decode cX12_image 48 = .ok (.iinc 2 1, 3) := by decide +kernel
theorem dX12_image_51 : decode cX12_image 51 = .ok (.goto (-28), 3) := by decide +kernel
theorem dX12_image_54 : decode cX12_image 54 = .ok (.aload_n 0, 1) := by decide +kernel
theorem dX12_image_55 : decode cX12_image 55 = .ok (.getfield 19, 3) := by decide +kernel
theorem dX12_image_58 : decode cX12_image 58 = .ok (.iload_n 1, 1) := by decide +kernel
theorem dX12_image_59 : decode cX12_image 59 = .ok (.iconst 1, 1) := by decide +kernel
theorem dX12_image_60 : decode cX12_image 60 = .ok (.bastore, 1) := by decide +kernel
theorem dX12_image_61 : decode cX12_image 61 = .ok (.aload_n 0, 1) := by decide +kernel
theorem dX12_image_62 : decode cX12_image 62 = .ok (.iconst 0, 1) := by decide +kernel
theorem dX12_image_63 : decode cX12_image 63 = .ok (.invokevirtual 162, 3) := by decide +kernel
theorem dX12_image_66 : decode cX12_image 66 = .ok (.ireturn, 1) := by decide +kernel
theorem dX12_back_0 : decode cX12_back 0 = .ok (.aload_n 0, 1) := by decide +kernel
theorem dX12_back_1 : decode cX12_back 1 = .ok (.iconst 0, 1) := by decide +kernel
theorem dX12_back_2 : decode cX12_back 2 = .ok (.putfield 153, 3) := by decide +kernel
theorem dX12_back_5 : decode cX12_back 5 = .ok (.iload_n 1, 1) := by decide +kernel
theorem dX12_back_6 : decode cX12_back 6 = .ok (.i2l, 1) := by decide +kernel
theorem dX12_back_7 : decode cX12_back 7 = .ok (.lconst 0, 1) := by decide +kernel
theorem dX12_back_8 : decode cX12_back 8 = .ok (.lconst 1, 1) := by decide +kernel
theorem dX12_back_9 : decode cX12_back 9 = .ok (.invokestatic 173, 3) := by decide +kernel
theorem dX12_back_12 : decode cX12_back 12 = .ok (.ifCond .ne 9, 3) := by decide +kernel
theorem dX12_back_15 : decode cX12_back 15 = .ok (.aload_n 0, 1) := by decide +kernel
theorem dX12_back_16 : decode cX12_back 16 = .ok (.iconst (-1), 1) := by decide +kernel
theorem dX12_back_17 : decode cX12_back 17 = .ok (.invokevirtual 162, 3) := by decide +kernel
theorem dX12_back_20 : decode cX12_back 20 = .ok (.ireturn, 1) := by decide +kernel
theorem dX12_back_21 : decode cX12_back 21 = .ok (.aload_n 0, 1) := by decide +kernel
theorem dX12_back_22 : decode cX12_back 22 = .ok (.getfield 19, 3) := by decide +kernel
theorem dX12_back_25 : decode cX12_back 25 = .ok (.iload_n 1, 1) := by decide +kernel
theorem dX12_back_26 : decode cX12_back 26 = .ok (.baload, 1) := by decide +kernel
theorem dX12_back_27 : decode cX12_back 27 = .ok (.ifCond .ne 10, 3) := by decide +kernel
theorem dX12_back_30 : decode cX12_back 30 = .ok (.aload_n 0, 1) := by decide +kernel
theorem dX12_back_31 : decode cX12_back 31 = .ok (.bipush (-2), 2) := by decide +kernel
theorem dX12_back_33 : decode cX12_back 33 = .ok (.invokevirtual 162, 3) := by decide +kernel
theorem dX12_back_36 : decode cX12_back 36 = .ok (.ireturn, 1) := by decide +kernel
theorem dX12_back_37 : decode cX12_back 37 = .ok (.iconst 0, 1) := by decide +kernel
theorem dX12_back_38 : decode cX12_back 38 = .ok (.istore_n 2, 1) := by decide +kernel
theorem dX12_back_39 : decode cX12_back 39 = .ok (.iload_n 2, 1) := by decide +kernel
theorem dX12_back_40 : decode cX12_back 40 = .ok (.sipush 5475, 3) := by decide +kernel
theorem dX12_back_43 : decode cX12_back 43 = .ok (.if_icmp .ge 27, 3) := by decide +kernel
theorem dX12_back_46 : decode cX12_back 46 = .ok (.aload_n 0, 1) := by decide +kernel
theorem dX12_back_47 : decode cX12_back 47 = .ok (.getfield 13, 3) := by decide +kernel
theorem dX12_back_50 : decode cX12_back 50 = .ok (.iload_n 2, 1) := by decide +kernel
theorem dX12_back_51 : decode cX12_back 51 = .ok (.aload_n 0, 1) := by decide +kernel
theorem dX12_back_52 : decode cX12_back 52 = .ok (.getfield 16, 3) := by decide +kernel
theorem dX12_back_55 : decode cX12_back 55 = .ok (.sipush 5475, 3) := by decide +kernel
theorem dX12_back_58 : decode cX12_back 58 = .ok (.iload_n 1, 1) := by decide +kernel
theorem dX12_back_59 : decode cX12_back 59 = .ok (.imul, 1) := by decide +kernel
theorem dX12_back_60 : decode cX12_back 60 = .ok (.iload_n 2, 1) := by decide +kernel
theorem dX12_back_61 : decode cX12_back 61 = .ok (.iadd, 1) := by decide +kernel
theorem dX12_back_62 : decode cX12_back 62 = .ok (.iaload, 1) := by decide +kernel
theorem dX12_back_63 : decode cX12_back 63 = .ok (.iastore, 1) := by decide +kernel
theorem dX12_back_64 : decode cX12_back 64 = .ok (.iinc 2 1, 3) := by decide +kernel
theorem dX12_back_67 : decode cX12_back 67 = .ok (.goto (-28), 3) := by decide +kernel
theorem dX12_back_70 : decode cX12_back 70 = .ok (.aload_n 0, 1) := by decide +kernel
theorem dX12_back_71 : decode cX12_back 71 = .ok (.iconst 0, 1) := by decide +kernel
theorem dX12_back_72 : decode cX12_back 72 = .ok (.invokevirtual 177, 3) := by decide +kernel
theorem dX12_back_75 : decode cX12_back 75 = .ok (.ireturn, 1) := by decide +kernel
theorem dX12_isBuilder_0 : decode cX12_isBuilder 0 = .ok (.iload_n 1, 1) := by decide +kernel
theorem dX12_isBuilder_1 : decode cX12_isBuilder 1 = .ok (.i2l, 1) := by decide +kernel
theorem dX12_isBuilder_2 : decode cX12_isBuilder 2 = .ok (.lconst 0, 1) := by decide +kernel
theorem dX12_isBuilder_3 : decode cX12_isBuilder 3 = .ok (.aload_n 0, 1) := by decide +kernel
theorem dX12_isBuilder_4 : decode cX12_isBuilder 4 = .ok (.getfield 13, 3) := by decide +kernel
theorem dX12_isBuilder_7 : decode cX12_isBuilder 7 = .ok (.iconst 0, 1) := by decide +kernel
theorem dX12_isBuilder_8 : decode cX12_isBuilder 8 = .ok (.iaload, 1) := by decide +kernel
theorem dX12_isBuilder_9 : decode cX12_isBuilder 9 = .ok (.i2l, 1) := by decide +kernel
theorem dX12_isBuilder_10 : decode cX12_isBuilder 10 = .ok (.lconst 1, 1) := by decide +kernel
theorem dX12_isBuilder_11 : decode cX12_isBuilder 11 = .ok (.lsub, 1) := by decide +kernel
theorem dX12_isBuilder_12 : decode cX12_isBuilder 12 = .ok (.invokestatic 173, 3) := by decide +kernel
theorem dX12_isBuilder_15 : decode cX12_isBuilder 15 = .ok (.ireturn, 1) := by decide +kernel
theorem dX12_isPlot_0 : decode cX12_isPlot 0 = .ok (.iload_n 0, 1) := by decide +kernel
theorem dX12_isPlot_1 : decode cX12_isPlot 1 = .ok (.i2l, 1) := by decide +kernel
theorem dX12_isPlot_2 : decode cX12_isPlot 2 = .ok (.lconst 0, 1) := by decide +kernel
theorem dX12_isPlot_3 : decode cX12_isPlot 3 = .ok (.ldc2_w 180, 3) := by decide +kernel
theorem dX12_isPlot_6 : decode cX12_isPlot 6 = .ok (.invokestatic 173, 3) := by decide +kernel
theorem dX12_isPlot_9 : decode cX12_isPlot 9 = .ok (.ireturn, 1) := by decide +kernel
theorem dX12_isAlive_0 : decode cX12_isAlive 0 = .ok (.aload_n 0, 1) := by decide +kernel
theorem dX12_isAlive_1 : decode cX12_isAlive 1 = .ok (.getfield 13, 3) := by decide +kernel
theorem dX12_isAlive_4 : decode cX12_isAlive 4 = .ok (.bipush 45, 2) := by decide +kernel
theorem dX12_isAlive_6 : decode cX12_isAlive 6 = .ok (.iload_n 1, 1) := by decide +kernel
theorem dX12_isAlive_7 : decode cX12_isAlive 7 = .ok (.iadd, 1) := by decide +kernel
theorem dX12_isAlive_8 : decode cX12_isAlive 8 = .ok (.iaload, 1) := by decide +kernel
theorem dX12_isAlive_9 : decode cX12_isAlive 9 = .ok (.iconst 1, 1) := by decide +kernel
theorem dX12_isAlive_10 : decode cX12_isAlive 10 = .ok (.if_icmp .ne 7, 3) := by decide +kernel
theorem dX12_isAlive_13 : decode cX12_isAlive 13 = .ok (.iconst 1, 1) := by decide +kernel
theorem dX12_isAlive_14 : decode cX12_isAlive 14 = .ok (.goto 4, 3) := by decide +kernel
theorem dX12_isAlive_17 : decode cX12_isAlive 17 = .ok (.iconst 0, 1) := by decide +kernel
theorem dX12_isAlive_18 : decode cX12_isAlive 18 = .ok (.ireturn, 1) := by decide +kernel
theorem dX12_onPlot_0 : decode cX12_onPlot 0 = .ok (.iconst (-1), 1) := by decide +kernel
theorem dX12_onPlot_1 : decode cX12_onPlot 1 = .ok (.istore_n 2, 1) := by decide +kernel
theorem dX12_onPlot_2 : decode cX12_onPlot 2 = .ok (.iconst 0, 1) := by decide +kernel
theorem dX12_onPlot_3 : decode cX12_onPlot 3 = .ok (.istore_n 3, 1) := by decide +kernel
theorem dX12_onPlot_4 : decode cX12_onPlot 4 = .ok (.iload_n 3, 1) := by decide +kernel
theorem dX12_onPlot_5 : decode cX12_onPlot 5 = .ok (.aload_n 0, 1) := by decide +kernel
theorem dX12_onPlot_6 : decode cX12_onPlot 6 = .ok (.getfield 13, 3) := by decide +kernel
theorem dX12_onPlot_9 : decode cX12_onPlot 9 = .ok (.iconst 0, 1) := by decide +kernel
theorem dX12_onPlot_10 : decode cX12_onPlot 10 = .ok (.iaload, 1) := by decide +kernel
theorem dX12_onPlot_11 : decode cX12_onPlot 11 = .ok (.if_icmp .ge 28, 3) := by decide +kernel
theorem dX12_onPlot_14 : decode cX12_onPlot 14 = .ok (.aload_n 0, 1) := by decide +kernel
theorem dX12_onPlot_15 : decode cX12_onPlot 15 = .ok (.getfield 13, 3) := by decide +kernel
theorem dX12_onPlot_18 : decode cX12_onPlot 18 = .ok (.bipush 51, 2) := by decide +kernel
theorem dX12_onPlot_20 : decode cX12_onPlot 20 = .ok (.iload_n 3, 1) := by decide +kernel
theorem dX12_onPlot_21 : decode cX12_onPlot 21 = .ok (.iadd, 1) := by decide +kernel
theorem dX12_onPlot_22 : decode cX12_onPlot 22 = .ok (.iaload, 1) := by decide +kernel
theorem dX12_onPlot_23 : decode cX12_onPlot 23 = .ok (.iload_n 1, 1) := by decide +kernel
theorem dX12_onPlot_24 : decode cX12_onPlot 24 = .ok (.if_icmp .ne 7, 3) := by decide +kernel
theorem dX12_onPlot_27 : decode cX12_onPlot 27 = .ok (.iload_n 3, 1) := by decide +kernel
theorem dX12_onPlot_28 : decode cX12_onPlot 28 = .ok (.goto 4, 3) := by decide +kernel
theorem dX12_onPlot_31 : decode cX12_onPlot 31 = .ok (.iload_n 2, 1) := by decide +kernel
theorem dX12_onPlot_32 : decode cX12_onPlot 32 = .ok (.istore_n 2, 1) := by decide +kernel
theorem dX12_onPlot_33 : decode cX12_onPlot 33 = .ok (.iinc 3 1, 3) := by decide +kernel
theorem dX12_onPlot_36 : decode cX12_onPlot 36 = .ok (.goto (-32), 3) := by decide +kernel
theorem dX12_onPlot_39 : decode cX12_onPlot 39 = .ok (.iload_n 2, 1) := by decide +kernel
theorem dX12_onPlot_40 : decode cX12_onPlot 40 = .ok (.ireturn, 1) := by decide +kernel
theorem dX12_freeOnes_0 : decode cX12_freeOnes 0 = .ok (.iconst 0, 1) := by decide +kernel
theorem dX12_freeOnes_1 : decode cX12_freeOnes 1 = .ok (.istore_n 1, 1) := by decide +kernel
theorem dX12_freeOnes_2 : decode cX12_freeOnes 2 = .ok (.iconst 0, 1) := by decide +kernel
theorem dX12_freeOnes_3 : decode cX12_freeOnes 3 = .ok (.istore_n 2, 1) := by decide +kernel
theorem dX12_freeOnes_4 : decode cX12_freeOnes 4 = .ok (.iload_n 2, 1) := by decide +kernel
theorem dX12_freeOnes_5 : decode cX12_freeOnes 5 = .ok (.aload_n 0, 1) := by decide +kernel
theorem dX12_freeOnes_6 : decode cX12_freeOnes 6 = .ok (.getfield 13, 3) := by decide +kernel
theorem dX12_freeOnes_9 : decode cX12_freeOnes 9 = .ok (.iconst 0, 1) := by decide +kernel
theorem dX12_freeOnes_10 : decode cX12_freeOnes 10 = .ok (.iaload, 1) := by decide +kernel
theorem dX12_freeOnes_11 : decode cX12_freeOnes 11 = .ok (.if_icmp .ge 38, 3) := by decide +kernel
theorem dX12_freeOnes_14 : decode cX12_freeOnes 14 = .ok (.iload_n 1, 1) := by decide +kernel
theorem dX12_freeOnes_15 : decode cX12_freeOnes 15 = .ok (.aload_n 0, 1) := by decide +kernel
theorem dX12_freeOnes_16 : decode cX12_freeOnes 16 = .ok (.iload_n 2, 1) := by decide +kernel
theorem dX12_freeOnes_17 : decode cX12_freeOnes 17 = .ok (.invokevirtual 182, 3) := by decide +kernel
theorem dX12_freeOnes_20 : decode cX12_freeOnes 20 = .ok (.ifCond .eq 20, 3) := by decide +kernel
theorem dX12_freeOnes_23 : decode cX12_freeOnes 23 = .ok (.aload_n 0, 1) := by decide +kernel
theorem dX12_freeOnes_24 : decode cX12_freeOnes 24 = .ok (.getfield 13, 3) := by decide +kernel
theorem dX12_freeOnes_27 : decode cX12_freeOnes 27 = .ok (.bipush 51, 2) := by decide +kernel
theorem dX12_freeOnes_29 : decode cX12_freeOnes 29 = .ok (.iload_n 2, 1) := by decide +kernel
theorem dX12_freeOnes_30 : decode cX12_freeOnes 30 = .ok (.iadd, 1) := by decide +kernel
theorem dX12_freeOnes_31 : decode cX12_freeOnes 31 = .ok (.iaload, 1) := by decide +kernel
theorem dX12_freeOnes_32 : decode cX12_freeOnes 32 = .ok (.iconst (-1), 1) := by decide +kernel
theorem dX12_freeOnes_33 : decode cX12_freeOnes 33 = .ok (.if_icmp .ne 7, 3) := by decide +kernel
theorem dX12_freeOnes_36 : decode cX12_freeOnes 36 = .ok (.iconst 1, 1) := by decide +kernel
theorem dX12_freeOnes_37 : decode cX12_freeOnes 37 = .ok (.goto 4, 3) := by decide +kernel
theorem dX12_freeOnes_40 : decode cX12_freeOnes 40 = .ok (.iconst 0, 1) := by decide +kernel
theorem dX12_freeOnes_41 : decode cX12_freeOnes 41 = .ok (.iadd, 1) := by decide +kernel
theorem dX12_freeOnes_42 : decode cX12_freeOnes 42 = .ok (.istore_n 1, 1) := by decide +kernel
theorem dX12_freeOnes_43 : decode cX12_freeOnes 43 = .ok (.iinc 2 1, 3) := by decide +kernel
theorem dX12_freeOnes_46 : decode cX12_freeOnes 46 = .ok (.goto (-42), 3) := by decide +kernel
theorem dX12_freeOnes_49 : decode cX12_freeOnes 49 = .ok (.iload_n 1, 1) := by decide +kernel
theorem dX12_freeOnes_50 : decode cX12_freeOnes 50 = .ok (.ireturn, 1) := by decide +kernel
theorem dX12_leftBits_0 : decode cX12_leftBits 0 = .ok (.iconst 0, 1) := by decide +kernel
theorem dX12_leftBits_1 : decode cX12_leftBits 1 = .ok (.istore_n 1, 1) := by decide +kernel
theorem dX12_leftBits_2 : decode cX12_leftBits 2 = .ok (.iconst 0, 1) := by decide +kernel
theorem dX12_leftBits_3 : decode cX12_leftBits 3 = .ok (.istore_n 2, 1) := by decide +kernel
theorem dX12_leftBits_4 : decode cX12_leftBits 4 = .ok (.iload_n 2, 1) := by decide +kernel
theorem dX12_leftBits_5 : decode cX12_leftBits 5 = .ok (.bipush 16, 2) := by decide +kernel
theorem dX12_leftBits_7 : decode cX12_leftBits 7 = .ok (.if_icmp .ge 23, 3) := by decide +kernel
theorem dX12_leftBits_10 : decode cX12_leftBits 10 = .ok (.iload_n 1, 1) := by decide +kernel
theorem dX12_leftBits_11 : decode cX12_leftBits 11 = .ok (.aload_n 0, 1) := by decide +kernel
theorem dX12_leftBits_12 : decode cX12_leftBits 12 = .ok (.getfield 13, 3) := by decide +kernel
theorem dX12_leftBits_15 : decode cX12_leftBits 15 = .ok (.bipush 23, 2) := by decide +kernel
theorem dX12_leftBits_17 : decode cX12_leftBits 17 = .ok (.iload_n 2, 1) := by decide +kernel
theorem dX12_leftBits_18 : decode cX12_leftBits 18 = .ok (.iadd, 1) := by decide +kernel
theorem dX12_leftBits_19 : decode cX12_leftBits 19 = .ok (.iaload, 1) := by decide +kernel
theorem dX12_leftBits_20 : decode cX12_leftBits 20 = .ok (.iload_n 2, 1) := by decide +kernel
theorem dX12_leftBits_21 : decode cX12_leftBits 21 = .ok (.ishl, 1) := by decide +kernel
theorem dX12_leftBits_22 : decode cX12_leftBits 22 = .ok (.ior, 1) := by decide +kernel
theorem dX12_leftBits_23 : decode cX12_leftBits 23 = .ok (.istore_n 1, 1) := by decide +kernel
theorem dX12_leftBits_24 : decode cX12_leftBits 24 = .ok (.iinc 2 1, 3) := by decide +kernel
theorem dX12_leftBits_27 : decode cX12_leftBits 27 = .ok (.goto (-23), 3) := by decide +kernel
theorem dX12_leftBits_30 : decode cX12_leftBits 30 = .ok (.iload_n 1, 1) := by decide +kernel
theorem dX12_leftBits_31 : decode cX12_leftBits 31 = .ok (.ireturn, 1) := by decide +kernel
theorem dX12_many_0 : decode cX12_many 0 = .ok (.iconst 0, 1) := by decide +kernel
theorem dX12_many_1 : decode cX12_many 1 = .ok (.istore_n 1, 1) := by decide +kernel
theorem dX12_many_2 : decode cX12_many 2 = .ok (.iconst 0, 1) := by decide +kernel
theorem dX12_many_3 : decode cX12_many 3 = .ok (.istore_n 2, 1) := by decide +kernel
theorem dX12_many_4 : decode cX12_many 4 = .ok (.iload_n 2, 1) := by decide +kernel
theorem dX12_many_5 : decode cX12_many 5 = .ok (.bipush 16, 2) := by decide +kernel
theorem dX12_many_7 : decode cX12_many 7 = .ok (.if_icmp .ge 17, 3) := by decide +kernel
theorem dX12_many_10 : decode cX12_many 10 = .ok (.iload_n 1, 1) := by decide +kernel
theorem dX12_many_11 : decode cX12_many 11 = .ok (.iload_n 0, 1) := by decide +kernel
theorem dX12_many_12 : decode cX12_many 12 = .ok (.iload_n 2, 1) := by decide +kernel
theorem dX12_many_13 : decode cX12_many 13 = .ok (.ishr, 1) := by decide +kernel
theorem dX12_many_14 : decode cX12_many 14 = .ok (.iconst 1, 1) := by decide +kernel
theorem dX12_many_15 : decode cX12_many 15 = .ok (.iand, 1) := by decide +kernel
theorem dX12_many_16 : decode cX12_many 16 = .ok (.iadd, 1) := by decide +kernel
theorem dX12_many_17 : decode cX12_many 17 = .ok (.istore_n 1, 1) := by decide +kernel
theorem dX12_many_18 : decode cX12_many 18 = .ok (.iinc 2 1, 3) := by decide +kernel
theorem dX12_many_21 : decode cX12_many 21 = .ok (.goto (-17), 3) := by decide +kernel
theorem dX12_many_24 : decode cX12_many 24 = .ok (.iload_n 1, 1) := by decide +kernel
theorem dX12_many_25 : decode cX12_many 25 = .ok (.ireturn, 1) := by decide +kernel
theorem dX12_comes_0 : decode cX12_comes 0 = .ok (.iload_n 1, 1) := by decide +kernel
theorem dX12_comes_1 : decode cX12_comes 1 = .ok (.i2l, 1) := by decide +kernel
theorem dX12_comes_2 : decode cX12_comes 2 = .ok (.ldc2_w 186, 3) := by decide +kernel
theorem dX12_comes_5 : decode cX12_comes 5 = .ok (.ldc2_w 188, 3) := by decide +kernel
theorem dX12_comes_8 : decode cX12_comes 8 = .ok (.invokestatic 173, 3) := by decide +kernel
theorem dX12_comes_11 : decode cX12_comes 11 = .ok (.ifCond .eq 15, 3) := by decide +kernel
theorem dX12_comes_14 : decode cX12_comes 14 = .ok (.iload_n 2, 1) := by decide +kernel
theorem dX12_comes_15 : decode cX12_comes 15 = .ok (.i2l, 1) := by decide +kernel
theorem dX12_comes_16 : decode cX12_comes 16 = .ok (.lconst 1, 1) := by decide +kernel
theorem dX12_comes_17 : decode cX12_comes 17 = .ok (.ldc2_w 190, 3) := by decide +kernel
theorem dX12_comes_20 : decode cX12_comes 20 = .ok (.invokestatic 173, 3) := by decide +kernel
theorem dX12_comes_23 : decode cX12_comes 23 = .ok (.ifCond .ne 5, 3) := by decide +kernel
theorem dX12_comes_26 : decode cX12_comes 26 = .ok (.iconst (-1), 1) := by decide +kernel
theorem dX12_comes_27 : decode cX12_comes 27 = .ok (.ireturn, 1) := by decide +kernel
theorem dX12_comes_28 : decode cX12_comes 28 = .ok (.aload_n 0, 1) := by decide +kernel
theorem dX12_comes_29 : decode cX12_comes 29 = .ok (.getfield 13, 3) := by decide +kernel
theorem dX12_comes_32 : decode cX12_comes 32 = .ok (.iconst 0, 1) := by decide +kernel
theorem dX12_comes_33 : decode cX12_comes 33 = .ok (.iaload, 1) := by decide +kernel
theorem dX12_comes_34 : decode cX12_comes 34 = .ok (.istore_n 3, 1) := by decide +kernel
theorem dX12_comes_35 : decode cX12_comes 35 = .ok (.iload_n 3, 1) := by decide +kernel
theorem dX12_comes_36 : decode cX12_comes 36 = .ok (.bipush 6, 2) := by decide +kernel
theorem dX12_comes_38 : decode cX12_comes 38 = .ok (.if_icmp .ne 6, 3) := by decide +kernel
theorem dX12_comes_41 : decode cX12_comes 41 = .ok (.bipush (-5), 2) := by decide +kernel
theorem dX12_comes_43 : decode cX12_comes 43 = .ok (.ireturn, 1) := by decide +kernel
theorem dX12_comes_44 : decode cX12_comes 44 = .ok (.aload_n 0, 1) := by decide +kernel
theorem dX12_comes_45 : decode cX12_comes 45 = .ok (.getfield 13, 3) := by decide +kernel
theorem dX12_comes_48 : decode cX12_comes 48 = .ok (.bipush 39, 2) := by decide +kernel
theorem dX12_comes_50 : decode cX12_comes 50 = .ok (.iload_n 3, 1) := by decide +kernel
theorem dX12_comes_51 : decode cX12_comes 51 = .ok (.iadd, 1) := by decide +kernel
theorem dX12_comes_52 : decode cX12_comes 52 = .ok (.iload_n 1, 1) := by decide +kernel
theorem dX12_comes_53 : decode cX12_comes 53 = .ok (.iastore, 1) := by decide +kernel
theorem dX12_comes_54 : decode cX12_comes 54 = .ok (.aload_n 0, 1) := by decide +kernel
theorem dX12_comes_55 : decode cX12_comes 55 = .ok (.getfield 13, 3) := by decide +kernel
theorem dX12_comes_58 : decode cX12_comes 58 = .ok (.bipush 57, 2) := by decide +kernel
theorem dX12_comes_60 : decode cX12_comes 60 = .ok (.iload_n 3, 1) := by decide +kernel
theorem dX12_comes_61 : decode cX12_comes 61 = .ok (.iadd, 1) := by decide +kernel
theorem dX12_comes_62 : decode cX12_comes 62 = .ok (.iload_n 2, 1) := by decide +kernel
theorem dX12_comes_63 : decode cX12_comes 63 = .ok (.iastore, 1) := by decide +kernel
theorem dX12_comes_64 : decode cX12_comes 64 = .ok (.aload_n 0, 1) := by decide +kernel
theorem dX12_comes_65 : decode cX12_comes 65 = .ok (.getfield 13, 3) := by decide +kernel
theorem dX12_comes_68 : decode cX12_comes 68 = .ok (.bipush 45, 2) := by decide +kernel
theorem dX12_comes_70 : decode cX12_comes 70 = .ok (.iload_n 3, 1) := by decide +kernel
theorem dX12_comes_71 : decode cX12_comes 71 = .ok (.iadd, 1) := by decide +kernel
theorem dX12_comes_72 : decode cX12_comes 72 = .ok (.iconst 1, 1) := by decide +kernel
theorem dX12_comes_73 : decode cX12_comes 73 = .ok (.iastore, 1) := by decide +kernel
theorem dX12_comes_74 : decode cX12_comes 74 = .ok (.aload_n 0, 1) := by decide +kernel
theorem dX12_comes_75 : decode cX12_comes 75 = .ok (.getfield 13, 3) := by decide +kernel
theorem dX12_comes_78 : decode cX12_comes 78 = .ok (.bipush 51, 2) := by decide +kernel
theorem dX12_comes_80 : decode cX12_comes 80 = .ok (.iload_n 3, 1) := by decide +kernel
theorem dX12_comes_81 : decode cX12_comes 81 = .ok (.iadd, 1) := by decide +kernel
theorem dX12_comes_82 : decode cX12_comes 82 = .ok (.iconst (-1), 1) := by decide +kernel
theorem dX12_comes_83 : decode cX12_comes 83 = .ok (.iastore, 1) := by decide +kernel
theorem dX12_comes_84 : decode cX12_comes 84 = .ok (.aload_n 0, 1) := by decide +kernel
theorem dX12_comes_85 : decode cX12_comes 85 = .ok (.getfield 13, 3) := by decide +kernel
theorem dX12_comes_88 : decode cX12_comes 88 = .ok (.iconst 0, 1) := by decide +kernel
theorem dX12_comes_89 : decode cX12_comes 89 = .ok (.dup2, 1) := by decide +kernel
theorem dX12_comes_90 : decode cX12_comes 90 = .ok (.iaload, 1) := by decide +kernel
theorem dX12_comes_91 : decode cX12_comes 91 = .ok (.iconst 1, 1) := by decide +kernel
theorem dX12_comes_92 : decode cX12_comes 92 = .ok (.iadd, 1) := by decide +kernel
theorem dX12_comes_93 : decode cX12_comes 93 = .ok (.iastore, 1) := by decide +kernel
theorem dX12_comes_94 : decode cX12_comes 94 = .ok (.iload_n 3, 1) := by decide +kernel
theorem dX12_comes_95 : decode cX12_comes 95 = .ok (.ireturn, 1) := by decide +kernel
theorem dX12_builder_0 : decode cX12_builder 0 = .ok (.aload_n 0, 1) := by decide +kernel
theorem dX12_builder_1 : decode cX12_builder 1 = .ok (.iconst 0, 1) := by decide +kernel
theorem dX12_builder_2 : decode cX12_builder 2 = .ok (.putfield 153, 3) := by decide +kernel
theorem dX12_builder_5 : decode cX12_builder 5 = .ok (.aload_n 0, 1) := by decide +kernel
theorem dX12_builder_6 : decode cX12_builder 6 = .ok (.aload_n 0, 1) := by decide +kernel
theorem dX12_builder_7 : decode cX12_builder 7 = .ok (.iload_n 1, 1) := by decide +kernel
theorem dX12_builder_8 : decode cX12_builder 8 = .ok (.iload_n 2, 1) := by decide +kernel
theorem dX12_builder_9 : decode cX12_builder 9 = .ok (.invokevirtual 192, 3) := by decide +kernel
theorem dX12_builder_12 : decode cX12_builder 12 = .ok (.invokevirtual 177, 3) := by decide +kernel
theorem dX12_builder_15 : decode cX12_builder 15 = .ok (.ireturn, 1) := by decide +kernel
theorem dX12_of_0 : decode cX12_of 0 = .ok (.aload_n 0, 1) := by decide +kernel
theorem dX12_of_1 : decode cX12_of 1 = .ok (.iconst 0, 1) := by decide +kernel
theorem dX12_of_2 : decode cX12_of 2 = .ok (.putfield 153, 3) := by decide +kernel
theorem dX12_of_5 : decode cX12_of 5 = .ok (.aload_n 0, 1) := by decide +kernel
theorem dX12_of_6 : decode cX12_of 6 = .ok (.iload_n 1, 1) := by decide +kernel
theorem dX12_of_7 : decode cX12_of 7 = .ok (.invokevirtual 196, 3) := by decide +kernel
theorem dX12_of_10 : decode cX12_of 10 = .ok (.ifCond .ne 5, 3) := by decide +kernel
theorem dX12_of_13 : decode cX12_of 13 = .ok (.iconst (-1), 1) := by decide +kernel
theorem dX12_of_14 : decode cX12_of 14 = .ok (.ireturn, 1) := by decide +kernel
theorem dX12_of_15 : decode cX12_of 15 = .ok (.iload_n 2, 1) := by decide +kernel
theorem dX12_of_16 : decode cX12_of 16 = .ok (.tableswitch 92 0 5 #[40, 50, 60, 70, 80, 86], 40) := by decide +kernel
theorem dX12_of_56 : decode cX12_of 56 = .ok (.aload_n 0, 1) := by decide +kernel
theorem dX12_of_57 : decode cX12_of 57 = .ok (.getfield 13, 3) := by decide +kernel
theorem dX12_of_60 : decode cX12_of 60 = .ok (.bipush 39, 2) := by decide +kernel
