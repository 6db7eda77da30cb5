theorem dX0_init_0 : decode cX0_init 0 = .ok (.aload_n 0, 1) := by decide +kernel
theorem dX0_init_1 : decode cX0_init 1 = .ok (.invokespecial 3, 3) := by decide +kernel
theorem dX0_init_4 : decode cX0_init 4 = .ok (.aload_n 0, 1) := by decide +kernel
theorem dX0_init_5 : decode cX0_init 5 = .ok (.iconst 4, 1) := by decide +kernel
theorem dX0_init_6 : decode cX0_init 6 = .ok (.putfield 9, 3) := by decide +kernel
theorem dX0_init_9 : decode cX0_init 9 = .ok (.aload_n 0, 1) := by decide +kernel
theorem dX0_init_10 : decode cX0_init 10 = .ok (.iconst 0, 1) := by decide +kernel
theorem dX0_init_11 : decode cX0_init 11 = .ok (.putfield 15, 3) := by decide +kernel
theorem dX0_init_14 : decode cX0_init 14 = .ok (.return_, 1) := by decide +kernel
theorem dX0_change_0 : decode cX0_change 0 = .ok (.aload_n 0, 1) := by decide +kernel
theorem dX0_change_1 : decode cX0_change 1 = .ok (.iload_n 1, 1) := by decide +kernel
theorem dX0_change_2 : decode cX0_change 2 = .ok (.putfield 9, 3) := by decide +kernel
theorem dX0_change_5 : decode cX0_change 5 = .ok (.aload_n 0, 1) := by decide +kernel
theorem dX0_change_6 : decode cX0_change 6 = .ok (.iload_n 2, 1) := by decide +kernel
theorem dX0_change_7 : decode cX0_change 7 = .ok (.putfield 15, 3) := by decide +kernel
theorem dX0_change_10 : decode cX0_change 10 = .ok (.return_, 1) := by decide +kernel
theorem dX0_numberAt_0 : decode cX0_numberAt 0 = .ok (.iload_n 1, 1) := by decide +kernel
theorem dX0_numberAt_1 : decode cX0_numberAt 1 = .ok (.aload_n 0, 1) := by decide +kernel
theorem dX0_numberAt_2 : decode cX0_numberAt 2 = .ok (.getfield 15, 3) := by decide +kernel
theorem dX0_numberAt_5 : decode cX0_numberAt 5 = .ok (.if_icmp .lt 10, 3) := by decide +kernel
theorem dX0_numberAt_8 : decode cX0_numberAt 8 = .ok (.aload_n 0, 1) := by decide +kernel
theorem dX0_numberAt_9 : decode cX0_numberAt 9 = .ok (.getfield 9, 3) := by decide +kernel
theorem dX0_numberAt_12 : decode cX0_numberAt 12 = .ok (.ifCond .gt 5, 3) := by decide +kernel
theorem dX0_numberAt_15 : decode cX0_numberAt 15 = .ok (.iconst 0, 1) := by decide +kernel
theorem dX0_numberAt_16 : decode cX0_numberAt 16 = .ok (.ireturn, 1) := by decide +kernel
theorem dX0_numberAt_17 : decode cX0_numberAt 17 = .ok (.iconst 1, 1) := by decide +kernel
theorem dX0_numberAt_18 : decode cX0_numberAt 18 = .ok (.iload_n 1, 1) := by decide +kernel
theorem dX0_numberAt_19 : decode cX0_numberAt 19 = .ok (.aload_n 0, 1) := by decide +kernel
theorem dX0_numberAt_20 : decode cX0_numberAt 20 = .ok (.getfield 15, 3) := by decide +kernel
theorem dX0_numberAt_23 : decode cX0_numberAt 23 = .ok (.isub, 1) := by decide +kernel
theorem dX0_numberAt_24 : decode cX0_numberAt 24 = .ok (.aload_n 0, 1) := by decide +kernel
theorem dX0_numberAt_25 : decode cX0_numberAt 25 = .ok (.getfield 9, 3) := by decide +kernel
theorem dX0_numberAt_28 : decode cX0_numberAt 28 = .ok (.idiv, 1) := by decide +kernel
theorem dX0_numberAt_29 : decode cX0_numberAt 29 = .ok (.iadd, 1) := by decide +kernel
theorem dX0_numberAt_30 : decode cX0_numberAt 30 = .ok (.ireturn, 1) := by decide +kernel
theorem dX0_unitsBefore_0 : decode cX0_unitsBefore 0 = .ok (.iload_n 1, 1) := by decide +kernel
theorem dX0_unitsBefore_1 : decode cX0_unitsBefore 1 = .ok (.aload_n 0, 1) := by decide +kernel
theorem dX0_unitsBefore_2 : decode cX0_unitsBefore 2 = .ok (.getfield 15, 3) := by decide +kernel
theorem dX0_unitsBefore_5 : decode cX0_unitsBefore 5 = .ok (.if_icmp .lt 10, 3) := by decide +kernel
theorem dX0_unitsBefore_8 : decode cX0_unitsBefore 8 = .ok (.aload_n 0, 1) := by decide +kernel
theorem dX0_unitsBefore_9 : decode cX0_unitsBefore 9 = .ok (.getfield 9, 3) := by decide +kernel
theorem dX0_unitsBefore_12 : decode cX0_unitsBefore 12 = .ok (.ifCond .gt 5, 3) := by decide +kernel
theorem dX0_unitsBefore_15 : decode cX0_unitsBefore 15 = .ok (.iload_n 1, 1) := by decide +kernel
theorem dX0_unitsBefore_16 : decode cX0_unitsBefore 16 = .ok (.ireturn, 1) := by decide +kernel
theorem dX0_unitsBefore_17 : decode cX0_unitsBefore 17 = .ok (.iload_n 1, 1) := by decide +kernel
theorem dX0_unitsBefore_18 : decode cX0_unitsBefore 18 = .ok (.aload_n 0, 1) := by decide +kernel
theorem dX0_unitsBefore_19 : decode cX0_unitsBefore 19 = .ok (.getfield 15, 3) := by decide +kernel
theorem dX0_unitsBefore_22 : decode cX0_unitsBefore 22 = .ok (.isub, 1) := by decide +kernel
theorem dX0_unitsBefore_23 : decode cX0_unitsBefore 23 = .ok (.aload_n 0, 1) := by decide +kernel
theorem dX0_unitsBefore_24 : decode cX0_unitsBefore 24 = .ok (.getfield 9, 3) := by decide +kernel
theorem dX0_unitsBefore_27 : decode cX0_unitsBefore 27 = .ok (.irem, 1) := by decide +kernel
theorem dX0_unitsBefore_28 : decode cX0_unitsBefore 28 = .ok (.ireturn, 1) := by decide +kernel
theorem dX0_unitsFrom_0 : decode cX0_unitsFrom 0 = .ok (.iload_n 1, 1) := by decide +kernel
theorem dX0_unitsFrom_1 : decode cX0_unitsFrom 1 = .ok (.aload_n 0, 1) := by decide +kernel
theorem dX0_unitsFrom_2 : decode cX0_unitsFrom 2 = .ok (.getfield 15, 3) := by decide +kernel
theorem dX0_unitsFrom_5 : decode cX0_unitsFrom 5 = .ok (.if_icmp .ge 10, 3) := by decide +kernel
theorem dX0_unitsFrom_8 : decode cX0_unitsFrom 8 = .ok (.aload_n 0, 1) := by decide +kernel
theorem dX0_unitsFrom_9 : decode cX0_unitsFrom 9 = .ok (.getfield 15, 3) := by decide +kernel
theorem dX0_unitsFrom_12 : decode cX0_unitsFrom 12 = .ok (.goto 7, 3) := by decide +kernel
theorem dX0_unitsFrom_15 : decode cX0_unitsFrom 15 = .ok (.aload_n 0, 1) := by decide +kernel
theorem dX0_unitsFrom_16 : decode cX0_unitsFrom 16 = .ok (.getfield 9, 3) := by decide +kernel
theorem dX0_unitsFrom_19 : decode cX0_unitsFrom 19 = .ok (.aload_n 0, 1) := by decide +kernel
theorem dX0_unitsFrom_20 : decode cX0_unitsFrom 20 = .ok (.iload_n 1, 1) := by decide +kernel
theorem dX0_unitsFrom_21 : decode cX0_unitsFrom 21 = .ok (.invokevirtual 18, 3) := by decide +kernel
theorem dX0_unitsFrom_24 : decode cX0_unitsFrom 24 = .ok (.isub, 1) := by decide +kernel
theorem dX0_unitsFrom_25 : decode cX0_unitsFrom 25 = .ok (.ireturn, 1) := by decide +kernel
theorem dX0_divide_0 : decode cX0_divide 0 = .ok (.aload_n 0, 1) := by decide +kernel
theorem dX0_divide_1 : decode cX0_divide 1 = .ok (.getfield 9, 3) := by decide +kernel
theorem dX0_divide_4 : decode cX0_divide 4 = .ok (.ifCond .le 16, 3) := by decide +kernel
theorem dX0_divide_7 : decode cX0_divide 7 = .ok (.iload_n 1, 1) := by decide +kernel
theorem dX0_divide_8 : decode cX0_divide 8 = .ok (.aload_n 0, 1) := by decide +kernel
theorem dX0_divide_9 : decode cX0_divide 9 = .ok (.getfield 9, 3) := by decide +kernel
theorem dX0_divide_12 : decode cX0_divide 12 = .ok (.irem, 1) := by decide +kernel
theorem dX0_divide_13 : decode cX0_divide 13 = .ok (.ifCond .ne 7, 3) := by decide +kernel
theorem dX0_divide_16 : decode cX0_divide 16 = .ok (.iconst 1, 1) := by decide +kernel
theorem dX0_divide_17 : decode cX0_divide 17 = .ok (.goto 4, 3) := by decide +kernel
theorem dX0_divide_20 : decode cX0_divide 20 = .ok (.iconst 0, 1) := by decide +kernel
theorem dX0_divide_21 : decode cX0_divide 21 = .ok (.ireturn, 1) := by decide +kernel
theorem dX1_init_0 : decode cX1_init 0 = .ok (.aload_n 0, 1) := by decide +kernel
theorem dX1_init_1 : decode cX1_init 1 = .ok (.invokespecial 3, 3) := by decide +kernel
theorem dX1_init_4 : decode cX1_init 4 = .ok (.aload_n 0, 1) := by decide +kernel
theorem dX1_init_5 : decode cX1_init 5 = .ok (.sipush 192, 3) := by decide +kernel
theorem dX1_init_8 : decode cX1_init 8 = .ok (.newarray .int, 2) := by decide +kernel
theorem dX1_init_10 : decode cX1_init 10 = .ok (.putfield 9, 3) := by decide +kernel
theorem dX1_init_13 : decode cX1_init 13 = .ok (.aload_n 0, 1) := by decide +kernel
theorem dX1_init_14 : decode cX1_init 14 = .ok (.bipush 8, 2) := by decide +kernel
theorem dX1_init_16 : decode cX1_init 16 = .ok (.newarray .int, 2) := by decide +kernel
theorem dX1_init_18 : decode cX1_init 18 = .ok (.putfield 15, 3) := by decide +kernel
theorem dX1_init_21 : decode cX1_init 21 = .ok (.aload_n 0, 1) := by decide +kernel
theorem dX1_init_22 : decode cX1_init 22 = .ok (.iconst 0, 1) := by decide +kernel
theorem dX1_init_23 : decode cX1_init 23 = .ok (.putfield 18, 3) := by decide +kernel
theorem dX1_init_26 : decode cX1_init 26 = .ok (.return_, 1) := by decide +kernel
theorem dX1_take_0 : decode cX1_take 0 = .ok (.aload_n 0, 1) := by decide +kernel
theorem dX1_take_1 : decode cX1_take 1 = .ok (.getfield 15, 3) := by decide +kernel
theorem dX1_take_4 : decode cX1_take 4 = .ok (.aload_n 0, 1) := by decide +kernel
theorem dX1_take_5 : decode cX1_take 5 = .ok (.getfield 18, 3) := by decide +kernel
theorem dX1_take_8 : decode cX1_take 8 = .ok (.iconst 0, 1) := by decide +kernel
theorem dX1_take_9 : decode cX1_take 9 = .ok (.invokestatic 22, 3) := by decide +kernel
theorem dX1_take_12 : decode cX1_take 12 = .ok (.iconst 0, 1) := by decide +kernel
theorem dX1_take_13 : decode cX1_take 13 = .ok (.istore_n 2, 1) := by decide +kernel
theorem dX1_take_14 : decode cX1_take 14 = .ok (.iconst 0, 1) := by decide +kernel
theorem dX1_take_15 : decode cX1_take 15 = .ok (.istore_n 3, 1) := by decide +kernel
theorem dX1_take_16 : decode cX1_take 16 = .ok (.iload_n 3, 1) := by decide +kernel
theorem dX1_take_17 : decode cX1_take 17 = .ok (.aload_n 1, 1) := by decide +kernel
theorem dX1_take_18 : decode cX1_take 18 = .ok (.getfield 26, 3) := by decide +kernel
theorem dX1_take_21 : decode cX1_take 21 = .ok (.if_icmp .ge 52, 3) := by decide +kernel
theorem dX1_take_24 : decode cX1_take 24 = .ok (.aload_n 1, 1) := by decide +kernel
theorem dX1_take_25 : decode cX1_take 25 = .ok (.iload_n 3, 1) := by decide +kernel
theorem dX1_take_26 : decode cX1_take 26 = .ok (.invokevirtual 29, 3) := by decide +kernel
theorem dX1_take_29 : decode cX1_take 29 = .ok (.istore 4, 2) := by decide +kernel
theorem dX1_take_31 : decode cX1_take 31 = .ok (.iload 4, 2) := by decide +kernel
theorem dX1_take_33 : decode cX1_take 33 = .ok (.invokestatic 33, 3) := by decide +kernel
theorem dX1_take_36 : decode cX1_take 36 = .ok (.ifCond .eq 17, 3) := by decide +kernel
theorem dX1_take_39 : decode cX1_take 39 = .ok (.bipush 10, 2) := by decide +kernel
theorem dX1_take_41 : decode cX1_take 41 = .ok (.iload_n 2, 1) := by decide +kernel
theorem dX1_take_42 : decode cX1_take 42 = .ok (.imul, 1) := by decide +kernel
theorem dX1_take_43 : decode cX1_take 43 = .ok (.iload 4, 2) := by decide +kernel
theorem dX1_take_45 : decode cX1_take 45 = .ok (.bipush 48, 2) := by decide +kernel
theorem dX1_take_47 : decode cX1_take 47 = .ok (.isub, 1) := by decide +kernel
theorem dX1_take_48 : decode cX1_take 48 = .ok (.iadd, 1) := by decide +kernel
theorem dX1_take_49 : decode cX1_take 49 = .ok (.istore_n 2, 1) := by decide +kernel
theorem dX1_take_50 : decode cX1_take 50 = .ok (.goto 17, 3) := by decide +kernel
theorem dX1_take_53 : decode cX1_take 53 = .ok (.iload 4, 2) := by decide +kernel
theorem dX1_take_55 : decode cX1_take 55 = .ok (.bipush 46, 2) := by decide +kernel
theorem dX1_take_57 : decode cX1_take 57 = .ok (.if_icmp .ne 10, 3) := by decide +kernel
theorem dX1_take_60 : decode cX1_take 60 = .ok (.aload_n 0, 1) := by decide +kernel
theorem dX1_take_61 : decode cX1_take 61 = .ok (.iload_n 2, 1) := by decide +kernel
theorem dX1_take_62 : decode cX1_take 62 = .ok (.invokevirtual 37, 3) := by decide +kernel
theorem dX1_take_65 : decode cX1_take 65 = .ok (.iconst 0, 1) := by decide +kernel
theorem dX1_take_66 : decode cX1_take 66 = .ok (.istore_n 2, 1) := by decide +kernel
theorem dX1_take_67 : decode cX1_take 67 = .ok (.iinc 3 1, 3) := by decide +kernel
theorem dX1_take_70 : decode cX1_take 70 = .ok (.goto (-54), 3) := by decide +kernel
theorem dX1_take_73 : decode cX1_take 73 = .ok (.iload_n 2, 1) := by decide +kernel
theorem dX1_take_74 : decode cX1_take 74 = .ok (.ifCond .le 11, 3) := by decide +kernel
theorem dX1_take_77 : decode cX1_take 77 = .ok (.aload_n 0, 1) := by decide +kernel
theorem dX1_take_78 : decode cX1_take 78 = .ok (.iload_n 2, 1) := by decide +kernel
theorem dX1_take_79 : decode cX1_take 79 = .ok (.invokevirtual 37, 3) := by decide +kernel
theorem dX1_take_82 : decode cX1_take 82 = .ok (.goto 7, 3) := by decide +kernel
theorem dX1_take_85 : decode cX1_take 85 = .ok (.aload_n 0, 1) := by decide +kernel
theorem dX1_take_86 : decode cX1_take 86 = .ok (.invokevirtual 41, 3) := by decide +kernel
theorem dX1_take_89 : decode cX1_take 89 = .ok (.aload_n 0, 1) := by decide +kernel
theorem dX1_take_90 : decode cX1_take 90 = .ok (.dup, 1) := by decide +kernel
theorem dX1_take_91 : decode cX1_take 91 = .ok (.getfield 18, 3) := by decide +kernel
theorem dX1_take_94 : decode cX1_take 94 = .ok (.iconst 1, 1) := by decide +kernel
theorem dX1_take_95 : decode cX1_take 95 = .ok (.iadd, 1) := by decide +kernel
theorem dX1_take_96 : decode cX1_take 96 = .ok (.putfield 18, 3) := by decide +kernel
theorem dX1_take_99 : decode cX1_take 99 = .ok (.return_, 1) := by decide +kernel
theorem dX1_push_0 : decode cX1_push 0 = .ok (.aload_n 0, 1) := by decide +kernel
theorem dX1_push_1 : decode cX1_push 1 = .ok (.aload_n 0, 1) := by decide +kernel
theorem dX1_push_2 : decode cX1_push 2 = .ok (.getfield 18, 3) := by decide +kernel
theorem dX1_push_5 : decode cX1_push 5 = .ok (.invokevirtual 44, 3) := by decide +kernel
theorem dX1_push_8 : decode cX1_push 8 = .ok (.istore_n 2, 1) := by decide +kernel
theorem dX1_push_9 : decode cX1_push 9 = .ok (.aload_n 0, 1) := by decide +kernel
theorem dX1_push_10 : decode cX1_push 10 = .ok (.getfield 9, 3) := by decide +kernel
theorem dX1_push_13 : decode cX1_push 13 = .ok (.aload_n 0, 1) := by decide +kernel
theorem dX1_push_14 : decode cX1_push 14 = .ok (.getfield 18, 3) := by decide +kernel
theorem dX1_push_17 : decode cX1_push 17 = .ok (.bipush 24, 2) := by decide +kernel
theorem dX1_push_19 : decode cX1_push 19 = .ok (.imul, 1) := by decide +kernel
theorem dX1_push_20 : decode cX1_push 20 = .ok (.iload_n 2, 1) := by decide +kernel
theorem dX1_push_21 : decode cX1_push 21 = .ok (.iadd, 1) := by decide +kernel
theorem dX1_push_22 : decode cX1_push 22 = .ok (.iload_n 1, 1) := by decide +kernel
theorem dX1_push_23 : decode cX1_push 23 = .ok (.invokestatic 22, 3) := by decide +kernel
theorem dX1_push_26 : decode cX1_push 26 = .ok (.aload_n 0, 1) := by decide +kernel
theorem dX1_push_27 : decode cX1_push 27 = .ok (.getfield 15, 3) := by decide +kernel
theorem dX1_push_30 : decode cX1_push 30 = .ok (.aload_n 0, 1) := by decide +kernel
theorem dX1_push_31 : decode cX1_push 31 = .ok (.getfield 18, 3) := by decide +kernel
theorem dX1_push_34 : decode cX1_push 34 = .ok (.iload_n 2, 1) := by decide +kernel
theorem dX1_push_35 : decode cX1_push 35 = .ok (.iconst 1, 1) := by decide +kernel
theorem dX1_push_36 : decode cX1_push 36 = .ok (.iadd, 1) := by decide +kernel
theorem dX1_push_37 : decode cX1_push 37 = .ok (.invokestatic 22, 3) := by decide +kernel
theorem dX1_push_40 : decode cX1_push 40 = .ok (.return_, 1) := by decide +kernel
theorem dX1_pushAllAgain_0 : decode cX1_pushAllAgain 0 = .ok (.aload_n 0, 1) := by decide +kernel
theorem dX1_pushAllAgain_1 : decode cX1_pushAllAgain 1 = .ok (.aload_n 0, 1) := by decide +kernel
theorem dX1_pushAllAgain_2 : decode cX1_pushAllAgain 2 = .ok (.getfield 18, 3) := by decide +kernel
theorem dX1_pushAllAgain_5 : decode cX1_pushAllAgain 5 = .ok (.invokevirtual 44, 3) := by decide +kernel
theorem dX1_pushAllAgain_8 : decode cX1_pushAllAgain 8 = .ok (.istore_n 1, 1) := by decide +kernel
theorem dX1_pushAllAgain_9 : decode cX1_pushAllAgain 9 = .ok (.iconst 0, 1) := by decide +kernel
theorem dX1_pushAllAgain_10 : decode cX1_pushAllAgain 10 = .ok (.istore_n 2, 1) := by decide +kernel
theorem dX1_pushAllAgain_11 : decode cX1_pushAllAgain 11 = .ok (.iload_n 2, 1) := by decide +kernel
theorem dX1_pushAllAgain_12 : decode cX1_pushAllAgain 12 = .ok (.iload_n 1, 1) := by decide +kernel
theorem dX1_pushAllAgain_13 : decode cX1_pushAllAgain 13 = .ok (.if_icmp .ge 22, 3) := by decide +kernel
theorem dX1_pushAllAgain_16 : decode cX1_pushAllAgain 16 = .ok (.aload_n 0, 1) := by decide +kernel
theorem dX1_pushAllAgain_17 : decode cX1_pushAllAgain 17 = .ok (.aload_n 0, 1) := by decide +kernel
theorem dX1_pushAllAgain_18 : decode cX1_pushAllAgain 18 = .ok (.aload_n 0, 1) := by decide +kernel
theorem dX1_pushAllAgain_19 : decode cX1_pushAllAgain 19 = .ok (.getfield 18, 3) := by decide +kernel
theorem dX1_pushAllAgain_22 : decode cX1_pushAllAgain 22 = .ok (.iload_n 2, 1) := by decide +kernel
theorem dX1_pushAllAgain_23 : decode cX1_pushAllAgain 23 = .ok (.invokevirtual 47, 3) := by decide +kernel
theorem dX1_pushAllAgain_26 : decode cX1_pushAllAgain 26 = .ok (.invokevirtual 37, 3) := by decide +kernel
theorem dX1_pushAllAgain_29 : decode cX1_pushAllAgain 29 = .ok (.iinc 2 1, 3) := by decide +kernel
theorem dX1_pushAllAgain_32 : decode cX1_pushAllAgain 32 = .ok (.goto (-21), 3) := by decide +kernel
theorem dX1_pushAllAgain_35 : decode cX1_pushAllAgain 35 = .ok (.return_, 1) := by decide +kernel
theorem dX1_remove_0 : decode cX1_remove 0 = .ok (.aload_n 0, 1) := by decide +kernel
theorem dX1_remove_1 : decode cX1_remove 1 = .ok (.dup, 1) := by decide +kernel
theorem dX1_remove_2 : decode cX1_remove 2 = .ok (.getfield 18, 3) := by decide +kernel
theorem dX1_remove_5 : decode cX1_remove 5 = .ok (.iconst 1, 1) := by decide +kernel
theorem dX1_remove_6 : decode cX1_remove 6 = .ok (.isub, 1) := by decide +kernel
theorem dX1_remove_7 : decode cX1_remove 7 = .ok (.putfield 18, 3) := by decide +kernel
theorem dX1_remove_10 : decode cX1_remove 10 = .ok (.iload_n 1, 1) := by decide +kernel
theorem dX1_remove_11 : decode cX1_remove 11 = .ok (.istore_n 2, 1) := by decide +kernel
theorem dX1_remove_12 : decode cX1_remove 12 = .ok (.iload_n 2, 1) := by decide +kernel
theorem dX1_remove_13 : decode cX1_remove 13 = .ok (.aload_n 0, 1) := by decide +kernel
theorem dX1_remove_14 : decode cX1_remove 14 = .ok (.getfield 18, 3) := by decide +kernel
theorem dX1_remove_17 : decode cX1_remove 17 = .ok (.if_icmp .ge 64, 3) := by decide +kernel
theorem dX1_remove_20 : decode cX1_remove 20 = .ok (.aload_n 0, 1) := by decide +kernel
theorem dX1_remove_21 : decode cX1_remove 21 = .ok (.getfield 15, 3) := by decide +kernel
theorem dX1_remove_24 : decode cX1_remove 24 = .ok (.iload_n 2, 1) := by decide +kernel
theorem dX1_remove_25 : decode cX1_remove 25 = .ok (.aload_n 0, 1) := by decide +kernel
theorem dX1_remove_26 : decode cX1_remove 26 = .ok (.iload_n 2, 1) := by decide +kernel
theorem dX1_remove_27 : decode cX1_remove 27 = .ok (.iconst 1, 1) := by decide +kernel
theorem dX1_remove_28 : decode cX1_remove 28 = .ok (.iadd, 1) := by decide +kernel
theorem dX1_remove_29 : decode cX1_remove 29 = .ok (.invokevirtual 44, 3) := by decide +kernel
theorem dX1_remove_32 : decode cX1_remove 32 = .ok (.invokestatic 22, 3) := by decide +kernel
theorem dX1_remove_35 : decode cX1_remove 35 = .ok (.iconst 0, 1) := by decide +kernel
theorem dX1_remove_36 : decode cX1_remove 36 = .ok (.istore_n 3, 1) := by decide +kernel
theorem dX1_remove_37 : decode cX1_remove 37 = .ok (.iload_n 3, 1) := by decide +kernel
theorem dX1_remove_38 : decode cX1_remove 38 = .ok (.aload_n 0, 1) := by decide +kernel
theorem dX1_remove_39 : decode cX1_remove 39 = .ok (.iload_n 2, 1) := by decide +kernel
theorem dX1_remove_40 : decode cX1_remove 40 = .ok (.iconst 1, 1) := by decide +kernel
theorem dX1_remove_41 : decode cX1_remove 41 = .ok (.iadd, 1) := by decide +kernel
theorem dX1_remove_42 : decode cX1_remove 42 = .ok (.invokevirtual 44, 3) := by decide +kernel
theorem dX1_remove_45 : decode cX1_remove 45 = .ok (.if_icmp .ge 30, 3) := by decide +kernel
theorem dX1_remove_48 : decode cX1_remove 48 = .ok (.aload_n 0, 1) := by decide +kernel
theorem dX1_remove_49 : decode cX1_remove 49 = .ok (.getfield 9, 3) := by decide +kernel
theorem dX1_remove_52 : decode cX1_remove 52 = .ok (.iload_n 2, 1) := by decide +kernel
theorem dX1_remove_53 : decode cX1_remove 53 = .ok (.bipush 24, 2) := by decide +kernel
theorem dX1_remove_55 : decode cX1_remove 55 = .ok (.imul, 1) := by decide +kernel
theorem dX1_remove_56 : decode cX1_remove 56 = .ok (.iload_n 3, 1) := by decide +kernel
theorem dX1_remove_57 : decode cX1_remove 57 = .ok (.iadd, 1) := by decide +kernel
theorem dX1_remove_58 : decode cX1_remove 58 = .ok (.aload_n 0, 1) := by decide +kernel
theorem dX1_remove_59 : decode cX1_remove 59 = .ok (.iload_n 2, 1) := by decide +kernel
theorem dX1_remove_60 : decode cX1_remove 60 = .ok (.iconst 1, 1) := by decide +kernel
theorem dX1_remove_61 : decode cX1_remove 61 = .ok (.iadd, 1) := by decide +kernel
theorem dX1_remove_62 : decode cX1_remove 62 = .ok (.iload_n 3, 1) := by decide +kernel
theorem dX1_remove_63 : decode cX1_remove 63 = .ok (.invokevirtual 47, 3) := by decide +kernel
theorem dX1_remove_66 : decode cX1_remove 66 = .ok (.invokestatic 22, 3) := by decide +kernel
theorem dX1_remove_69 : decode cX1_remove 69 = .ok (.iinc 3 1, 3) := by decide +kernel
theorem dX1_remove_72 : decode cX1_remove 72 = .ok (.goto (-35), 3) := by decide +kernel
theorem dX1_remove_75 : decode cX1_remove 75 = .ok (.iinc 2 1, 3) := by decide +kernel
theorem dX1_remove_78 : decode cX1_remove 78 = .ok (.goto (-66), 3) := by decide +kernel
theorem dX1_remove_81 : decode cX1_remove 81 = .ok (.return_, 1) := by decide +kernel
theorem dX1_sizeOf_0 : decode cX1_sizeOf 0 = .ok (.aload_n 0, 1) := by decide +kernel
theorem dX1_sizeOf_1 : decode cX1_sizeOf 1 = .ok (.getfield 15, 3) := by decide +kernel
theorem dX1_sizeOf_4 : decode cX1_sizeOf 4 = .ok (.iload_n 1, 1) := by decide +kernel
theorem dX1_sizeOf_5 : decode cX1_sizeOf 5 = .ok (.invokestatic 51, 3) := by decide +kernel
theorem dX1_sizeOf_8 : decode cX1_sizeOf 8 = .ok (.ireturn, 1) := by decide +kernel
theorem dX1_numberAt_0 : decode cX1_numberAt 0 = .ok (.aload_n 0, 1) := by decide +kernel
theorem dX1_numberAt_1 : decode cX1_numberAt 1 = .ok (.getfield 9, 3) := by decide +kernel
theorem dX1_numberAt_4 : decode cX1_numberAt 4 = .ok (.iload_n 1, 1) := by decide +kernel
theorem dX1_numberAt_5 : decode cX1_numberAt 5 = .ok (.bipush 24, 2) := by decide +kernel
theorem dX1_numberAt_7 : decode cX1_numberAt 7 = .ok (.imul, 1) := by decide +kernel
theorem dX1_numberAt_8 : decode cX1_numberAt 8 = .ok (.iload_n 2, 1) := by decide +kernel
theorem dX1_numberAt_9 : decode cX1_numberAt 9 = .ok (.iadd, 1) := by decide +kernel
theorem dX1_numberAt_10 : decode cX1_numberAt 10 = .ok (.invokestatic 51, 3) := by decide +kernel
theorem dX1_numberAt_13 : decode cX1_numberAt 13 = .ok (.ireturn, 1) := by decide +kernel
theorem dX2_init_0 : decode cX2_init 0 = .ok (.aload_n 0, 1) := by decide +kernel
theorem dX2_init_1 : decode cX2_init 1 = .ok (.invokespecial 3, 3) := by decide +kernel
theorem dX2_init_4 : decode cX2_init 4 = .ok (.aload_n 0, 1) := by decide +kernel
theorem dX2_init_5 : decode cX2_init 5 = .ok (.bipush 40, 2) := by decide +kernel
theorem dX2_init_7 : decode cX2_init 7 = .ok (.newarray .int, 2) := by decide +kernel
theorem dX2_init_9 : decode cX2_init 9 = .ok (.putfield 9, 3) := by decide +kernel
theorem dX2_init_12 : decode cX2_init 12 = .ok (.aload_n 0, 1) := by decide +kernel
theorem dX2_init_13 : decode cX2_init 13 = .ok (.bipush 40, 2) := by decide +kernel
theorem dX2_init_15 : decode cX2_init 15 = .ok (.newarray .int, 2) := by decide +kernel
theorem dX2_init_17 : decode cX2_init 17 = .ok (.putfield 15, 3) := by decide +kernel
theorem dX2_init_20 : decode cX2_init 20 = .ok (.aload_n 0, 1) := by decide +kernel
theorem dX2_init_21 : decode cX2_init 21 = .ok (.bipush 40, 2) := by decide +kernel
theorem dX2_init_23 : decode cX2_init 23 = .ok (.newarray .int, 2) := by decide +kernel
theorem dX2_init_25 : decode cX2_init 25 = .ok (.putfield 18, 3) := by decide +kernel
theorem dX2_init_28 : decode cX2_init 28 = .ok (.aload_n 0, 1) := by decide +kernel
theorem dX2_init_29 : decode cX2_init 29 = .ok (.iconst 0, 1) := by decide +kernel
theorem dX2_init_30 : decode cX2_init 30 = .ok (.putfield 21, 3) := by decide +kernel
theorem dX2_init_33 : decode cX2_init 33 = .ok (.aload_n 0, 1) := by decide +kernel
theorem dX2_init_34 : decode cX2_init 34 = .ok (.iconst 0, 1) := by decide +kernel
theorem dX2_init_35 : decode cX2_init 35 = .ok (.putfield 25, 3) := by decide +kernel
theorem dX2_init_38 : decode cX2_init 38 = .ok (.return_, 1) := by decide +kernel
theorem dX2_findWidths_0 : decode cX2_findWidths 0 = .ok (.iconst 0, 1) := by decide +kernel
theorem dX2_findWidths_1 : decode cX2_findWidths 1 = .ok (.istore 4, 2) := by decide +kernel
theorem dX2_findWidths_3 : decode cX2_findWidths 3 = .ok (.iload 4, 2) := by decide +kernel
theorem dX2_findWidths_5 : decode cX2_findWidths 5 = .ok (.bipush 40, 2) := by decide +kernel
theorem dX2_findWidths_7 : decode cX2_findWidths 7 = .ok (.if_icmp .ge 19, 3) := by decide +kernel
theorem dX2_findWidths_10 : decode cX2_findWidths 10 = .ok (.aload_n 0, 1) := by decide +kernel
theorem dX2_findWidths_11 : decode cX2_findWidths 11 = .ok (.getfield 9, 3) := by decide +kernel
theorem dX2_findWidths_14 : decode cX2_findWidths 14 = .ok (.iload 4, 2) := by decide +kernel
theorem dX2_findWidths_16 : decode cX2_findWidths 16 = .ok (.iconst 3, 1) := by decide +kernel
theorem dX2_findWidths_17 : decode cX2_findWidths 17 = .ok (.invokestatic 28, 3) := by decide +kernel
theorem dX2_findWidths_20 : decode cX2_findWidths 20 = .ok (.iinc 4 1, 3) := by decide +kernel
theorem dX2_findWidths_23 : decode cX2_findWidths 23 = .ok (.goto (-20), 3) := by decide +kernel
theorem dX2_findWidths_26 : decode cX2_findWidths 26 = .ok (.iconst 0, 1) := by decide +kernel
theorem dX2_findWidths_27 : decode cX2_findWidths 27 = .ok (.istore 4, 2) := by decide +kernel
theorem dX2_findWidths_29 : decode cX2_findWidths 29 = .ok (.iload 4, 2) := by decide +kernel
theorem dX2_findWidths_31 : decode cX2_findWidths 31 = .ok (.aload_n 2, 1) := by decide +kernel
theorem dX2_findWidths_32 : decode cX2_findWidths 32 = .ok (.getfield 32, 3) := by decide +kernel
theorem dX2_findWidths_35 : decode cX2_findWidths 35 = .ok (.if_icmp .ge 69, 3) := by decide +kernel
theorem dX2_findWidths_38 : decode cX2_findWidths 38 = .ok (.iload 4, 2) := by decide +kernel
theorem dX2_findWidths_40 : decode cX2_findWidths 40 = .ok (.bipush 24, 2) := by decide +kernel
theorem dX2_findWidths_42 : decode cX2_findWidths 42 = .ok (.if_icmp .ge 62, 3) := by decide +kernel
theorem dX2_findWidths_45 : decode cX2_findWidths 45 = .ok (.aload_n 2, 1) := by decide +kernel
theorem dX2_findWidths_46 : decode cX2_findWidths 46 = .ok (.iload 4, 2) := by decide +kernel
theorem dX2_findWidths_48 : decode cX2_findWidths 48 = .ok (.invokevirtual 37, 3) := by decide +kernel
theorem dX2_findWidths_51 : decode cX2_findWidths 51 = .ok (.istore 5, 2) := by decide +kernel
theorem dX2_findWidths_53 : decode cX2_findWidths 53 = .ok (.aload_n 1, 1) := by decide +kernel
theorem dX2_findWidths_54 : decode cX2_findWidths 54 = .ok (.iload 5, 2) := by decide +kernel
theorem dX2_findWidths_56 : decode cX2_findWidths 56 = .ok (.invokevirtual 41, 3) := by decide +kernel
theorem dX2_findWidths_59 : decode cX2_findWidths 59 = .ok (.istore 6, 2) := by decide +kernel
theorem dX2_findWidths_61 : decode cX2_findWidths 61 = .ok (.iload 6, 2) := by decide +kernel
theorem dX2_findWidths_63 : decode cX2_findWidths 63 = .ok (.aload_n 1, 1) := by decide +kernel
theorem dX2_findWidths_64 : decode cX2_findWidths 64 = .ok (.iload 5, 2) := by decide +kernel
theorem dX2_findWidths_66 : decode cX2_findWidths 66 = .ok (.invokevirtual 46, 3) := by decide +kernel
theorem dX2_findWidths_69 : decode cX2_findWidths 69 = .ok (.if_icmp .gt 29, 3) := by decide +kernel
theorem dX2_findWidths_72 : decode cX2_findWidths 72 = .ok (.aload_n 0, 1) := by decide +kernel
theorem dX2_findWidths_73 : decode cX2_findWidths 73 = .ok (.iload 6, 2) := by decide +kernel
theorem dX2_findWidths_75 : decode cX2_findWidths 75 = .ok (.aload_n 3, 1) := by decide +kernel
theorem dX2_findWidths_76 : decode cX2_findWidths 76 = .ok (.iload 4, 2) := by decide +kernel
theorem dX2_findWidths_78 : decode cX2_findWidths 78 = .ok (.aload_n 1, 1) := by decide +kernel
theorem dX2_findWidths_79 : decode cX2_findWidths 79 = .ok (.iload 6, 2) := by decide +kernel
theorem dX2_findWidths_81 : decode cX2_findWidths 81 = .ok (.invokevirtual 49, 3) := by decide +kernel
theorem dX2_findWidths_84 : decode cX2_findWidths 84 = .ok (.invokevirtual 52, 3) := by decide +kernel
theorem dX2_findWidths_87 : decode cX2_findWidths 87 = .ok (.iconst 1, 1) := by decide +kernel
theorem dX2_findWidths_88 : decode cX2_findWidths 88 = .ok (.iadd, 1) := by decide +kernel
theorem dX2_findWidths_89 : decode cX2_findWidths 89 = .ok (.invokevirtual 58, 3) := by decide +kernel
theorem dX2_findWidths_92 : decode cX2_findWidths 92 = .ok (.iinc 6 1, 3) := by decide +kernel
theorem dX2_findWidths_95 : decode cX2_findWidths 95 = .ok (.goto (-34), 3) := by decide +kernel
theorem dX2_findWidths_98 : decode cX2_findWidths 98 = .ok (.iinc 4 1, 3) := by decide +kernel
theorem dX2_findWidths_101 : decode cX2_findWidths 101 = .ok (.goto (-72), 3) := by decide +kernel
theorem dX2_findWidths_104 : decode cX2_findWidths 104 = .ok (.return_, 1) := by decide +kernel
theorem dX2_widen_0 : decode cX2_widen 0 = .ok (.aload_n 0, 1) := by decide +kernel
theorem dX2_widen_1 : decode cX2_widen 1 = .ok (.getfield 9, 3) := by decide +kernel
theorem dX2_widen_4 : decode cX2_widen 4 = .ok (.iload_n 1, 1) := by decide +kernel
theorem dX2_widen_5 : decode cX2_widen 5 = .ok (.aload_n 0, 1) := by decide +kernel
theorem dX2_widen_6 : decode cX2_widen 6 = .ok (.iload_n 1, 1) := by decide +kernel
theorem dX2_widen_7 : decode cX2_widen 7 = .ok (.invokevirtual 62, 3) := by decide +kernel
theorem dX2_widen_10 : decode cX2_widen 10 = .ok (.iload_n 2, 1) := by decide +kernel
theorem dX2_widen_11 : decode cX2_widen 11 = .ok (.invokestatic 65, 3) := by decide +kernel
theorem dX2_widen_14 : decode cX2_widen 14 = .ok (.invokestatic 28, 3) := by decide +kernel
theorem dX2_widen_17 : decode cX2_widen 17 = .ok (.return_, 1) := by decide +kernel
theorem dX2_findSystems_0 : decode cX2_findSystems 0 = .ok (.iconst 0, 1) := by decide +kernel
theorem dX2_findSystems_1 : decode cX2_findSystems 1 = .ok (.istore_n 3, 1) := by decide +kernel
theorem dX2_findSystems_2 : decode cX2_findSystems 2 = .ok (.iconst 0, 1) := by decide +kernel
theorem dX2_findSystems_3 : decode cX2_findSystems 3 = .ok (.istore 4, 2) := by decide +kernel
theorem dX2_findSystems_5 : decode cX2_findSystems 5 = .ok (.aload_n 0, 1) := by decide +kernel
theorem dX2_findSystems_6 : decode cX2_findSystems 6 = .ok (.iconst 0, 1) := by decide +kernel
theorem dX2_findSystems_7 : decode cX2_findSystems 7 = .ok (.putfield 25, 3) := by decide +kernel
theorem dX2_findSystems_10 : decode cX2_findSystems 10 = .ok (.iconst 0, 1) := by decide +kernel
theorem dX2_findSystems_11 : decode cX2_findSystems 11 = .ok (.istore 5, 2) := by decide +kernel
theorem dX2_findSystems_13 : decode cX2_findSystems 13 = .ok (.iload 5, 2) := by decide +kernel
theorem dX2_findSystems_15 : decode cX2_findSystems 15 = .ok (.aload_n 1, 1) := by decide +kernel
theorem dX2_findSystems_16 : decode cX2_findSystems 16 = .ok (.getfield 70, 3) := by decide +kernel
theorem dX2_findSystems_19 : decode cX2_findSystems 19 = .ok (.if_icmp .ge 86, 3) := by decide +kernel
theorem dX2_findSystems_22 : decode cX2_findSystems 22 = .ok (.aload_n 0, 1) := by decide +kernel
theorem dX2_findSystems_23 : decode cX2_findSystems 23 = .ok (.aload_n 1, 1) := by decide +kernel
theorem dX2_findSystems_24 : decode cX2_findSystems 24 = .ok (.iload 5, 2) := by decide +kernel
theorem dX2_findSystems_26 : decode cX2_findSystems 26 = .ok (.invokevirtual 41, 3) := by decide +kernel
theorem dX2_findSystems_29 : decode cX2_findSystems 29 = .ok (.aload_n 1, 1) := by decide +kernel
theorem dX2_findSystems_30 : decode cX2_findSystems 30 = .ok (.iload 5, 2) := by decide +kernel
theorem dX2_findSystems_32 : decode cX2_findSystems 32 = .ok (.invokevirtual 46, 3) := by decide +kernel
theorem dX2_findSystems_35 : decode cX2_findSystems 35 = .ok (.invokevirtual 71, 3) := by decide +kernel
theorem dX2_findSystems_38 : decode cX2_findSystems 38 = .ok (.istore 6, 2) := by decide +kernel
theorem dX2_findSystems_40 : decode cX2_findSystems 40 = .ok (.iload 5, 2) := by decide +kernel
theorem dX2_findSystems_42 : decode cX2_findSystems 42 = .ok (.ifCond .le 18, 3) := by decide +kernel
theorem dX2_findSystems_45 : decode cX2_findSystems 45 = .ok (.iload 4, 2) := by decide +kernel
theorem dX2_findSystems_47 : decode cX2_findSystems 47 = .ok (.iload 6, 2) := by decide +kernel
theorem dX2_findSystems_49 : decode cX2_findSystems 49 = .ok (.iadd, 1) := by decide +kernel
theorem dX2_findSystems_50 : decode cX2_findSystems 50 = .ok (.iload_n 2, 1) := by decide +kernel
theorem dX2_findSystems_51 : decode cX2_findSystems 51 = .ok (.if_icmp .le 9, 3) := by decide +kernel
theorem dX2_findSystems_54 : decode cX2_findSystems 54 = .ok (.iinc 3 1, 3) := by decide +kernel
theorem dX2_findSystems_57 : decode cX2_findSystems 57 = .ok (.iconst 0, 1) := by decide +kernel
theorem dX2_findSystems_58 : decode cX2_findSystems 58 = .ok (.istore 4, 2) := by decide +kernel
theorem dX2_findSystems_60 : decode cX2_findSystems 60 = .ok (.iload 4, 2) := by decide +kernel
theorem dX2_findSystems_62 : decode cX2_findSystems 62 = .ok (.iload 6, 2) := by decide +kernel
theorem dX2_findSystems_64 : decode cX2_findSystems 64 = .ok (.iadd, 1) := by decide +kernel
theorem dX2_findSystems_65 : decode cX2_findSystems 65 = .ok (.istore 4, 2) := by decide +kernel
theorem dX2_findSystems_67 : decode cX2_findSystems 67 = .ok (.aload_n 0, 1) := by decide +kernel
theorem dX2_findSystems_68 : decode cX2_findSystems 68 = .ok (.dup, 1) := by decide +kernel
theorem dX2_findSystems_69 : decode cX2_findSystems 69 = .ok (.getfield 25, 3) := by decide +kernel
theorem dX2_findSystems_72 : decode cX2_findSystems 72 = .ok (.iload 6, 2) := by decide +kernel
theorem dX2_findSystems_74 : decode cX2_findSystems 74 = .ok (.iadd, 1) := by decide +kernel
theorem dX2_findSystems_75 : decode cX2_findSystems 75 = .ok (.putfield 25, 3) := by decide +kernel
theorem dX2_findSystems_78 : decode cX2_findSystems 78 = .ok (.aload_n 0, 1) := by decide +kernel
theorem dX2_findSystems_79 : decode cX2_findSystems 79 = .ok (.getfield 15, 3) := by decide +kernel
theorem dX2_findSystems_82 : decode cX2_findSystems 82 = .ok (.iload 5, 2) := by decide +kernel
theorem dX2_findSystems_84 : decode cX2_findSystems 84 = .ok (.iload 6, 2) := by decide +kernel
theorem dX2_findSystems_86 : decode cX2_findSystems 86 = .ok (.invokestatic 28, 3) := by decide +kernel
theorem dX2_findSystems_89 : decode cX2_findSystems 89 = .ok (.aload_n 0, 1) := by decide +kernel
theorem dX2_findSystems_90 : decode cX2_findSystems 90 = .ok (.getfield 18, 3) := by decide +kernel
theorem dX2_findSystems_93 : decode cX2_findSystems 93 = .ok (.iload 5, 2) := by decide +kernel
theorem dX2_findSystems_95 : decode cX2_findSystems 95 = .ok (.iload_n 3, 1) := by decide +kernel
theorem dX2_findSystems_96 : decode cX2_findSystems 96 = .ok (.invokestatic 28, 3) := by decide +kernel
theorem dX2_findSystems_99 : decode cX2_findSystems 99 = .ok (.iinc 5 1, 3) := by decide +kernel
theorem dX2_findSystems_102 : decode cX2_findSystems 102 = .ok (.goto (-89), 3) := by decide +kernel
theorem dX2_findSystems_105 : decode cX2_findSystems 105 = .ok (.aload_n 0, 1) := by decide +kernel
theorem dX2_findSystems_106 : decode cX2_findSystems 106 = .ok (.aload_n 1, 1) := by decide +kernel
theorem dX2_findSystems_107 : decode cX2_findSystems 107 = .ok (.getfield 70, 3) := by decide +kernel
theorem dX2_findSystems_110 : decode cX2_findSystems 110 = .ok (.ifCond .le 9, 3) := by decide +kernel
theorem dX2_findSystems_113 : decode cX2_findSystems 113 = .ok (.iload_n 3, 1) := by decide +kernel
theorem dX2_findSystems_114 : decode cX2_findSystems 114 = .ok (.iconst 1, 1) := by decide +kernel
theorem dX2_findSystems_115 : decode cX2_findSystems 115 = .ok (.iadd, 1) := by decide +kernel
theorem dX2_findSystems_116 : decode cX2_findSystems 116 = .ok (.goto 4, 3) := by decide +kernel
theorem dX2_findSystems_119 : decode cX2_findSystems 119 = .ok (.iconst 0, 1) := by decide +kernel
theorem dX2_findSystems_120 : decode cX2_findSystems 120 = .ok (.putfield 21, 3) := by decide +kernel
theorem dX2_findSystems_123 : decode cX2_findSystems 123 = .ok (.return_, 1) := by decide +kernel
theorem dX2_sumOf_0 : decode cX2_sumOf 0 = .ok (.iconst 0, 1) := by decide +kernel
theorem dX2_sumOf_1 : decode cX2_sumOf 1 = .ok (.istore_n 3, 1) := by decide +kernel
theorem dX2_sumOf_2 : decode cX2_sumOf 2 = .ok (.iload_n 1, 1) := by decide +kernel
theorem dX2_sumOf_3 : decode cX2_sumOf 3 = .ok (.istore 4, 2) := by decide +kernel
theorem dX2_sumOf_5 : decode cX2_sumOf 5 = .ok (.iload 4, 2) := by decide +kernel
theorem dX2_sumOf_7 : decode cX2_sumOf 7 = .ok (.iload_n 2, 1) := by decide +kernel
theorem dX2_sumOf_8 : decode cX2_sumOf 8 = .ok (.if_icmp .gt 18, 3) := by decide +kernel
theorem dX2_sumOf_11 : decode cX2_sumOf 11 = .ok (.iload_n 3, 1) := by decide +kernel
theorem dX2_sumOf_12 : decode cX2_sumOf 12 = .ok (.aload_n 0, 1) := by decide +kernel
theorem dX2_sumOf_13 : decode cX2_sumOf 13 = .ok (.iload 4, 2) := by decide +kernel
theorem dX2_sumOf_15 : decode cX2_sumOf 15 = .ok (.invokevirtual 62, 3) := by decide +kernel
theorem dX2_sumOf_18 : decode cX2_sumOf 18 = .ok (.iadd, 1) := by decide +kernel
theorem dX2_sumOf_19 : decode cX2_sumOf 19 = .ok (.istore_n 3, 1) := by decide +kernel
theorem dX2_sumOf_20 : decode cX2_sumOf 20 = .ok (.iinc 4 1, 3) := by decide +kernel
theorem dX2_sumOf_23 : decode cX2_sumOf 23 = .ok (.goto (-18), 3) := by decide +kernel
theorem dX2_sumOf_26 : decode cX2_sumOf 26 = .ok (.iload_n 3, 1) := by decide +kernel
theorem dX2_sumOf_27 : decode cX2_sumOf 27 = .ok (.ireturn, 1) := by decide +kernel
theorem dX2_widthOf_0 : decode cX2_widthOf 0 = .ok (.aload_n 0, 1) := by decide +kernel
theorem dX2_widthOf_1 : decode cX2_widthOf 1 = .ok (.getfield 9, 3) := by decide +kernel
theorem dX2_widthOf_4 : decode cX2_widthOf 4 = .ok (.iload_n 1, 1) := by decide +kernel
theorem dX2_widthOf_5 : decode cX2_widthOf 5 = .ok (.invokestatic 74, 3) := by decide +kernel
theorem dX2_widthOf_8 : decode cX2_widthOf 8 = .ok (.ireturn, 1) := by decide +kernel
theorem dX2_widthOfPhrase_0 : decode cX2_widthOfPhrase 0 = .ok (.aload_n 0, 1) := by decide +kernel
theorem dX2_widthOfPhrase_1 : decode cX2_widthOfPhrase 1 = .ok (.getfield 15, 3) := by decide +kernel
theorem dX2_widthOfPhrase_4 : decode cX2_widthOfPhrase 4 = .ok (.iload_n 1, 1) := by decide +kernel
theorem dX2_widthOfPhrase_5 : decode cX2_widthOfPhrase 5 = .ok (.invokestatic 74, 3) := by decide +kernel
theorem dX2_widthOfPhrase_8 : decode cX2_widthOfPhrase 8 = .ok (.ireturn, 1) := by decide +kernel
theorem dX2_systemOf_0 : decode cX2_systemOf 0 = .ok (.aload_n 0, 1) := by decide +kernel
theorem dX2_systemOf_1 : decode cX2_systemOf 1 = .ok (.getfield 18, 3) := by decide +kernel
theorem dX2_systemOf_4 : decode cX2_systemOf 4 = .ok (.iload_n 1, 1) := by decide +kernel
theorem dX2_systemOf_5 : decode cX2_systemOf 5 = .ok (.invokestatic 74, 3) := by decide +kernel
theorem dX2_systemOf_8 : decode cX2_systemOf 8 = .ok (.ireturn, 1) := by decide +kernel
theorem dX3_init_0 : decode cX3_init 0 = .ok (.aload_n 0, 1) := by decide +kernel
theorem dX3_init_1 : decode cX3_init 1 = .ok (.invokespecial 3, 3) := by decide +kernel
theorem dX3_init_4 : decode cX3_init 4 = .ok (.aload_n 0, 1) := by decide +kernel
theorem dX3_init_5 : decode cX3_init 5 = .ok (.bipush 60, 2) := by decide +kernel
theorem dX3_init_7 : decode cX3_init 7 = .ok (.newarray .int, 2) := by decide +kernel
theorem dX3_init_9 : decode cX3_init 9 = .ok (.putfield 9, 3) := by decide +kernel
theorem dX3_init_12 : decode cX3_init 12 = .ok (.aload_n 0, 1) := by decide +kernel
theorem dX3_init_13 : decode cX3_init 13 = .ok (.iconst 0, 1) := by decide +kernel
theorem dX3_init_14 : decode cX3_init 14 = .ok (.putfield 15, 3) := by decide +kernel
theorem dX3_init_17 : decode cX3_init 17 = .ok (.return_, 1) := by decide +kernel
theorem dX3_push_0 : decode cX3_push 0 = .ok (.aload_n 0, 1) := by decide +kernel
theorem dX3_push_1 : decode cX3_push 1 = .ok (.getfield 9, 3) := by decide +kernel
theorem dX3_push_4 : decode cX3_push 4 = .ok (.aload_n 0, 1) := by decide +kernel
theorem dX3_push_5 : decode cX3_push 5 = .ok (.getfield 15, 3) := by decide +kernel
theorem dX3_push_8 : decode cX3_push 8 = .ok (.iload_n 1, 1) := by decide +kernel
theorem dX3_push_9 : decode cX3_push 9 = .ok (.invokestatic 19, 3) := by decide +kernel
theorem dX3_push_12 : decode cX3_push 12 = .ok (.aload_n 0, 1) := by decide +kernel
theorem dX3_push_13 : decode cX3_push 13 = .ok (.dup, 1) := by decide +kernel
theorem dX3_push_14 : decode cX3_push 14 = .ok (.getfield 15, 3) := by decide +kernel
theorem dX3_push_17 : decode cX3_push 17 = .ok (.iconst 1, 1) := by decide +kernel
theorem dX3_push_18 : decode cX3_push 18 = .ok (.iadd, 1) := by decide +kernel
theorem dX3_push_19 : decode cX3_push 19 = .ok (.putfield 15, 3) := by decide +kernel
theorem dX3_push_22 : decode cX3_push 22 = .ok (.return_, 1) := by decide +kernel
theorem dX3_codeAt_0 : decode cX3_codeAt 0 = .ok (.aload_n 0, 1) := by decide +kernel
theorem dX3_codeAt_1 : decode cX3_codeAt 1 = .ok (.getfield 9, 3) := by decide +kernel
theorem dX3_codeAt_4 : decode cX3_codeAt 4 = .ok (.iload_n 1, 1) := by decide +kernel
theorem dX3_codeAt_5 : decode cX3_codeAt 5 = .ok (.invokestatic 23, 3) := by decide +kernel
theorem dX3_codeAt_8 : decode cX3_codeAt 8 = .ok (.ireturn, 1) := by decide +kernel
theorem dX3_isOfSyllable_0 : decode cX3_isOfSyllable 0 = .ok (.iload_n 0, 1) := by decide +kernel
theorem dX3_isOfSyllable_1 : decode cX3_isOfSyllable 1 = .ok (.bipush 97, 2) := by decide +kernel
theorem dX3_isOfSyllable_3 : decode cX3_isOfSyllable 3 = .ok (.if_icmp .lt 9, 3) := by decide +kernel
theorem dX3_isOfSyllable_6 : decode cX3_isOfSyllable 6 = .ok (.iload_n 0, 1) := by decide +kernel
theorem dX3_isOfSyllable_7 : decode cX3_isOfSyllable 7 = .ok (.bipush 122, 2) := by decide +kernel
theorem dX3_isOfSyllable_9 : decode cX3_isOfSyllable 9 = .ok (.if_icmp .le 21, 3) := by decide +kernel
theorem dX3_isOfSyllable_12 : decode cX3_isOfSyllable 12 = .ok (.iload_n 0, 1) := by decide +kernel
theorem dX3_isOfSyllable_13 : decode cX3_isOfSyllable 13 = .ok (.bipush 65, 2) := by decide +kernel
theorem dX3_isOfSyllable_15 : decode cX3_isOfSyllable 15 = .ok (.if_icmp .lt 9, 3) := by decide +kernel
theorem dX3_isOfSyllable_18 : decode cX3_isOfSyllable 18 = .ok (.iload_n 0, 1) := by decide +kernel
theorem dX3_isOfSyllable_19 : decode cX3_isOfSyllable 19 = .ok (.bipush 90, 2) := by decide +kernel
theorem dX3_isOfSyllable_21 : decode cX3_isOfSyllable 21 = .ok (.if_icmp .le 9, 3) := by decide +kernel
theorem dX3_isOfSyllable_24 : decode cX3_isOfSyllable 24 = .ok (.iload_n 0, 1) := by decide +kernel
theorem dX3_isOfSyllable_25 : decode cX3_isOfSyllable 25 = .ok (.bipush 39, 2) := by decide +kernel
theorem dX3_isOfSyllable_27 : decode cX3_isOfSyllable 27 = .ok (.if_icmp .ne 7, 3) := by decide +kernel
theorem dX3_isOfSyllable_30 : decode cX3_isOfSyllable 30 = .ok (.iconst 1, 1) := by decide +kernel
theorem dX3_isOfSyllable_31 : decode cX3_isOfSyllable 31 = .ok (.goto 4, 3) := by decide +kernel
theorem dX3_isOfSyllable_34 : decode cX3_isOfSyllable 34 = .ok (.iconst 0, 1) := by decide +kernel
theorem dX3_isOfSyllable_35 : decode cX3_isOfSyllable 35 = .ok (.ireturn, 1) := by decide +kernel
theorem dX3_isDigit_0 : decode cX3_isDigit 0 = .ok (.iload_n 0, 1) := by decide +kernel
theorem dX3_isDigit_1 : decode cX3_isDigit 1 = .ok (.bipush 48, 2) := by decide +kernel
theorem dX3_isDigit_3 : decode cX3_isDigit 3 = .ok (.if_icmp .lt 13, 3) := by decide +kernel
theorem dX3_isDigit_6 : decode cX3_isDigit 6 = .ok (.iload_n 0, 1) := by decide +kernel
theorem dX3_isDigit_7 : decode cX3_isDigit 7 = .ok (.bipush 57, 2) := by decide +kernel
theorem dX3_isDigit_9 : decode cX3_isDigit 9 = .ok (.if_icmp .gt 7, 3) := by decide +kernel
theorem dX3_isDigit_12 : decode cX3_isDigit 12 = .ok (.iconst 1, 1) := by decide +kernel
theorem dX3_isDigit_13 : decode cX3_isDigit 13 = .ok (.goto 4, 3) := by decide +kernel
theorem dX3_isDigit_16 : decode cX3_isDigit 16 = .ok (.iconst 0, 1) := by decide +kernel
theorem dX3_isDigit_17 : decode cX3_isDigit 17 = .ok (.ireturn, 1) := by decide +kernel
theorem dX3_errorAsLine_0 : decode cX3_errorAsLine 0 = .ok (.iconst 0, 1) := by decide +kernel
theorem dX3_errorAsLine_1 : decode cX3_errorAsLine 1 = .ok (.istore_n 1, 1) := by decide +kernel
theorem dX3_errorAsLine_2 : decode cX3_errorAsLine 2 = .ok (.iconst 0, 1) := by decide +kernel
theorem dX3_errorAsLine_3 : decode cX3_errorAsLine 3 = .ok (.istore_n 2, 1) := by decide +kernel
theorem dX3_errorAsLine_4 : decode cX3_errorAsLine 4 = .ok (.iload_n 2, 1) := by decide +kernel
theorem dX3_errorAsLine_5 : decode cX3_errorAsLine 5 = .ok (.aload_n 0, 1) := by decide +kernel
theorem dX3_errorAsLine_6 : decode cX3_errorAsLine 6 = .ok (.getfield 15, 3) := by decide +kernel
theorem dX3_errorAsLine_9 : decode cX3_errorAsLine 9 = .ok (.if_icmp .ge 57, 3) := by decide +kernel
theorem dX3_errorAsLine_12 : decode cX3_errorAsLine 12 = .ok (.aload_n 0, 1) := by decide +kernel
theorem dX3_errorAsLine_13 : decode cX3_errorAsLine 13 = .ok (.iload_n 2, 1) := by decide +kernel
theorem dX3_errorAsLine_14 : decode cX3_errorAsLine 14 = .ok (.invokevirtual 27, 3) := by decide +kernel
theorem dX3_errorAsLine_17 : decode cX3_errorAsLine 17 = .ok (.istore_n 3, 1) := by decide +kernel
theorem dX3_errorAsLine_18 : decode cX3_errorAsLine 18 = .ok (.iload_n 3, 1) := by decide +kernel
theorem dX3_errorAsLine_19 : decode cX3_errorAsLine 19 = .ok (.invokestatic 31, 3) := by decide +kernel
theorem dX3_errorAsLine_22 : decode cX3_errorAsLine 22 = .ok (.ifCond .eq 15, 3) := by decide +kernel
theorem dX3_errorAsLine_25 : decode cX3_errorAsLine 25 = .ok (.iload_n 1, 1) := by decide +kernel
theorem dX3_errorAsLine_26 : decode cX3_errorAsLine 26 = .ok (.bipush 12, 2) := by decide +kernel
theorem dX3_errorAsLine_28 : decode cX3_errorAsLine 28 = .ok (.if_icmp .ge 9, 3) := by decide +kernel
theorem dX3_errorAsLine_31 : decode cX3_errorAsLine 31 = .ok (.iinc 1 1, 3) := by decide +kernel
theorem dX3_errorAsLine_34 : decode cX3_errorAsLine 34 = .ok (.goto 26, 3) := by decide +kernel
theorem dX3_errorAsLine_37 : decode cX3_errorAsLine 37 = .ok (.iload_n 3, 1) := by decide +kernel
theorem dX3_errorAsLine_38 : decode cX3_errorAsLine 38 = .ok (.bipush 45, 2) := by decide +kernel
theorem dX3_errorAsLine_40 : decode cX3_errorAsLine 40 = .ok (.if_icmp .eq 9, 3) := by decide +kernel
theorem dX3_errorAsLine_43 : decode cX3_errorAsLine 43 = .ok (.iload_n 3, 1) := by decide +kernel
theorem dX3_errorAsLine_44 : decode cX3_errorAsLine 44 = .ok (.bipush 32, 2) := by decide +kernel
theorem dX3_errorAsLine_46 : decode cX3_errorAsLine 46 = .ok (.if_icmp .ne 12, 3) := by decide +kernel
theorem dX3_errorAsLine_49 : decode cX3_errorAsLine 49 = .ok (.iload_n 1, 1) := by decide +kernel
theorem dX3_errorAsLine_50 : decode cX3_errorAsLine 50 = .ok (.ifCond .le 8, 3) := by decide +kernel
theorem dX3_errorAsLine_53 : decode cX3_errorAsLine 53 = .ok (.iconst 0, 1) := by decide +kernel
theorem dX3_errorAsLine_54 : decode cX3_errorAsLine 54 = .ok (.istore_n 1, 1) := by decide +kernel
theorem dX3_errorAsLine_55 : decode cX3_errorAsLine 55 = .ok (.goto 5, 3) := by decide +kernel
theorem dX3_errorAsLine_58 : decode cX3_errorAsLine 58 = .ok (.iload_n 2, 1) := by decide +kernel
theorem dX3_errorAsLine_59 : decode cX3_errorAsLine 59 = .ok (.ireturn, 1) := by decide +kernel
theorem dX3_errorAsLine_60 : decode cX3_errorAsLine 60 = .ok (.iinc 2 1, 3) := by decide +kernel
theorem dX3_errorAsLine_63 : decode cX3_errorAsLine 63 = .ok (.goto (-59), 3) := by decide +kernel
theorem dX3_errorAsLine_66 : decode cX3_errorAsLine 66 = .ok (.aload_n 0, 1) := by decide +kernel
theorem dX3_errorAsLine_67 : decode cX3_errorAsLine 67 = .ok (.getfield 15, 3) := by decide +kernel
theorem dX3_errorAsLine_70 : decode cX3_errorAsLine 70 = .ok (.ireturn, 1) := by decide +kernel
theorem dX3_errorAsMetre_0 : decode cX3_errorAsMetre 0 = .ok (.iconst 0, 1) := by decide +kernel
theorem dX3_errorAsMetre_1 : decode cX3_errorAsMetre 1 = .ok (.istore_n 1, 1) := by decide +kernel
theorem dX3_errorAsMetre_2 : decode cX3_errorAsMetre 2 = .ok (.iconst 0, 1) := by decide +kernel
theorem dX3_errorAsMetre_3 : decode cX3_errorAsMetre 3 = .ok (.istore_n 2, 1) := by decide +kernel
theorem dX3_errorAsMetre_4 : decode cX3_errorAsMetre 4 = .ok (.iconst 0, 1) := by decide +kernel
theorem dX3_errorAsMetre_5 : decode cX3_errorAsMetre 5 = .ok (.istore_n 3, 1) := by decide +kernel
theorem dX3_errorAsMetre_6 : decode cX3_errorAsMetre 6 = .ok (.iconst 0, 1) := by decide +kernel
theorem dX3_errorAsMetre_7 : decode cX3_errorAsMetre 7 = .ok (.istore 4, 2) := by decide +kernel
theorem dX3_errorAsMetre_9 : decode cX3_errorAsMetre 9 = .ok (.iload 4, 2) := by decide +kernel
theorem dX3_errorAsMetre_11 : decode cX3_errorAsMetre 11 = .ok (.aload_n 0, 1) := by decide +kernel
theorem dX3_errorAsMetre_12 : decode cX3_errorAsMetre 12 = .ok (.getfield 15, 3) := by decide +kernel
theorem dX3_errorAsMetre_15 : decode cX3_errorAsMetre 15 = .ok (.if_icmp .ge 119, 3) := by decide +kernel
theorem dX3_errorAsMetre_18 : decode cX3_errorAsMetre 18 = .ok (.aload_n 0, 1) := by decide +kernel
theorem dX3_errorAsMetre_19 : decode cX3_errorAsMetre 19 = .ok (.iload 4, 2) := by decide +kernel
theorem dX3_errorAsMetre_21 : decode cX3_errorAsMetre 21 = .ok (.invokevirtual 27, 3) := by decide +kernel
theorem dX3_errorAsMetre_24 : decode cX3_errorAsMetre 24 = .ok (.istore 5, 2) := by decide +kernel
theorem dX3_errorAsMetre_26 : decode cX3_errorAsMetre 26 = .ok (.iload 5, 2) := by decide +kernel
theorem dX3_errorAsMetre_28 : decode cX3_errorAsMetre 28 = .ok (.invokestatic 35, 3) := by decide +kernel
theorem dX3_errorAsMetre_31 : decode cX3_errorAsMetre 31 = .ok (.ifCond .eq 45, 3) := by decide +kernel
theorem dX3_errorAsMetre_34 : decode cX3_errorAsMetre 34 = .ok (.iload_n 3, 1) := by decide +kernel
theorem dX3_errorAsMetre_35 : decode cX3_errorAsMetre 35 = .ok (.ifCond .ne 41, 3) := by decide +kernel
theorem dX3_errorAsMetre_38 : decode cX3_errorAsMetre 38 = .ok (.iload_n 2, 1) := by decide +kernel
theorem dX3_errorAsMetre_39 : decode cX3_errorAsMetre 39 = .ok (.iload 5, 2) := by decide +kernel
theorem dX3_errorAsMetre_41 : decode cX3_errorAsMetre 41 = .ok (.invokestatic 38, 3) := by decide +kernel
theorem dX3_errorAsMetre_44 : decode cX3_errorAsMetre 44 = .ok (.ifCond .eq 32, 3) := by decide +kernel
theorem dX3_errorAsMetre_47 : decode cX3_errorAsMetre 47 = .ok (.iload_n 1, 1) := by decide +kernel
theorem dX3_errorAsMetre_48 : decode cX3_errorAsMetre 48 = .ok (.iload_n 2, 1) := by decide +kernel
theorem dX3_errorAsMetre_49 : decode cX3_errorAsMetre 49 = .ok (.ifCond .ne 7, 3) := by decide +kernel
theorem dX3_errorAsMetre_52 : decode cX3_errorAsMetre 52 = .ok (.iconst 1, 1) := by decide +kernel
theorem dX3_errorAsMetre_53 : decode cX3_errorAsMetre 53 = .ok (.goto 4, 3) := by decide +kernel
theorem dX3_errorAsMetre_56 : decode cX3_errorAsMetre 56 = .ok (.iconst 0, 1) := by decide +kernel
theorem dX3_errorAsMetre_57 : decode cX3_errorAsMetre 57 = .ok (.invokestatic 42, 3) := by decide +kernel
theorem dX3_errorAsMetre_60 : decode cX3_errorAsMetre 60 = .ok (.iadd, 1) := by decide +kernel
theorem dX3_errorAsMetre_61 : decode cX3_errorAsMetre 61 = .ok (.istore_n 1, 1) := by decide +kernel
theorem dX3_errorAsMetre_62 : decode cX3_errorAsMetre 62 = .ok (.bipush 10, 2) := by decide +kernel
theorem dX3_errorAsMetre_64 : decode cX3_errorAsMetre 64 = .ok (.iload_n 2, 1) := by decide +kernel
theorem dX3_errorAsMetre_65 : decode cX3_errorAsMetre 65 = .ok (.imul, 1) := by decide +kernel
theorem dX3_errorAsMetre_66 : decode cX3_errorAsMetre 66 = .ok (.iload 5, 2) := by decide +kernel
theorem dX3_errorAsMetre_68 : decode cX3_errorAsMetre 68 = .ok (.bipush 48, 2) := by decide +kernel
theorem dX3_errorAsMetre_70 : decode cX3_errorAsMetre 70 = .ok (.isub, 1) := by decide +kernel
theorem dX3_errorAsMetre_71 : decode cX3_errorAsMetre 71 = .ok (.iadd, 1) := by decide +kernel
theorem dX3_errorAsMetre_72 : decode cX3_errorAsMetre 72 = .ok (.istore_n 2, 1) := by decide +kernel
theorem dX3_errorAsMetre_73 : decode cX3_errorAsMetre 73 = .ok (.goto 55, 3) := by decide +kernel
theorem dX3_errorAsMetre_76 : decode cX3_errorAsMetre 76 = .ok (.iload 5, 2) := by decide +kernel
theorem dX3_errorAsMetre_78 : decode cX3_errorAsMetre 78 = .ok (.bipush 46, 2) := by decide +kernel
theorem dX3_errorAsMetre_80 : decode cX3_errorAsMetre 80 = .ok (.if_icmp .ne 18, 3) := by decide +kernel
theorem dX3_errorAsMetre_83 : decode cX3_errorAsMetre 83 = .ok (.iload_n 2, 1) := by decide +kernel
theorem dX3_errorAsMetre_84 : decode cX3_errorAsMetre 84 = .ok (.ifCond .le 14, 3) := by decide +kernel
theorem dX3_errorAsMetre_87 : decode cX3_errorAsMetre 87 = .ok (.iload_n 1, 1) := by decide +kernel
theorem dX3_errorAsMetre_88 : decode cX3_errorAsMetre 88 = .ok (.bipush 24, 2) := by decide +kernel
theorem dX3_errorAsMetre_90 : decode cX3_errorAsMetre 90 = .ok (.if_icmp .ge 8, 3) := by decide +kernel
theorem dX3_errorAsMetre_93 : decode cX3_errorAsMetre 93 = .ok (.iconst 0, 1) := by decide +kernel
theorem dX3_errorAsMetre_94 : decode cX3_errorAsMetre 94 = .ok (.istore_n 2, 1) := by decide +kernel
theorem dX3_errorAsMetre_95 : decode cX3_errorAsMetre 95 = .ok (.goto 33, 3) := by decide +kernel
theorem dX3_errorAsMetre_98 : decode cX3_errorAsMetre 98 = .ok (.iload 5, 2) := by decide +kernel
theorem dX3_errorAsMetre_100 : decode cX3_errorAsMetre 100 = .ok (.bipush 68, 2) := by decide +kernel
theorem dX3_errorAsMetre_102 : decode cX3_errorAsMetre 102 = .ok (.if_icmp .ne 23, 3) := by decide +kernel
theorem dX3_errorAsMetre_105 : decode cX3_errorAsMetre 105 = .ok (.iload_n 3, 1) := by decide +kernel
theorem dX3_errorAsMetre_106 : decode cX3_errorAsMetre 106 = .ok (.ifCond .ne 19, 3) := by decide +kernel
theorem dX3_errorAsMetre_109 : decode cX3_errorAsMetre 109 = .ok (.iload_n 2, 1) := by decide +kernel
theorem dX3_errorAsMetre_110 : decode cX3_errorAsMetre 110 = .ok (.ifCond .ne 15, 3) := by decide +kernel
theorem dX3_errorAsMetre_113 : decode cX3_errorAsMetre 113 = .ok (.iload_n 1, 1) := by decide +kernel
theorem dX3_errorAsMetre_114 : decode cX3_errorAsMetre 114 = .ok (.invokestatic 46, 3) := by decide +kernel
theorem dX3_errorAsMetre_117 : decode cX3_errorAsMetre 117 = .ok (.ifCond .eq 8, 3) := by decide +kernel
theorem dX3_errorAsMetre_120 : decode cX3_errorAsMetre 120 = .ok (.iconst 1, 1) := by decide +kernel
theorem dX3_errorAsMetre_121 : decode cX3_errorAsMetre 121 = .ok (.istore_n 3, 1) := by decide +kernel
theorem dX3_errorAsMetre_122 : decode cX3_errorAsMetre 122 = .ok (.goto 6, 3) := by decide +kernel
theorem dX3_errorAsMetre_125 : decode cX3_errorAsMetre 125 = .ok (.iload 4, 2) := by decide +kernel
theorem dX3_errorAsMetre_127 : decode cX3_errorAsMetre 127 = .ok (.ireturn, 1) := by decide +kernel
theorem dX3_errorAsMetre_128 : decode cX3_errorAsMetre 128 = .ok (.iinc 4 1, 3) := by decide +kernel
theorem dX3_errorAsMetre_131 : decode cX3_errorAsMetre 131 = .ok (.goto (-122), 3) := by decide +kernel
theorem dX3_errorAsMetre_134 : decode cX3_errorAsMetre 134 = .ok (.aload_n 0, 1) := by decide +kernel
theorem dX3_errorAsMetre_135 : decode cX3_errorAsMetre 135 = .ok (.getfield 15, 3) := by decide +kernel
theorem dX3_errorAsMetre_138 : decode cX3_errorAsMetre 138 = .ok (.ireturn, 1) := by decide +kernel
theorem dX3_goesOn_0 : decode cX3_goesOn 0 = .ok (.bipush 10, 2) := by decide +kernel
theorem dX3_goesOn_2 : decode cX3_goesOn 2 = .ok (.iload_n 0, 1) := by decide +kernel
theorem dX3_goesOn_3 : decode cX3_goesOn 3 = .ok (.imul, 1) := by decide +kernel
theorem dX3_goesOn_4 : decode cX3_goesOn 4 = .ok (.iload_n 1, 1) := by decide +kernel
theorem dX3_goesOn_5 : decode cX3_goesOn 5 = .ok (.bipush 48, 2) := by decide +kernel
theorem dX3_goesOn_7 : decode cX3_goesOn 7 = .ok (.isub, 1) := by decide +kernel
theorem dX3_goesOn_8 : decode cX3_goesOn 8 = .ok (.iadd, 1) := by decide +kernel
theorem dX3_goesOn_9 : decode cX3_goesOn 9 = .ok (.istore_n 2, 1) := by decide +kernel
theorem dX3_goesOn_10 : decode cX3_goesOn 10 = .ok (.iload_n 2, 1) := by decide +kernel
theorem dX3_goesOn_11 : decode cX3_goesOn 11 = .ok (.ifCond .le 13, 3) := by decide +kernel
theorem dX3_goesOn_14 : decode cX3_goesOn 14 = .ok (.iload_n 2, 1) := by decide +kernel
theorem dX3_goesOn_15 : decode cX3_goesOn 15 = .ok (.bipush 20, 2) := by decide +kernel
theorem dX3_goesOn_17 : decode cX3_goesOn 17 = .ok (.if_icmp .gt 7, 3) := by decide +kernel
theorem dX3_goesOn_20 : decode cX3_goesOn 20 = .ok (.iconst 1, 1) := by decide +kernel
theorem dX3_goesOn_21 : decode cX3_goesOn 21 = .ok (.goto 4, 3) := by decide +kernel
theorem dX3_goesOn_24 : decode cX3_goesOn 24 = .ok (.iconst 0, 1) := by decide +kernel
theorem dX3_goesOn_25 : decode cX3_goesOn 25 = .ok (.ireturn, 1) := by decide +kernel
theorem dX3_canDouble_0 : decode cX3_canDouble 0 = .ok (.iload_n 0, 1) := by decide +kernel
theorem dX3_canDouble_1 : decode cX3_canDouble 1 = .ok (.ifCond .le 15, 3) := by decide +kernel
theorem dX3_canDouble_4 : decode cX3_canDouble 4 = .ok (.iconst 2, 1) := by decide +kernel
theorem dX3_canDouble_5 : decode cX3_canDouble 5 = .ok (.iload_n 0, 1) := by decide +kernel
theorem dX3_canDouble_6 : decode cX3_canDouble 6 = .ok (.imul, 1) := by decide +kernel
theorem dX3_canDouble_7 : decode cX3_canDouble 7 = .ok (.bipush 24, 2) := by decide +kernel
theorem dX3_canDouble_9 : decode cX3_canDouble 9 = .ok (.if_icmp .gt 7, 3) := by decide +kernel
theorem dX3_canDouble_12 : decode cX3_canDouble 12 = .ok (.iconst 1, 1) := by decide +kernel
theorem dX3_canDouble_13 : decode cX3_canDouble 13 = .ok (.goto 4, 3) := by decide +kernel
theorem dX3_canDouble_16 : decode cX3_canDouble 16 = .ok (.iconst 0, 1) := by decide +kernel
theorem dX3_canDouble_17 : decode cX3_canDouble 17 = .ok (.ireturn, 1) := by decide +kernel
theorem dX3_isLine_0 : decode cX3_isLine 0 = .ok (.aload_n 0, 1) := by decide +kernel
theorem dX3_isLine_1 : decode cX3_isLine 1 = .ok (.getfield 15, 3) := by decide +kernel
theorem dX3_isLine_4 : decode cX3_isLine 4 = .ok (.ifCond .le 34, 3) := by decide +kernel
theorem dX3_isLine_7 : decode cX3_isLine 7 = .ok (.aload_n 0, 1) := by decide +kernel
theorem dX3_isLine_8 : decode cX3_isLine 8 = .ok (.invokevirtual 49, 3) := by decide +kernel
theorem dX3_isLine_11 : decode cX3_isLine 11 = .ok (.aload_n 0, 1) := by decide +kernel
theorem dX3_isLine_12 : decode cX3_isLine 12 = .ok (.getfield 15, 3) := by decide +kernel
theorem dX3_isLine_15 : decode cX3_isLine 15 = .ok (.if_icmp .ne 23, 3) := by decide +kernel
theorem dX3_isLine_18 : decode cX3_isLine 18 = .ok (.aload_n 0, 1) := by decide +kernel
theorem dX3_isLine_19 : decode cX3_isLine 19 = .ok (.aload_n 0, 1) := by decide +kernel
theorem dX3_isLine_20 : decode cX3_isLine 20 = .ok (.getfield 15, 3) := by decide +kernel
theorem dX3_isLine_23 : decode cX3_isLine 23 = .ok (.iconst 1, 1) := by decide +kernel
theorem dX3_isLine_24 : decode cX3_isLine 24 = .ok (.isub, 1) := by decide +kernel
theorem dX3_isLine_25 : decode cX3_isLine 25 = .ok (.invokevirtual 27, 3) := by decide +kernel
theorem dX3_isLine_28 : decode cX3_isLine 28 = .ok (.invokestatic 31, 3) := by decide +kernel
theorem dX3_isLine_31 : decode cX3_isLine 31 = .ok (.ifCond .eq 7, 3) := by decide +kernel
theorem dX3_isLine_34 : decode cX3_isLine 34 = .ok (.iconst 1, 1) := by decide +kernel
theorem dX3_isLine_35 : decode cX3_isLine 35 = .ok (.goto 4, 3) := by decide +kernel
theorem dX3_isLine_38 : decode cX3_isLine 38 = .ok (.iconst 0, 1) := by decide +kernel
theorem dX3_isLine_39 : decode cX3_isLine 39 = .ok (.ireturn, 1) := by decide +kernel
theorem dX3_isMetre_0 : decode cX3_isMetre 0 = .ok (.aload_n 0, 1) := by decide +kernel
theorem dX3_isMetre_1 : decode cX3_isMetre 1 = .ok (.aload_n 0, 1) := by decide +kernel
theorem dX3_isMetre_2 : decode cX3_isMetre 2 = .ok (.getfield 15, 3) := by decide +kernel
theorem dX3_isMetre_5 : decode cX3_isMetre 5 = .ok (.iconst 1, 1) := by decide +kernel
theorem dX3_isMetre_6 : decode cX3_isMetre 6 = .ok (.isub, 1) := by decide +kernel
theorem dX3_isMetre_7 : decode cX3_isMetre 7 = .ok (.invokevirtual 27, 3) := by decide +kernel
theorem dX3_isMetre_10 : decode cX3_isMetre 10 = .ok (.istore_n 1, 1) := by decide +kernel
theorem dX3_isMetre_11 : decode cX3_isMetre 11 = .ok (.aload_n 0, 1) := by decide +kernel
theorem dX3_isMetre_12 : decode cX3_isMetre 12 = .ok (.getfield 15, 3) := by decide +kernel
theorem dX3_isMetre_15 : decode cX3_isMetre 15 = .ok (.ifCond .le 31, 3) := by decide +kernel
theorem dX3_isMetre_18 : decode cX3_isMetre 18 = .ok (.aload_n 0, 1) := by decide +kernel
theorem dX3_isMetre_19 : decode cX3_isMetre 19 = .ok (.invokevirtual 53, 3) := by decide +kernel
theorem dX3_isMetre_22 : decode cX3_isMetre 22 = .ok (.aload_n 0, 1) := by decide +kernel
theorem dX3_isMetre_23 : decode cX3_isMetre 23 = .ok (.getfield 15, 3) := by decide +kernel
theorem dX3_isMetre_26 : decode cX3_isMetre 26 = .ok (.if_icmp .ne 20, 3) := by decide +kernel
theorem dX3_isMetre_29 : decode cX3_isMetre 29 = .ok (.iload_n 1, 1) := by decide +kernel
theorem dX3_isMetre_30 : decode cX3_isMetre 30 = .ok (.invokestatic 35, 3) := by decide +kernel
theorem dX3_isMetre_33 : decode cX3_isMetre 33 = .ok (.ifCond .ne 9, 3) := by decide +kernel
theorem dX3_isMetre_36 : decode cX3_isMetre 36 = .ok (.iload_n 1, 1) := by decide +kernel
theorem dX3_isMetre_37 : decode cX3_isMetre 37 = .ok (.bipush 68, 2) := by decide +kernel
theorem dX3_isMetre_39 : decode cX3_isMetre 39 = .ok (.if_icmp .ne 7, 3) := by decide +kernel
theorem dX3_isMetre_42 : decode cX3_isMetre 42 = .ok (.iconst 1, 1) := by decide +kernel
theorem dX3_isMetre_43 : decode cX3_isMetre 43 = .ok (.goto 4, 3) := by decide +kernel
theorem dX3_isMetre_46 : decode cX3_isMetre 46 = .ok (.iconst 0, 1) := by decide +kernel
theorem dX3_isMetre_47 : decode cX3_isMetre 47 = .ok (.ireturn, 1) := by decide +kernel
theorem dX4_isRaised_0 : decode cX4_isRaised 0 = .ok (.iload_n 0, 1) := by decide +kernel
theorem dX4_isRaised_1 : decode cX4_isRaised 1 = .ok (.iload_n 1, 1) := by decide +kernel
theorem dX4_isRaised_2 : decode cX4_isRaised 2 = .ok (.invokestatic 9, 3) := by decide +kernel
theorem dX4_isRaised_5 : decode cX4_isRaised 5 = .ok (.iconst (-1), 1) := by decide +kernel
theorem dX4_isRaised_6 : decode cX4_isRaised 6 = .ok (.if_icmp .ne 7, 3) := by decide +kernel
theorem dX4_isRaised_9 : decode cX4_isRaised 9 = .ok (.iconst 1, 1) := by decide +kernel
theorem dX4_isRaised_10 : decode cX4_isRaised 10 = .ok (.goto 4, 3) := by decide +kernel
theorem dX4_isRaised_13 : decode cX4_isRaised 13 = .ok (.iconst 0, 1) := by decide +kernel
theorem dX4_isRaised_14 : decode cX4_isRaised 14 = .ok (.ireturn, 1) := by decide +kernel
theorem dX4_written_0 : decode cX4_written 0 = .ok (.iload_n 0, 1) := by decide +kernel
theorem dX4_written_1 : decode cX4_written 1 = .ok (.iload_n 1, 1) := by decide +kernel
theorem dX4_written_2 : decode cX4_written 2 = .ok (.invokestatic 9, 3) := by decide +kernel
theorem dX4_written_5 : decode cX4_written 5 = .ok (.iconst (-1), 1) := by decide +kernel
theorem dX4_written_6 : decode cX4_written 6 = .ok (.if_icmp .ne 9, 3) := by decide +kernel
theorem dX4_written_9 : decode cX4_written 9 = .ok (.iload_n 1, 1) := by decide +kernel
theorem dX4_written_10 : decode cX4_written 10 = .ok (.iconst 1, 1) := by decide +kernel
theorem dX4_written_11 : decode cX4_written 11 = .ok (.isub, 1) := by decide +kernel
theorem dX4_written_12 : decode cX4_written 12 = .ok (.goto 4, 3) := by decide +kernel
theorem dX4_written_15 : decode cX4_written 15 = .ok (.iload_n 1, 1) := by decide +kernel
theorem dX4_written_16 : decode cX4_written 16 = .ok (.ireturn, 1) := by decide +kernel
theorem dX4_degreeOf_0 : decode cX4_degreeOf 0 = .ok (.iload_n 0, 1) := by decide +kernel
theorem dX4_degreeOf_1 : decode cX4_degreeOf 1 = .ok (.iload_n 1, 1) := by decide +kernel
theorem dX4_degreeOf_2 : decode cX4_degreeOf 2 = .ok (.invokestatic 9, 3) := by decide +kernel
theorem dX4_degreeOf_5 : decode cX4_degreeOf 5 = .ok (.istore_n 2, 1) := by decide +kernel
theorem dX4_degreeOf_6 : decode cX4_degreeOf 6 = .ok (.iload_n 2, 1) := by decide +kernel
theorem dX4_degreeOf_7 : decode cX4_degreeOf 7 = .ok (.iconst (-1), 1) := by decide +kernel
theorem dX4_degreeOf_8 : decode cX4_degreeOf 8 = .ok (.if_icmp .eq 7, 3) := by decide +kernel
theorem dX4_degreeOf_11 : decode cX4_degreeOf 11 = .ok (.iload_n 2, 1) := by decide +kernel
theorem dX4_degreeOf_12 : decode cX4_degreeOf 12 = .ok (.goto 10, 3) := by decide +kernel
theorem dX4_degreeOf_15 : decode cX4_degreeOf 15 = .ok (.iload_n 0, 1) := by decide +kernel
theorem dX4_degreeOf_16 : decode cX4_degreeOf 16 = .ok (.iload_n 1, 1) := by decide +kernel
theorem dX4_degreeOf_17 : decode cX4_degreeOf 17 = .ok (.iconst 1, 1) := by decide +kernel
theorem dX4_degreeOf_18 : decode cX4_degreeOf 18 = .ok (.isub, 1) := by decide +kernel
theorem dX4_degreeOf_19 : decode cX4_degreeOf 19 = .ok (.invokestatic 9, 3) := by decide +kernel
theorem dX4_degreeOf_22 : decode cX4_degreeOf 22 = .ok (.ireturn, 1) := by decide +kernel
theorem dX4_degreeInKey_0 : decode cX4_degreeInKey 0 = .ok (.iload_n 1, 1) := by decide +kernel
theorem dX4_degreeInKey_1 : decode cX4_degreeInKey 1 = .ok (.iload_n 0, 1) := by decide +kernel
theorem dX4_degreeInKey_2 : decode cX4_degreeInKey 2 = .ok (.isub, 1) := by decide +kernel
theorem dX4_degreeInKey_3 : decode cX4_degreeInKey 3 = .ok (.bipush 12, 2) := by decide +kernel
theorem dX4_degreeInKey_5 : decode cX4_degreeInKey 5 = .ok (.invokestatic 15, 3) := by decide +kernel
theorem dX4_degreeInKey_8 : decode cX4_degreeInKey 8 = .ok (.istore_n 2, 1) := by decide +kernel
theorem dX4_degreeInKey_9 : decode cX4_degreeInKey 9 = .ok (.iconst 0, 1) := by decide +kernel
theorem dX4_degreeInKey_10 : decode cX4_degreeInKey 10 = .ok (.istore_n 3, 1) := by decide +kernel
theorem dX4_degreeInKey_11 : decode cX4_degreeInKey 11 = .ok (.iload_n 3, 1) := by decide +kernel
theorem dX4_degreeInKey_12 : decode cX4_degreeInKey 12 = .ok (.bipush 7, 2) := by decide +kernel
theorem dX4_degreeInKey_14 : decode cX4_degreeInKey 14 = .ok (.if_icmp .ge 22, 3) := by decide +kernel
theorem dX4_degreeInKey_17 : decode cX4_degreeInKey 17 = .ok (.getstatic 20, 3) := by decide +kernel
theorem dX4_degreeInKey_20 : decode cX4_degreeInKey 20 = .ok (.iload_n 3, 1) := by decide +kernel
theorem dX4_degreeInKey_21 : decode cX4_degreeInKey 21 = .ok (.invokestatic 24, 3) := by decide +kernel
theorem dX4_degreeInKey_24 : decode cX4_degreeInKey 24 = .ok (.iload_n 2, 1) := by decide +kernel
theorem dX4_degreeInKey_25 : decode cX4_degreeInKey 25 = .ok (.if_icmp .ne 5, 3) := by decide +kernel
theorem dX4_degreeInKey_28 : decode cX4_degreeInKey 28 = .ok (.iload_n 3, 1) := by decide +kernel
theorem dX4_degreeInKey_29 : decode cX4_degreeInKey 29 = .ok (.ireturn, 1) := by decide +kernel
theorem dX4_degreeInKey_30 : decode cX4_degreeInKey 30 = .ok (.iinc 3 1, 3) := by decide +kernel
theorem dX4_degreeInKey_33 : decode cX4_degreeInKey 33 = .ok (.goto (-22), 3) := by decide +kernel
theorem dX4_degreeInKey_36 : decode cX4_degreeInKey 36 = .ok (.iconst (-1), 1) := by decide +kernel
theorem dX4_degreeInKey_37 : decode cX4_degreeInKey 37 = .ok (.ireturn, 1) := by decide +kernel
theorem dX4_stepOf_0 : decode cX4_stepOf 0 = .ok (.getstatic 28, 3) := by decide +kernel
theorem dX4_stepOf_3 : decode cX4_stepOf 3 = .ok (.iload_n 0, 1) := by decide +kernel
theorem dX4_stepOf_4 : decode cX4_stepOf 4 = .ok (.invokestatic 24, 3) := by decide +kernel
theorem dX4_stepOf_7 : decode cX4_stepOf 7 = .ok (.iload_n 0, 1) := by decide +kernel
theorem dX4_stepOf_8 : decode cX4_stepOf 8 = .ok (.iload_n 1, 1) := by decide +kernel
theorem dX4_stepOf_9 : decode cX4_stepOf 9 = .ok (.invokestatic 31, 3) := by decide +kernel
theorem dX4_stepOf_12 : decode cX4_stepOf 12 = .ok (.iadd, 1) := by decide +kernel
theorem dX4_stepOf_13 : decode cX4_stepOf 13 = .ok (.bipush 7, 2) := by decide +kernel
theorem dX4_stepOf_15 : decode cX4_stepOf 15 = .ok (.irem, 1) := by decide +kernel
theorem dX4_stepOf_16 : decode cX4_stepOf 16 = .ok (.istore_n 2, 1) := by decide +kernel
theorem dX4_stepOf_17 : decode cX4_stepOf 17 = .ok (.iload_n 0, 1) := by decide +kernel
theorem dX4_stepOf_18 : decode cX4_stepOf 18 = .ok (.iload_n 1, 1) := by decide +kernel
theorem dX4_stepOf_19 : decode cX4_stepOf 19 = .ok (.invokestatic 34, 3) := by decide +kernel
theorem dX4_stepOf_22 : decode cX4_stepOf 22 = .ok (.getstatic 20, 3) := by decide +kernel
theorem dX4_stepOf_25 : decode cX4_stepOf 25 = .ok (.iload_n 2, 1) := by decide +kernel
theorem dX4_stepOf_26 : decode cX4_stepOf 26 = .ok (.invokestatic 24, 3) := by decide +kernel
theorem dX4_stepOf_29 : decode cX4_stepOf 29 = .ok (.isub, 1) := by decide +kernel
theorem dX4_stepOf_30 : decode cX4_stepOf 30 = .ok (.iconst 2, 1) := by decide +kernel
theorem dX4_stepOf_31 : decode cX4_stepOf 31 = .ok (.iadd, 1) := by decide +kernel
theorem dX4_stepOf_32 : decode cX4_stepOf 32 = .ok (.bipush 12, 2) := by decide +kernel
theorem dX4_stepOf_34 : decode cX4_stepOf 34 = .ok (.invokestatic 37, 3) := by decide +kernel
theorem dX4_stepOf_37 : decode cX4_stepOf 37 = .ok (.istore_n 3, 1) := by decide +kernel
theorem dX4_stepOf_38 : decode cX4_stepOf 38 = .ok (.bipush 7, 2) := by decide +kernel
theorem dX4_stepOf_40 : decode cX4_stepOf 40 = .ok (.iload_n 3, 1) := by decide +kernel
theorem dX4_stepOf_41 : decode cX4_stepOf 41 = .ok (.imul, 1) := by decide +kernel
theorem dX4_stepOf_42 : decode cX4_stepOf 42 = .ok (.iload_n 2, 1) := by decide +kernel
theorem dX4_stepOf_43 : decode cX4_stepOf 43 = .ok (.iadd, 1) := by decide +kernel
theorem dX4_stepOf_44 : decode cX4_stepOf 44 = .ok (.ireturn, 1) := by decide +kernel
theorem dX4_shapeOf_0 : decode cX4_shapeOf 0 = .ok (.getstatic 40, 3) := by decide +kernel
theorem dX4_shapeOf_3 : decode cX4_shapeOf 3 = .ok (.iload_n 0, 1) := by decide +kernel
theorem dX4_shapeOf_4 : decode cX4_shapeOf 4 = .ok (.iload_n 1, 1) := by decide +kernel
theorem dX4_shapeOf_5 : decode cX4_shapeOf 5 = .ok (.invokestatic 31, 3) := by decide +kernel
theorem dX4_shapeOf_8 : decode cX4_shapeOf 8 = .ok (.invokestatic 24, 3) := by decide +kernel
theorem dX4_shapeOf_11 : decode cX4_shapeOf 11 = .ok (.ireturn, 1) := by decide +kernel
theorem dX4_ledgerLines_0 : decode cX4_ledgerLines 0 = .ok (.getstatic 43, 3) := by decide +kernel
theorem dX4_ledgerLines_3 : decode cX4_ledgerLines 3 = .ok (.iload_n 1, 1) := by decide +kernel
theorem dX4_ledgerLines_4 : decode cX4_ledgerLines 4 = .ok (.invokestatic 24, 3) := by decide +kernel
theorem dX4_ledgerLines_7 : decode cX4_ledgerLines 7 = .ok (.istore_n 2, 1) := by decide +kernel
theorem dX4_ledgerLines_8 : decode cX4_ledgerLines 8 = .ok (.iload_n 2, 1) := by decide +kernel
theorem dX4_ledgerLines_9 : decode cX4_ledgerLines 9 = .ok (.bipush 8, 2) := by decide +kernel
theorem dX4_ledgerLines_11 : decode cX4_ledgerLines 11 = .ok (.iadd, 1) := by decide +kernel
theorem dX4_ledgerLines_12 : decode cX4_ledgerLines 12 = .ok (.istore_n 3, 1) := by decide +kernel
theorem dX4_ledgerLines_13 : decode cX4_ledgerLines 13 = .ok (.iload_n 0, 1) := by decide +kernel
theorem dX4_ledgerLines_14 : decode cX4_ledgerLines 14 = .ok (.iload_n 3, 1) := by decide +kernel
theorem dX4_ledgerLines_15 : decode cX4_ledgerLines 15 = .ok (.if_icmp .le 9, 3) := by decide +kernel
theorem dX4_ledgerLines_18 : decode cX4_ledgerLines 18 = .ok (.iload_n 0, 1) := by decide +kernel
theorem dX4_ledgerLines_19 : decode cX4_ledgerLines 19 = .ok (.iload_n 3, 1) := by decide +kernel
theorem dX4_ledgerLines_20 : decode cX4_ledgerLines 20 = .ok (.isub, 1) := by decide +kernel
theorem dX4_ledgerLines_21 : decode cX4_ledgerLines 21 = .ok (.iconst 2, 1) := by decide +kernel
theorem dX4_ledgerLines_22 : decode cX4_ledgerLines 22 = .ok (.idiv, 1) := by decide +kernel
theorem dX4_ledgerLines_23 : decode cX4_ledgerLines 23 = .ok (.ireturn, 1) := by decide +kernel
theorem dX4_ledgerLines_24 : decode cX4_ledgerLines 24 = .ok (.iload_n 0, 1) := by decide +kernel
theorem dX4_ledgerLines_25 : decode cX4_ledgerLines 25 = .ok (.iload_n 2, 1) := by decide +kernel
theorem dX4_ledgerLines_26 : decode cX4_ledgerLines 26 = .ok (.if_icmp .ge 11, 3) := by decide +kernel
theorem dX4_ledgerLines_29 : decode cX4_ledgerLines 29 = .ok (.iload_n 2, 1) := by decide +kernel
theorem dX4_ledgerLines_30 : decode cX4_ledgerLines 30 = .ok (.iload_n 0, 1) := by decide +kernel
theorem dX4_ledgerLines_31 : decode cX4_ledgerLines 31 = .ok (.isub, 1) := by decide +kernel
theorem dX4_ledgerLines_32 : decode cX4_ledgerLines 32 = .ok (.iconst 2, 1) := by decide +kernel
theorem dX4_ledgerLines_33 : decode cX4_ledgerLines 33 = .ok (.idiv, 1) := by decide +kernel
theorem dX4_ledgerLines_34 : decode cX4_ledgerLines 34 = .ok (.goto 4, 3) := by decide +kernel
theorem dX4_ledgerLines_37 : decode cX4_ledgerLines 37 = .ok (.iconst 0, 1) := by decide +kernel
theorem dX4_ledgerLines_38 : decode cX4_ledgerLines 38 = .ok (.ireturn, 1) := by decide +kernel
theorem dX5_init_0 : decode cX5_init 0 = .ok (.aload_n 0, 1) := by decide +kernel
theorem dX5_init_1 : decode cX5_init 1 = .ok (.invokespecial 3, 3) := by decide +kernel
theorem dX5_init_4 : decode cX5_init 4 = .ok (.aload_n 0, 1) := by decide +kernel
theorem dX5_init_5 : decode cX5_init 5 = .ok (.bipush 80, 2) := by decide +kernel
theorem dX5_init_7 : decode cX5_init 7 = .ok (.newarray .int, 2) := by decide +kernel
theorem dX5_init_9 : decode cX5_init 9 = .ok (.putfield 9, 3) := by decide +kernel
theorem dX5_init_12 : decode cX5_init 12 = .ok (.aload_n 0, 1) := by decide +kernel
theorem dX5_init_13 : decode cX5_init 13 = .ok (.bipush 40, 2) := by decide +kernel
theorem dX5_init_15 : decode cX5_init 15 = .ok (.newarray .int, 2) := by decide +kernel
theorem dX5_init_17 : decode cX5_init 17 = .ok (.putfield 15, 3) := by decide +kernel
theorem dX5_init_20 : decode cX5_init 20 = .ok (.aload_n 0, 1) := by decide +kernel
theorem dX5_init_21 : decode cX5_init 21 = .ok (.iconst 0, 1) := by decide +kernel
theorem dX5_init_22 : decode cX5_init 22 = .ok (.putfield 18, 3) := by decide +kernel
theorem dX5_init_25 : decode cX5_init 25 = .ok (.return_, 1) := by decide +kernel
theorem dX5_find_0 : decode cX5_find 0 = .ok (.aload_n 0, 1) := by decide +kernel
theorem dX5_find_1 : decode cX5_find 1 = .ok (.iconst 0, 1) := by decide +kernel
theorem dX5_find_2 : decode cX5_find 2 = .ok (.putfield 18, 3) := by decide +kernel
theorem dX5_find_5 : decode cX5_find 5 = .ok (.iconst 0, 1) := by decide +kernel
theorem dX5_find_6 : decode cX5_find 6 = .ok (.istore_n 3, 1) := by decide +kernel
theorem dX5_find_7 : decode cX5_find 7 = .ok (.iload_n 3, 1) := by decide +kernel
theorem dX5_find_8 : decode cX5_find 8 = .ok (.iload_n 1, 1) := by decide +kernel
theorem dX5_find_9 : decode cX5_find 9 = .ok (.if_icmp .ge 18, 3) := by decide +kernel
theorem dX5_find_12 : decode cX5_find 12 = .ok (.aload_n 0, 1) := by decide +kernel
theorem dX5_find_13 : decode cX5_find 13 = .ok (.getfield 15, 3) := by decide +kernel
theorem dX5_find_16 : decode cX5_find 16 = .ok (.iload_n 3, 1) := by decide +kernel
theorem dX5_find_17 : decode cX5_find 17 = .ok (.iconst 0, 1) := by decide +kernel
theorem dX5_find_18 : decode cX5_find 18 = .ok (.invokestatic 22, 3) := by decide +kernel
theorem dX5_find_21 : decode cX5_find 21 = .ok (.iinc 3 1, 3) := by decide +kernel
theorem dX5_find_24 : decode cX5_find 24 = .ok (.goto (-17), 3) := by decide +kernel
theorem dX5_find_27 : decode cX5_find 27 = .ok (.iconst 0, 1) := by decide +kernel
theorem dX5_find_28 : decode cX5_find 28 = .ok (.istore_n 3, 1) := by decide +kernel
theorem dX5_find_29 : decode cX5_find 29 = .ok (.iload_n 3, 1) := by decide +kernel
theorem dX5_find_30 : decode cX5_find 30 = .ok (.iload_n 1, 1) := by decide +kernel
theorem dX5_find_31 : decode cX5_find 31 = .ok (.if_icmp .ge 43, 3) := by decide +kernel
theorem dX5_find_34 : decode cX5_find 34 = .ok (.aload_n 0, 1) := by decide +kernel
theorem dX5_find_35 : decode cX5_find 35 = .ok (.iload_n 3, 1) := by decide +kernel
theorem dX5_find_36 : decode cX5_find 36 = .ok (.invokevirtual 26, 3) := by decide +kernel
theorem dX5_find_39 : decode cX5_find 39 = .ok (.aload_n 2, 1) := by decide +kernel
theorem dX5_find_40 : decode cX5_find 40 = .ok (.iload_n 3, 1) := by decide +kernel
theorem dX5_find_41 : decode cX5_find 41 = .ok (.invokevirtual 30, 3) := by decide +kernel
theorem dX5_find_44 : decode cX5_find 44 = .ok (.istore 4, 2) := by decide +kernel
theorem dX5_find_46 : decode cX5_find 46 = .ok (.iload 4, 2) := by decide +kernel
theorem dX5_find_48 : decode cX5_find 48 = .ok (.iconst (-1), 1) := by decide +kernel
theorem dX5_find_49 : decode cX5_find 49 = .ok (.if_icmp .eq 19, 3) := by decide +kernel
theorem dX5_find_52 : decode cX5_find 52 = .ok (.aload_n 0, 1) := by decide +kernel
theorem dX5_find_53 : decode cX5_find 53 = .ok (.aload_n 2, 1) := by decide +kernel
theorem dX5_find_54 : decode cX5_find 54 = .ok (.iload 4, 2) := by decide +kernel
theorem dX5_find_56 : decode cX5_find 56 = .ok (.invokevirtual 36, 3) := by decide +kernel
theorem dX5_find_59 : decode cX5_find 59 = .ok (.aload_n 2, 1) := by decide +kernel
theorem dX5_find_60 : decode cX5_find 60 = .ok (.iload 4, 2) := by decide +kernel
theorem dX5_find_62 : decode cX5_find 62 = .ok (.invokevirtual 39, 3) := by decide +kernel
theorem dX5_find_65 : decode cX5_find 65 = .ok (.invokevirtual 42, 3) := by decide +kernel
theorem dX5_find_68 : decode cX5_find 68 = .ok (.iinc 3 1, 3) := by decide +kernel
theorem dX5_find_71 : decode cX5_find 71 = .ok (.goto (-42), 3) := by decide +kernel
theorem dX5_find_74 : decode cX5_find 74 = .ok (.return_, 1) := by decide +kernel
theorem dX5_pushAgain_0 : decode cX5_pushAgain 0 = .ok (.iload_n 1, 1) := by decide +kernel
theorem dX5_pushAgain_1 : decode cX5_pushAgain 1 = .ok (.istore_n 3, 1) := by decide +kernel
theorem dX5_pushAgain_2 : decode cX5_pushAgain 2 = .ok (.iload_n 3, 1) := by decide +kernel
theorem dX5_pushAgain_3 : decode cX5_pushAgain 3 = .ok (.iload_n 2, 1) := by decide +kernel
theorem dX5_pushAgain_4 : decode cX5_pushAgain 4 = .ok (.if_icmp .gt 14, 3) := by decide +kernel
theorem dX5_pushAgain_7 : decode cX5_pushAgain 7 = .ok (.aload_n 0, 1) := by decide +kernel
theorem dX5_pushAgain_8 : decode cX5_pushAgain 8 = .ok (.iload_n 3, 1) := by decide +kernel
theorem dX5_pushAgain_9 : decode cX5_pushAgain 9 = .ok (.invokevirtual 26, 3) := by decide +kernel
theorem dX5_pushAgain_12 : decode cX5_pushAgain 12 = .ok (.iinc 3 1, 3) := by decide +kernel
theorem dX5_pushAgain_15 : decode cX5_pushAgain 15 = .ok (.goto (-13), 3) := by decide +kernel
theorem dX5_pushAgain_18 : decode cX5_pushAgain 18 = .ok (.return_, 1) := by decide +kernel
theorem dX5_push_0 : decode cX5_push 0 = .ok (.aload_n 0, 1) := by decide +kernel
theorem dX5_push_1 : decode cX5_push 1 = .ok (.getfield 9, 3) := by decide +kernel
theorem dX5_push_4 : decode cX5_push 4 = .ok (.aload_n 0, 1) := by decide +kernel
theorem dX5_push_5 : decode cX5_push 5 = .ok (.getfield 18, 3) := by decide +kernel
theorem dX5_push_8 : decode cX5_push 8 = .ok (.iload_n 1, 1) := by decide +kernel
theorem dX5_push_9 : decode cX5_push 9 = .ok (.invokestatic 22, 3) := by decide +kernel
theorem dX5_push_12 : decode cX5_push 12 = .ok (.aload_n 0, 1) := by decide +kernel
theorem dX5_push_13 : decode cX5_push 13 = .ok (.getfield 15, 3) := by decide +kernel
theorem dX5_push_16 : decode cX5_push 16 = .ok (.iload_n 1, 1) := by decide +kernel
theorem dX5_push_17 : decode cX5_push 17 = .ok (.aload_n 0, 1) := by decide +kernel
theorem dX5_push_18 : decode cX5_push 18 = .ok (.iload_n 1, 1) := by decide +kernel
theorem dX5_push_19 : decode cX5_push 19 = .ok (.invokevirtual 46, 3) := by decide +kernel
theorem dX5_push_22 : decode cX5_push 22 = .ok (.iconst 1, 1) := by decide +kernel
theorem dX5_push_23 : decode cX5_push 23 = .ok (.iadd, 1) := by decide +kernel
theorem dX5_push_24 : decode cX5_push 24 = .ok (.invokestatic 22, 3) := by decide +kernel
theorem dX5_push_27 : decode cX5_push 27 = .ok (.aload_n 0, 1) := by decide +kernel
theorem dX5_push_28 : decode cX5_push 28 = .ok (.dup, 1) := by decide +kernel
theorem dX5_push_29 : decode cX5_push 29 = .ok (.getfield 18, 3) := by decide +kernel
theorem dX5_push_32 : decode cX5_push 32 = .ok (.iconst 1, 1) := by decide +kernel
theorem dX5_push_33 : decode cX5_push 33 = .ok (.iadd, 1) := by decide +kernel
theorem dX5_push_34 : decode cX5_push 34 = .ok (.putfield 18, 3) := by decide +kernel
theorem dX5_push_37 : decode cX5_push 37 = .ok (.return_, 1) := by decide +kernel
theorem dX5_phraseAt_0 : decode cX5_phraseAt 0 = .ok (.aload_n 0, 1) := by decide +kernel
theorem dX5_phraseAt_1 : decode cX5_phraseAt 1 = .ok (.getfield 9, 3) := by decide +kernel
theorem dX5_phraseAt_4 : decode cX5_phraseAt 4 = .ok (.iload_n 1, 1) := by decide +kernel
theorem dX5_phraseAt_5 : decode cX5_phraseAt 5 = .ok (.invokestatic 49, 3) := by decide +kernel
theorem dX5_phraseAt_8 : decode cX5_phraseAt 8 = .ok (.ireturn, 1) := by decide +kernel
theorem dX5_timesOf_0 : decode cX5_timesOf 0 = .ok (.aload_n 0, 1) := by decide +kernel
theorem dX5_timesOf_1 : decode cX5_timesOf 1 = .ok (.getfield 15, 3) := by decide +kernel
theorem dX5_timesOf_4 : decode cX5_timesOf 4 = .ok (.iload_n 1, 1) := by decide +kernel
theorem dX5_timesOf_5 : decode cX5_timesOf 5 = .ok (.invokestatic 49, 3) := by decide +kernel
theorem dX5_timesOf_8 : decode cX5_timesOf 8 = .ok (.ireturn, 1) := by decide +kernel
theorem dX6_init_0 : decode cX6_init 0 = .ok (.aload_n 0, 1) := by decide +kernel
theorem dX6_init_1 : decode cX6_init 1 = .ok (.invokespecial 3, 3) := by decide +kernel
theorem dX6_init_4 : decode cX6_init 4 = .ok (.aload_n 0, 1) := by decide +kernel
theorem dX6_init_5 : decode cX6_init 5 = .ok (.bipush 40, 2) := by decide +kernel
theorem dX6_init_7 : decode cX6_init 7 = .ok (.newarray .int, 2) := by decide +kernel
theorem dX6_init_9 : decode cX6_init 9 = .ok (.putfield 9, 3) := by decide +kernel
theorem dX6_init_12 : decode cX6_init 12 = .ok (.aload_n 0, 1) := by decide +kernel
theorem dX6_init_13 : decode cX6_init 13 = .ok (.bipush 40, 2) := by decide +kernel
theorem dX6_init_15 : decode cX6_init 15 = .ok (.newarray .int, 2) := by decide +kernel
theorem dX6_init_17 : decode cX6_init 17 = .ok (.putfield 15, 3) := by decide +kernel
theorem dX6_init_20 : decode cX6_init 20 = .ok (.aload_n 0, 1) := by decide +kernel
theorem dX6_init_21 : decode cX6_init 21 = .ok (.bipush 40, 2) := by decide +kernel
theorem dX6_init_23 : decode cX6_init 23 = .ok (.newarray .int, 2) := by decide +kernel
theorem dX6_init_25 : decode cX6_init 25 = .ok (.putfield 18, 3) := by decide +kernel
theorem dX6_init_28 : decode cX6_init 28 = .ok (.aload_n 0, 1) := by decide +kernel
theorem dX6_init_29 : decode cX6_init 29 = .ok (.bipush 40, 2) := by decide +kernel
theorem dX6_init_31 : decode cX6_init 31 = .ok (.newarray .int, 2) := by decide +kernel
theorem dX6_init_33 : decode cX6_init 33 = .ok (.putfield 21, 3) := by decide +kernel
theorem dX6_init_36 : decode cX6_init 36 = .ok (.aload_n 0, 1) := by decide +kernel
theorem dX6_init_37 : decode cX6_init 37 = .ok (.bipush 40, 2) := by decide +kernel
theorem dX6_init_39 : decode cX6_init 39 = .ok (.newarray .int, 2) := by decide +kernel
theorem dX6_init_41 : decode cX6_init 41 = .ok (.putfield 24, 3) := by decide +kernel
theorem dX6_init_44 : decode cX6_init 44 = .ok (.aload_n 0, 1) := by decide +kernel
theorem dX6_init_45 : decode cX6_init 45 = .ok (.iconst 0, 1) := by decide +kernel
theorem dX6_init_46 : decode cX6_init 46 = .ok (.putfield 27, 3) := by decide +kernel
theorem dX6_init_49 : decode cX6_init 49 = .ok (.return_, 1) := by decide +kernel
theorem dX6_find_0 : decode cX6_find 0 = .ok (.aload_n 0, 1) := by decide +kernel
theorem dX6_find_1 : decode cX6_find 1 = .ok (.iconst 0, 1) := by decide +kernel
theorem dX6_find_2 : decode cX6_find 2 = .ok (.putfield 27, 3) := by decide +kernel
theorem dX6_find_5 : decode cX6_find 5 = .ok (.iconst 1, 1) := by decide +kernel
theorem dX6_find_6 : decode cX6_find 6 = .ok (.istore_n 2, 1) := by decide +kernel
theorem dX6_find_7 : decode cX6_find 7 = .ok (.iconst 0, 1) := by decide +kernel
theorem dX6_find_8 : decode cX6_find 8 = .ok (.istore_n 3, 1) := by decide +kernel
theorem dX6_find_9 : decode cX6_find 9 = .ok (.iload_n 3, 1) := by decide +kernel
theorem dX6_find_10 : decode cX6_find 10 = .ok (.aload_n 1, 1) := by decide +kernel
theorem dX6_find_11 : decode cX6_find 11 = .ok (.getfield 31, 3) := by decide +kernel
theorem dX6_find_14 : decode cX6_find 14 = .ok (.if_icmp .ge 52, 3) := by decide +kernel
theorem dX6_find_17 : decode cX6_find 17 = .ok (.iload_n 2, 1) := by decide +kernel
theorem dX6_find_18 : decode cX6_find 18 = .ok (.ifCond .eq 8, 3) := by decide +kernel
theorem dX6_find_21 : decode cX6_find 21 = .ok (.aload_n 0, 1) := by decide +kernel
theorem dX6_find_22 : decode cX6_find 22 = .ok (.iload_n 3, 1) := by decide +kernel
theorem dX6_find_23 : decode cX6_find 23 = .ok (.invokevirtual 34, 3) := by decide +kernel
theorem dX6_find_26 : decode cX6_find 26 = .ok (.aload_n 0, 1) := by decide +kernel
theorem dX6_find_27 : decode cX6_find 27 = .ok (.iload_n 3, 1) := by decide +kernel
theorem dX6_find_28 : decode cX6_find 28 = .ok (.iload_n 2, 1) := by decide +kernel
theorem dX6_find_29 : decode cX6_find 29 = .ok (.ifCond .ne 18, 3) := by decide +kernel
theorem dX6_find_32 : decode cX6_find 32 = .ok (.aload_n 1, 1) := by decide +kernel
theorem dX6_find_33 : decode cX6_find 33 = .ok (.getfield 38, 3) := by decide +kernel
theorem dX6_find_36 : decode cX6_find 36 = .ok (.iload_n 3, 1) := by decide +kernel
theorem dX6_find_37 : decode cX6_find 37 = .ok (.invokestatic 42, 3) := by decide +kernel
theorem dX6_find_40 : decode cX6_find 40 = .ok (.ifCond .eq 7, 3) := by decide +kernel
theorem dX6_find_43 : decode cX6_find 43 = .ok (.iconst 1, 1) := by decide +kernel
theorem dX6_find_44 : decode cX6_find 44 = .ok (.goto 4, 3) := by decide +kernel
theorem dX6_find_47 : decode cX6_find 47 = .ok (.iconst 0, 1) := by decide +kernel
theorem dX6_find_48 : decode cX6_find 48 = .ok (.invokevirtual 46, 3) := by decide +kernel
theorem dX6_find_51 : decode cX6_find 51 = .ok (.aload_n 1, 1) := by decide +kernel
theorem dX6_find_52 : decode cX6_find 52 = .ok (.getfield 50, 3) := by decide +kernel
theorem dX6_find_55 : decode cX6_find 55 = .ok (.iload_n 3, 1) := by decide +kernel
theorem dX6_find_56 : decode cX6_find 56 = .ok (.invokestatic 42, 3) := by decide +kernel
theorem dX6_find_59 : decode cX6_find 59 = .ok (.istore_n 2, 1) := by decide +kernel
theorem dX6_find_60 : decode cX6_find 60 = .ok (.iinc 3 1, 3) := by decide +kernel
theorem dX6_find_63 : decode cX6_find 63 = .ok (.goto (-54), 3) := by decide +kernel
theorem dX6_find_66 : decode cX6_find 66 = .ok (.return_, 1) := by decide +kernel
theorem dX6_open_0 : decode cX6_open 0 = .ok (.aload_n 0, 1) := by decide +kernel
theorem dX6_open_1 : decode cX6_open 1 = .ok (.getfield 18, 3) := by decide +kernel
theorem dX6_open_4 : decode cX6_open 4 = .ok (.aload_n 0, 1) := by decide +kernel
theorem dX6_open_5 : decode cX6_open 5 = .ok (.getfield 27, 3) := by decide +kernel
theorem dX6_open_8 : decode cX6_open 8 = .ok (.iload_n 1, 1) := by decide +kernel
theorem dX6_open_9 : decode cX6_open 9 = .ok (.invokestatic 53, 3) := by decide +kernel
theorem dX6_open_12 : decode cX6_open 12 = .ok (.aload_n 0, 1) := by decide +kernel
theorem dX6_open_13 : decode cX6_open 13 = .ok (.getfield 24, 3) := by decide +kernel
theorem dX6_open_16 : decode cX6_open 16 = .ok (.aload_n 0, 1) := by decide +kernel
theorem dX6_open_17 : decode cX6_open 17 = .ok (.getfield 27, 3) := by decide +kernel
theorem dX6_open_20 : decode cX6_open 20 = .ok (.iconst 0, 1) := by decide +kernel
theorem dX6_open_21 : decode cX6_open 21 = .ok (.invokestatic 53, 3) := by decide +kernel
theorem dX6_open_24 : decode cX6_open 24 = .ok (.aload_n 0, 1) := by decide +kernel
theorem dX6_open_25 : decode cX6_open 25 = .ok (.dup, 1) := by decide +kernel
theorem dX6_open_26 : decode cX6_open 26 = .ok (.getfield 27, 3) := by decide +kernel
theorem dX6_open_29 : decode cX6_open 29 = .ok (.iconst 1, 1) := by decide +kernel
theorem dX6_open_30 : decode cX6_open 30 = .ok (.iadd, 1) := by decide +kernel
theorem dX6_open_31 : decode cX6_open 31 = .ok (.putfield 27, 3) := by decide +kernel
theorem dX6_open_34 : decode cX6_open 34 = .ok (.return_, 1) := by decide +kernel
theorem dX6_take_0 : decode cX6_take 0 = .ok (.aload_n 0, 1) := by decide +kernel
theorem dX6_take_1 : decode cX6_take 1 = .ok (.getfield 27, 3) := by decide +kernel
theorem dX6_take_4 : decode cX6_take 4 = .ok (.iconst 1, 1) := by decide +kernel
theorem dX6_take_5 : decode cX6_take 5 = .ok (.isub, 1) := by decide +kernel
theorem dX6_take_6 : decode cX6_take 6 = .ok (.istore_n 3, 1) := by decide +kernel
theorem dX6_take_7 : decode cX6_take 7 = .ok (.aload_n 0, 1) := by decide +kernel
theorem dX6_take_8 : decode cX6_take 8 = .ok (.getfield 21, 3) := by decide +kernel
theorem dX6_take_11 : decode cX6_take 11 = .ok (.iload_n 3, 1) := by decide +kernel
theorem dX6_take_12 : decode cX6_take 12 = .ok (.iload_n 1, 1) := by decide +kernel
theorem dX6_take_13 : decode cX6_take 13 = .ok (.invokestatic 53, 3) := by decide +kernel
theorem dX6_take_16 : decode cX6_take 16 = .ok (.aload_n 0, 1) := by decide +kernel
theorem dX6_take_17 : decode cX6_take 17 = .ok (.getfield 9, 3) := by decide +kernel
theorem dX6_take_20 : decode cX6_take 20 = .ok (.iload_n 1, 1) := by decide +kernel
theorem dX6_take_21 : decode cX6_take 21 = .ok (.iload_n 3, 1) := by decide +kernel
theorem dX6_take_22 : decode cX6_take 22 = .ok (.invokestatic 53, 3) := by decide +kernel
theorem dX6_take_25 : decode cX6_take 25 = .ok (.aload_n 0, 1) := by decide +kernel
theorem dX6_take_26 : decode cX6_take 26 = .ok (.getfield 15, 3) := by decide +kernel
theorem dX6_take_29 : decode cX6_take 29 = .ok (.iload_n 1, 1) := by decide +kernel
theorem dX6_take_30 : decode cX6_take 30 = .ok (.iload_n 2, 1) := by decide +kernel
theorem dX6_take_31 : decode cX6_take 31 = .ok (.ifCond .eq 7, 3) := by decide +kernel
theorem dX6_take_34 : decode cX6_take 34 = .ok (.iconst (-1), 1) := by decide +kernel
theorem dX6_take_35 : decode cX6_take 35 = .ok (.goto 8, 3) := by decide +kernel
theorem dX6_take_38 : decode cX6_take 38 = .ok (.aload_n 0, 1) := by decide +kernel
theorem dX6_take_39 : decode cX6_take 39 = .ok (.iload_n 3, 1) := by decide +kernel
theorem dX6_take_40 : decode cX6_take 40 = .ok (.invokevirtual 57, 3) := by decide +kernel
theorem dX6_take_43 : decode cX6_take 43 = .ok (.invokestatic 53, 3) := by decide +kernel
theorem dX6_take_46 : decode cX6_take 46 = .ok (.aload_n 0, 1) := by decide +kernel
theorem dX6_take_47 : decode cX6_take 47 = .ok (.getfield 24, 3) := by decide +kernel
theorem dX6_take_50 : decode cX6_take 50 = .ok (.iload_n 3, 1) := by decide +kernel
theorem dX6_take_51 : decode cX6_take 51 = .ok (.aload_n 0, 1) := by decide +kernel
theorem dX6_take_52 : decode cX6_take 52 = .ok (.iload_n 3, 1) := by decide +kernel
theorem dX6_take_53 : decode cX6_take 53 = .ok (.invokevirtual 57, 3) := by decide +kernel
theorem dX6_take_56 : decode cX6_take 56 = .ok (.iload_n 2, 1) := by decide +kernel
theorem dX6_take_57 : decode cX6_take 57 = .ok (.ifCond .ne 7, 3) := by decide +kernel
theorem dX6_take_60 : decode cX6_take 60 = .ok (.iconst 1, 1) := by decide +kernel
theorem dX6_take_61 : decode cX6_take 61 = .ok (.goto 4, 3) := by decide +kernel
theorem dX6_take_64 : decode cX6_take 64 = .ok (.iconst 0, 1) := by decide +kernel
theorem dX6_take_65 : decode cX6_take 65 = .ok (.invokestatic 61, 3) := by decide +kernel
theorem dX6_take_68 : decode cX6_take 68 = .ok (.iadd, 1) := by decide +kernel
theorem dX6_take_69 : decode cX6_take 69 = .ok (.invokestatic 53, 3) := by decide +kernel
theorem dX6_take_72 : decode cX6_take 72 = .ok (.return_, 1) := by decide +kernel
theorem dX6_phraseOf_0 : decode cX6_phraseOf 0 = .ok (.aload_n 0, 1) := by decide +kernel
theorem dX6_phraseOf_1 : decode cX6_phraseOf 1 = .ok (.getfield 9, 3) := by decide +kernel
theorem dX6_phraseOf_4 : decode cX6_phraseOf 4 = .ok (.iload_n 1, 1) := by decide +kernel
theorem dX6_phraseOf_5 : decode cX6_phraseOf 5 = .ok (.invokestatic 65, 3) := by decide +kernel
theorem dX6_phraseOf_8 : decode cX6_phraseOf 8 = .ok (.ireturn, 1) := by decide +kernel
theorem dX6_syllableOf_0 : decode cX6_syllableOf 0 = .ok (.aload_n 0, 1) := by decide +kernel
theorem dX6_syllableOf_1 : decode cX6_syllableOf 1 = .ok (.getfield 15, 3) := by decide +kernel
theorem dX6_syllableOf_4 : decode cX6_syllableOf 4 = .ok (.iload_n 1, 1) := by decide +kernel
theorem dX6_syllableOf_5 : decode cX6_syllableOf 5 = .ok (.invokestatic 65, 3) := by decide +kernel
theorem dX6_syllableOf_8 : decode cX6_syllableOf 8 = .ok (.ireturn, 1) := by decide +kernel
theorem dX6_firstOf_0 : decode cX6_firstOf 0 = .ok (.aload_n 0, 1) := by decide +kernel
theorem dX6_firstOf_1 : decode cX6_firstOf 1 = .ok (.getfield 18, 3) := by decide +kernel
theorem dX6_firstOf_4 : decode cX6_firstOf 4 = .ok (.iload_n 1, 1) := by decide +kernel
theorem dX6_firstOf_5 : decode cX6_firstOf 5 = .ok (.invokestatic 65, 3) := by decide +kernel
theorem dX6_firstOf_8 : decode cX6_firstOf 8 = .ok (.ireturn, 1) := by decide +kernel
theorem dX6_lastOf_0 : decode cX6_lastOf 0 = .ok (.aload_n 0, 1) := by decide +kernel
theorem dX6_lastOf_1 : decode cX6_lastOf 1 = .ok (.getfield 21, 3) := by decide +kernel
theorem dX6_lastOf_4 : decode cX6_lastOf 4 = .ok (.iload_n 1, 1) := by decide +kernel
theorem dX6_lastOf_5 : decode cX6_lastOf 5 = .ok (.invokestatic 65, 3) := by decide +kernel
theorem dX6_lastOf_8 : decode cX6_lastOf 8 = .ok (.ireturn, 1) := by decide +kernel
theorem dX6_notesOf_0 : decode cX6_notesOf 0 = .ok (.aload_n 0, 1) := by decide +kernel
theorem dX6_notesOf_1 : decode cX6_notesOf 1 = .ok (.iload_n 1, 1) := by decide +kernel
theorem dX6_notesOf_2 : decode cX6_notesOf 2 = .ok (.invokevirtual 69, 3) := by decide +kernel
theorem dX6_notesOf_5 : decode cX6_notesOf 5 = .ok (.aload_n 0, 1) := by decide +kernel
theorem dX6_notesOf_6 : decode cX6_notesOf 6 = .ok (.iload_n 1, 1) := by decide +kernel
theorem dX6_notesOf_7 : decode cX6_notesOf 7 = .ok (.invokevirtual 72, 3) := by decide +kernel
theorem dX6_notesOf_10 : decode cX6_notesOf 10 = .ok (.isub, 1) := by decide +kernel
theorem dX6_notesOf_11 : decode cX6_notesOf 11 = .ok (.iconst 1, 1) := by decide +kernel
theorem dX6_notesOf_12 : decode cX6_notesOf 12 = .ok (.iadd, 1) := by decide +kernel
theorem dX6_notesOf_13 : decode cX6_notesOf 13 = .ok (.ireturn, 1) := by decide +kernel
theorem dX6_syllablesOf_0 : decode cX6_syllablesOf 0 = .ok (.aload_n 0, 1) := by decide +kernel
theorem dX6_syllablesOf_1 : decode cX6_syllablesOf 1 = .ok (.getfield 24, 3) := by decide +kernel
theorem dX6_syllablesOf_4 : decode cX6_syllablesOf 4 = .ok (.iload_n 1, 1) := by decide +kernel
theorem dX6_syllablesOf_5 : decode cX6_syllablesOf 5 = .ok (.invokestatic 65, 3) := by decide +kernel
theorem dX6_syllablesOf_8 : decode cX6_syllablesOf 8 = .ok (.ireturn, 1) := by decide +kernel
theorem dX7_init_0 : decode cX7_init 0 = .ok (.aload_n 0, 1) := by decide +kernel
theorem dX7_init_1 : decode cX7_init 1 = .ok (.invokespecial 3, 3) := by decide +kernel
theorem dX7_init_4 : decode cX7_init 4 = .ok (.aload_n 0, 1) := by decide +kernel
theorem dX7_init_5 : decode cX7_init 5 = .ok (.iconst 3, 1) := by decide +kernel
theorem dX7_init_6 : decode cX7_init 6 = .ok (.newarray .int, 2) := by decide +kernel
theorem dX7_init_8 : decode cX7_init 8 = .ok (.putfield 9, 3) := by decide +kernel
theorem dX7_init_11 : decode cX7_init 11 = .ok (.aload_n 0, 1) := by decide +kernel
theorem dX7_init_12 : decode cX7_init 12 = .ok (.iconst 3, 1) := by decide +kernel
theorem dX7_init_13 : decode cX7_init 13 = .ok (.newarray .int, 2) := by decide +kernel
theorem dX7_init_15 : decode cX7_init 15 = .ok (.putfield 15, 3) := by decide +kernel
theorem dX7_init_18 : decode cX7_init 18 = .ok (.aload_n 0, 1) := by decide +kernel
theorem dX7_init_19 : decode cX7_init 19 = .ok (.iconst 3, 1) := by decide +kernel
theorem dX7_init_20 : decode cX7_init 20 = .ok (.newarray .int, 2) := by decide +kernel
theorem dX7_init_22 : decode cX7_init 22 = .ok (.putfield 18, 3) := by decide +kernel
theorem dX7_init_25 : decode cX7_init 25 = .ok (.aload_n 0, 1) := by decide +kernel
theorem dX7_init_26 : decode cX7_init 26 = .ok (.iconst 0, 1) := by decide +kernel
theorem dX7_init_27 : decode cX7_init 27 = .ok (.putfield 21, 3) := by decide +kernel
theorem dX7_init_30 : decode cX7_init 30 = .ok (.return_, 1) := by decide +kernel
theorem dX7_push_0 : decode cX7_push 0 = .ok (.aload_n 0, 1) := by decide +kernel
theorem dX7_push_1 : decode cX7_push 1 = .ok (.getfield 9, 3) := by decide +kernel
theorem dX7_push_4 : decode cX7_push 4 = .ok (.aload_n 0, 1) := by decide +kernel
theorem dX7_push_5 : decode cX7_push 5 = .ok (.getfield 21, 3) := by decide +kernel
theorem dX7_push_8 : decode cX7_push 8 = .ok (.iload_n 1, 1) := by decide +kernel
theorem dX7_push_9 : decode cX7_push 9 = .ok (.invokestatic 25, 3) := by decide +kernel
theorem dX7_push_12 : decode cX7_push 12 = .ok (.aload_n 0, 1) := by decide +kernel
theorem dX7_push_13 : decode cX7_push 13 = .ok (.getfield 15, 3) := by decide +kernel
theorem dX7_push_16 : decode cX7_push 16 = .ok (.aload_n 0, 1) := by decide +kernel
theorem dX7_push_17 : decode cX7_push 17 = .ok (.getfield 21, 3) := by decide +kernel
theorem dX7_push_20 : decode cX7_push 20 = .ok (.iload_n 2, 1) := by decide +kernel
theorem dX7_push_21 : decode cX7_push 21 = .ok (.invokestatic 25, 3) := by decide +kernel
theorem dX7_push_24 : decode cX7_push 24 = .ok (.aload_n 0, 1) := by decide +kernel
theorem dX7_push_25 : decode cX7_push 25 = .ok (.getfield 18, 3) := by decide +kernel
theorem dX7_push_28 : decode cX7_push 28 = .ok (.aload_n 0, 1) := by decide +kernel
theorem dX7_push_29 : decode cX7_push 29 = .ok (.getfield 21, 3) := by decide +kernel
theorem dX7_push_32 : decode cX7_push 32 = .ok (.iload_n 3, 1) := by decide +kernel
theorem dX7_push_33 : decode cX7_push 33 = .ok (.invokestatic 25, 3) := by decide +kernel
theorem dX7_push_36 : decode cX7_push 36 = .ok (.aload_n 0, 1) := by decide +kernel
theorem dX7_push_37 : decode cX7_push 37 = .ok (.dup, 1) := by decide +kernel
theorem dX7_push_38 : decode cX7_push 38 = .ok (.getfield 21, 3) := by decide +kernel
theorem dX7_push_41 : decode cX7_push 41 = .ok (.iconst 1, 1) := by decide +kernel
theorem dX7_push_42 : decode cX7_push 42 = .ok (.iadd, 1) := by decide +kernel
theorem dX7_push_43 : decode cX7_push 43 = .ok (.putfield 21, 3) := by decide +kernel
theorem dX7_push_46 : decode cX7_push 46 = .ok (.return_, 1) := by decide +kernel
theorem dX7_touch_0 : decode cX7_touch 0 = .ok (.iconst 0, 1) := by decide +kernel
theorem dX7_touch_1 : decode cX7_touch 1 = .ok (.istore_n 3, 1) := by decide +kernel
theorem dX7_touch_2 : decode cX7_touch 2 = .ok (.iload_n 3, 1) := by decide +kernel
theorem dX7_touch_3 : decode cX7_touch 3 = .ok (.aload_n 0, 1) := by decide +kernel
theorem dX7_touch_4 : decode cX7_touch 4 = .ok (.getfield 21, 3) := by decide +kernel
theorem dX7_touch_7 : decode cX7_touch 7 = .ok (.if_icmp .ge 35, 3) := by decide +kernel
theorem dX7_touch_10 : decode cX7_touch 10 = .ok (.iload_n 1, 1) := by decide +kernel
theorem dX7_touch_11 : decode cX7_touch 11 = .ok (.aload_n 0, 1) := by decide +kernel
theorem dX7_touch_12 : decode cX7_touch 12 = .ok (.getfield 15, 3) := by decide +kernel
theorem dX7_touch_15 : decode cX7_touch 15 = .ok (.iload_n 3, 1) := by decide +kernel
theorem dX7_touch_16 : decode cX7_touch 16 = .ok (.invokestatic 29, 3) := by decide +kernel
theorem dX7_touch_19 : decode cX7_touch 19 = .ok (.if_icmp .gt 17, 3) := by decide +kernel
theorem dX7_touch_22 : decode cX7_touch 22 = .ok (.aload_n 0, 1) := by decide +kernel
theorem dX7_touch_23 : decode cX7_touch 23 = .ok (.getfield 9, 3) := by decide +kernel
theorem dX7_touch_26 : decode cX7_touch 26 = .ok (.iload_n 3, 1) := by decide +kernel
theorem dX7_touch_27 : decode cX7_touch 27 = .ok (.invokestatic 29, 3) := by decide +kernel
theorem dX7_touch_30 : decode cX7_touch 30 = .ok (.iload_n 2, 1) := by decide +kernel
theorem dX7_touch_31 : decode cX7_touch 31 = .ok (.if_icmp .gt 5, 3) := by decide +kernel
theorem dX7_touch_34 : decode cX7_touch 34 = .ok (.iconst 1, 1) := by decide +kernel
theorem dX7_touch_35 : decode cX7_touch 35 = .ok (.ireturn, 1) := by decide +kernel
theorem dX7_touch_36 : decode cX7_touch 36 = .ok (.iinc 3 1, 3) := by decide +kernel
theorem dX7_touch_39 : decode cX7_touch 39 = .ok (.goto (-37), 3) := by decide +kernel
theorem dX7_touch_42 : decode cX7_touch 42 = .ok (.iconst 0, 1) := by decide +kernel
theorem dX7_touch_43 : decode cX7_touch 43 = .ok (.ireturn, 1) := by decide +kernel
theorem dX7_keepWithin_0 : decode cX7_keepWithin 0 = .ok (.aload_n 0, 1) := by decide +kernel
theorem dX7_keepWithin_1 : decode cX7_keepWithin 1 = .ok (.getfield 21, 3) := by decide +kernel
theorem dX7_keepWithin_4 : decode cX7_keepWithin 4 = .ok (.istore_n 2, 1) := by decide +kernel
theorem dX7_keepWithin_5 : decode cX7_keepWithin 5 = .ok (.aload_n 0, 1) := by decide +kernel
theorem dX7_keepWithin_6 : decode cX7_keepWithin 6 = .ok (.iconst 0, 1) := by decide +kernel
theorem dX7_keepWithin_7 : decode cX7_keepWithin 7 = .ok (.putfield 21, 3) := by decide +kernel
theorem dX7_keepWithin_10 : decode cX7_keepWithin 10 = .ok (.iconst 0, 1) := by decide +kernel
theorem dX7_keepWithin_11 : decode cX7_keepWithin 11 = .ok (.istore_n 3, 1) := by decide +kernel
theorem dX7_keepWithin_12 : decode cX7_keepWithin 12 = .ok (.iload_n 3, 1) := by decide +kernel
theorem dX7_keepWithin_13 : decode cX7_keepWithin 13 = .ok (.iload_n 2, 1) := by decide +kernel
theorem dX7_keepWithin_14 : decode cX7_keepWithin 14 = .ok (.if_icmp .ge 49, 3) := by decide +kernel
theorem dX7_keepWithin_17 : decode cX7_keepWithin 17 = .ok (.aload_n 0, 1) := by decide +kernel
theorem dX7_keepWithin_18 : decode cX7_keepWithin 18 = .ok (.getfield 15, 3) := by decide +kernel
theorem dX7_keepWithin_21 : decode cX7_keepWithin 21 = .ok (.iload_n 3, 1) := by decide +kernel
theorem dX7_keepWithin_22 : decode cX7_keepWithin 22 = .ok (.invokestatic 29, 3) := by decide +kernel
theorem dX7_keepWithin_25 : decode cX7_keepWithin 25 = .ok (.iload_n 1, 1) := by decide +kernel
theorem dX7_keepWithin_26 : decode cX7_keepWithin 26 = .ok (.if_icmp .ge 31, 3) := by decide +kernel
theorem dX7_keepWithin_29 : decode cX7_keepWithin 29 = .ok (.aload_n 0, 1) := by decide +kernel
theorem dX7_keepWithin_30 : decode cX7_keepWithin 30 = .ok (.aload_n 0, 1) := by decide +kernel
theorem dX7_keepWithin_31 : decode cX7_keepWithin 31 = .ok (.getfield 9, 3) := by decide +kernel
theorem dX7_keepWithin_34 : decode cX7_keepWithin 34 = .ok (.iload_n 3, 1) := by decide +kernel
theorem dX7_keepWithin_35 : decode cX7_keepWithin 35 = .ok (.invokestatic 29, 3) := by decide +kernel
theorem dX7_keepWithin_38 : decode cX7_keepWithin 38 = .ok (.aload_n 0, 1) := by decide +kernel
theorem dX7_keepWithin_39 : decode cX7_keepWithin 39 = .ok (.getfield 15, 3) := by decide +kernel
theorem dX7_keepWithin_42 : decode cX7_keepWithin 42 = .ok (.iload_n 3, 1) := by decide +kernel
theorem dX7_keepWithin_43 : decode cX7_keepWithin 43 = .ok (.invokestatic 29, 3) := by decide +kernel
theorem dX7_keepWithin_46 : decode cX7_keepWithin 46 = .ok (.aload_n 0, 1) := by decide +kernel
theorem dX7_keepWithin_47 : decode cX7_keepWithin 47 = .ok (.getfield 18, 3) := by decide +kernel
theorem dX7_keepWithin_50 : decode cX7_keepWithin 50 = .ok (.iload_n 3, 1) := by decide +kernel
theorem dX7_keepWithin_51 : decode cX7_keepWithin 51 = .ok (.invokestatic 29, 3) := by decide +kernel
theorem dX7_keepWithin_54 : decode cX7_keepWithin 54 = .ok (.invokevirtual 33, 3) := by decide +kernel
theorem dX7_keepWithin_57 : decode cX7_keepWithin 57 = .ok (.iinc 3 1, 3) := by decide +kernel
theorem dX7_keepWithin_60 : decode cX7_keepWithin 60 = .ok (.goto (-48), 3) := by decide +kernel
theorem dX7_keepWithin_63 : decode cX7_keepWithin 63 = .ok (.return_, 1) := by decide +kernel
theorem dX7_endingWith_0 : decode cX7_endingWith 0 = .ok (.iconst 0, 1) := by decide +kernel
theorem dX7_endingWith_1 : decode cX7_endingWith 1 = .ok (.istore_n 2, 1) := by decide +kernel
theorem dX7_endingWith_2 : decode cX7_endingWith 2 = .ok (.iload_n 2, 1) := by decide +kernel
theorem dX7_endingWith_3 : decode cX7_endingWith 3 = .ok (.aload_n 0, 1) := by decide +kernel
theorem dX7_endingWith_4 : decode cX7_endingWith 4 = .ok (.getfield 21, 3) := by decide +kernel
theorem dX7_endingWith_7 : decode cX7_endingWith 7 = .ok (.if_icmp .ge 23, 3) := by decide +kernel
theorem dX7_endingWith_10 : decode cX7_endingWith 10 = .ok (.aload_n 0, 1) := by decide +kernel
theorem dX7_endingWith_11 : decode cX7_endingWith 11 = .ok (.getfield 15, 3) := by decide +kernel
theorem dX7_endingWith_14 : decode cX7_endingWith 14 = .ok (.iload_n 2, 1) := by decide +kernel
theorem dX7_endingWith_15 : decode cX7_endingWith 15 = .ok (.invokestatic 29, 3) := by decide +kernel
theorem dX7_endingWith_18 : decode cX7_endingWith 18 = .ok (.iload_n 1, 1) := by decide +kernel
theorem dX7_endingWith_19 : decode cX7_endingWith 19 = .ok (.if_icmp .ne 5, 3) := by decide +kernel
theorem dX7_endingWith_22 : decode cX7_endingWith 22 = .ok (.iload_n 2, 1) := by decide +kernel
theorem dX7_endingWith_23 : decode cX7_endingWith 23 = .ok (.ireturn, 1) := by decide +kernel
theorem dX7_endingWith_24 : decode cX7_endingWith 24 = .ok (.iinc 2 1, 3) := by decide +kernel
theorem dX7_endingWith_27 : decode cX7_endingWith 27 = .ok (.goto (-25), 3) := by decide +kernel
theorem dX7_endingWith_30 : decode cX7_endingWith 30 = .ok (.iconst (-1), 1) := by decide +kernel
theorem dX7_endingWith_31 : decode cX7_endingWith 31 = .ok (.ireturn, 1) := by decide +kernel
theorem dX7_firstOf_0 : decode cX7_firstOf 0 = .ok (.aload_n 0, 1) := by decide +kernel
theorem dX7_firstOf_1 : decode cX7_firstOf 1 = .ok (.getfield 9, 3) := by decide +kernel
theorem dX7_firstOf_4 : decode cX7_firstOf 4 = .ok (.iload_n 1, 1) := by decide +kernel
theorem dX7_firstOf_5 : decode cX7_firstOf 5 = .ok (.invokestatic 29, 3) := by decide +kernel
theorem dX7_firstOf_8 : decode cX7_firstOf 8 = .ok (.ireturn, 1) := by decide +kernel
theorem dX7_lastAgainOf_0 : decode cX7_lastAgainOf 0 = .ok (.aload_n 0, 1) := by decide +kernel
theorem dX7_lastAgainOf_1 : decode cX7_lastAgainOf 1 = .ok (.getfield 15, 3) := by decide +kernel
theorem dX7_lastAgainOf_4 : decode cX7_lastAgainOf 4 = .ok (.iload_n 1, 1) := by decide +kernel
theorem dX7_lastAgainOf_5 : decode cX7_lastAgainOf 5 = .ok (.invokestatic 29, 3) := by decide +kernel
theorem dX7_lastAgainOf_8 : decode cX7_lastAgainOf 8 = .ok (.aload_n 0, 1) := by decide +kernel
theorem dX7_lastAgainOf_9 : decode cX7_lastAgainOf 9 = .ok (.getfield 18, 3) := by decide +kernel
theorem dX7_lastAgainOf_12 : decode cX7_lastAgainOf 12 = .ok (.iload_n 1, 1) := by decide +kernel
theorem dX7_lastAgainOf_13 : decode cX7_lastAgainOf 13 = .ok (.invokestatic 29, 3) := by decide +kernel
theorem dX7_lastAgainOf_16 : decode cX7_lastAgainOf 16 = .ok (.isub, 1) := by decide +kernel
theorem dX7_lastAgainOf_17 : decode cX7_lastAgainOf 17 = .ok (.ireturn, 1) := by decide +kernel
theorem dX8_init_0 : decode cX8_init 0 = .ok (.aload_n 0, 1) := by decide +kernel
theorem dX8_init_1 : decode cX8_init 1 = .ok (.invokespecial 3, 3) := by decide +kernel
theorem dX8_init_4 : decode cX8_init 4 = .ok (.aload_n 0, 1) := by decide +kernel
theorem dX8_init_5 : decode cX8_init 5 = .ok (.bipush 40, 2) := by decide +kernel
theorem dX8_init_7 : decode cX8_init 7 = .ok (.newarray .int, 2) := by decide +kernel
theorem dX8_init_9 : decode cX8_init 9 = .ok (.putfield 9, 3) := by decide +kernel
theorem dX8_init_12 : decode cX8_init 12 = .ok (.aload_n 0, 1) := by decide +kernel
theorem dX8_init_13 : decode cX8_init 13 = .ok (.sipush 160, 3) := by decide +kernel
theorem dX8_init_16 : decode cX8_init 16 = .ok (.newarray .int, 2) := by decide +kernel
theorem dX8_init_18 : decode cX8_init 18 = .ok (.putfield 15, 3) := by decide +kernel
theorem dX8_init_21 : decode cX8_init 21 = .ok (.aload_n 0, 1) := by decide +kernel
theorem dX8_init_22 : decode cX8_init 22 = .ok (.lconst 0, 1) := by decide +kernel
theorem dX8_init_23 : decode cX8_init 23 = .ok (.putfield 18, 3) := by decide +kernel
theorem dX8_init_26 : decode cX8_init 26 = .ok (.aload_n 0, 1) := by decide +kernel
theorem dX8_init_27 : decode cX8_init 27 = .ok (.lconst 0, 1) := by decide +kernel
theorem dX8_init_28 : decode cX8_init 28 = .ok (.putfield 22, 3) := by decide +kernel
theorem dX8_init_31 : decode cX8_init 31 = .ok (.aload_n 0, 1) := by decide +kernel
theorem dX8_init_32 : decode cX8_init 32 = .ok (.iconst 0, 1) := by decide +kernel
theorem dX8_init_33 : decode cX8_init 33 = .ok (.putfield 25, 3) := by decide +kernel
theorem dX8_init_36 : decode cX8_init 36 = .ok (.aload_n 0, 1) := by decide +kernel
theorem dX8_init_37 : decode cX8_init 37 = .ok (.iconst 0, 1) := by decide +kernel
theorem dX8_init_38 : decode cX8_init 38 = .ok (.putfield 29, 3) := by decide +kernel
theorem dX8_init_41 : decode cX8_init 41 = .ok (.return_, 1) := by decide +kernel
theorem dX8_restart_0 : decode cX8_restart 0 = .ok (.aload_n 0, 1) := by decide +kernel
theorem dX8_restart_1 : decode cX8_restart 1 = .ok (.iconst 0, 1) := by decide +kernel
theorem dX8_restart_2 : decode cX8_restart 2 = .ok (.putfield 25, 3) := by decide +kernel
theorem dX8_restart_5 : decode cX8_restart 5 = .ok (.aload_n 0, 1) := by decide +kernel
theorem dX8_restart_6 : decode cX8_restart 6 = .ok (.lconst 0, 1) := by decide +kernel
theorem dX8_restart_7 : decode cX8_restart 7 = .ok (.putfield 18, 3) := by decide +kernel
theorem dX8_restart_10 : decode cX8_restart 10 = .ok (.aload_n 0, 1) := by decide +kernel
theorem dX8_restart_11 : decode cX8_restart 11 = .ok (.lconst 0, 1) := by decide +kernel
theorem dX8_restart_12 : decode cX8_restart 12 = .ok (.putfield 22, 3) := by decide +kernel
theorem dX8_restart_15 : decode cX8_restart 15 = .ok (.aload_n 0, 1) := by decide +kernel
theorem dX8_restart_16 : decode cX8_restart 16 = .ok (.iload_n 1, 1) := by decide +kernel
theorem dX8_restart_17 : decode cX8_restart 17 = .ok (.putfield 29, 3) := by decide +kernel
theorem dX8_restart_20 : decode cX8_restart 20 = .ok (.return_, 1) := by decide +kernel
theorem dX8_push_0 : decode cX8_push 0 = .ok (.aload_n 0, 1) := by decide +kernel
theorem dX8_push_1 : decode cX8_push 1 = .ok (.getfield 9, 3) := by decide +kernel
theorem dX8_push_4 : decode cX8_push 4 = .ok (.aload_n 0, 1) := by decide +kernel
theorem dX8_push_5 : decode cX8_push 5 = .ok (.getfield 25, 3) := by decide +kernel
theorem dX8_push_8 : decode cX8_push 8 = .ok (.iload_n 1, 1) := by decide +kernel
theorem dX8_push_9 : decode cX8_push 9 = .ok (.invokestatic 32, 3) := by decide +kernel
theorem dX8_push_12 : decode cX8_push 12 = .ok (.aload_n 0, 1) := by decide +kernel
theorem dX8_push_13 : decode cX8_push 13 = .ok (.aload_n 0, 1) := by decide +kernel
theorem dX8_push_14 : decode cX8_push 14 = .ok (.getfield 25, 3) := by decide +kernel
theorem dX8_push_17 : decode cX8_push 17 = .ok (.iconst 0, 1) := by decide +kernel
theorem dX8_push_18 : decode cX8_push 18 = .ok (.iload_n 2, 1) := by decide +kernel
theorem dX8_push_19 : decode cX8_push 19 = .ok (.invokevirtual 36, 3) := by decide +kernel
theorem dX8_push_22 : decode cX8_push 22 = .ok (.aload_n 0, 1) := by decide +kernel
theorem dX8_push_23 : decode cX8_push 23 = .ok (.aload_n 0, 1) := by decide +kernel
theorem dX8_push_24 : decode cX8_push 24 = .ok (.getfield 25, 3) := by decide +kernel
theorem dX8_push_27 : decode cX8_push 27 = .ok (.iconst 1, 1) := by decide +kernel
theorem dX8_push_28 : decode cX8_push 28 = .ok (.iload_n 3, 1) := by decide +kernel
theorem dX8_push_29 : decode cX8_push 29 = .ok (.invokevirtual 36, 3) := by decide +kernel
theorem dX8_push_32 : decode cX8_push 32 = .ok (.aload_n 0, 1) := by decide +kernel
theorem dX8_push_33 : decode cX8_push 33 = .ok (.aload_n 0, 1) := by decide +kernel
theorem dX8_push_34 : decode cX8_push 34 = .ok (.getfield 25, 3) := by decide +kernel
theorem dX8_push_37 : decode cX8_push 37 = .ok (.iconst 2, 1) := by decide +kernel
theorem dX8_push_38 : decode cX8_push 38 = .ok (.iload 4, 2) := by decide +kernel
theorem dX8_push_40 : decode cX8_push 40 = .ok (.invokevirtual 36, 3) := by decide +kernel
theorem dX8_push_43 : decode cX8_push 43 = .ok (.aload_n 0, 1) := by decide +kernel
theorem dX8_push_44 : decode cX8_push 44 = .ok (.aload_n 0, 1) := by decide +kernel
theorem dX8_push_45 : decode cX8_push 45 = .ok (.getfield 25, 3) := by decide +kernel
theorem dX8_push_48 : decode cX8_push 48 = .ok (.iconst 3, 1) := by decide +kernel
theorem dX8_push_49 : decode cX8_push 49 = .ok (.iload 5, 2) := by decide +kernel
theorem dX8_push_51 : decode cX8_push 51 = .ok (.invokevirtual 36, 3) := by decide +kernel
theorem dX8_push_54 : decode cX8_push 54 = .ok (.aload_n 0, 1) := by decide +kernel
theorem dX8_push_55 : decode cX8_push 55 = .ok (.dup, 1) := by decide +kernel
theorem dX8_push_56 : decode cX8_push 56 = .ok (.getfield 25, 3) := by decide +kernel
theorem dX8_push_59 : decode cX8_push 59 = .ok (.iconst 1, 1) := by decide +kernel
theorem dX8_push_60 : decode cX8_push 60 = .ok (.iadd, 1) := by decide +kernel
theorem dX8_push_61 : decode cX8_push 61 = .ok (.putfield 25, 3) := by decide +kernel
theorem dX8_push_64 : decode cX8_push 64 = .ok (.return_, 1) := by decide +kernel
theorem dX8_pop_0 : decode cX8_pop 0 = .ok (.aload_n 0, 1) := by decide +kernel
theorem dX8_pop_1 : decode cX8_pop 1 = .ok (.dup, 1) := by decide +kernel
theorem dX8_pop_2 : decode cX8_pop 2 = .ok (.getfield 25, 3) := by decide +kernel
theorem dX8_pop_5 : decode cX8_pop 5 = .ok (.iconst 1, 1) := by decide +kernel
theorem dX8_pop_6 : decode cX8_pop 6 = .ok (.isub, 1) := by decide +kernel
theorem dX8_pop_7 : decode cX8_pop 7 = .ok (.putfield 25, 3) := by decide +kernel
theorem dX8_pop_10 : decode cX8_pop 10 = .ok (.aload_n 0, 1) := by decide +kernel
theorem dX8_pop_11 : decode cX8_pop 11 = .ok (.aload_n 0, 1) := by decide +kernel
theorem dX8_pop_12 : decode cX8_pop 12 = .ok (.getfield 18, 3) := by decide +kernel
theorem dX8_pop_15 : decode cX8_pop 15 = .ok (.aload_n 0, 1) := by decide +kernel
theorem dX8_pop_16 : decode cX8_pop 16 = .ok (.getfield 25, 3) := by decide +kernel
theorem dX8_pop_19 : decode cX8_pop 19 = .ok (.iconst 0, 1) := by decide +kernel
theorem dX8_pop_20 : decode cX8_pop 20 = .ok (.invokestatic 40, 3) := by decide +kernel
theorem dX8_pop_23 : decode cX8_pop 23 = .ok (.putfield 18, 3) := by decide +kernel
theorem dX8_pop_26 : decode cX8_pop 26 = .ok (.aload_n 0, 1) := by decide +kernel
theorem dX8_pop_27 : decode cX8_pop 27 = .ok (.aload_n 0, 1) := by decide +kernel
theorem dX8_pop_28 : decode cX8_pop 28 = .ok (.getfield 22, 3) := by decide +kernel
theorem dX8_pop_31 : decode cX8_pop 31 = .ok (.aload_n 0, 1) := by decide +kernel
theorem dX8_pop_32 : decode cX8_pop 32 = .ok (.getfield 25, 3) := by decide +kernel
theorem dX8_pop_35 : decode cX8_pop 35 = .ok (.iconst 0, 1) := by decide +kernel
theorem dX8_pop_36 : decode cX8_pop 36 = .ok (.invokestatic 40, 3) := by decide +kernel
theorem dX8_pop_39 : decode cX8_pop 39 = .ok (.putfield 22, 3) := by decide +kernel
theorem dX8_pop_42 : decode cX8_pop 42 = .ok (.return_, 1) := by decide +kernel
theorem dX8_lengthOf_0 : decode cX8_lengthOf 0 = .ok (.aload_n 0, 1) := by decide +kernel
theorem dX8_lengthOf_1 : decode cX8_lengthOf 1 = .ok (.getfield 9, 3) := by decide +kernel
theorem dX8_lengthOf_4 : decode cX8_lengthOf 4 = .ok (.iload_n 1, 1) := by decide +kernel
theorem dX8_lengthOf_5 : decode cX8_lengthOf 5 = .ok (.invokestatic 44, 3) := by decide +kernel
theorem dX8_lengthOf_8 : decode cX8_lengthOf 8 = .ok (.ireturn, 1) := by decide +kernel
theorem dX8_pitchOf_0 : decode cX8_pitchOf 0 = .ok (.aload_n 0, 1) := by decide +kernel
theorem dX8_pitchOf_1 : decode cX8_pitchOf 1 = .ok (.getfield 15, 3) := by decide +kernel
theorem dX8_pitchOf_4 : decode cX8_pitchOf 4 = .ok (.iload_n 1, 1) := by decide +kernel
theorem dX8_pitchOf_5 : decode cX8_pitchOf 5 = .ok (.iconst 4, 1) := by decide +kernel
theorem dX8_pitchOf_6 : decode cX8_pitchOf 6 = .ok (.imul, 1) := by decide +kernel
theorem dX8_pitchOf_7 : decode cX8_pitchOf 7 = .ok (.iload_n 2, 1) := by decide +kernel
theorem dX8_pitchOf_8 : decode cX8_pitchOf 8 = .ok (.iadd, 1) := by decide +kernel
theorem dX8_pitchOf_9 : decode cX8_pitchOf 9 = .ok (.invokestatic 44, 3) := by decide +kernel
theorem dX8_pitchOf_12 : decode cX8_pitchOf 12 = .ok (.ireturn, 1) := by decide +kernel
theorem dX8_changePitch_0 : decode cX8_changePitch 0 = .ok (.aload_n 0, 1) := by decide +kernel
theorem dX8_changePitch_1 : decode cX8_changePitch 1 = .ok (.getfield 15, 3) := by decide +kernel
theorem dX8_changePitch_4 : decode cX8_changePitch 4 = .ok (.iload_n 1, 1) := by decide +kernel
theorem dX8_changePitch_5 : decode cX8_changePitch 5 = .ok (.iconst 4, 1) := by decide +kernel
theorem dX8_changePitch_6 : decode cX8_changePitch 6 = .ok (.imul, 1) := by decide +kernel
theorem dX8_changePitch_7 : decode cX8_changePitch 7 = .ok (.iload_n 2, 1) := by decide +kernel
theorem dX8_changePitch_8 : decode cX8_changePitch 8 = .ok (.iadd, 1) := by decide +kernel
theorem dX8_changePitch_9 : decode cX8_changePitch 9 = .ok (.iload_n 3, 1) := by decide +kernel
theorem dX8_changePitch_10 : decode cX8_changePitch 10 = .ok (.invokestatic 32, 3) := by decide +kernel
theorem dX8_changePitch_13 : decode cX8_changePitch 13 = .ok (.return_, 1) := by decide +kernel
theorem dX8_startOf_0 : decode cX8_startOf 0 = .ok (.iconst 0, 1) := by decide +kernel
theorem dX8_startOf_1 : decode cX8_startOf 1 = .ok (.istore_n 2, 1) := by decide +kernel
theorem dX8_startOf_2 : decode cX8_startOf 2 = .ok (.iconst 0, 1) := by decide +kernel
theorem dX8_startOf_3 : decode cX8_startOf 3 = .ok (.istore_n 3, 1) := by decide +kernel
theorem dX8_startOf_4 : decode cX8_startOf 4 = .ok (.iload_n 3, 1) := by decide +kernel
theorem dX8_startOf_5 : decode cX8_startOf 5 = .ok (.iload_n 1, 1) := by decide +kernel
theorem dX8_startOf_6 : decode cX8_startOf 6 = .ok (.if_icmp .ge 17, 3) := by decide +kernel
theorem dX8_startOf_9 : decode cX8_startOf 9 = .ok (.iload_n 2, 1) := by decide +kernel
theorem dX8_startOf_10 : decode cX8_startOf 10 = .ok (.aload_n 0, 1) := by decide +kernel
theorem dX8_startOf_11 : decode cX8_startOf 11 = .ok (.iload_n 3, 1) := by decide +kernel
theorem dX8_startOf_12 : decode cX8_startOf 12 = .ok (.invokevirtual 48, 3) := by decide +kernel
theorem dX8_startOf_15 : decode cX8_startOf 15 = .ok (.iadd, 1) := by decide +kernel
theorem dX8_startOf_16 : decode cX8_startOf 16 = .ok (.istore_n 2, 1) := by decide +kernel
theorem dX8_startOf_17 : decode cX8_startOf 17 = .ok (.iinc 3 1, 3) := by decide +kernel
theorem dX8_startOf_20 : decode cX8_startOf 20 = .ok (.goto (-16), 3) := by decide +kernel
theorem dX8_startOf_23 : decode cX8_startOf 23 = .ok (.iload_n 2, 1) := by decide +kernel
theorem dX8_startOf_24 : decode cX8_startOf 24 = .ok (.ireturn, 1) := by decide +kernel
theorem dX8_canMove_0 : decode cX8_canMove 0 = .ok (.iconst 0, 1) := by decide +kernel
theorem dX8_canMove_1 : decode cX8_canMove 1 = .ok (.istore_n 2, 1) := by decide +kernel
theorem dX8_canMove_2 : decode cX8_canMove 2 = .ok (.iload_n 2, 1) := by decide +kernel
theorem dX8_canMove_3 : decode cX8_canMove 3 = .ok (.aload_n 0, 1) := by decide +kernel
theorem dX8_canMove_4 : decode cX8_canMove 4 = .ok (.getfield 25, 3) := by decide +kernel
theorem dX8_canMove_7 : decode cX8_canMove 7 = .ok (.iconst 4, 1) := by decide +kernel
theorem dX8_canMove_8 : decode cX8_canMove 8 = .ok (.imul, 1) := by decide +kernel
theorem dX8_canMove_9 : decode cX8_canMove 9 = .ok (.if_icmp .ge 34, 3) := by decide +kernel
theorem dX8_canMove_12 : decode cX8_canMove 12 = .ok (.aload_n 0, 1) := by decide +kernel
theorem dX8_canMove_13 : decode cX8_canMove 13 = .ok (.getfield 15, 3) := by decide +kernel
theorem dX8_canMove_16 : decode cX8_canMove 16 = .ok (.iload_n 2, 1) := by decide +kernel
theorem dX8_canMove_17 : decode cX8_canMove 17 = .ok (.invokestatic 44, 3) := by decide +kernel
theorem dX8_canMove_20 : decode cX8_canMove 20 = .ok (.iload_n 1, 1) := by decide +kernel
theorem dX8_canMove_21 : decode cX8_canMove 21 = .ok (.iadd, 1) := by decide +kernel
theorem dX8_canMove_22 : decode cX8_canMove 22 = .ok (.istore_n 3, 1) := by decide +kernel
theorem dX8_canMove_23 : decode cX8_canMove 23 = .ok (.iload_n 3, 1) := by decide +kernel
theorem dX8_canMove_24 : decode cX8_canMove 24 = .ok (.bipush 36, 2) := by decide +kernel
theorem dX8_canMove_26 : decode cX8_canMove 26 = .ok (.if_icmp .lt 9, 3) := by decide +kernel
theorem dX8_canMove_29 : decode cX8_canMove 29 = .ok (.iload_n 3, 1) := by decide +kernel
theorem dX8_canMove_30 : decode cX8_canMove 30 = .ok (.bipush 84, 2) := by decide +kernel
theorem dX8_canMove_32 : decode cX8_canMove 32 = .ok (.if_icmp .le 5, 3) := by decide +kernel
theorem dX8_canMove_35 : decode cX8_canMove 35 = .ok (.iconst 0, 1) := by decide +kernel
theorem dX8_canMove_36 : decode cX8_canMove 36 = .ok (.ireturn, 1) := by decide +kernel
theorem dX8_canMove_37 : decode cX8_canMove 37 = .ok (.iinc 2 1, 3) := by decide +kernel
theorem dX8_canMove_40 : decode cX8_canMove 40 = .ok (.goto (-38), 3) := by decide +kernel
theorem dX8_canMove_43 : decode cX8_canMove 43 = .ok (.iconst 1, 1) := by decide +kernel
theorem dX8_canMove_44 : decode cX8_canMove 44 = .ok (.ireturn, 1) := by decide +kernel
theorem dX8_move_0 : decode cX8_move 0 = .ok (.iconst 0, 1) := by decide +kernel
theorem dX8_move_1 : decode cX8_move 1 = .ok (.istore_n 2, 1) := by decide +kernel
theorem dX8_move_2 : decode cX8_move 2 = .ok (.iload_n 2, 1) := by decide +kernel
theorem dX8_move_3 : decode cX8_move 3 = .ok (.aload_n 0, 1) := by decide +kernel
theorem dX8_move_4 : decode cX8_move 4 = .ok (.getfield 25, 3) := by decide +kernel
theorem dX8_move_7 : decode cX8_move 7 = .ok (.iconst 4, 1) := by decide +kernel
theorem dX8_move_8 : decode cX8_move 8 = .ok (.imul, 1) := by decide +kernel
theorem dX8_move_9 : decode cX8_move 9 = .ok (.if_icmp .ge 27, 3) := by decide +kernel
theorem dX8_move_12 : decode cX8_move 12 = .ok (.aload_n 0, 1) := by decide +kernel
theorem dX8_move_13 : decode cX8_move 13 = .ok (.getfield 15, 3) := by decide +kernel
theorem dX8_move_16 : decode cX8_move 16 = .ok (.iload_n 2, 1) := by decide +kernel
theorem dX8_move_17 : decode cX8_move 17 = .ok (.aload_n 0, 1) := by decide +kernel
theorem dX8_move_18 : decode cX8_move 18 = .ok (.getfield 15, 3) := by decide +kernel
theorem dX8_move_21 : decode cX8_move 21 = .ok (.iload_n 2, 1) := by decide +kernel
theorem dX8_move_22 : decode cX8_move 22 = .ok (.invokestatic 44, 3) := by decide +kernel
theorem dX8_move_25 : decode cX8_move 25 = .ok (.iload_n 1, 1) := by decide +kernel
theorem dX8_move_26 : decode cX8_move 26 = .ok (.iadd, 1) := by decide +kernel
theorem dX8_move_27 : decode cX8_move 27 = .ok (.invokestatic 32, 3) := by decide +kernel
theorem dX8_move_30 : decode cX8_move 30 = .ok (.iinc 2 1, 3) := by decide +kernel
theorem dX8_move_33 : decode cX8_move 33 = .ok (.goto (-31), 3) := by decide +kernel
theorem dX8_move_36 : decode cX8_move 36 = .ok (.aload_n 0, 1) := by decide +kernel
theorem dX8_move_37 : decode cX8_move 37 = .ok (.aload_n 0, 1) := by decide +kernel
theorem dX8_move_38 : decode cX8_move 38 = .ok (.getfield 29, 3) := by decide +kernel
theorem dX8_move_41 : decode cX8_move 41 = .ok (.iload_n 1, 1) := by decide +kernel
theorem dX8_move_42 : decode cX8_move 42 = .ok (.iadd, 1) := by decide +kernel
theorem dX8_move_43 : decode cX8_move 43 = .ok (.bipush 12, 2) := by decide +kernel
theorem dX8_move_45 : decode cX8_move 45 = .ok (.invokestatic 52, 3) := by decide +kernel
theorem dX8_move_48 : decode cX8_move 48 = .ok (.putfield 29, 3) := by decide +kernel
theorem dX8_move_51 : decode cX8_move 51 = .ok (.return_, 1) := by decide +kernel
theorem dX8_parallelsTo_0 : decode cX8_parallelsTo 0 = .ok (.iconst 0, 1) := by decide +kernel
theorem dX8_parallelsTo_1 : decode cX8_parallelsTo 1 = .ok (.istore_n 2, 1) := by decide +kernel
theorem dX8_parallelsTo_2 : decode cX8_parallelsTo 2 = .ok (.iconst 0, 1) := by decide +kernel
theorem dX8_parallelsTo_3 : decode cX8_parallelsTo 3 = .ok (.istore_n 3, 1) := by decide +kernel
theorem dX8_parallelsTo_4 : decode cX8_parallelsTo 4 = .ok (.iconst 0, 1) := by decide +kernel
theorem dX8_parallelsTo_5 : decode cX8_parallelsTo 5 = .ok (.istore 4, 2) := by decide +kernel
theorem dX8_parallelsTo_7 : decode cX8_parallelsTo 7 = .ok (.iload 4, 2) := by decide +kernel
theorem dX8_parallelsTo_9 : decode cX8_parallelsTo 9 = .ok (.iconst 4, 1) := by decide +kernel
theorem dX8_parallelsTo_10 : decode cX8_parallelsTo 10 = .ok (.if_icmp .ge 48, 3) := by decide +kernel
theorem dX8_parallelsTo_13 : decode cX8_parallelsTo 13 = .ok (.iload 4, 2) := by decide +kernel
theorem dX8_parallelsTo_15 : decode cX8_parallelsTo 15 = .ok (.iconst 1, 1) := by decide +kernel
theorem dX8_parallelsTo_16 : decode cX8_parallelsTo 16 = .ok (.iadd, 1) := by decide +kernel
theorem dX8_parallelsTo_17 : decode cX8_parallelsTo 17 = .ok (.istore 5, 2) := by decide +kernel
theorem dX8_parallelsTo_19 : decode cX8_parallelsTo 19 = .ok (.iload 5, 2) := by decide +kernel
theorem dX8_parallelsTo_21 : decode cX8_parallelsTo 21 = .ok (.iconst 4, 1) := by decide +kernel
theorem dX8_parallelsTo_22 : decode cX8_parallelsTo 22 = .ok (.if_icmp .ge 30, 3) := by decide +kernel
theorem dX8_parallelsTo_25 : decode cX8_parallelsTo 25 = .ok (.aload_n 0, 1) := by decide +kernel
theorem dX8_parallelsTo_26 : decode cX8_parallelsTo 26 = .ok (.iload_n 1, 1) := by decide +kernel
theorem dX8_parallelsTo_27 : decode cX8_parallelsTo 27 = .ok (.iload 4, 2) := by decide +kernel
theorem dX8_parallelsTo_29 : decode cX8_parallelsTo 29 = .ok (.iload 5, 2) := by decide +kernel
theorem dX8_parallelsTo_31 : decode cX8_parallelsTo 31 = .ok (.invokevirtual 58, 3) := by decide +kernel
theorem dX8_parallelsTo_34 : decode cX8_parallelsTo 34 = .ok (.ifCond .eq 9, 3) := by decide +kernel
theorem dX8_parallelsTo_37 : decode cX8_parallelsTo 37 = .ok (.iload_n 2, 1) := by decide +kernel
theorem dX8_parallelsTo_38 : decode cX8_parallelsTo 38 = .ok (.iconst 1, 1) := by decide +kernel
theorem dX8_parallelsTo_39 : decode cX8_parallelsTo 39 = .ok (.iload_n 3, 1) := by decide +kernel
theorem dX8_parallelsTo_40 : decode cX8_parallelsTo 40 = .ok (.ishl, 1) := by decide +kernel
theorem dX8_parallelsTo_41 : decode cX8_parallelsTo 41 = .ok (.ior, 1) := by decide +kernel
theorem dX8_parallelsTo_42 : decode cX8_parallelsTo 42 = .ok (.istore_n 2, 1) := by decide +kernel
theorem dX8_parallelsTo_43 : decode cX8_parallelsTo 43 = .ok (.iinc 3 1, 3) := by decide +kernel
theorem dX8_parallelsTo_46 : decode cX8_parallelsTo 46 = .ok (.iinc 5 1, 3) := by decide +kernel
theorem dX8_parallelsTo_49 : decode cX8_parallelsTo 49 = .ok (.goto (-30), 3) := by decide +kernel
theorem dX8_parallelsTo_52 : decode cX8_parallelsTo 52 = .ok (.iinc 4 1, 3) := by decide +kernel
theorem dX8_parallelsTo_55 : decode cX8_parallelsTo 55 = .ok (.goto (-48), 3) := by decide +kernel
theorem dX8_parallelsTo_58 : decode cX8_parallelsTo 58 = .ok (.iload_n 2, 1) := by decide +kernel
theorem dX8_parallelsTo_59 : decode cX8_parallelsTo 59 = .ok (.ireturn, 1) := by decide +kernel
theorem dX8_goParallel_0 : decode cX8_goParallel 0 = .ok (.iload_n 1, 1) := by decide +kernel
theorem dX8_goParallel_1 : decode cX8_goParallel 1 = .ok (.iconst 1, 1) := by decide +kernel
theorem dX8_goParallel_2 : decode cX8_goParallel 2 = .ok (.if_icmp .ge 5, 3) := by decide +kernel
theorem dX8_goParallel_5 : decode cX8_goParallel 5 = .ok (.iconst 0, 1) := by decide +kernel
theorem dX8_goParallel_6 : decode cX8_goParallel 6 = .ok (.ireturn, 1) := by decide +kernel
theorem dX8_goParallel_7 : decode cX8_goParallel 7 = .ok (.aload_n 0, 1) := by decide +kernel
theorem dX8_goParallel_8 : decode cX8_goParallel 8 = .ok (.iload_n 1, 1) := by decide +kernel
theorem dX8_goParallel_9 : decode cX8_goParallel 9 = .ok (.iload_n 2, 1) := by decide +kernel
theorem dX8_goParallel_10 : decode cX8_goParallel 10 = .ok (.invokevirtual 62, 3) := by decide +kernel
theorem dX8_goParallel_13 : decode cX8_goParallel 13 = .ok (.istore 4, 2) := by decide +kernel
theorem dX8_goParallel_15 : decode cX8_goParallel 15 = .ok (.aload_n 0, 1) := by decide +kernel
theorem dX8_goParallel_16 : decode cX8_goParallel 16 = .ok (.iload_n 1, 1) := by decide +kernel
theorem dX8_goParallel_17 : decode cX8_goParallel 17 = .ok (.iload_n 3, 1) := by decide +kernel
theorem dX8_goParallel_18 : decode cX8_goParallel 18 = .ok (.invokevirtual 62, 3) := by decide +kernel
theorem dX8_goParallel_21 : decode cX8_goParallel 21 = .ok (.istore 5, 2) := by decide +kernel
theorem dX8_goParallel_23 : decode cX8_goParallel 23 = .ok (.aload_n 0, 1) := by decide +kernel
theorem dX8_goParallel_24 : decode cX8_goParallel 24 = .ok (.iload_n 1, 1) := by decide +kernel
theorem dX8_goParallel_25 : decode cX8_goParallel 25 = .ok (.iconst 1, 1) := by decide +kernel
theorem dX8_goParallel_26 : decode cX8_goParallel 26 = .ok (.isub, 1) := by decide +kernel
theorem dX8_goParallel_27 : decode cX8_goParallel 27 = .ok (.iload_n 2, 1) := by decide +kernel
theorem dX8_goParallel_28 : decode cX8_goParallel 28 = .ok (.invokevirtual 62, 3) := by decide +kernel
theorem dX8_goParallel_31 : decode cX8_goParallel 31 = .ok (.istore 6, 2) := by decide +kernel
theorem dX8_goParallel_33 : decode cX8_goParallel 33 = .ok (.aload_n 0, 1) := by decide +kernel
theorem dX8_goParallel_34 : decode cX8_goParallel 34 = .ok (.iload_n 1, 1) := by decide +kernel
theorem dX8_goParallel_35 : decode cX8_goParallel 35 = .ok (.iconst 1, 1) := by decide +kernel
theorem dX8_goParallel_36 : decode cX8_goParallel 36 = .ok (.isub, 1) := by decide +kernel
theorem dX8_goParallel_37 : decode cX8_goParallel 37 = .ok (.iload_n 3, 1) := by decide +kernel
theorem dX8_goParallel_38 : decode cX8_goParallel 38 = .ok (.invokevirtual 62, 3) := by decide +kernel
theorem dX8_goParallel_41 : decode cX8_goParallel 41 = .ok (.istore 7, 2) := by decide +kernel
theorem dX8_goParallel_43 : decode cX8_goParallel 43 = .ok (.iload 4, 2) := by decide +kernel
theorem dX8_goParallel_45 : decode cX8_goParallel 45 = .ok (.iload 6, 2) := by decide +kernel
theorem dX8_goParallel_47 : decode cX8_goParallel 47 = .ok (.if_icmp .le 14, 3) := by decide +kernel
theorem dX8_goParallel_50 : decode cX8_goParallel 50 = .ok (.iload 5, 2) := by decide +kernel
theorem dX8_goParallel_52 : decode cX8_goParallel 52 = .ok (.iload 7, 2) := by decide +kernel
theorem dX8_goParallel_54 : decode cX8_goParallel 54 = .ok (.if_icmp .le 7, 3) := by decide +kernel
theorem dX8_goParallel_57 : decode cX8_goParallel 57 = .ok (.iconst 1, 1) := by decide +kernel
theorem dX8_goParallel_58 : decode cX8_goParallel 58 = .ok (.goto 4, 3) := by decide +kernel
theorem dX8_goParallel_61 : decode cX8_goParallel 61 = .ok (.iconst 0, 1) := by decide +kernel
theorem dX8_goParallel_62 : decode cX8_goParallel 62 = .ok (.istore 8, 2) := by decide +kernel
theorem dX8_goParallel_64 : decode cX8_goParallel 64 = .ok (.iload 4, 2) := by decide +kernel
theorem dX8_goParallel_66 : decode cX8_goParallel 66 = .ok (.iload 6, 2) := by decide +kernel
theorem dX8_goParallel_68 : decode cX8_goParallel 68 = .ok (.if_icmp .ge 14, 3) := by decide +kernel
theorem dX8_goParallel_71 : decode cX8_goParallel 71 = .ok (.iload 5, 2) := by decide +kernel
theorem dX8_goParallel_73 : decode cX8_goParallel 73 = .ok (.iload 7, 2) := by decide +kernel
theorem dX8_goParallel_75 : decode cX8_goParallel 75 = .ok (.if_icmp .ge 7, 3) := by decide +kernel
theorem dX8_goParallel_78 : decode cX8_goParallel 78 = .ok (.iconst 1, 1) := by decide +kernel
theorem dX8_goParallel_79 : decode cX8_goParallel 79 = .ok (.goto 4, 3) := by decide +kernel
theorem dX8_goParallel_82 : decode cX8_goParallel 82 = .ok (.iconst 0, 1) := by decide +kernel
theorem dX8_goParallel_83 : decode cX8_goParallel 83 = .ok (.istore 9, 2) := by decide +kernel
theorem dX8_goParallel_85 : decode cX8_goParallel 85 = .ok (.iload 4, 2) := by decide +kernel
theorem dX8_goParallel_87 : decode cX8_goParallel 87 = .ok (.iload 5, 2) := by decide +kernel
theorem dX8_goParallel_89 : decode cX8_goParallel 89 = .ok (.isub, 1) := by decide +kernel
theorem dX8_goParallel_90 : decode cX8_goParallel 90 = .ok (.bipush 12, 2) := by decide +kernel
theorem dX8_goParallel_92 : decode cX8_goParallel 92 = .ok (.invokestatic 52, 3) := by decide +kernel
theorem dX8_goParallel_95 : decode cX8_goParallel 95 = .ok (.istore 10, 2) := by decide +kernel
theorem dX8_goParallel_97 : decode cX8_goParallel 97 = .ok (.iload 8, 2) := by decide +kernel
theorem dX8_goParallel_99 : decode cX8_goParallel 99 = .ok (.ifCond .ne 8, 3) := by decide +kernel
theorem dX8_goParallel_102 : decode cX8_goParallel 102 = .ok (.iload 9, 2) := by decide +kernel
theorem dX8_goParallel_104 : decode cX8_goParallel 104 = .ok (.ifCond .eq 34, 3) := by decide +kernel
theorem dX8_goParallel_107 : decode cX8_goParallel 107 = .ok (.iload 10, 2) := by decide +kernel
theorem dX8_goParallel_109 : decode cX8_goParallel 109 = .ok (.ifCond .eq 10, 3) := by decide +kernel
theorem dX8_goParallel_112 : decode cX8_goParallel 112 = .ok (.iload 10, 2) := by decide +kernel
theorem dX8_goParallel_114 : decode cX8_goParallel 114 = .ok (.bipush 7, 2) := by decide +kernel
theorem dX8_goParallel_116 : decode cX8_goParallel 116 = .ok (.if_icmp .ne 22, 3) := by decide +kernel
theorem dX8_goParallel_119 : decode cX8_goParallel 119 = .ok (.iload 10, 2) := by decide +kernel
theorem dX8_goParallel_121 : decode cX8_goParallel 121 = .ok (.iload 6, 2) := by decide +kernel
theorem dX8_goParallel_123 : decode cX8_goParallel 123 = .ok (.iload 7, 2) := by decide +kernel
theorem dX8_goParallel_125 : decode cX8_goParallel 125 = .ok (.isub, 1) := by decide +kernel
theorem dX8_goParallel_126 : decode cX8_goParallel 126 = .ok (.bipush 12, 2) := by decide +kernel
theorem dX8_goParallel_128 : decode cX8_goParallel 128 = .ok (.invokestatic 52, 3) := by decide +kernel
theorem dX8_goParallel_131 : decode cX8_goParallel 131 = .ok (.if_icmp .ne 7, 3) := by decide +kernel
theorem dX8_goParallel_134 : decode cX8_goParallel 134 = .ok (.iconst 1, 1) := by decide +kernel
theorem dX8_goParallel_135 : decode cX8_goParallel 135 = .ok (.goto 4, 3) := by decide +kernel
theorem dX8_goParallel_138 : decode cX8_goParallel 138 = .ok (.iconst 0, 1) := by decide +kernel
theorem dX8_goParallel_139 : decode cX8_goParallel 139 = .ok (.ireturn, 1) := by decide +kernel
theorem dX8_notesWithParallels_0 : decode cX8_notesWithParallels 0 = .ok (.iconst 0, 1) := by decide +kernel
theorem dX8_notesWithParallels_1 : decode cX8_notesWithParallels 1 = .ok (.istore_n 1, 1) := by decide +kernel
theorem dX8_notesWithParallels_2 : decode cX8_notesWithParallels 2 = .ok (.iconst 0, 1) := by decide +kernel
theorem dX8_notesWithParallels_3 : decode cX8_notesWithParallels 3 = .ok (.istore_n 2, 1) := by decide +kernel
theorem dX8_notesWithParallels_4 : decode cX8_notesWithParallels 4 = .ok (.iload_n 2, 1) := by decide +kernel
theorem dX8_notesWithParallels_5 : decode cX8_notesWithParallels 5 = .ok (.aload_n 0, 1) := by decide +kernel
theorem dX8_notesWithParallels_6 : decode cX8_notesWithParallels 6 = .ok (.getfield 25, 3) := by decide +kernel
theorem dX8_notesWithParallels_9 : decode cX8_notesWithParallels 9 = .ok (.if_icmp .ge 28, 3) := by decide +kernel
theorem dX8_notesWithParallels_12 : decode cX8_notesWithParallels 12 = .ok (.iload_n 1, 1) := by decide +kernel
theorem dX8_notesWithParallels_13 : decode cX8_notesWithParallels 13 = .ok (.aload_n 0, 1) := by decide +kernel
theorem dX8_notesWithParallels_14 : decode cX8_notesWithParallels 14 = .ok (.iload_n 2, 1) := by decide +kernel
theorem dX8_notesWithParallels_15 : decode cX8_notesWithParallels 15 = .ok (.invokevirtual 65, 3) := by decide +kernel
theorem dX8_notesWithParallels_18 : decode cX8_notesWithParallels 18 = .ok (.ifCond .eq 7, 3) := by decide +kernel
theorem dX8_notesWithParallels_21 : decode cX8_notesWithParallels 21 = .ok (.iconst 1, 1) := by decide +kernel
theorem dX8_notesWithParallels_22 : decode cX8_notesWithParallels 22 = .ok (.goto 4, 3) := by decide +kernel
theorem dX8_notesWithParallels_25 : decode cX8_notesWithParallels 25 = .ok (.iconst 0, 1) := by decide +kernel
theorem dX8_notesWithParallels_26 : decode cX8_notesWithParallels 26 = .ok (.invokestatic 68, 3) := by decide +kernel
theorem dX8_notesWithParallels_29 : decode cX8_notesWithParallels 29 = .ok (.iadd, 1) := by decide +kernel
theorem dX8_notesWithParallels_30 : decode cX8_notesWithParallels 30 = .ok (.istore_n 1, 1) := by decide +kernel
theorem dX8_notesWithParallels_31 : decode cX8_notesWithParallels 31 = .ok (.iinc 2 1, 3) := by decide +kernel
theorem dX8_notesWithParallels_34 : decode cX8_notesWithParallels 34 = .ok (.goto (-30), 3) := by decide +kernel
theorem dX8_notesWithParallels_37 : decode cX8_notesWithParallels 37 = .ok (.iload_n 1, 1) := by decide +kernel
theorem dX8_notesWithParallels_38 : decode cX8_notesWithParallels 38 = .ok (.ireturn, 1) := by decide +kernel
theorem dX9_init_0 : decode cX9_init 0 = .ok (.aload_n 0, 1) := by decide +kernel
theorem dX9_init_1 : decode cX9_init 1 = .ok (.invokespecial 3, 3) := by decide +kernel
theorem dX9_init_4 : decode cX9_init 4 = .ok (.aload_n 0, 1) := by decide +kernel
theorem dX9_init_5 : decode cX9_init 5 = .ok (.bipush 96, 2) := by decide +kernel
theorem dX9_init_7 : decode cX9_init 7 = .ok (.newarray .int, 2) := by decide +kernel
theorem dX9_init_9 : decode cX9_init 9 = .ok (.putfield 9, 3) := by decide +kernel
theorem dX9_init_12 : decode cX9_init 12 = .ok (.aload_n 0, 1) := by decide +kernel
theorem dX9_init_13 : decode cX9_init 13 = .ok (.sipush 2880, 3) := by decide +kernel
theorem dX9_init_16 : decode cX9_init 16 = .ok (.newarray .int, 2) := by decide +kernel
theorem dX9_init_18 : decode cX9_init 18 = .ok (.putfield 15, 3) := by decide +kernel
theorem dX9_init_21 : decode cX9_init 21 = .ok (.return_, 1) := by decide +kernel
theorem dX9_take_0 : decode cX9_take 0 = .ok (.aload_n 0, 1) := by decide +kernel
theorem dX9_take_1 : decode cX9_take 1 = .ok (.iload_n 1, 1) := by decide +kernel
theorem dX9_take_2 : decode cX9_take 2 = .ok (.iload_n 2, 1) := by decide +kernel
theorem dX9_take_3 : decode cX9_take 3 = .ok (.invokevirtual 18, 3) := by decide +kernel
theorem dX9_take_6 : decode cX9_take 6 = .ok (.istore 4, 2) := by decide +kernel
theorem dX9_take_8 : decode cX9_take 8 = .ok (.iconst 0, 1) := by decide +kernel
theorem dX9_take_9 : decode cX9_take 9 = .ok (.istore 5, 2) := by decide +kernel
theorem dX9_take_11 : decode cX9_take 11 = .ok (.iconst 0, 1) := by decide +kernel
theorem dX9_take_12 : decode cX9_take 12 = .ok (.istore 6, 2) := by decide +kernel
theorem dX9_take_14 : decode cX9_take 14 = .ok (.aload_n 0, 1) := by decide +kernel
theorem dX9_take_15 : decode cX9_take 15 = .ok (.getfield 9, 3) := by decide +kernel
theorem dX9_take_18 : decode cX9_take 18 = .ok (.iload 4, 2) := by decide +kernel
theorem dX9_take_20 : decode cX9_take 20 = .ok (.iconst 0, 1) := by decide +kernel
theorem dX9_take_21 : decode cX9_take 21 = .ok (.invokestatic 22, 3) := by decide +kernel
theorem dX9_take_24 : decode cX9_take 24 = .ok (.iconst 0, 1) := by decide +kernel
theorem dX9_take_25 : decode cX9_take 25 = .ok (.istore 7, 2) := by decide +kernel
theorem dX9_take_27 : decode cX9_take 27 = .ok (.iload 7, 2) := by decide +kernel
theorem dX9_take_29 : decode cX9_take 29 = .ok (.aload_n 3, 1) := by decide +kernel
theorem dX9_take_30 : decode cX9_take 30 = .ok (.getfield 26, 3) := by decide +kernel
theorem dX9_take_33 : decode cX9_take 33 = .ok (.if_icmp .ge 70, 3) := by decide +kernel
theorem dX9_take_36 : decode cX9_take 36 = .ok (.aload_n 3, 1) := by decide +kernel
theorem dX9_take_37 : decode cX9_take 37 = .ok (.iload 7, 2) := by decide +kernel
theorem dX9_take_39 : decode cX9_take 39 = .ok (.invokevirtual 32, 3) := by decide +kernel
theorem dX9_take_42 : decode cX9_take 42 = .ok (.istore 8, 2) := by decide +kernel
theorem dX9_take_44 : decode cX9_take 44 = .ok (.iload 8, 2) := by decide +kernel
theorem dX9_take_46 : decode cX9_take 46 = .ok (.invokestatic 36, 3) := by decide +kernel
theorem dX9_take_49 : decode cX9_take 49 = .ok (.ifCond .ne 31, 3) := by decide +kernel
theorem dX9_take_52 : decode cX9_take 52 = .ok (.aload_n 0, 1) := by decide +kernel
theorem dX9_take_53 : decode cX9_take 53 = .ok (.iload 4, 2) := by decide +kernel
theorem dX9_take_55 : decode cX9_take 55 = .ok (.iload 5, 2) := by decide +kernel
theorem dX9_take_57 : decode cX9_take 57 = .ok (.iload 6, 2) := by decide +kernel
theorem dX9_take_59 : decode cX9_take 59 = .ok (.iload 8, 2) := by decide +kernel
theorem dX9_take_61 : decode cX9_take 61 = .ok (.bipush 45, 2) := by decide +kernel
theorem dX9_take_63 : decode cX9_take 63 = .ok (.if_icmp .ne 7, 3) := by decide +kernel
theorem dX9_take_66 : decode cX9_take 66 = .ok (.iconst 1, 1) := by decide +kernel
theorem dX9_take_67 : decode cX9_take 67 = .ok (.goto 4, 3) := by decide +kernel
theorem dX9_take_70 : decode cX9_take 70 = .ok (.iconst 0, 1) := by decide +kernel
theorem dX9_take_71 : decode cX9_take 71 = .ok (.invokevirtual 40, 3) := by decide +kernel
theorem dX9_take_74 : decode cX9_take 74 = .ok (.iconst 0, 1) := by decide +kernel
theorem dX9_take_75 : decode cX9_take 75 = .ok (.istore 6, 2) := by decide +kernel
theorem dX9_take_77 : decode cX9_take 77 = .ok (.goto 20, 3) := by decide +kernel
theorem dX9_take_80 : decode cX9_take 80 = .ok (.iload 6, 2) := by decide +kernel
theorem dX9_take_82 : decode cX9_take 82 = .ok (.ifCond .ne 8, 3) := by decide +kernel
theorem dX9_take_85 : decode cX9_take 85 = .ok (.iload 8, 2) := by decide +kernel
theorem dX9_take_87 : decode cX9_take 87 = .ok (.goto 5, 3) := by decide +kernel
theorem dX9_take_90 : decode cX9_take 90 = .ok (.iload 5, 2) := by decide +kernel
theorem dX9_take_92 : decode cX9_take 92 = .ok (.istore 5, 2) := by decide +kernel
theorem dX9_take_94 : decode cX9_take 94 = .ok (.iinc 6 1, 3) := by decide +kernel
theorem dX9_take_97 : decode cX9_take 97 = .ok (.iinc 7 1, 3) := by decide +kernel
theorem dX9_take_100 : decode cX9_take 100 = .ok (.goto (-73), 3) := by decide +kernel
theorem dX9_take_103 : decode cX9_take 103 = .ok (.aload_n 0, 1) := by decide +kernel
theorem dX9_take_104 : decode cX9_take 104 = .ok (.iload 4, 2) := by decide +kernel
theorem dX9_take_106 : decode cX9_take 106 = .ok (.iload 5, 2) := by decide +kernel
theorem dX9_take_108 : decode cX9_take 108 = .ok (.iload 6, 2) := by decide +kernel
theorem dX9_take_110 : decode cX9_take 110 = .ok (.iconst 0, 1) := by decide +kernel
theorem dX9_take_111 : decode cX9_take 111 = .ok (.invokevirtual 40, 3) := by decide +kernel
theorem dX9_take_114 : decode cX9_take 114 = .ok (.return_, 1) := by decide +kernel
theorem dX9_push_0 : decode cX9_push 0 = .ok (.aload_n 0, 1) := by decide +kernel
theorem dX9_push_1 : decode cX9_push 1 = .ok (.getfield 9, 3) := by decide +kernel
theorem dX9_push_4 : decode cX9_push 4 = .ok (.iload_n 1, 1) := by decide +kernel
theorem dX9_push_5 : decode cX9_push 5 = .ok (.invokestatic 44, 3) := by decide +kernel
theorem dX9_push_8 : decode cX9_push 8 = .ok (.istore 5, 2) := by decide +kernel
theorem dX9_push_10 : decode cX9_push 10 = .ok (.iload_n 2, 1) := by decide +kernel
theorem dX9_push_11 : decode cX9_push 11 = .ok (.iload_n 3, 1) := by decide +kernel
theorem dX9_push_12 : decode cX9_push 12 = .ok (.bipush 7, 2) := by decide +kernel
theorem dX9_push_14 : decode cX9_push 14 = .ok (.ishl, 1) := by decide +kernel
theorem dX9_push_15 : decode cX9_push 15 = .ok (.iadd, 1) := by decide +kernel
theorem dX9_push_16 : decode cX9_push 16 = .ok (.iload 4, 2) := by decide +kernel
theorem dX9_push_18 : decode cX9_push 18 = .ok (.invokestatic 48, 3) := by decide +kernel
theorem dX9_push_21 : decode cX9_push 21 = .ok (.bipush 11, 2) := by decide +kernel
theorem dX9_push_23 : decode cX9_push 23 = .ok (.ishl, 1) := by decide +kernel
theorem dX9_push_24 : decode cX9_push 24 = .ok (.iadd, 1) := by decide +kernel
theorem dX9_push_25 : decode cX9_push 25 = .ok (.istore 6, 2) := by decide +kernel
theorem dX9_push_27 : decode cX9_push 27 = .ok (.aload_n 0, 1) := by decide +kernel
theorem dX9_push_28 : decode cX9_push 28 = .ok (.getfield 15, 3) := by decide +kernel
theorem dX9_push_31 : decode cX9_push 31 = .ok (.iload_n 1, 1) := by decide +kernel
theorem dX9_push_32 : decode cX9_push 32 = .ok (.bipush 30, 2) := by decide +kernel
theorem dX9_push_34 : decode cX9_push 34 = .ok (.imul, 1) := by decide +kernel
theorem dX9_push_35 : decode cX9_push 35 = .ok (.iload 5, 2) := by decide +kernel
theorem dX9_push_37 : decode cX9_push 37 = .ok (.iadd, 1) := by decide +kernel
theorem dX9_push_38 : decode cX9_push 38 = .ok (.iload 6, 2) := by decide +kernel
theorem dX9_push_40 : decode cX9_push 40 = .ok (.invokestatic 22, 3) := by decide +kernel
theorem dX9_push_43 : decode cX9_push 43 = .ok (.aload_n 0, 1) := by decide +kernel
theorem dX9_push_44 : decode cX9_push 44 = .ok (.getfield 9, 3) := by decide +kernel
theorem dX9_push_47 : decode cX9_push 47 = .ok (.iload_n 1, 1) := by decide +kernel
theorem dX9_push_48 : decode cX9_push 48 = .ok (.iload 5, 2) := by decide +kernel
theorem dX9_push_50 : decode cX9_push 50 = .ok (.iconst 1, 1) := by decide +kernel
theorem dX9_push_51 : decode cX9_push 51 = .ok (.iadd, 1) := by decide +kernel
theorem dX9_push_52 : decode cX9_push 52 = .ok (.invokestatic 22, 3) := by decide +kernel
theorem dX9_push_55 : decode cX9_push 55 = .ok (.return_, 1) := by decide +kernel
theorem dX9_removeLines_0 : decode cX9_removeLines 0 = .ok (.iconst 0, 1) := by decide +kernel
theorem dX9_removeLines_1 : decode cX9_removeLines 1 = .ok (.istore_n 2, 1) := by decide +kernel
theorem dX9_removeLines_2 : decode cX9_removeLines 2 = .ok (.iconst 0, 1) := by decide +kernel
theorem dX9_removeLines_3 : decode cX9_removeLines 3 = .ok (.istore_n 3, 1) := by decide +kernel
theorem dX9_removeLines_4 : decode cX9_removeLines 4 = .ok (.iload_n 3, 1) := by decide +kernel
theorem dX9_removeLines_5 : decode cX9_removeLines 5 = .ok (.bipush 24, 2) := by decide +kernel
theorem dX9_removeLines_7 : decode cX9_removeLines 7 = .ok (.if_icmp .ge 43, 3) := by decide +kernel
theorem dX9_removeLines_10 : decode cX9_removeLines 10 = .ok (.iload_n 2, 1) := by decide +kernel
theorem dX9_removeLines_11 : decode cX9_removeLines 11 = .ok (.aload_n 0, 1) := by decide +kernel
theorem dX9_removeLines_12 : decode cX9_removeLines 12 = .ok (.iload_n 1, 1) := by decide +kernel
theorem dX9_removeLines_13 : decode cX9_removeLines 13 = .ok (.iload_n 3, 1) := by decide +kernel
theorem dX9_removeLines_14 : decode cX9_removeLines 14 = .ok (.invokevirtual 52, 3) := by decide +kernel
theorem dX9_removeLines_17 : decode cX9_removeLines 17 = .ok (.ifCond .le 7, 3) := by decide +kernel
theorem dX9_removeLines_20 : decode cX9_removeLines 20 = .ok (.iconst 1, 1) := by decide +kernel
theorem dX9_removeLines_21 : decode cX9_removeLines 21 = .ok (.goto 4, 3) := by decide +kernel
theorem dX9_removeLines_24 : decode cX9_removeLines 24 = .ok (.iconst 0, 1) := by decide +kernel
theorem dX9_removeLines_25 : decode cX9_removeLines 25 = .ok (.invokestatic 48, 3) := by decide +kernel
theorem dX9_removeLines_28 : decode cX9_removeLines 28 = .ok (.iadd, 1) := by decide +kernel
theorem dX9_removeLines_29 : decode cX9_removeLines 29 = .ok (.istore_n 2, 1) := by decide +kernel
theorem dX9_removeLines_30 : decode cX9_removeLines 30 = .ok (.aload_n 0, 1) := by decide +kernel
theorem dX9_removeLines_31 : decode cX9_removeLines 31 = .ok (.getfield 9, 3) := by decide +kernel
theorem dX9_removeLines_34 : decode cX9_removeLines 34 = .ok (.aload_n 0, 1) := by decide +kernel
theorem dX9_removeLines_35 : decode cX9_removeLines 35 = .ok (.iload_n 1, 1) := by decide +kernel
theorem dX9_removeLines_36 : decode cX9_removeLines 36 = .ok (.iload_n 3, 1) := by decide +kernel
theorem dX9_removeLines_37 : decode cX9_removeLines 37 = .ok (.invokevirtual 18, 3) := by decide +kernel
theorem dX9_removeLines_40 : decode cX9_removeLines 40 = .ok (.iconst 0, 1) := by decide +kernel
theorem dX9_removeLines_41 : decode cX9_removeLines 41 = .ok (.invokestatic 22, 3) := by decide +kernel
theorem dX9_removeLines_44 : decode cX9_removeLines 44 = .ok (.iinc 3 1, 3) := by decide +kernel
theorem dX9_removeLines_47 : decode cX9_removeLines 47 = .ok (.goto (-43), 3) := by decide +kernel
theorem dX9_removeLines_50 : decode cX9_removeLines 50 = .ok (.iload_n 2, 1) := by decide +kernel
theorem dX9_removeLines_51 : decode cX9_removeLines 51 = .ok (.ireturn, 1) := by decide +kernel
theorem dX9_rowOf_0 : decode cX9_rowOf 0 = .ok (.iload_n 1, 1) := by decide +kernel
theorem dX9_rowOf_1 : decode cX9_rowOf 1 = .ok (.bipush 24, 2) := by decide +kernel
theorem dX9_rowOf_3 : decode cX9_rowOf 3 = .ok (.imul, 1) := by decide +kernel
theorem dX9_rowOf_4 : decode cX9_rowOf 4 = .ok (.iload_n 2, 1) := by decide +kernel
theorem dX9_rowOf_5 : decode cX9_rowOf 5 = .ok (.iadd, 1) := by decide +kernel
theorem dX9_rowOf_6 : decode cX9_rowOf 6 = .ok (.ireturn, 1) := by decide +kernel
theorem dX9_syllablesOf_0 : decode cX9_syllablesOf 0 = .ok (.aload_n 0, 1) := by decide +kernel
theorem dX9_syllablesOf_1 : decode cX9_syllablesOf 1 = .ok (.getfield 9, 3) := by decide +kernel
theorem dX9_syllablesOf_4 : decode cX9_syllablesOf 4 = .ok (.aload_n 0, 1) := by decide +kernel
theorem dX9_syllablesOf_5 : decode cX9_syllablesOf 5 = .ok (.iload_n 1, 1) := by decide +kernel
theorem dX9_syllablesOf_6 : decode cX9_syllablesOf 6 = .ok (.iload_n 2, 1) := by decide +kernel
theorem dX9_syllablesOf_7 : decode cX9_syllablesOf 7 = .ok (.invokevirtual 18, 3) := by decide +kernel
theorem dX9_syllablesOf_10 : decode cX9_syllablesOf 10 = .ok (.invokestatic 44, 3) := by decide +kernel
theorem dX9_syllablesOf_13 : decode cX9_syllablesOf 13 = .ok (.ireturn, 1) := by decide +kernel
theorem dX9_wordsOf_0 : decode cX9_wordsOf 0 = .ok (.iconst 0, 1) := by decide +kernel
theorem dX9_wordsOf_1 : decode cX9_wordsOf 1 = .ok (.istore_n 3, 1) := by decide +kernel
theorem dX9_wordsOf_2 : decode cX9_wordsOf 2 = .ok (.iconst 0, 1) := by decide +kernel
theorem dX9_wordsOf_3 : decode cX9_wordsOf 3 = .ok (.istore 4, 2) := by decide +kernel
theorem dX9_wordsOf_5 : decode cX9_wordsOf 5 = .ok (.iload 4, 2) := by decide +kernel
theorem dX9_wordsOf_7 : decode cX9_wordsOf 7 = .ok (.aload_n 0, 1) := by decide +kernel
theorem dX9_wordsOf_8 : decode cX9_wordsOf 8 = .ok (.iload_n 1, 1) := by decide +kernel
theorem dX9_wordsOf_9 : decode cX9_wordsOf 9 = .ok (.iload_n 2, 1) := by decide +kernel
theorem dX9_wordsOf_10 : decode cX9_wordsOf 10 = .ok (.invokevirtual 52, 3) := by decide +kernel
theorem dX9_wordsOf_13 : decode cX9_wordsOf 13 = .ok (.if_icmp .ge 31, 3) := by decide +kernel
theorem dX9_wordsOf_16 : decode cX9_wordsOf 16 = .ok (.iload_n 3, 1) := by decide +kernel
theorem dX9_wordsOf_17 : decode cX9_wordsOf 17 = .ok (.aload_n 0, 1) := by decide +kernel
theorem dX9_wordsOf_18 : decode cX9_wordsOf 18 = .ok (.iload_n 1, 1) := by decide +kernel
theorem dX9_wordsOf_19 : decode cX9_wordsOf 19 = .ok (.iload_n 2, 1) := by decide +kernel
theorem dX9_wordsOf_20 : decode cX9_wordsOf 20 = .ok (.iload 4, 2) := by decide +kernel
theorem dX9_wordsOf_22 : decode cX9_wordsOf 22 = .ok (.invokevirtual 55, 3) := by decide +kernel
theorem dX9_wordsOf_25 : decode cX9_wordsOf 25 = .ok (.ifCond .ne 7, 3) := by decide +kernel
theorem dX9_wordsOf_28 : decode cX9_wordsOf 28 = .ok (.iconst 1, 1) := by decide +kernel
theorem dX9_wordsOf_29 : decode cX9_wordsOf 29 = .ok (.goto 4, 3) := by decide +kernel
theorem dX9_wordsOf_32 : decode cX9_wordsOf 32 = .ok (.iconst 0, 1) := by decide +kernel
theorem dX9_wordsOf_33 : decode cX9_wordsOf 33 = .ok (.invokestatic 48, 3) := by decide +kernel
theorem dX9_wordsOf_36 : decode cX9_wordsOf 36 = .ok (.iadd, 1) := by decide +kernel
theorem dX9_wordsOf_37 : decode cX9_wordsOf 37 = .ok (.istore_n 3, 1) := by decide +kernel
theorem dX9_wordsOf_38 : decode cX9_wordsOf 38 = .ok (.iinc 4 1, 3) := by decide +kernel
theorem dX9_wordsOf_41 : decode cX9_wordsOf 41 = .ok (.goto (-36), 3) := by decide +kernel
theorem dX9_wordsOf_44 : decode cX9_wordsOf 44 = .ok (.iload_n 3, 1) := by decide +kernel
theorem dX9_wordsOf_45 : decode cX9_wordsOf 45 = .ok (.ireturn, 1) := by decide +kernel
theorem dX9_longestOf_0 : decode cX9_longestOf 0 = .ok (.iconst 0, 1) := by decide +kernel
theorem dX9_longestOf_1 : decode cX9_longestOf 1 = .ok (.istore_n 3, 1) := by decide +kernel
theorem dX9_longestOf_2 : decode cX9_longestOf 2 = .ok (.iconst 0, 1) := by decide +kernel
theorem dX9_longestOf_3 : decode cX9_longestOf 3 = .ok (.istore 4, 2) := by decide +kernel
theorem dX9_longestOf_5 : decode cX9_longestOf 5 = .ok (.iload 4, 2) := by decide +kernel
theorem dX9_longestOf_7 : decode cX9_longestOf 7 = .ok (.aload_n 0, 1) := by decide +kernel
theorem dX9_longestOf_8 : decode cX9_longestOf 8 = .ok (.iload_n 1, 1) := by decide +kernel
theorem dX9_longestOf_9 : decode cX9_longestOf 9 = .ok (.iload_n 2, 1) := by decide +kernel
theorem dX9_longestOf_10 : decode cX9_longestOf 10 = .ok (.invokevirtual 52, 3) := by decide +kernel
theorem dX9_longestOf_13 : decode cX9_longestOf 13 = .ok (.if_icmp .ge 22, 3) := by decide +kernel
theorem dX9_longestOf_16 : decode cX9_longestOf 16 = .ok (.iload_n 3, 1) := by decide +kernel
theorem dX9_longestOf_17 : decode cX9_longestOf 17 = .ok (.aload_n 0, 1) := by decide +kernel
theorem dX9_longestOf_18 : decode cX9_longestOf 18 = .ok (.iload_n 1, 1) := by decide +kernel
theorem dX9_longestOf_19 : decode cX9_longestOf 19 = .ok (.iload_n 2, 1) := by decide +kernel
theorem dX9_longestOf_20 : decode cX9_longestOf 20 = .ok (.iload 4, 2) := by decide +kernel
theorem dX9_longestOf_22 : decode cX9_longestOf 22 = .ok (.invokevirtual 59, 3) := by decide +kernel
theorem dX9_longestOf_25 : decode cX9_longestOf 25 = .ok (.invokestatic 63, 3) := by decide +kernel
theorem dX9_longestOf_28 : decode cX9_longestOf 28 = .ok (.istore_n 3, 1) := by decide +kernel
theorem dX9_longestOf_29 : decode cX9_longestOf 29 = .ok (.iinc 4 1, 3) := by decide +kernel
theorem dX9_longestOf_32 : decode cX9_longestOf 32 = .ok (.goto (-27), 3) := by decide +kernel
theorem dX9_longestOf_35 : decode cX9_longestOf 35 = .ok (.iload_n 3, 1) := by decide +kernel
theorem dX9_longestOf_36 : decode cX9_longestOf 36 = .ok (.ireturn, 1) := by decide +kernel
theorem dX9_hasSyllable_0 : decode cX9_hasSyllable 0 = .ok (.iload_n 2, 1) := by decide +kernel
theorem dX9_hasSyllable_1 : decode cX9_hasSyllable 1 = .ok (.bipush 24, 2) := by decide +kernel
theorem dX9_hasSyllable_3 : decode cX9_hasSyllable 3 = .ok (.if_icmp .ge 21, 3) := by decide +kernel
theorem dX9_hasSyllable_6 : decode cX9_hasSyllable 6 = .ok (.iload_n 3, 1) := by decide +kernel
theorem dX9_hasSyllable_7 : decode cX9_hasSyllable 7 = .ok (.ifCond .lt 17, 3) := by decide +kernel
theorem dX9_hasSyllable_10 : decode cX9_hasSyllable 10 = .ok (.iload_n 3, 1) := by decide +kernel
theorem dX9_hasSyllable_11 : decode cX9_hasSyllable 11 = .ok (.aload_n 0, 1) := by decide +kernel
theorem dX9_hasSyllable_12 : decode cX9_hasSyllable 12 = .ok (.iload_n 1, 1) := by decide +kernel
theorem dX9_hasSyllable_13 : decode cX9_hasSyllable 13 = .ok (.iload_n 2, 1) := by decide +kernel
theorem dX9_hasSyllable_14 : decode cX9_hasSyllable 14 = .ok (.invokevirtual 52, 3) := by decide +kernel
theorem dX9_hasSyllable_17 : decode cX9_hasSyllable 17 = .ok (.if_icmp .ge 7, 3) := by decide +kernel
theorem dX9_hasSyllable_20 : decode cX9_hasSyllable 20 = .ok (.iconst 1, 1) := by decide +kernel
theorem dX9_hasSyllable_21 : decode cX9_hasSyllable 21 = .ok (.goto 4, 3) := by decide +kernel
theorem dX9_hasSyllable_24 : decode cX9_hasSyllable 24 = .ok (.iconst 0, 1) := by decide +kernel
theorem dX9_hasSyllable_25 : decode cX9_hasSyllable 25 = .ok (.ireturn, 1) := by decide +kernel
theorem dX9_lengthAt_0 : decode cX9_lengthAt 0 = .ok (.aload_n 0, 1) := by decide +kernel
theorem dX9_lengthAt_1 : decode cX9_lengthAt 1 = .ok (.iload_n 1, 1) := by decide +kernel
theorem dX9_lengthAt_2 : decode cX9_lengthAt 2 = .ok (.iload_n 2, 1) := by decide +kernel
theorem dX9_lengthAt_3 : decode cX9_lengthAt 3 = .ok (.iload_n 3, 1) := by decide +kernel
theorem dX9_lengthAt_4 : decode cX9_lengthAt 4 = .ok (.invokevirtual 68, 3) := by decide +kernel
theorem dX9_lengthAt_7 : decode cX9_lengthAt 7 = .ok (.bipush 7, 2) := by decide +kernel
theorem dX9_lengthAt_9 : decode cX9_lengthAt 9 = .ok (.ishr, 1) := by decide +kernel
theorem dX9_lengthAt_10 : decode cX9_lengthAt 10 = .ok (.bipush 15, 2) := by decide +kernel
theorem dX9_lengthAt_12 : decode cX9_lengthAt 12 = .ok (.iand, 1) := by decide +kernel
theorem dX9_lengthAt_13 : decode cX9_lengthAt 13 = .ok (.ireturn, 1) := by decide +kernel
theorem dX9_signAt_0 : decode cX9_signAt 0 = .ok (.aload_n 0, 1) := by decide +kernel
theorem dX9_signAt_1 : decode cX9_signAt 1 = .ok (.iload_n 1, 1) := by decide +kernel
theorem dX9_signAt_2 : decode cX9_signAt 2 = .ok (.iload_n 2, 1) := by decide +kernel
theorem dX9_signAt_3 : decode cX9_signAt 3 = .ok (.iload_n 3, 1) := by decide +kernel
theorem dX9_signAt_4 : decode cX9_signAt 4 = .ok (.invokevirtual 68, 3) := by decide +kernel
theorem dX9_signAt_7 : decode cX9_signAt 7 = .ok (.bipush 127, 2) := by decide +kernel
theorem dX9_signAt_9 : decode cX9_signAt 9 = .ok (.iand, 1) := by decide +kernel
theorem dX9_signAt_10 : decode cX9_signAt 10 = .ok (.ireturn, 1) := by decide +kernel
theorem dX9_isLinked_0 : decode cX9_isLinked 0 = .ok (.aload_n 0, 1) := by decide +kernel
theorem dX9_isLinked_1 : decode cX9_isLinked 1 = .ok (.iload_n 1, 1) := by decide +kernel
theorem dX9_isLinked_2 : decode cX9_isLinked 2 = .ok (.iload_n 2, 1) := by decide +kernel
theorem dX9_isLinked_3 : decode cX9_isLinked 3 = .ok (.iload_n 3, 1) := by decide +kernel
theorem dX9_isLinked_4 : decode cX9_isLinked 4 = .ok (.invokevirtual 68, 3) := by decide +kernel
theorem dX9_isLinked_7 : decode cX9_isLinked 7 = .ok (.bipush 11, 2) := by decide +kernel
theorem dX9_isLinked_9 : decode cX9_isLinked 9 = .ok (.ishr, 1) := by decide +kernel
theorem dX9_isLinked_10 : decode cX9_isLinked 10 = .ok (.ifCond .eq 7, 3) := by decide +kernel
theorem dX9_isLinked_13 : decode cX9_isLinked 13 = .ok (.iconst 1, 1) := by decide +kernel
theorem dX9_isLinked_14 : decode cX9_isLinked 14 = .ok (.goto 4, 3) := by decide +kernel
theorem dX9_isLinked_17 : decode cX9_isLinked 17 = .ok (.iconst 0, 1) := by decide +kernel
theorem dX9_isLinked_18 : decode cX9_isLinked 18 = .ok (.ireturn, 1) := by decide +kernel
theorem dX9_packedAt_0 : decode cX9_packedAt 0 = .ok (.aload_n 0, 1) := by decide +kernel
theorem dX9_packedAt_1 : decode cX9_packedAt 1 = .ok (.getfield 15, 3) := by decide +kernel
theorem dX9_packedAt_4 : decode cX9_packedAt 4 = .ok (.aload_n 0, 1) := by decide +kernel
theorem dX9_packedAt_5 : decode cX9_packedAt 5 = .ok (.iload_n 1, 1) := by decide +kernel
theorem dX9_packedAt_6 : decode cX9_packedAt 6 = .ok (.iload_n 2, 1) := by decide +kernel
theorem dX9_packedAt_7 : decode cX9_packedAt 7 = .ok (.invokevirtual 18, 3) := by decide +kernel
theorem dX9_packedAt_10 : decode cX9_packedAt 10 = .ok (.bipush 30, 2) := by decide +kernel
theorem dX9_packedAt_12 : decode cX9_packedAt 12 = .ok (.imul, 1) := by decide +kernel
theorem dX9_packedAt_13 : decode cX9_packedAt 13 = .ok (.iload_n 3, 1) := by decide +kernel
theorem dX9_packedAt_14 : decode cX9_packedAt 14 = .ok (.iadd, 1) := by decide +kernel
theorem dX9_packedAt_15 : decode cX9_packedAt 15 = .ok (.invokestatic 44, 3) := by decide +kernel
theorem dX9_packedAt_18 : decode cX9_packedAt 18 = .ok (.ireturn, 1) := by decide +kernel
theorem dX9_widestBelow_0 : decode cX9_widestBelow 0 = .ok (.iconst 0, 1) := by decide +kernel
theorem dX9_widestBelow_1 : decode cX9_widestBelow 1 = .ok (.istore_n 3, 1) := by decide +kernel
theorem dX9_widestBelow_2 : decode cX9_widestBelow 2 = .ok (.iconst 0, 1) := by decide +kernel
theorem dX9_widestBelow_3 : decode cX9_widestBelow 3 = .ok (.istore 4, 2) := by decide +kernel
theorem dX9_widestBelow_5 : decode cX9_widestBelow 5 = .ok (.iload 4, 2) := by decide +kernel
theorem dX9_widestBelow_7 : decode cX9_widestBelow 7 = .ok (.iconst 4, 1) := by decide +kernel
theorem dX9_widestBelow_8 : decode cX9_widestBelow 8 = .ok (.if_icmp .ge 33, 3) := by decide +kernel
theorem dX9_widestBelow_11 : decode cX9_widestBelow 11 = .ok (.aload_n 0, 1) := by decide +kernel
theorem dX9_widestBelow_12 : decode cX9_widestBelow 12 = .ok (.iload 4, 2) := by decide +kernel
theorem dX9_widestBelow_14 : decode cX9_widestBelow 14 = .ok (.iload_n 1, 1) := by decide +kernel
theorem dX9_widestBelow_15 : decode cX9_widestBelow 15 = .ok (.iload_n 2, 1) := by decide +kernel
theorem dX9_widestBelow_16 : decode cX9_widestBelow 16 = .ok (.invokevirtual 71, 3) := by decide +kernel
theorem dX9_widestBelow_19 : decode cX9_widestBelow 19 = .ok (.ifCond .eq 16, 3) := by decide +kernel
theorem dX9_widestBelow_22 : decode cX9_widestBelow 22 = .ok (.iload_n 3, 1) := by decide +kernel
theorem dX9_widestBelow_23 : decode cX9_widestBelow 23 = .ok (.aload_n 0, 1) := by decide +kernel
theorem dX9_widestBelow_24 : decode cX9_widestBelow 24 = .ok (.iload 4, 2) := by decide +kernel
theorem dX9_widestBelow_26 : decode cX9_widestBelow 26 = .ok (.iload_n 1, 1) := by decide +kernel
theorem dX9_widestBelow_27 : decode cX9_widestBelow 27 = .ok (.iload_n 2, 1) := by decide +kernel
theorem dX9_widestBelow_28 : decode cX9_widestBelow 28 = .ok (.invokevirtual 59, 3) := by decide +kernel
theorem dX9_widestBelow_31 : decode cX9_widestBelow 31 = .ok (.invokestatic 63, 3) := by decide +kernel
theorem dX9_widestBelow_34 : decode cX9_widestBelow 34 = .ok (.istore_n 3, 1) := by decide +kernel
theorem dX9_widestBelow_35 : decode cX9_widestBelow 35 = .ok (.iinc 4 1, 3) := by decide +kernel
theorem dX9_widestBelow_38 : decode cX9_widestBelow 38 = .ok (.goto (-33), 3) := by decide +kernel
theorem dX9_widestBelow_41 : decode cX9_widestBelow 41 = .ok (.iload_n 3, 1) := by decide +kernel
theorem dX9_widestBelow_42 : decode cX9_widestBelow 42 = .ok (.ireturn, 1) := by decide +kernel
theorem dJ9_floorDiv_7cf53_0 : decode cJ9_floorDiv_7cf53 0 = .ok (.iload_n 0, 1) := by decide +kernel
theorem dJ9_floorDiv_7cf53_1 : decode cJ9_floorDiv_7cf53 1 = .ok (.iload_n 1, 1) := by decide +kernel
theorem dJ9_floorDiv_7cf53_2 : decode cJ9_floorDiv_7cf53 2 = .ok (.idiv, 1) := by decide +kernel
theorem dJ9_floorDiv_7cf53_3 : decode cJ9_floorDiv_7cf53 3 = .ok (.istore_n 2, 1) := by decide +kernel
theorem dJ9_floorDiv_7cf53_4 : decode cJ9_floorDiv_7cf53 4 = .ok (.iload_n 0, 1) := by decide +kernel
theorem dJ9_floorDiv_7cf53_5 : decode cJ9_floorDiv_7cf53 5 = .ok (.iload_n 1, 1) := by decide +kernel
theorem dJ9_floorDiv_7cf53_6 : decode cJ9_floorDiv_7cf53 6 = .ok (.ixor, 1) := by decide +kernel
theorem dJ9_floorDiv_7cf53_7 : decode cJ9_floorDiv_7cf53 7 = .ok (.ifCond .ge 14, 3) := by decide +kernel
theorem dJ9_floorDiv_7cf53_10 : decode cJ9_floorDiv_7cf53 10 = .ok (.iload_n 2, 1) := by decide +kernel
theorem dJ9_floorDiv_7cf53_11 : decode cJ9_floorDiv_7cf53 11 = .ok (.iload_n 1, 1) := by decide +kernel
theorem dJ9_floorDiv_7cf53_12 : decode cJ9_floorDiv_7cf53 12 = .ok (.imul, 1) := by decide +kernel
theorem dJ9_floorDiv_7cf53_13 : decode cJ9_floorDiv_7cf53 13 = .ok (.iload_n 0, 1) := by decide +kernel
theorem dJ9_floorDiv_7cf53_14 : decode cJ9_floorDiv_7cf53 14 = .ok (.if_icmp .eq 7, 3) := by decide +kernel
theorem dJ9_floorDiv_7cf53_17 : decode cJ9_floorDiv_7cf53 17 = .ok (.iload_n 2, 1) := by decide +kernel
theorem dJ9_floorDiv_7cf53_18 : decode cJ9_floorDiv_7cf53 18 = .ok (.iconst 1, 1) := by decide +kernel
theorem dJ9_floorDiv_7cf53_19 : decode cJ9_floorDiv_7cf53 19 = .ok (.isub, 1) := by decide +kernel
theorem dJ9_floorDiv_7cf53_20 : decode cJ9_floorDiv_7cf53 20 = .ok (.ireturn, 1) := by decide +kernel
theorem dJ9_floorDiv_7cf53_21 : decode cJ9_floorDiv_7cf53 21 = .ok (.iload_n 2, 1) := by decide +kernel
theorem dJ9_floorDiv_7cf53_22 : decode cJ9_floorDiv_7cf53 22 = .ok (.ireturn, 1) := by decide +kernel
theorem dJ9_floorMod_7cf53_0 : decode cJ9_floorMod_7cf53 0 = .ok (.iload_n 0, 1) := by decide +kernel
theorem dJ9_floorMod_7cf53_1 : decode cJ9_floorMod_7cf53 1 = .ok (.iload_n 1, 1) := by decide +kernel
theorem dJ9_floorMod_7cf53_2 : decode cJ9_floorMod_7cf53 2 = .ok (.irem, 1) := by decide +kernel
theorem dJ9_floorMod_7cf53_3 : decode cJ9_floorMod_7cf53 3 = .ok (.istore_n 2, 1) := by decide +kernel
theorem dJ9_floorMod_7cf53_4 : decode cJ9_floorMod_7cf53 4 = .ok (.iload_n 0, 1) := by decide +kernel
theorem dJ9_floorMod_7cf53_5 : decode cJ9_floorMod_7cf53 5 = .ok (.iload_n 1, 1) := by decide +kernel
theorem dJ9_floorMod_7cf53_6 : decode cJ9_floorMod_7cf53 6 = .ok (.ixor, 1) := by decide +kernel
theorem dJ9_floorMod_7cf53_7 : decode cJ9_floorMod_7cf53 7 = .ok (.ifCond .ge 11, 3) := by decide +kernel
theorem dJ9_floorMod_7cf53_10 : decode cJ9_floorMod_7cf53 10 = .ok (.iload_n 2, 1) := by decide +kernel
theorem dJ9_floorMod_7cf53_11 : decode cJ9_floorMod_7cf53 11 = .ok (.ifCond .eq 7, 3) := by decide +kernel
theorem dJ9_floorMod_7cf53_14 : decode cJ9_floorMod_7cf53 14 = .ok (.iload_n 2, 1) := by decide +kernel
theorem dJ9_floorMod_7cf53_15 : decode cJ9_floorMod_7cf53 15 = .ok (.iload_n 1, 1) := by decide +kernel
theorem dJ9_floorMod_7cf53_16 : decode cJ9_floorMod_7cf53 16 = .ok (.iadd, 1) := by decide +kernel
theorem dJ9_floorMod_7cf53_17 : decode cJ9_floorMod_7cf53 17 = .ok (.ireturn, 1) := by decide +kernel
theorem dJ9_floorMod_7cf53_18 : decode cJ9_floorMod_7cf53 18 = .ok (.iload_n 2, 1) := by decide +kernel
theorem dJ9_floorMod_7cf53_19 : decode cJ9_floorMod_7cf53 19 = .ok (.ireturn, 1) := by decide +kernel
theorem dJ9_abs_0f7a4_0 : decode cJ9_abs_0f7a4 0 = .ok (.iload_n 0, 1) := by decide +kernel
theorem dJ9_abs_0f7a4_1 : decode cJ9_abs_0f7a4 1 = .ok (.ifCond .ge 8, 3) := by decide +kernel
theorem dJ9_abs_0f7a4_4 : decode cJ9_abs_0f7a4 4 = .ok (.iload_n 0, 1) := by decide +kernel
theorem dJ9_abs_0f7a4_5 : decode cJ9_abs_0f7a4 5 = .ok (.ineg, 1) := by decide +kernel
theorem dJ9_abs_0f7a4_6 : decode cJ9_abs_0f7a4 6 = .ok (.goto 4, 3) := by decide +kernel
theorem dJ9_abs_0f7a4_9 : decode cJ9_abs_0f7a4 9 = .ok (.iload_n 0, 1) := by decide +kernel
theorem dJ9_abs_0f7a4_10 : decode cJ9_abs_0f7a4 10 = .ok (.ireturn, 1) := by decide +kernel
theorem dJ9_max_7cf53_0 : decode cJ9_max_7cf53 0 = .ok (.iload_n 0, 1) := by decide +kernel
theorem dJ9_max_7cf53_1 : decode cJ9_max_7cf53 1 = .ok (.iload_n 1, 1) := by decide +kernel
theorem dJ9_max_7cf53_2 : decode cJ9_max_7cf53 2 = .ok (.if_icmp .lt 7, 3) := by decide +kernel
theorem dJ9_max_7cf53_5 : decode cJ9_max_7cf53 5 = .ok (.iload_n 0, 1) := by decide +kernel
theorem dJ9_max_7cf53_6 : decode cJ9_max_7cf53 6 = .ok (.goto 4, 3) := by decide +kernel
theorem dJ9_max_7cf53_9 : decode cJ9_max_7cf53 9 = .ok (.iload_n 1, 1) := by decide +kernel
theorem dJ9_max_7cf53_10 : decode cJ9_max_7cf53 10 = .ok (.ireturn, 1) := by decide +kernel
