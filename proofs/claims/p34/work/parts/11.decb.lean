theorem dX10_init_0 : decode cX10_init 0 = .ok (.aload_n 0, 1) := by decide +kernel
theorem dX10_init_1 : decode cX10_init 1 = .ok (.invokespecial 3, 3) := by decide +kernel
theorem dX10_init_4 : decode cX10_init 4 = .ok (.aload_n 0, 1) := by decide +kernel
theorem dX10_init_5 : decode cX10_init 5 = .ok (.new 9, 3) := by decide +kernel
theorem dX10_init_8 : decode cX10_init 8 = .ok (.dup, 1) := by decide +kernel
theorem dX10_init_9 : decode cX10_init 9 = .ok (.invokespecial 11, 3) := by decide +kernel
theorem dX10_init_12 : decode cX10_init 12 = .ok (.putfield 12, 3) := by decide +kernel
theorem dX10_init_15 : decode cX10_init 15 = .ok (.aload_n 0, 1) := by decide +kernel
theorem dX10_init_16 : decode cX10_init 16 = .ok (.new 16, 3) := by decide +kernel
theorem dX10_init_19 : decode cX10_init 19 = .ok (.dup, 1) := by decide +kernel
theorem dX10_init_20 : decode cX10_init 20 = .ok (.invokespecial 18, 3) := by decide +kernel
theorem dX10_init_23 : decode cX10_init 23 = .ok (.putfield 19, 3) := by decide +kernel
theorem dX10_init_26 : decode cX10_init 26 = .ok (.aload_n 0, 1) := by decide +kernel
theorem dX10_init_27 : decode cX10_init 27 = .ok (.new 23, 3) := by decide +kernel
theorem dX10_init_30 : decode cX10_init 30 = .ok (.dup, 1) := by decide +kernel
theorem dX10_init_31 : decode cX10_init 31 = .ok (.invokespecial 25, 3) := by decide +kernel
theorem dX10_init_34 : decode cX10_init 34 = .ok (.putfield 26, 3) := by decide +kernel
theorem dX10_init_37 : decode cX10_init 37 = .ok (.aload_n 0, 1) := by decide +kernel
theorem dX10_init_38 : decode cX10_init 38 = .ok (.new 30, 3) := by decide +kernel
theorem dX10_init_41 : decode cX10_init 41 = .ok (.dup, 1) := by decide +kernel
theorem dX10_init_42 : decode cX10_init 42 = .ok (.invokespecial 32, 3) := by decide +kernel
theorem dX10_init_45 : decode cX10_init 45 = .ok (.putfield 33, 3) := by decide +kernel
theorem dX10_init_48 : decode cX10_init 48 = .ok (.aload_n 0, 1) := by decide +kernel
theorem dX10_init_49 : decode cX10_init 49 = .ok (.new 37, 3) := by decide +kernel
theorem dX10_init_52 : decode cX10_init 52 = .ok (.dup, 1) := by decide +kernel
theorem dX10_init_53 : decode cX10_init 53 = .ok (.invokespecial 39, 3) := by decide +kernel
theorem dX10_init_56 : decode cX10_init 56 = .ok (.putfield 40, 3) := by decide +kernel
theorem dX10_init_59 : decode cX10_init 59 = .ok (.aload_n 0, 1) := by decide +kernel
theorem dX10_init_60 : decode cX10_init 60 = .ok (.new 44, 3) := by decide +kernel
theorem dX10_init_63 : decode cX10_init 63 = .ok (.dup, 1) := by decide +kernel
theorem dX10_init_64 : decode cX10_init 64 = .ok (.invokespecial 46, 3) := by decide +kernel
theorem dX10_init_67 : decode cX10_init 67 = .ok (.putfield 47, 3) := by decide +kernel
theorem dX10_init_70 : decode cX10_init 70 = .ok (.aload_n 0, 1) := by decide +kernel
theorem dX10_init_71 : decode cX10_init 71 = .ok (.new 51, 3) := by decide +kernel
theorem dX10_init_74 : decode cX10_init 74 = .ok (.dup, 1) := by decide +kernel
theorem dX10_init_75 : decode cX10_init 75 = .ok (.invokespecial 53, 3) := by decide +kernel
theorem dX10_init_78 : decode cX10_init 78 = .ok (.putfield 54, 3) := by decide +kernel
theorem dX10_init_81 : decode cX10_init 81 = .ok (.aload_n 0, 1) := by decide +kernel
theorem dX10_init_82 : decode cX10_init 82 = .ok (.new 58, 3) := by decide +kernel
theorem dX10_init_85 : decode cX10_init 85 = .ok (.dup, 1) := by decide +kernel
theorem dX10_init_86 : decode cX10_init 86 = .ok (.invokespecial 60, 3) := by decide +kernel
theorem dX10_init_89 : decode cX10_init 89 = .ok (.putfield 61, 3) := by decide +kernel
theorem dX10_init_92 : decode cX10_init 92 = .ok (.aload_n 0, 1) := by decide +kernel
theorem dX10_init_93 : decode cX10_init 93 = .ok (.new 65, 3) := by decide +kernel
theorem dX10_init_96 : decode cX10_init 96 = .ok (.dup, 1) := by decide +kernel
theorem dX10_init_97 : decode cX10_init 97 = .ok (.invokespecial 67, 3) := by decide +kernel
theorem dX10_init_100 : decode cX10_init 100 = .ok (.putfield 68, 3) := by decide +kernel
theorem dX10_init_103 : decode cX10_init 103 = .ok (.aload_n 0, 1) := by decide +kernel
theorem dX10_init_104 : decode cX10_init 104 = .ok (.bipush 80, 2) := by decide +kernel
theorem dX10_init_106 : decode cX10_init 106 = .ok (.putfield 72, 3) := by decide +kernel
theorem dX10_init_109 : decode cX10_init 109 = .ok (.return_, 1) := by decide +kernel
theorem dX10_begin_0 : decode cX10_begin 0 = .ok (.iload_n 1, 1) := by decide +kernel
theorem dX10_begin_1 : decode cX10_begin 1 = .ok (.iconst 0, 1) := by decide +kernel
theorem dX10_begin_2 : decode cX10_begin 2 = .ok (.bipush 11, 2) := by decide +kernel
theorem dX10_begin_4 : decode cX10_begin 4 = .ok (.invokestatic 76, 3) := by decide +kernel
theorem dX10_begin_7 : decode cX10_begin 7 = .ok (.aload_n 0, 1) := by decide +kernel
theorem dX10_begin_8 : decode cX10_begin 8 = .ok (.getfield 12, 3) := by decide +kernel
theorem dX10_begin_11 : decode cX10_begin 11 = .ok (.getfield 80, 3) := by decide +kernel
theorem dX10_begin_14 : decode cX10_begin 14 = .ok (.istore_n 2, 1) := by decide +kernel
theorem dX10_begin_15 : decode cX10_begin 15 = .ok (.aload_n 0, 1) := by decide +kernel
theorem dX10_begin_16 : decode cX10_begin 16 = .ok (.getfield 12, 3) := by decide +kernel
theorem dX10_begin_19 : decode cX10_begin 19 = .ok (.iload_n 1, 1) := by decide +kernel
theorem dX10_begin_20 : decode cX10_begin 20 = .ok (.invokevirtual 83, 3) := by decide +kernel
theorem dX10_begin_23 : decode cX10_begin 23 = .ok (.aload_n 0, 1) := by decide +kernel
theorem dX10_begin_24 : decode cX10_begin 24 = .ok (.getfield 19, 3) := by decide +kernel
theorem dX10_begin_27 : decode cX10_begin 27 = .ok (.iconst 4, 1) := by decide +kernel
theorem dX10_begin_28 : decode cX10_begin 28 = .ok (.iconst 0, 1) := by decide +kernel
theorem dX10_begin_29 : decode cX10_begin 29 = .ok (.invokevirtual 87, 3) := by decide +kernel
theorem dX10_begin_32 : decode cX10_begin 32 = .ok (.aload_n 0, 1) := by decide +kernel
theorem dX10_begin_33 : decode cX10_begin 33 = .ok (.getfield 26, 3) := by decide +kernel
theorem dX10_begin_36 : decode cX10_begin 36 = .ok (.iconst 0, 1) := by decide +kernel
theorem dX10_begin_37 : decode cX10_begin 37 = .ok (.putfield 91, 3) := by decide +kernel
theorem dX10_begin_40 : decode cX10_begin 40 = .ok (.iconst 0, 1) := by decide +kernel
theorem dX10_begin_41 : decode cX10_begin 41 = .ok (.istore_n 3, 1) := by decide +kernel
theorem dX10_begin_42 : decode cX10_begin 42 = .ok (.iload_n 3, 1) := by decide +kernel
theorem dX10_begin_43 : decode cX10_begin 43 = .ok (.iconst 4, 1) := by decide +kernel
theorem dX10_begin_44 : decode cX10_begin 44 = .ok (.if_icmp .ge 18, 3) := by decide +kernel
theorem dX10_begin_47 : decode cX10_begin 47 = .ok (.aload_n 0, 1) := by decide +kernel
theorem dX10_begin_48 : decode cX10_begin 48 = .ok (.getfield 33, 3) := by decide +kernel
theorem dX10_begin_51 : decode cX10_begin 51 = .ok (.iload_n 3, 1) := by decide +kernel
theorem dX10_begin_52 : decode cX10_begin 52 = .ok (.invokevirtual 92, 3) := by decide +kernel
theorem dX10_begin_55 : decode cX10_begin 55 = .ok (.pop, 1) := by decide +kernel
theorem dX10_begin_56 : decode cX10_begin 56 = .ok (.iinc 3 1, 3) := by decide +kernel
theorem dX10_begin_59 : decode cX10_begin 59 = .ok (.goto (-17), 3) := by decide +kernel
theorem dX10_begin_62 : decode cX10_begin 62 = .ok (.aload_n 0, 1) := by decide +kernel
theorem dX10_begin_63 : decode cX10_begin 63 = .ok (.bipush 80, 2) := by decide +kernel
theorem dX10_begin_65 : decode cX10_begin 65 = .ok (.putfield 72, 3) := by decide +kernel
theorem dX10_begin_68 : decode cX10_begin 68 = .ok (.aload_n 0, 1) := by decide +kernel
theorem dX10_begin_69 : decode cX10_begin 69 = .ok (.invokevirtual 96, 3) := by decide +kernel
theorem dX10_begin_72 : decode cX10_begin 72 = .ok (.iload_n 2, 1) := by decide +kernel
theorem dX10_begin_73 : decode cX10_begin 73 = .ok (.ireturn, 1) := by decide +kernel
theorem dX10_addNote_0 : decode cX10_addNote 0 = .ok (.iload_n 1, 1) := by decide +kernel
theorem dX10_addNote_1 : decode cX10_addNote 1 = .ok (.iconst 1, 1) := by decide +kernel
theorem dX10_addNote_2 : decode cX10_addNote 2 = .ok (.bipush 8, 2) := by decide +kernel
theorem dX10_addNote_4 : decode cX10_addNote 4 = .ok (.invokestatic 76, 3) := by decide +kernel
theorem dX10_addNote_7 : decode cX10_addNote 7 = .ok (.iload_n 2, 1) := by decide +kernel
theorem dX10_addNote_8 : decode cX10_addNote 8 = .ok (.invokestatic 99, 3) := by decide +kernel
theorem dX10_addNote_11 : decode cX10_addNote 11 = .ok (.iload_n 3, 1) := by decide +kernel
theorem dX10_addNote_12 : decode cX10_addNote 12 = .ok (.invokestatic 99, 3) := by decide +kernel
theorem dX10_addNote_15 : decode cX10_addNote 15 = .ok (.iload 4, 2) := by decide +kernel
theorem dX10_addNote_17 : decode cX10_addNote 17 = .ok (.invokestatic 99, 3) := by decide +kernel
theorem dX10_addNote_20 : decode cX10_addNote 20 = .ok (.iload 5, 2) := by decide +kernel
theorem dX10_addNote_22 : decode cX10_addNote 22 = .ok (.invokestatic 99, 3) := by decide +kernel
theorem dX10_addNote_25 : decode cX10_addNote 25 = .ok (.aload_n 0, 1) := by decide +kernel
theorem dX10_addNote_26 : decode cX10_addNote 26 = .ok (.getfield 12, 3) := by decide +kernel
theorem dX10_addNote_29 : decode cX10_addNote 29 = .ok (.getfield 80, 3) := by decide +kernel
theorem dX10_addNote_32 : decode cX10_addNote 32 = .ok (.bipush 40, 2) := by decide +kernel
theorem dX10_addNote_34 : decode cX10_addNote 34 = .ok (.if_icmp .lt 13, 3) := by decide +kernel
theorem dX10_addNote_37 : decode cX10_addNote 37 = .ok (.new 102, 3) := by decide +kernel
theorem dX10_addNote_40 : decode cX10_addNote 40 = .ok (.dup, 1) := by decide +kernel
theorem dX10_addNote_41 : decode cX10_addNote 41 = .ok (.ldc 104, 2) := by decide +kernel
theorem dX10_addNote_43 : decode cX10_addNote 43 = .ok (.invokespecial 106, 3) := by decide +kernel
theorem dX10_addNote_46 : decode cX10_addNote 46 = .ok (.athrow, 1) := by decide +kernel
theorem dX10_addNote_47 : decode cX10_addNote 47 = .ok (.aload_n 0, 1) := by decide +kernel
theorem dX10_addNote_48 : decode cX10_addNote 48 = .ok (.getfield 12, 3) := by decide +kernel
theorem dX10_addNote_51 : decode cX10_addNote 51 = .ok (.iload_n 1, 1) := by decide +kernel
theorem dX10_addNote_52 : decode cX10_addNote 52 = .ok (.iload_n 2, 1) := by decide +kernel
theorem dX10_addNote_53 : decode cX10_addNote 53 = .ok (.iload_n 3, 1) := by decide +kernel
theorem dX10_addNote_54 : decode cX10_addNote 54 = .ok (.iload 4, 2) := by decide +kernel
theorem dX10_addNote_56 : decode cX10_addNote 56 = .ok (.iload 5, 2) := by decide +kernel
theorem dX10_addNote_58 : decode cX10_addNote 58 = .ok (.invokevirtual 109, 3) := by decide +kernel
theorem dX10_addNote_61 : decode cX10_addNote 61 = .ok (.aload_n 0, 1) := by decide +kernel
theorem dX10_addNote_62 : decode cX10_addNote 62 = .ok (.invokevirtual 96, 3) := by decide +kernel
theorem dX10_addNote_65 : decode cX10_addNote 65 = .ok (.aload_n 0, 1) := by decide +kernel
theorem dX10_addNote_66 : decode cX10_addNote 66 = .ok (.getfield 12, 3) := by decide +kernel
theorem dX10_addNote_69 : decode cX10_addNote 69 = .ok (.getfield 80, 3) := by decide +kernel
theorem dX10_addNote_72 : decode cX10_addNote 72 = .ok (.iconst 1, 1) := by decide +kernel
theorem dX10_addNote_73 : decode cX10_addNote 73 = .ok (.isub, 1) := by decide +kernel
theorem dX10_addNote_74 : decode cX10_addNote 74 = .ok (.ireturn, 1) := by decide +kernel
theorem dX10_dropNote_0 : decode cX10_dropNote 0 = .ok (.aload_n 0, 1) := by decide +kernel
theorem dX10_dropNote_1 : decode cX10_dropNote 1 = .ok (.getfield 12, 3) := by decide +kernel
theorem dX10_dropNote_4 : decode cX10_dropNote 4 = .ok (.getfield 80, 3) := by decide +kernel
theorem dX10_dropNote_7 : decode cX10_dropNote 7 = .ok (.ifCond .gt 13, 3) := by decide +kernel
theorem dX10_dropNote_10 : decode cX10_dropNote 10 = .ok (.new 102, 3) := by decide +kernel
theorem dX10_dropNote_13 : decode cX10_dropNote 13 = .ok (.dup, 1) := by decide +kernel
theorem dX10_dropNote_14 : decode cX10_dropNote 14 = .ok (.ldc 113, 2) := by decide +kernel
theorem dX10_dropNote_16 : decode cX10_dropNote 16 = .ok (.invokespecial 106, 3) := by decide +kernel
theorem dX10_dropNote_19 : decode cX10_dropNote 19 = .ok (.athrow, 1) := by decide +kernel
theorem dX10_dropNote_20 : decode cX10_dropNote 20 = .ok (.aload_n 0, 1) := by decide +kernel
theorem dX10_dropNote_21 : decode cX10_dropNote 21 = .ok (.getfield 12, 3) := by decide +kernel
theorem dX10_dropNote_24 : decode cX10_dropNote 24 = .ok (.invokevirtual 115, 3) := by decide +kernel
theorem dX10_dropNote_27 : decode cX10_dropNote 27 = .ok (.aload_n 0, 1) := by decide +kernel
theorem dX10_dropNote_28 : decode cX10_dropNote 28 = .ok (.invokevirtual 96, 3) := by decide +kernel
theorem dX10_dropNote_31 : decode cX10_dropNote 31 = .ok (.aload_n 0, 1) := by decide +kernel
theorem dX10_dropNote_32 : decode cX10_dropNote 32 = .ok (.getfield 12, 3) := by decide +kernel
theorem dX10_dropNote_35 : decode cX10_dropNote 35 = .ok (.getfield 80, 3) := by decide +kernel
theorem dX10_dropNote_38 : decode cX10_dropNote 38 = .ok (.ireturn, 1) := by decide +kernel
theorem dX10_setPitch_0 : decode cX10_setPitch 0 = .ok (.iload_n 1, 1) := by decide +kernel
theorem dX10_setPitch_1 : decode cX10_setPitch 1 = .ok (.aload_n 0, 1) := by decide +kernel
theorem dX10_setPitch_2 : decode cX10_setPitch 2 = .ok (.getfield 12, 3) := by decide +kernel
theorem dX10_setPitch_5 : decode cX10_setPitch 5 = .ok (.getfield 80, 3) := by decide +kernel
theorem dX10_setPitch_8 : decode cX10_setPitch 8 = .ok (.invokestatic 118, 3) := by decide +kernel
theorem dX10_setPitch_11 : decode cX10_setPitch 11 = .ok (.iload_n 2, 1) := by decide +kernel
theorem dX10_setPitch_12 : decode cX10_setPitch 12 = .ok (.iconst 4, 1) := by decide +kernel
theorem dX10_setPitch_13 : decode cX10_setPitch 13 = .ok (.invokestatic 118, 3) := by decide +kernel
theorem dX10_setPitch_16 : decode cX10_setPitch 16 = .ok (.iload_n 3, 1) := by decide +kernel
theorem dX10_setPitch_17 : decode cX10_setPitch 17 = .ok (.invokestatic 99, 3) := by decide +kernel
theorem dX10_setPitch_20 : decode cX10_setPitch 20 = .ok (.aload_n 0, 1) := by decide +kernel
theorem dX10_setPitch_21 : decode cX10_setPitch 21 = .ok (.getfield 12, 3) := by decide +kernel
theorem dX10_setPitch_24 : decode cX10_setPitch 24 = .ok (.iload_n 1, 1) := by decide +kernel
theorem dX10_setPitch_25 : decode cX10_setPitch 25 = .ok (.iload_n 2, 1) := by decide +kernel
theorem dX10_setPitch_26 : decode cX10_setPitch 26 = .ok (.invokevirtual 121, 3) := by decide +kernel
theorem dX10_setPitch_29 : decode cX10_setPitch 29 = .ok (.istore 4, 2) := by decide +kernel
theorem dX10_setPitch_31 : decode cX10_setPitch 31 = .ok (.aload_n 0, 1) := by decide +kernel
theorem dX10_setPitch_32 : decode cX10_setPitch 32 = .ok (.getfield 12, 3) := by decide +kernel
theorem dX10_setPitch_35 : decode cX10_setPitch 35 = .ok (.iload_n 1, 1) := by decide +kernel
theorem dX10_setPitch_36 : decode cX10_setPitch 36 = .ok (.iload_n 2, 1) := by decide +kernel
theorem dX10_setPitch_37 : decode cX10_setPitch 37 = .ok (.iload_n 3, 1) := by decide +kernel
theorem dX10_setPitch_38 : decode cX10_setPitch 38 = .ok (.invokevirtual 125, 3) := by decide +kernel
theorem dX10_setPitch_41 : decode cX10_setPitch 41 = .ok (.iload 4, 2) := by decide +kernel
theorem dX10_setPitch_43 : decode cX10_setPitch 43 = .ok (.ireturn, 1) := by decide +kernel
theorem dX10_mark_0 : decode cX10_mark 0 = .ok (.iload_n 1, 1) := by decide +kernel
theorem dX10_mark_1 : decode cX10_mark 1 = .ok (.aload_n 0, 1) := by decide +kernel
theorem dX10_mark_2 : decode cX10_mark 2 = .ok (.getfield 12, 3) := by decide +kernel
theorem dX10_mark_5 : decode cX10_mark 5 = .ok (.getfield 80, 3) := by decide +kernel
theorem dX10_mark_8 : decode cX10_mark 8 = .ok (.invokestatic 118, 3) := by decide +kernel
theorem dX10_mark_11 : decode cX10_mark 11 = .ok (.iload_n 2, 1) := by decide +kernel
theorem dX10_mark_12 : decode cX10_mark 12 = .ok (.ifCond .eq 25, 3) := by decide +kernel
theorem dX10_mark_15 : decode cX10_mark 15 = .ok (.aload_n 0, 1) := by decide +kernel
theorem dX10_mark_16 : decode cX10_mark 16 = .ok (.getfield 12, 3) := by decide +kernel
theorem dX10_mark_19 : decode cX10_mark 19 = .ok (.aload_n 0, 1) := by decide +kernel
theorem dX10_mark_20 : decode cX10_mark 20 = .ok (.getfield 12, 3) := by decide +kernel
theorem dX10_mark_23 : decode cX10_mark 23 = .ok (.getfield 128, 3) := by decide +kernel
theorem dX10_mark_26 : decode cX10_mark 26 = .ok (.iload_n 1, 1) := by decide +kernel
theorem dX10_mark_27 : decode cX10_mark 27 = .ok (.iload_n 3, 1) := by decide +kernel
theorem dX10_mark_28 : decode cX10_mark 28 = .ok (.invokestatic 132, 3) := by decide +kernel
theorem dX10_mark_31 : decode cX10_mark 31 = .ok (.putfield 128, 3) := by decide +kernel
theorem dX10_mark_34 : decode cX10_mark 34 = .ok (.goto 22, 3) := by decide +kernel
theorem dX10_mark_37 : decode cX10_mark 37 = .ok (.aload_n 0, 1) := by decide +kernel
theorem dX10_mark_38 : decode cX10_mark 38 = .ok (.getfield 12, 3) := by decide +kernel
theorem dX10_mark_41 : decode cX10_mark 41 = .ok (.aload_n 0, 1) := by decide +kernel
theorem dX10_mark_42 : decode cX10_mark 42 = .ok (.getfield 12, 3) := by decide +kernel
theorem dX10_mark_45 : decode cX10_mark 45 = .ok (.getfield 136, 3) := by decide +kernel
theorem dX10_mark_48 : decode cX10_mark 48 = .ok (.iload_n 1, 1) := by decide +kernel
theorem dX10_mark_49 : decode cX10_mark 49 = .ok (.iload_n 3, 1) := by decide +kernel
theorem dX10_mark_50 : decode cX10_mark 50 = .ok (.invokestatic 132, 3) := by decide +kernel
theorem dX10_mark_53 : decode cX10_mark 53 = .ok (.putfield 136, 3) := by decide +kernel
theorem dX10_mark_56 : decode cX10_mark 56 = .ok (.aload_n 0, 1) := by decide +kernel
theorem dX10_mark_57 : decode cX10_mark 57 = .ok (.invokevirtual 96, 3) := by decide +kernel
theorem dX10_mark_60 : decode cX10_mark 60 = .ok (.aload_n 0, 1) := by decide +kernel
theorem dX10_mark_61 : decode cX10_mark 61 = .ok (.getfield 40, 3) := by decide +kernel
theorem dX10_mark_64 : decode cX10_mark 64 = .ok (.getfield 139, 3) := by decide +kernel
theorem dX10_mark_67 : decode cX10_mark 67 = .ok (.ireturn, 1) := by decide +kernel
theorem dX10_setBars_0 : decode cX10_setBars 0 = .ok (.iload_n 1, 1) := by decide +kernel
theorem dX10_setBars_1 : decode cX10_setBars 1 = .ok (.iconst 2, 1) := by decide +kernel
theorem dX10_setBars_2 : decode cX10_setBars 2 = .ok (.bipush 24, 2) := by decide +kernel
theorem dX10_setBars_4 : decode cX10_setBars 4 = .ok (.invokestatic 76, 3) := by decide +kernel
theorem dX10_setBars_7 : decode cX10_setBars 7 = .ok (.iload_n 2, 1) := by decide +kernel
theorem dX10_setBars_8 : decode cX10_setBars 8 = .ok (.iconst 0, 1) := by decide +kernel
theorem dX10_setBars_9 : decode cX10_setBars 9 = .ok (.iload_n 1, 1) := by decide +kernel
theorem dX10_setBars_10 : decode cX10_setBars 10 = .ok (.iconst 1, 1) := by decide +kernel
theorem dX10_setBars_11 : decode cX10_setBars 11 = .ok (.isub, 1) := by decide +kernel
theorem dX10_setBars_12 : decode cX10_setBars 12 = .ok (.invokestatic 76, 3) := by decide +kernel
theorem dX10_setBars_15 : decode cX10_setBars 15 = .ok (.aload_n 0, 1) := by decide +kernel
theorem dX10_setBars_16 : decode cX10_setBars 16 = .ok (.getfield 19, 3) := by decide +kernel
theorem dX10_setBars_19 : decode cX10_setBars 19 = .ok (.getfield 140, 3) := by decide +kernel
theorem dX10_setBars_22 : decode cX10_setBars 22 = .ok (.istore_n 3, 1) := by decide +kernel
theorem dX10_setBars_23 : decode cX10_setBars 23 = .ok (.aload_n 0, 1) := by decide +kernel
theorem dX10_setBars_24 : decode cX10_setBars 24 = .ok (.getfield 19, 3) := by decide +kernel
theorem dX10_setBars_27 : decode cX10_setBars 27 = .ok (.iload_n 1, 1) := by decide +kernel
theorem dX10_setBars_28 : decode cX10_setBars 28 = .ok (.iload_n 2, 1) := by decide +kernel
theorem dX10_setBars_29 : decode cX10_setBars 29 = .ok (.invokevirtual 87, 3) := by decide +kernel
theorem dX10_setBars_32 : decode cX10_setBars 32 = .ok (.iload_n 3, 1) := by decide +kernel
theorem dX10_setBars_33 : decode cX10_setBars 33 = .ok (.ireturn, 1) := by decide +kernel
theorem dX10_repeat_0 : decode cX10_repeat 0 = .ok (.iload_n 1, 1) := by decide +kernel
theorem dX10_repeat_1 : decode cX10_repeat 1 = .ok (.aload_n 0, 1) := by decide +kernel
theorem dX10_repeat_2 : decode cX10_repeat 2 = .ok (.getfield 40, 3) := by decide +kernel
theorem dX10_repeat_5 : decode cX10_repeat 5 = .ok (.getfield 139, 3) := by decide +kernel
theorem dX10_repeat_8 : decode cX10_repeat 8 = .ok (.invokestatic 118, 3) := by decide +kernel
theorem dX10_repeat_11 : decode cX10_repeat 11 = .ok (.iload_n 2, 1) := by decide +kernel
theorem dX10_repeat_12 : decode cX10_repeat 12 = .ok (.aload_n 0, 1) := by decide +kernel
theorem dX10_repeat_13 : decode cX10_repeat 13 = .ok (.getfield 40, 3) := by decide +kernel
theorem dX10_repeat_16 : decode cX10_repeat 16 = .ok (.getfield 139, 3) := by decide +kernel
theorem dX10_repeat_19 : decode cX10_repeat 19 = .ok (.invokestatic 118, 3) := by decide +kernel
theorem dX10_repeat_22 : decode cX10_repeat 22 = .ok (.iload_n 3, 1) := by decide +kernel
theorem dX10_repeat_23 : decode cX10_repeat 23 = .ok (.iconst 0, 1) := by decide +kernel
theorem dX10_repeat_24 : decode cX10_repeat 24 = .ok (.iload_n 2, 1) := by decide +kernel
theorem dX10_repeat_25 : decode cX10_repeat 25 = .ok (.iload_n 1, 1) := by decide +kernel
theorem dX10_repeat_26 : decode cX10_repeat 26 = .ok (.isub, 1) := by decide +kernel
theorem dX10_repeat_27 : decode cX10_repeat 27 = .ok (.invokestatic 76, 3) := by decide +kernel
theorem dX10_repeat_30 : decode cX10_repeat 30 = .ok (.aload_n 0, 1) := by decide +kernel
theorem dX10_repeat_31 : decode cX10_repeat 31 = .ok (.getfield 26, 3) := by decide +kernel
theorem dX10_repeat_34 : decode cX10_repeat 34 = .ok (.getfield 91, 3) := by decide +kernel
theorem dX10_repeat_37 : decode cX10_repeat 37 = .ok (.iconst 3, 1) := by decide +kernel
theorem dX10_repeat_38 : decode cX10_repeat 38 = .ok (.if_icmp .lt 13, 3) := by decide +kernel
theorem dX10_repeat_41 : decode cX10_repeat 41 = .ok (.new 102, 3) := by decide +kernel
theorem dX10_repeat_44 : decode cX10_repeat 44 = .ok (.dup, 1) := by decide +kernel
theorem dX10_repeat_45 : decode cX10_repeat 45 = .ok (.ldc 143, 2) := by decide +kernel
theorem dX10_repeat_47 : decode cX10_repeat 47 = .ok (.invokespecial 106, 3) := by decide +kernel
theorem dX10_repeat_50 : decode cX10_repeat 50 = .ok (.athrow, 1) := by decide +kernel
theorem dX10_repeat_51 : decode cX10_repeat 51 = .ok (.aload_n 0, 1) := by decide +kernel
theorem dX10_repeat_52 : decode cX10_repeat 52 = .ok (.getfield 26, 3) := by decide +kernel
theorem dX10_repeat_55 : decode cX10_repeat 55 = .ok (.iload_n 1, 1) := by decide +kernel
theorem dX10_repeat_56 : decode cX10_repeat 56 = .ok (.iload_n 2, 1) := by decide +kernel
theorem dX10_repeat_57 : decode cX10_repeat 57 = .ok (.invokevirtual 145, 3) := by decide +kernel
theorem dX10_repeat_60 : decode cX10_repeat 60 = .ok (.ifCond .eq 13, 3) := by decide +kernel
theorem dX10_repeat_63 : decode cX10_repeat 63 = .ok (.new 102, 3) := by decide +kernel
theorem dX10_repeat_66 : decode cX10_repeat 66 = .ok (.dup, 1) := by decide +kernel
theorem dX10_repeat_67 : decode cX10_repeat 67 = .ok (.ldc 149, 2) := by decide +kernel
theorem dX10_repeat_69 : decode cX10_repeat 69 = .ok (.invokespecial 106, 3) := by decide +kernel
theorem dX10_repeat_72 : decode cX10_repeat 72 = .ok (.athrow, 1) := by decide +kernel
theorem dX10_repeat_73 : decode cX10_repeat 73 = .ok (.aload_n 0, 1) := by decide +kernel
theorem dX10_repeat_74 : decode cX10_repeat 74 = .ok (.getfield 26, 3) := by decide +kernel
theorem dX10_repeat_77 : decode cX10_repeat 77 = .ok (.iload_n 1, 1) := by decide +kernel
theorem dX10_repeat_78 : decode cX10_repeat 78 = .ok (.iload_n 2, 1) := by decide +kernel
theorem dX10_repeat_79 : decode cX10_repeat 79 = .ok (.iload_n 3, 1) := by decide +kernel
theorem dX10_repeat_80 : decode cX10_repeat 80 = .ok (.invokevirtual 151, 3) := by decide +kernel
theorem dX10_repeat_83 : decode cX10_repeat 83 = .ok (.aload_n 0, 1) := by decide +kernel
theorem dX10_repeat_84 : decode cX10_repeat 84 = .ok (.invokevirtual 96, 3) := by decide +kernel
theorem dX10_repeat_87 : decode cX10_repeat 87 = .ok (.aload_n 0, 1) := by decide +kernel
theorem dX10_repeat_88 : decode cX10_repeat 88 = .ok (.getfield 47, 3) := by decide +kernel
theorem dX10_repeat_91 : decode cX10_repeat 91 = .ok (.getfield 153, 3) := by decide +kernel
theorem dX10_repeat_94 : decode cX10_repeat 94 = .ok (.ireturn, 1) := by decide +kernel
theorem dX10_clearRepeats_0 : decode cX10_clearRepeats 0 = .ok (.aload_n 0, 1) := by decide +kernel
theorem dX10_clearRepeats_1 : decode cX10_clearRepeats 1 = .ok (.getfield 26, 3) := by decide +kernel
theorem dX10_clearRepeats_4 : decode cX10_clearRepeats 4 = .ok (.getfield 91, 3) := by decide +kernel
theorem dX10_clearRepeats_7 : decode cX10_clearRepeats 7 = .ok (.istore_n 1, 1) := by decide +kernel
theorem dX10_clearRepeats_8 : decode cX10_clearRepeats 8 = .ok (.aload_n 0, 1) := by decide +kernel
theorem dX10_clearRepeats_9 : decode cX10_clearRepeats 9 = .ok (.getfield 26, 3) := by decide +kernel
theorem dX10_clearRepeats_12 : decode cX10_clearRepeats 12 = .ok (.iconst 0, 1) := by decide +kernel
theorem dX10_clearRepeats_13 : decode cX10_clearRepeats 13 = .ok (.putfield 91, 3) := by decide +kernel
theorem dX10_clearRepeats_16 : decode cX10_clearRepeats 16 = .ok (.aload_n 0, 1) := by decide +kernel
theorem dX10_clearRepeats_17 : decode cX10_clearRepeats 17 = .ok (.invokevirtual 96, 3) := by decide +kernel
theorem dX10_clearRepeats_20 : decode cX10_clearRepeats 20 = .ok (.iload_n 1, 1) := by decide +kernel
theorem dX10_clearRepeats_21 : decode cX10_clearRepeats 21 = .ok (.ireturn, 1) := by decide +kernel
theorem dX10_transpose_0 : decode cX10_transpose 0 = .ok (.iload_n 1, 1) := by decide +kernel
theorem dX10_transpose_1 : decode cX10_transpose 1 = .ok (.bipush (-24), 2) := by decide +kernel
theorem dX10_transpose_3 : decode cX10_transpose 3 = .ok (.bipush 24, 2) := by decide +kernel
theorem dX10_transpose_5 : decode cX10_transpose 5 = .ok (.invokestatic 76, 3) := by decide +kernel
theorem dX10_transpose_8 : decode cX10_transpose 8 = .ok (.aload_n 0, 1) := by decide +kernel
theorem dX10_transpose_9 : decode cX10_transpose 9 = .ok (.getfield 12, 3) := by decide +kernel
theorem dX10_transpose_12 : decode cX10_transpose 12 = .ok (.iload_n 1, 1) := by decide +kernel
theorem dX10_transpose_13 : decode cX10_transpose 13 = .ok (.invokevirtual 154, 3) := by decide +kernel
theorem dX10_transpose_16 : decode cX10_transpose 16 = .ok (.ifCond .ne 13, 3) := by decide +kernel
theorem dX10_transpose_19 : decode cX10_transpose 19 = .ok (.new 102, 3) := by decide +kernel
theorem dX10_transpose_22 : decode cX10_transpose 22 = .ok (.dup, 1) := by decide +kernel
theorem dX10_transpose_23 : decode cX10_transpose 23 = .ok (.ldc 158, 2) := by decide +kernel
theorem dX10_transpose_25 : decode cX10_transpose 25 = .ok (.invokespecial 106, 3) := by decide +kernel
theorem dX10_transpose_28 : decode cX10_transpose 28 = .ok (.athrow, 1) := by decide +kernel
theorem dX10_transpose_29 : decode cX10_transpose 29 = .ok (.aload_n 0, 1) := by decide +kernel
theorem dX10_transpose_30 : decode cX10_transpose 30 = .ok (.getfield 12, 3) := by decide +kernel
theorem dX10_transpose_33 : decode cX10_transpose 33 = .ok (.iload_n 1, 1) := by decide +kernel
theorem dX10_transpose_34 : decode cX10_transpose 34 = .ok (.invokevirtual 160, 3) := by decide +kernel
theorem dX10_transpose_37 : decode cX10_transpose 37 = .ok (.aload_n 0, 1) := by decide +kernel
theorem dX10_transpose_38 : decode cX10_transpose 38 = .ok (.getfield 12, 3) := by decide +kernel
theorem dX10_transpose_41 : decode cX10_transpose 41 = .ok (.getfield 163, 3) := by decide +kernel
theorem dX10_transpose_44 : decode cX10_transpose 44 = .ok (.ireturn, 1) := by decide +kernel
theorem dX10_setWidth_0 : decode cX10_setWidth 0 = .ok (.iload_n 1, 1) := by decide +kernel
theorem dX10_setWidth_1 : decode cX10_setWidth 1 = .ok (.bipush 20, 2) := by decide +kernel
theorem dX10_setWidth_3 : decode cX10_setWidth 3 = .ok (.sipush 200, 3) := by decide +kernel
theorem dX10_setWidth_6 : decode cX10_setWidth 6 = .ok (.invokestatic 76, 3) := by decide +kernel
theorem dX10_setWidth_9 : decode cX10_setWidth 9 = .ok (.aload_n 0, 1) := by decide +kernel
theorem dX10_setWidth_10 : decode cX10_setWidth 10 = .ok (.iload_n 1, 1) := by decide +kernel
theorem dX10_setWidth_11 : decode cX10_setWidth 11 = .ok (.putfield 72, 3) := by decide +kernel
theorem dX10_setWidth_14 : decode cX10_setWidth 14 = .ok (.aload_n 0, 1) := by decide +kernel
theorem dX10_setWidth_15 : decode cX10_setWidth 15 = .ok (.invokevirtual 96, 3) := by decide +kernel
theorem dX10_setWidth_18 : decode cX10_setWidth 18 = .ok (.aload_n 0, 1) := by decide +kernel
theorem dX10_setWidth_19 : decode cX10_setWidth 19 = .ok (.getfield 54, 3) := by decide +kernel
theorem dX10_setWidth_22 : decode cX10_setWidth 22 = .ok (.getfield 166, 3) := by decide +kernel
theorem dX10_setWidth_25 : decode cX10_setWidth 25 = .ok (.ireturn, 1) := by decide +kernel
theorem dX10_append_0 : decode cX10_append 0 = .ok (.iload_n 1, 1) := by decide +kernel
theorem dX10_append_1 : decode cX10_append 1 = .ok (.bipush 32, 2) := by decide +kernel
theorem dX10_append_3 : decode cX10_append 3 = .ok (.bipush 126, 2) := by decide +kernel
theorem dX10_append_5 : decode cX10_append 5 = .ok (.invokestatic 76, 3) := by decide +kernel
theorem dX10_append_8 : decode cX10_append 8 = .ok (.aload_n 0, 1) := by decide +kernel
theorem dX10_append_9 : decode cX10_append 9 = .ok (.getfield 68, 3) := by decide +kernel
theorem dX10_append_12 : decode cX10_append 12 = .ok (.getfield 169, 3) := by decide +kernel
theorem dX10_append_15 : decode cX10_append 15 = .ok (.bipush 60, 2) := by decide +kernel
theorem dX10_append_17 : decode cX10_append 17 = .ok (.if_icmp .lt 13, 3) := by decide +kernel
theorem dX10_append_20 : decode cX10_append 20 = .ok (.new 102, 3) := by decide +kernel
theorem dX10_append_23 : decode cX10_append 23 = .ok (.dup, 1) := by decide +kernel
theorem dX10_append_24 : decode cX10_append 24 = .ok (.ldc 170, 2) := by decide +kernel
theorem dX10_append_26 : decode cX10_append 26 = .ok (.invokespecial 106, 3) := by decide +kernel
theorem dX10_append_29 : decode cX10_append 29 = .ok (.athrow, 1) := by decide +kernel
theorem dX10_append_30 : decode cX10_append 30 = .ok (.aload_n 0, 1) := by decide +kernel
theorem dX10_append_31 : decode cX10_append 31 = .ok (.getfield 68, 3) := by decide +kernel
theorem dX10_append_34 : decode cX10_append 34 = .ok (.iload_n 1, 1) := by decide +kernel
theorem dX10_append_35 : decode cX10_append 35 = .ok (.invokevirtual 172, 3) := by decide +kernel
theorem dX10_append_38 : decode cX10_append 38 = .ok (.aload_n 0, 1) := by decide +kernel
theorem dX10_append_39 : decode cX10_append 39 = .ok (.getfield 68, 3) := by decide +kernel
theorem dX10_append_42 : decode cX10_append 42 = .ok (.getfield 169, 3) := by decide +kernel
theorem dX10_append_45 : decode cX10_append 45 = .ok (.ireturn, 1) := by decide +kernel
theorem dX10_clearInput_0 : decode cX10_clearInput 0 = .ok (.aload_n 0, 1) := by decide +kernel
theorem dX10_clearInput_1 : decode cX10_clearInput 1 = .ok (.getfield 68, 3) := by decide +kernel
theorem dX10_clearInput_4 : decode cX10_clearInput 4 = .ok (.getfield 169, 3) := by decide +kernel
theorem dX10_clearInput_7 : decode cX10_clearInput 7 = .ok (.istore_n 1, 1) := by decide +kernel
theorem dX10_clearInput_8 : decode cX10_clearInput 8 = .ok (.aload_n 0, 1) := by decide +kernel
theorem dX10_clearInput_9 : decode cX10_clearInput 9 = .ok (.getfield 68, 3) := by decide +kernel
theorem dX10_clearInput_12 : decode cX10_clearInput 12 = .ok (.iconst 0, 1) := by decide +kernel
theorem dX10_clearInput_13 : decode cX10_clearInput 13 = .ok (.putfield 169, 3) := by decide +kernel
theorem dX10_clearInput_16 : decode cX10_clearInput 16 = .ok (.iload_n 1, 1) := by decide +kernel
theorem dX10_clearInput_17 : decode cX10_clearInput 17 = .ok (.ireturn, 1) := by decide +kernel
theorem dX10_firstError_0 : decode cX10_firstError 0 = .ok (.iload_n 1, 1) := by decide +kernel
theorem dX10_firstError_1 : decode cX10_firstError 1 = .ok (.ifCond .eq 13, 3) := by decide +kernel
theorem dX10_firstError_4 : decode cX10_firstError 4 = .ok (.aload_n 0, 1) := by decide +kernel
theorem dX10_firstError_5 : decode cX10_firstError 5 = .ok (.getfield 68, 3) := by decide +kernel
theorem dX10_firstError_8 : decode cX10_firstError 8 = .ok (.invokevirtual 174, 3) := by decide +kernel
theorem dX10_firstError_11 : decode cX10_firstError 11 = .ok (.goto 10, 3) := by decide +kernel
theorem dX10_firstError_14 : decode cX10_firstError 14 = .ok (.aload_n 0, 1) := by decide +kernel
theorem dX10_firstError_15 : decode cX10_firstError 15 = .ok (.getfield 68, 3) := by decide +kernel
theorem dX10_firstError_18 : decode cX10_firstError 18 = .ok (.invokevirtual 178, 3) := by decide +kernel
theorem dX10_firstError_21 : decode cX10_firstError 21 = .ok (.ireturn, 1) := by decide +kernel
theorem dX10_setLine_0 : decode cX10_setLine 0 = .ok (.iload_n 1, 1) := by decide +kernel
theorem dX10_setLine_1 : decode cX10_setLine 1 = .ok (.iconst 4, 1) := by decide +kernel
theorem dX10_setLine_2 : decode cX10_setLine 2 = .ok (.invokestatic 118, 3) := by decide +kernel
theorem dX10_setLine_5 : decode cX10_setLine 5 = .ok (.iload_n 2, 1) := by decide +kernel
theorem dX10_setLine_6 : decode cX10_setLine 6 = .ok (.bipush 24, 2) := by decide +kernel
theorem dX10_setLine_8 : decode cX10_setLine 8 = .ok (.invokestatic 118, 3) := by decide +kernel
theorem dX10_setLine_11 : decode cX10_setLine 11 = .ok (.aload_n 0, 1) := by decide +kernel
theorem dX10_setLine_12 : decode cX10_setLine 12 = .ok (.getfield 68, 3) := by decide +kernel
theorem dX10_setLine_15 : decode cX10_setLine 15 = .ok (.invokevirtual 181, 3) := by decide +kernel
theorem dX10_setLine_18 : decode cX10_setLine 18 = .ok (.ifCond .ne 13, 3) := by decide +kernel
theorem dX10_setLine_21 : decode cX10_setLine 21 = .ok (.new 185, 3) := by decide +kernel
theorem dX10_setLine_24 : decode cX10_setLine 24 = .ok (.dup, 1) := by decide +kernel
theorem dX10_setLine_25 : decode cX10_setLine 25 = .ok (.ldc 187, 2) := by decide +kernel
theorem dX10_setLine_27 : decode cX10_setLine 27 = .ok (.invokespecial 189, 3) := by decide +kernel
theorem dX10_setLine_30 : decode cX10_setLine 30 = .ok (.athrow, 1) := by decide +kernel
theorem dX10_setLine_31 : decode cX10_setLine 31 = .ok (.aload_n 0, 1) := by decide +kernel
theorem dX10_setLine_32 : decode cX10_setLine 32 = .ok (.getfield 33, 3) := by decide +kernel
theorem dX10_setLine_35 : decode cX10_setLine 35 = .ok (.iload_n 1, 1) := by decide +kernel
theorem dX10_setLine_36 : decode cX10_setLine 36 = .ok (.iload_n 2, 1) := by decide +kernel
theorem dX10_setLine_37 : decode cX10_setLine 37 = .ok (.aload_n 0, 1) := by decide +kernel
theorem dX10_setLine_38 : decode cX10_setLine 38 = .ok (.getfield 68, 3) := by decide +kernel
theorem dX10_setLine_41 : decode cX10_setLine 41 = .ok (.invokevirtual 190, 3) := by decide +kernel
theorem dX10_setLine_44 : decode cX10_setLine 44 = .ok (.aload_n 0, 1) := by decide +kernel
theorem dX10_setLine_45 : decode cX10_setLine 45 = .ok (.getfield 68, 3) := by decide +kernel
theorem dX10_setLine_48 : decode cX10_setLine 48 = .ok (.iconst 0, 1) := by decide +kernel
theorem dX10_setLine_49 : decode cX10_setLine 49 = .ok (.putfield 169, 3) := by decide +kernel
theorem dX10_setLine_52 : decode cX10_setLine 52 = .ok (.aload_n 0, 1) := by decide +kernel
theorem dX10_setLine_53 : decode cX10_setLine 53 = .ok (.invokevirtual 96, 3) := by decide +kernel
theorem dX10_setLine_56 : decode cX10_setLine 56 = .ok (.aload_n 0, 1) := by decide +kernel
theorem dX10_setLine_57 : decode cX10_setLine 57 = .ok (.getfield 33, 3) := by decide +kernel
theorem dX10_setLine_60 : decode cX10_setLine 60 = .ok (.iload_n 1, 1) := by decide +kernel
theorem dX10_setLine_61 : decode cX10_setLine 61 = .ok (.iload_n 2, 1) := by decide +kernel
theorem dX10_setLine_62 : decode cX10_setLine 62 = .ok (.invokevirtual 194, 3) := by decide +kernel
theorem dX10_setLine_65 : decode cX10_setLine 65 = .ok (.ireturn, 1) := by decide +kernel
theorem dX10_clearVerse_0 : decode cX10_clearVerse 0 = .ok (.iload_n 1, 1) := by decide +kernel
theorem dX10_clearVerse_1 : decode cX10_clearVerse 1 = .ok (.iconst 4, 1) := by decide +kernel
theorem dX10_clearVerse_2 : decode cX10_clearVerse 2 = .ok (.invokestatic 118, 3) := by decide +kernel
theorem dX10_clearVerse_5 : decode cX10_clearVerse 5 = .ok (.aload_n 0, 1) := by decide +kernel
theorem dX10_clearVerse_6 : decode cX10_clearVerse 6 = .ok (.getfield 33, 3) := by decide +kernel
theorem dX10_clearVerse_9 : decode cX10_clearVerse 9 = .ok (.iload_n 1, 1) := by decide +kernel
theorem dX10_clearVerse_10 : decode cX10_clearVerse 10 = .ok (.invokevirtual 92, 3) := by decide +kernel
theorem dX10_clearVerse_13 : decode cX10_clearVerse 13 = .ok (.istore_n 2, 1) := by decide +kernel
theorem dX10_clearVerse_14 : decode cX10_clearVerse 14 = .ok (.aload_n 0, 1) := by decide +kernel
theorem dX10_clearVerse_15 : decode cX10_clearVerse 15 = .ok (.invokevirtual 96, 3) := by decide +kernel
theorem dX10_clearVerse_18 : decode cX10_clearVerse 18 = .ok (.iload_n 2, 1) := by decide +kernel
theorem dX10_clearVerse_19 : decode cX10_clearVerse 19 = .ok (.ireturn, 1) := by decide +kernel
theorem dX10_addMetre_0 : decode cX10_addMetre 0 = .ok (.aload_n 0, 1) := by decide +kernel
theorem dX10_addMetre_1 : decode cX10_addMetre 1 = .ok (.getfield 68, 3) := by decide +kernel
theorem dX10_addMetre_4 : decode cX10_addMetre 4 = .ok (.invokevirtual 197, 3) := by decide +kernel
theorem dX10_addMetre_7 : decode cX10_addMetre 7 = .ok (.ifCond .ne 13, 3) := by decide +kernel
theorem dX10_addMetre_10 : decode cX10_addMetre 10 = .ok (.new 185, 3) := by decide +kernel
theorem dX10_addMetre_13 : decode cX10_addMetre 13 = .ok (.dup, 1) := by decide +kernel
theorem dX10_addMetre_14 : decode cX10_addMetre 14 = .ok (.ldc 200, 2) := by decide +kernel
theorem dX10_addMetre_16 : decode cX10_addMetre 16 = .ok (.invokespecial 189, 3) := by decide +kernel
theorem dX10_addMetre_19 : decode cX10_addMetre 19 = .ok (.athrow, 1) := by decide +kernel
theorem dX10_addMetre_20 : decode cX10_addMetre 20 = .ok (.aload_n 0, 1) := by decide +kernel
theorem dX10_addMetre_21 : decode cX10_addMetre 21 = .ok (.getfield 61, 3) := by decide +kernel
theorem dX10_addMetre_24 : decode cX10_addMetre 24 = .ok (.getfield 202, 3) := by decide +kernel
theorem dX10_addMetre_27 : decode cX10_addMetre 27 = .ok (.bipush 8, 2) := by decide +kernel
theorem dX10_addMetre_29 : decode cX10_addMetre 29 = .ok (.if_icmp .lt 13, 3) := by decide +kernel
theorem dX10_addMetre_32 : decode cX10_addMetre 32 = .ok (.new 102, 3) := by decide +kernel
theorem dX10_addMetre_35 : decode cX10_addMetre 35 = .ok (.dup, 1) := by decide +kernel
theorem dX10_addMetre_36 : decode cX10_addMetre 36 = .ok (.ldc 203, 2) := by decide +kernel
theorem dX10_addMetre_38 : decode cX10_addMetre 38 = .ok (.invokespecial 106, 3) := by decide +kernel
theorem dX10_addMetre_41 : decode cX10_addMetre 41 = .ok (.athrow, 1) := by decide +kernel
theorem dX10_addMetre_42 : decode cX10_addMetre 42 = .ok (.aload_n 0, 1) := by decide +kernel
theorem dX10_addMetre_43 : decode cX10_addMetre 43 = .ok (.getfield 61, 3) := by decide +kernel
theorem dX10_addMetre_46 : decode cX10_addMetre 46 = .ok (.aload_n 0, 1) := by decide +kernel
theorem dX10_addMetre_47 : decode cX10_addMetre 47 = .ok (.getfield 68, 3) := by decide +kernel
theorem dX10_addMetre_50 : decode cX10_addMetre 50 = .ok (.invokevirtual 205, 3) := by decide +kernel
theorem dX10_addMetre_53 : decode cX10_addMetre 53 = .ok (.aload_n 0, 1) := by decide +kernel
theorem dX10_addMetre_54 : decode cX10_addMetre 54 = .ok (.getfield 68, 3) := by decide +kernel
theorem dX10_addMetre_57 : decode cX10_addMetre 57 = .ok (.iconst 0, 1) := by decide +kernel
theorem dX10_addMetre_58 : decode cX10_addMetre 58 = .ok (.putfield 169, 3) := by decide +kernel
theorem dX10_addMetre_61 : decode cX10_addMetre 61 = .ok (.aload_n 0, 1) := by decide +kernel
theorem dX10_addMetre_62 : decode cX10_addMetre 62 = .ok (.getfield 61, 3) := by decide +kernel
theorem dX10_addMetre_65 : decode cX10_addMetre 65 = .ok (.getfield 202, 3) := by decide +kernel
theorem dX10_addMetre_68 : decode cX10_addMetre 68 = .ok (.iconst 1, 1) := by decide +kernel
theorem dX10_addMetre_69 : decode cX10_addMetre 69 = .ok (.isub, 1) := by decide +kernel
theorem dX10_addMetre_70 : decode cX10_addMetre 70 = .ok (.ireturn, 1) := by decide +kernel
theorem dX10_dropMetre_0 : decode cX10_dropMetre 0 = .ok (.iload_n 1, 1) := by decide +kernel
theorem dX10_dropMetre_1 : decode cX10_dropMetre 1 = .ok (.aload_n 0, 1) := by decide +kernel
theorem dX10_dropMetre_2 : decode cX10_dropMetre 2 = .ok (.getfield 61, 3) := by decide +kernel
theorem dX10_dropMetre_5 : decode cX10_dropMetre 5 = .ok (.getfield 202, 3) := by decide +kernel
theorem dX10_dropMetre_8 : decode cX10_dropMetre 8 = .ok (.invokestatic 118, 3) := by decide +kernel
theorem dX10_dropMetre_11 : decode cX10_dropMetre 11 = .ok (.aload_n 0, 1) := by decide +kernel
theorem dX10_dropMetre_12 : decode cX10_dropMetre 12 = .ok (.getfield 61, 3) := by decide +kernel
theorem dX10_dropMetre_15 : decode cX10_dropMetre 15 = .ok (.iload_n 1, 1) := by decide +kernel
theorem dX10_dropMetre_16 : decode cX10_dropMetre 16 = .ok (.invokevirtual 208, 3) := by decide +kernel
theorem dX10_dropMetre_19 : decode cX10_dropMetre 19 = .ok (.aload_n 0, 1) := by decide +kernel
theorem dX10_dropMetre_20 : decode cX10_dropMetre 20 = .ok (.getfield 61, 3) := by decide +kernel
theorem dX10_dropMetre_23 : decode cX10_dropMetre 23 = .ok (.getfield 202, 3) := by decide +kernel
theorem dX10_dropMetre_26 : decode cX10_dropMetre 26 = .ok (.ireturn, 1) := by decide +kernel
theorem dX10_note_0 : decode cX10_note 0 = .ok (.iload_n 1, 1) := by decide +kernel
theorem dX10_note_1 : decode cX10_note 1 = .ok (.aload_n 0, 1) := by decide +kernel
theorem dX10_note_2 : decode cX10_note 2 = .ok (.getfield 12, 3) := by decide +kernel
theorem dX10_note_5 : decode cX10_note 5 = .ok (.getfield 80, 3) := by decide +kernel
theorem dX10_note_8 : decode cX10_note 8 = .ok (.invokestatic 118, 3) := by decide +kernel
theorem dX10_note_11 : decode cX10_note 11 = .ok (.iload_n 2, 1) := by decide +kernel
theorem dX10_note_12 : decode cX10_note 12 = .ok (.iconst 0, 1) := by decide +kernel
theorem dX10_note_13 : decode cX10_note 13 = .ok (.bipush 8, 2) := by decide +kernel
theorem dX10_note_15 : decode cX10_note 15 = .ok (.invokestatic 76, 3) := by decide +kernel
theorem dX10_note_18 : decode cX10_note 18 = .ok (.aload_n 0, 1) := by decide +kernel
theorem dX10_note_19 : decode cX10_note 19 = .ok (.iload_n 1, 1) := by decide +kernel
theorem dX10_note_20 : decode cX10_note 20 = .ok (.iload_n 2, 1) := by decide +kernel
theorem dX10_note_21 : decode cX10_note 21 = .ok (.invokevirtual 211, 3) := by decide +kernel
theorem dX10_note_24 : decode cX10_note 24 = .ok (.ireturn, 1) := by decide +kernel
theorem dX10_part_0 : decode cX10_part 0 = .ok (.iload_n 1, 1) := by decide +kernel
theorem dX10_part_1 : decode cX10_part 1 = .ok (.aload_n 0, 1) := by decide +kernel
theorem dX10_part_2 : decode cX10_part 2 = .ok (.getfield 12, 3) := by decide +kernel
theorem dX10_part_5 : decode cX10_part 5 = .ok (.getfield 80, 3) := by decide +kernel
theorem dX10_part_8 : decode cX10_part 8 = .ok (.invokestatic 118, 3) := by decide +kernel
theorem dX10_part_11 : decode cX10_part 11 = .ok (.iload_n 2, 1) := by decide +kernel
theorem dX10_part_12 : decode cX10_part 12 = .ok (.iconst 4, 1) := by decide +kernel
theorem dX10_part_13 : decode cX10_part 13 = .ok (.invokestatic 118, 3) := by decide +kernel
theorem dX10_part_16 : decode cX10_part 16 = .ok (.iload_n 3, 1) := by decide +kernel
theorem dX10_part_17 : decode cX10_part 17 = .ok (.iconst 0, 1) := by decide +kernel
theorem dX10_part_18 : decode cX10_part 18 = .ok (.iconst 5, 1) := by decide +kernel
theorem dX10_part_19 : decode cX10_part 19 = .ok (.invokestatic 76, 3) := by decide +kernel
theorem dX10_part_22 : decode cX10_part 22 = .ok (.aload_n 0, 1) := by decide +kernel
theorem dX10_part_23 : decode cX10_part 23 = .ok (.iload_n 1, 1) := by decide +kernel
theorem dX10_part_24 : decode cX10_part 24 = .ok (.iload_n 2, 1) := by decide +kernel
theorem dX10_part_25 : decode cX10_part 25 = .ok (.iload_n 3, 1) := by decide +kernel
theorem dX10_part_26 : decode cX10_part 26 = .ok (.invokevirtual 214, 3) := by decide +kernel
theorem dX10_part_29 : decode cX10_part 29 = .ok (.ireturn, 1) := by decide +kernel
theorem dX10_heads_0 : decode cX10_heads 0 = .ok (.iload_n 1, 1) := by decide +kernel
theorem dX10_heads_1 : decode cX10_heads 1 = .ok (.aload_n 0, 1) := by decide +kernel
theorem dX10_heads_2 : decode cX10_heads 2 = .ok (.getfield 12, 3) := by decide +kernel
theorem dX10_heads_5 : decode cX10_heads 5 = .ok (.getfield 80, 3) := by decide +kernel
theorem dX10_heads_8 : decode cX10_heads 8 = .ok (.invokestatic 118, 3) := by decide +kernel
theorem dX10_heads_11 : decode cX10_heads 11 = .ok (.iload_n 2, 1) := by decide +kernel
theorem dX10_heads_12 : decode cX10_heads 12 = .ok (.iconst 2, 1) := by decide +kernel
theorem dX10_heads_13 : decode cX10_heads 13 = .ok (.invokestatic 118, 3) := by decide +kernel
theorem dX10_heads_16 : decode cX10_heads 16 = .ok (.aload_n 0, 1) := by decide +kernel
theorem dX10_heads_17 : decode cX10_heads 17 = .ok (.iload_n 1, 1) := by decide +kernel
theorem dX10_heads_18 : decode cX10_heads 18 = .ok (.iload_n 2, 1) := by decide +kernel
theorem dX10_heads_19 : decode cX10_heads 19 = .ok (.invokevirtual 218, 3) := by decide +kernel
theorem dX10_heads_22 : decode cX10_heads 22 = .ok (.ireturn, 1) := by decide +kernel
theorem dX10_phrase_0 : decode cX10_phrase 0 = .ok (.iload_n 1, 1) := by decide +kernel
theorem dX10_phrase_1 : decode cX10_phrase 1 = .ok (.aload_n 0, 1) := by decide +kernel
theorem dX10_phrase_2 : decode cX10_phrase 2 = .ok (.getfield 40, 3) := by decide +kernel
theorem dX10_phrase_5 : decode cX10_phrase 5 = .ok (.getfield 139, 3) := by decide +kernel
theorem dX10_phrase_8 : decode cX10_phrase 8 = .ok (.invokestatic 118, 3) := by decide +kernel
theorem dX10_phrase_11 : decode cX10_phrase 11 = .ok (.iload_n 2, 1) := by decide +kernel
theorem dX10_phrase_12 : decode cX10_phrase 12 = .ok (.iconst 0, 1) := by decide +kernel
theorem dX10_phrase_13 : decode cX10_phrase 13 = .ok (.iconst 5, 1) := by decide +kernel
theorem dX10_phrase_14 : decode cX10_phrase 14 = .ok (.invokestatic 76, 3) := by decide +kernel
theorem dX10_phrase_17 : decode cX10_phrase 17 = .ok (.aload_n 0, 1) := by decide +kernel
theorem dX10_phrase_18 : decode cX10_phrase 18 = .ok (.iload_n 1, 1) := by decide +kernel
theorem dX10_phrase_19 : decode cX10_phrase 19 = .ok (.iload_n 2, 1) := by decide +kernel
theorem dX10_phrase_20 : decode cX10_phrase 20 = .ok (.invokevirtual 221, 3) := by decide +kernel
theorem dX10_phrase_23 : decode cX10_phrase 23 = .ok (.ireturn, 1) := by decide +kernel
theorem dX10_sung_0 : decode cX10_sung 0 = .ok (.iload_n 1, 1) := by decide +kernel
theorem dX10_sung_1 : decode cX10_sung 1 = .ok (.aload_n 0, 1) := by decide +kernel
theorem dX10_sung_2 : decode cX10_sung 2 = .ok (.getfield 47, 3) := by decide +kernel
theorem dX10_sung_5 : decode cX10_sung 5 = .ok (.getfield 153, 3) := by decide +kernel
theorem dX10_sung_8 : decode cX10_sung 8 = .ok (.invokestatic 118, 3) := by decide +kernel
theorem dX10_sung_11 : decode cX10_sung 11 = .ok (.aload_n 0, 1) := by decide +kernel
theorem dX10_sung_12 : decode cX10_sung 12 = .ok (.getfield 47, 3) := by decide +kernel
theorem dX10_sung_15 : decode cX10_sung 15 = .ok (.iload_n 1, 1) := by decide +kernel
theorem dX10_sung_16 : decode cX10_sung 16 = .ok (.invokevirtual 224, 3) := by decide +kernel
theorem dX10_sung_19 : decode cX10_sung 19 = .ok (.ireturn, 1) := by decide +kernel
theorem dX10_fit_0 : decode cX10_fit 0 = .ok (.iload_n 1, 1) := by decide +kernel
theorem dX10_fit_1 : decode cX10_fit 1 = .ok (.iconst 4, 1) := by decide +kernel
theorem dX10_fit_2 : decode cX10_fit 2 = .ok (.invokestatic 118, 3) := by decide +kernel
theorem dX10_fit_5 : decode cX10_fit 5 = .ok (.aload_n 0, 1) := by decide +kernel
theorem dX10_fit_6 : decode cX10_fit 6 = .ok (.iload_n 1, 1) := by decide +kernel
theorem dX10_fit_7 : decode cX10_fit 7 = .ok (.invokevirtual 227, 3) := by decide +kernel
theorem dX10_fit_10 : decode cX10_fit 10 = .ok (.ireturn, 1) := by decide +kernel
theorem dX10_line_0 : decode cX10_line 0 = .ok (.iload_n 1, 1) := by decide +kernel
theorem dX10_line_1 : decode cX10_line 1 = .ok (.iconst 4, 1) := by decide +kernel
theorem dX10_line_2 : decode cX10_line 2 = .ok (.invokestatic 118, 3) := by decide +kernel
theorem dX10_line_5 : decode cX10_line 5 = .ok (.iload_n 2, 1) := by decide +kernel
theorem dX10_line_6 : decode cX10_line 6 = .ok (.bipush 24, 2) := by decide +kernel
theorem dX10_line_8 : decode cX10_line 8 = .ok (.invokestatic 118, 3) := by decide +kernel
theorem dX10_line_11 : decode cX10_line 11 = .ok (.iload_n 3, 1) := by decide +kernel
theorem dX10_line_12 : decode cX10_line 12 = .ok (.iconst 0, 1) := by decide +kernel
theorem dX10_line_13 : decode cX10_line 13 = .ok (.iconst 2, 1) := by decide +kernel
theorem dX10_line_14 : decode cX10_line 14 = .ok (.invokestatic 76, 3) := by decide +kernel
theorem dX10_line_17 : decode cX10_line 17 = .ok (.aload_n 0, 1) := by decide +kernel
theorem dX10_line_18 : decode cX10_line 18 = .ok (.iload_n 1, 1) := by decide +kernel
theorem dX10_line_19 : decode cX10_line 19 = .ok (.iload_n 2, 1) := by decide +kernel
theorem dX10_line_20 : decode cX10_line 20 = .ok (.iload_n 3, 1) := by decide +kernel
theorem dX10_line_21 : decode cX10_line 21 = .ok (.invokevirtual 230, 3) := by decide +kernel
theorem dX10_line_24 : decode cX10_line 24 = .ok (.ireturn, 1) := by decide +kernel
theorem dX10_below_0 : decode cX10_below 0 = .ok (.iload_n 1, 1) := by decide +kernel
theorem dX10_below_1 : decode cX10_below 1 = .ok (.iconst 4, 1) := by decide +kernel
theorem dX10_below_2 : decode cX10_below 2 = .ok (.invokestatic 118, 3) := by decide +kernel
theorem dX10_below_5 : decode cX10_below 5 = .ok (.iload_n 2, 1) := by decide +kernel
theorem dX10_below_6 : decode cX10_below 6 = .ok (.aload_n 0, 1) := by decide +kernel
theorem dX10_below_7 : decode cX10_below 7 = .ok (.getfield 47, 3) := by decide +kernel
theorem dX10_below_10 : decode cX10_below 10 = .ok (.getfield 153, 3) := by decide +kernel
theorem dX10_below_13 : decode cX10_below 13 = .ok (.invokestatic 118, 3) := by decide +kernel
theorem dX10_below_16 : decode cX10_below 16 = .ok (.iload_n 3, 1) := by decide +kernel
theorem dX10_below_17 : decode cX10_below 17 = .ok (.aload_n 0, 1) := by decide +kernel
theorem dX10_below_18 : decode cX10_below 18 = .ok (.getfield 40, 3) := by decide +kernel
theorem dX10_below_21 : decode cX10_below 21 = .ok (.aload_n 0, 1) := by decide +kernel
theorem dX10_below_22 : decode cX10_below 22 = .ok (.getfield 47, 3) := by decide +kernel
theorem dX10_below_25 : decode cX10_below 25 = .ok (.iload_n 2, 1) := by decide +kernel
theorem dX10_below_26 : decode cX10_below 26 = .ok (.invokevirtual 224, 3) := by decide +kernel
theorem dX10_below_29 : decode cX10_below 29 = .ok (.invokevirtual 233, 3) := by decide +kernel
theorem dX10_below_32 : decode cX10_below 32 = .ok (.invokestatic 118, 3) := by decide +kernel
theorem dX10_below_35 : decode cX10_below 35 = .ok (.iload 4, 2) := by decide +kernel
theorem dX10_below_37 : decode cX10_below 37 = .ok (.iconst 0, 1) := by decide +kernel
theorem dX10_below_38 : decode cX10_below 38 = .ok (.iconst 3, 1) := by decide +kernel
theorem dX10_below_39 : decode cX10_below 39 = .ok (.invokestatic 76, 3) := by decide +kernel
theorem dX10_below_42 : decode cX10_below 42 = .ok (.aload_n 0, 1) := by decide +kernel
theorem dX10_below_43 : decode cX10_below 43 = .ok (.iload_n 1, 1) := by decide +kernel
theorem dX10_below_44 : decode cX10_below 44 = .ok (.iload_n 2, 1) := by decide +kernel
theorem dX10_below_45 : decode cX10_below 45 = .ok (.iload_n 3, 1) := by decide +kernel
theorem dX10_below_46 : decode cX10_below 46 = .ok (.iload 4, 2) := by decide +kernel
theorem dX10_below_48 : decode cX10_below 48 = .ok (.invokevirtual 236, 3) := by decide +kernel
theorem dX10_below_51 : decode cX10_below 51 = .ok (.ireturn, 1) := by decide +kernel
theorem dX10_distance_0 : decode cX10_distance 0 = .ok (.iload_n 1, 1) := by decide +kernel
theorem dX10_distance_1 : decode cX10_distance 1 = .ok (.aload_n 0, 1) := by decide +kernel
theorem dX10_distance_2 : decode cX10_distance 2 = .ok (.getfield 61, 3) := by decide +kernel
theorem dX10_distance_5 : decode cX10_distance 5 = .ok (.getfield 202, 3) := by decide +kernel
theorem dX10_distance_8 : decode cX10_distance 8 = .ok (.invokestatic 118, 3) := by decide +kernel
theorem dX10_distance_11 : decode cX10_distance 11 = .ok (.aload_n 0, 1) := by decide +kernel
theorem dX10_distance_12 : decode cX10_distance 12 = .ok (.iload_n 1, 1) := by decide +kernel
theorem dX10_distance_13 : decode cX10_distance 13 = .ok (.invokevirtual 240, 3) := by decide +kernel
theorem dX10_distance_16 : decode cX10_distance 16 = .ok (.ireturn, 1) := by decide +kernel
theorem dX10_nearest_0 : decode cX10_nearest 0 = .ok (.iconst (-1), 1) := by decide +kernel
theorem dX10_nearest_1 : decode cX10_nearest 1 = .ok (.istore_n 1, 1) := by decide +kernel
theorem dX10_nearest_2 : decode cX10_nearest 2 = .ok (.iconst (-1), 1) := by decide +kernel
theorem dX10_nearest_3 : decode cX10_nearest 3 = .ok (.istore_n 2, 1) := by decide +kernel
theorem dX10_nearest_4 : decode cX10_nearest 4 = .ok (.iconst 0, 1) := by decide +kernel
theorem dX10_nearest_5 : decode cX10_nearest 5 = .ok (.istore_n 3, 1) := by decide +kernel
theorem dX10_nearest_6 : decode cX10_nearest 6 = .ok (.iload_n 3, 1) := by decide +kernel
theorem dX10_nearest_7 : decode cX10_nearest 7 = .ok (.aload_n 0, 1) := by decide +kernel
theorem dX10_nearest_8 : decode cX10_nearest 8 = .ok (.getfield 61, 3) := by decide +kernel
theorem dX10_nearest_11 : decode cX10_nearest 11 = .ok (.getfield 202, 3) := by decide +kernel
theorem dX10_nearest_14 : decode cX10_nearest 14 = .ok (.if_icmp .ge 38, 3) := by decide +kernel
theorem dX10_nearest_17 : decode cX10_nearest 17 = .ok (.aload_n 0, 1) := by decide +kernel
theorem dX10_nearest_18 : decode cX10_nearest 18 = .ok (.iload_n 3, 1) := by decide +kernel
theorem dX10_nearest_19 : decode cX10_nearest 19 = .ok (.invokevirtual 240, 3) := by decide +kernel
theorem dX10_nearest_22 : decode cX10_nearest 22 = .ok (.istore 4, 2) := by decide +kernel
theorem dX10_nearest_24 : decode cX10_nearest 24 = .ok (.iload 4, 2) := by decide +kernel
theorem dX10_nearest_26 : decode cX10_nearest 26 = .ok (.iconst (-1), 1) := by decide +kernel
theorem dX10_nearest_27 : decode cX10_nearest 27 = .ok (.if_icmp .eq 19, 3) := by decide +kernel
theorem dX10_nearest_30 : decode cX10_nearest 30 = .ok (.iload_n 1, 1) := by decide +kernel
theorem dX10_nearest_31 : decode cX10_nearest 31 = .ok (.iconst (-1), 1) := by decide +kernel
theorem dX10_nearest_32 : decode cX10_nearest 32 = .ok (.if_icmp .eq 9, 3) := by decide +kernel
theorem dX10_nearest_35 : decode cX10_nearest 35 = .ok (.iload 4, 2) := by decide +kernel
theorem dX10_nearest_37 : decode cX10_nearest 37 = .ok (.iload_n 2, 1) := by decide +kernel
theorem dX10_nearest_38 : decode cX10_nearest 38 = .ok (.if_icmp .ge 8, 3) := by decide +kernel
theorem dX10_nearest_41 : decode cX10_nearest 41 = .ok (.iload_n 3, 1) := by decide +kernel
theorem dX10_nearest_42 : decode cX10_nearest 42 = .ok (.istore_n 1, 1) := by decide +kernel
theorem dX10_nearest_43 : decode cX10_nearest 43 = .ok (.iload 4, 2) := by decide +kernel
theorem dX10_nearest_45 : decode cX10_nearest 45 = .ok (.istore_n 2, 1) := by decide +kernel
theorem dX10_nearest_46 : decode cX10_nearest 46 = .ok (.iinc 3 1, 3) := by decide +kernel
theorem dX10_nearest_49 : decode cX10_nearest 49 = .ok (.goto (-43), 3) := by decide +kernel
theorem dX10_nearest_52 : decode cX10_nearest 52 = .ok (.iload_n 1, 1) := by decide +kernel
theorem dX10_nearest_53 : decode cX10_nearest 53 = .ok (.ireturn, 1) := by decide +kernel
theorem dX10_metre_0 : decode cX10_metre 0 = .ok (.iload_n 1, 1) := by decide +kernel
theorem dX10_metre_1 : decode cX10_metre 1 = .ok (.aload_n 0, 1) := by decide +kernel
theorem dX10_metre_2 : decode cX10_metre 2 = .ok (.getfield 61, 3) := by decide +kernel
theorem dX10_metre_5 : decode cX10_metre 5 = .ok (.getfield 202, 3) := by decide +kernel
theorem dX10_metre_8 : decode cX10_metre 8 = .ok (.invokestatic 118, 3) := by decide +kernel
theorem dX10_metre_11 : decode cX10_metre 11 = .ok (.iload_n 2, 1) := by decide +kernel
theorem dX10_metre_12 : decode cX10_metre 12 = .ok (.ifCond .lt 15, 3) := by decide +kernel
theorem dX10_metre_15 : decode cX10_metre 15 = .ok (.iload_n 2, 1) := by decide +kernel
theorem dX10_metre_16 : decode cX10_metre 16 = .ok (.aload_n 0, 1) := by decide +kernel
theorem dX10_metre_17 : decode cX10_metre 17 = .ok (.getfield 61, 3) := by decide +kernel
theorem dX10_metre_20 : decode cX10_metre 20 = .ok (.iload_n 1, 1) := by decide +kernel
theorem dX10_metre_21 : decode cX10_metre 21 = .ok (.invokevirtual 243, 3) := by decide +kernel
theorem dX10_metre_24 : decode cX10_metre 24 = .ok (.if_icmp .lt 5, 3) := by decide +kernel
theorem dX10_metre_27 : decode cX10_metre 27 = .ok (.iconst (-1), 1) := by decide +kernel
theorem dX10_metre_28 : decode cX10_metre 28 = .ok (.ireturn, 1) := by decide +kernel
theorem dX10_metre_29 : decode cX10_metre 29 = .ok (.aload_n 0, 1) := by decide +kernel
theorem dX10_metre_30 : decode cX10_metre 30 = .ok (.getfield 61, 3) := by decide +kernel
theorem dX10_metre_33 : decode cX10_metre 33 = .ok (.iload_n 1, 1) := by decide +kernel
theorem dX10_metre_34 : decode cX10_metre 34 = .ok (.iload_n 2, 1) := by decide +kernel
theorem dX10_metre_35 : decode cX10_metre 35 = .ok (.invokevirtual 246, 3) := by decide +kernel
theorem dX10_metre_38 : decode cX10_metre 38 = .ok (.ireturn, 1) := by decide +kernel
theorem dX10_count_0 : decode cX10_count 0 = .ok (.iload_n 1, 1) := by decide +kernel
theorem dX10_count_1 : decode cX10_count 1 = .ok (.iconst 0, 1) := by decide +kernel
theorem dX10_count_2 : decode cX10_count 2 = .ok (.bipush 13, 2) := by decide +kernel
theorem dX10_count_4 : decode cX10_count 4 = .ok (.invokestatic 76, 3) := by decide +kernel
theorem dX10_count_7 : decode cX10_count 7 = .ok (.iload_n 1, 1) := by decide +kernel
theorem dX10_count_8 : decode cX10_count 8 = .ok (.bipush 7, 2) := by decide +kernel
theorem dX10_count_10 : decode cX10_count 10 = .ok (.if_icmp .ge 11, 3) := by decide +kernel
theorem dX10_count_13 : decode cX10_count 13 = .ok (.aload_n 0, 1) := by decide +kernel
theorem dX10_count_14 : decode cX10_count 14 = .ok (.iload_n 1, 1) := by decide +kernel
theorem dX10_count_15 : decode cX10_count 15 = .ok (.invokevirtual 249, 3) := by decide +kernel
theorem dX10_count_18 : decode cX10_count 18 = .ok (.goto 8, 3) := by decide +kernel
theorem dX10_count_21 : decode cX10_count 21 = .ok (.aload_n 0, 1) := by decide +kernel
theorem dX10_count_22 : decode cX10_count 22 = .ok (.iload_n 1, 1) := by decide +kernel
theorem dX10_count_23 : decode cX10_count 23 = .ok (.invokevirtual 252, 3) := by decide +kernel
theorem dX10_count_26 : decode cX10_count 26 = .ok (.ireturn, 1) := by decide +kernel
theorem dX10_meanWidth_0 : decode cX10_meanWidth 0 = .ok (.aload_n 0, 1) := by decide +kernel
theorem dX10_meanWidth_1 : decode cX10_meanWidth 1 = .ok (.getfield 54, 3) := by decide +kernel
theorem dX10_meanWidth_4 : decode cX10_meanWidth 4 = .ok (.getfield 166, 3) := by decide +kernel
theorem dX10_meanWidth_7 : decode cX10_meanWidth 7 = .ok (.ifCond .gt 5, 3) := by decide +kernel
theorem dX10_meanWidth_10 : decode cX10_meanWidth 10 = .ok (.dconst 0, 1) := by decide +kernel
theorem dX10_meanWidth_11 : decode cX10_meanWidth 11 = .ok (.dreturn, 1) := by decide +kernel
theorem dX10_meanWidth_12 : decode cX10_meanWidth 12 = .ok (.aload_n 0, 1) := by decide +kernel
theorem dX10_meanWidth_13 : decode cX10_meanWidth 13 = .ok (.getfield 54, 3) := by decide +kernel
theorem dX10_meanWidth_16 : decode cX10_meanWidth 16 = .ok (.getfield 255, 3) := by decide +kernel
theorem dX10_meanWidth_19 : decode cX10_meanWidth 19 = .ok (.i2d, 1) := by decide +kernel
theorem dX10_meanWidth_20 : decode cX10_meanWidth 20 = .ok (.aload_n 0, 1) := by decide +kernel
theorem dX10_meanWidth_21 : decode cX10_meanWidth 21 = .ok (.getfield 54, 3) := by decide +kernel
theorem dX10_meanWidth_24 : decode cX10_meanWidth 24 = .ok (.getfield 166, 3) := by decide +kernel
theorem dX10_meanWidth_27 : decode cX10_meanWidth 27 = .ok (.i2d, 1) := by decide +kernel
theorem dX10_meanWidth_28 : decode cX10_meanWidth 28 = .ok (.ddiv, 1) := by decide +kernel
theorem dX10_meanWidth_29 : decode cX10_meanWidth 29 = .ok (.dreturn, 1) := by decide +kernel
theorem dX10_checkIndex_0 : decode cX10_checkIndex 0 = .ok (.iload_n 0, 1) := by decide +kernel
theorem dX10_checkIndex_1 : decode cX10_checkIndex 1 = .ok (.ifCond .lt 8, 3) := by decide +kernel
theorem dX10_checkIndex_4 : decode cX10_checkIndex 4 = .ok (.iload_n 0, 1) := by decide +kernel
theorem dX10_checkIndex_5 : decode cX10_checkIndex 5 = .ok (.iload_n 1, 1) := by decide +kernel
theorem dX10_checkIndex_6 : decode cX10_checkIndex 6 = .ok (.if_icmp .lt 14, 3) := by decide +kernel
theorem dX10_checkIndex_9 : decode cX10_checkIndex 9 = .ok (.new 295, 3) := by decide +kernel
theorem dX10_checkIndex_12 : decode cX10_checkIndex 12 = .ok (.dup, 1) := by decide +kernel
theorem dX10_checkIndex_13 : decode cX10_checkIndex 13 = .ok (.ldc_w 297, 3) := by decide +kernel
theorem dX10_checkIndex_16 : decode cX10_checkIndex 16 = .ok (.invokespecial 299, 3) := by decide +kernel
theorem dX10_checkIndex_19 : decode cX10_checkIndex 19 = .ok (.athrow, 1) := by decide +kernel
theorem dX10_checkIndex_20 : decode cX10_checkIndex 20 = .ok (.return_, 1) := by decide +kernel
theorem dX10_checkRange_0 : decode cX10_checkRange 0 = .ok (.iload_n 0, 1) := by decide +kernel
theorem dX10_checkRange_1 : decode cX10_checkRange 1 = .ok (.iload_n 1, 1) := by decide +kernel
theorem dX10_checkRange_2 : decode cX10_checkRange 2 = .ok (.if_icmp .lt 8, 3) := by decide +kernel
theorem dX10_checkRange_5 : decode cX10_checkRange 5 = .ok (.iload_n 0, 1) := by decide +kernel
theorem dX10_checkRange_6 : decode cX10_checkRange 6 = .ok (.iload_n 2, 1) := by decide +kernel
theorem dX10_checkRange_7 : decode cX10_checkRange 7 = .ok (.if_icmp .le 14, 3) := by decide +kernel
theorem dX10_checkRange_10 : decode cX10_checkRange 10 = .ok (.new 185, 3) := by decide +kernel
theorem dX10_checkRange_13 : decode cX10_checkRange 13 = .ok (.dup, 1) := by decide +kernel
theorem dX10_checkRange_14 : decode cX10_checkRange 14 = .ok (.ldc_w 300, 3) := by decide +kernel
theorem dX10_checkRange_17 : decode cX10_checkRange 17 = .ok (.invokespecial 189, 3) := by decide +kernel
theorem dX10_checkRange_20 : decode cX10_checkRange 20 = .ok (.athrow, 1) := by decide +kernel
theorem dX10_checkRange_21 : decode cX10_checkRange 21 = .ok (.return_, 1) := by decide +kernel
theorem dX10_checkPitch_0 : decode cX10_checkPitch 0 = .ok (.iload_n 0, 1) := by decide +kernel
theorem dX10_checkPitch_1 : decode cX10_checkPitch 1 = .ok (.bipush 36, 2) := by decide +kernel
theorem dX10_checkPitch_3 : decode cX10_checkPitch 3 = .ok (.bipush 84, 2) := by decide +kernel
theorem dX10_checkPitch_5 : decode cX10_checkPitch 5 = .ok (.invokestatic 76, 3) := by decide +kernel
theorem dX10_checkPitch_8 : decode cX10_checkPitch 8 = .ok (.return_, 1) := by decide +kernel
theorem dX10_at_0 : decode cX10_at 0 = .ok (.iload_n 1, 1) := by decide +kernel
theorem dX10_at_1 : decode cX10_at 1 = .ok (.ifCond .lt 15, 3) := by decide +kernel
theorem dX10_at_4 : decode cX10_at 4 = .ok (.iload_n 1, 1) := by decide +kernel
theorem dX10_at_5 : decode cX10_at 5 = .ok (.aload_n 0, 1) := by decide +kernel
theorem dX10_at_6 : decode cX10_at 6 = .ok (.arraylength, 1) := by decide +kernel
theorem dX10_at_7 : decode cX10_at 7 = .ok (.if_icmp .ge 9, 3) := by decide +kernel
theorem dX10_at_10 : decode cX10_at 10 = .ok (.aload_n 0, 1) := by decide +kernel
theorem dX10_at_11 : decode cX10_at 11 = .ok (.iload_n 1, 1) := by decide +kernel
theorem dX10_at_12 : decode cX10_at 12 = .ok (.iaload, 1) := by decide +kernel
theorem dX10_at_13 : decode cX10_at 13 = .ok (.goto 4, 3) := by decide +kernel
theorem dX10_at_16 : decode cX10_at 16 = .ok (.iconst 0, 1) := by decide +kernel
theorem dX10_at_17 : decode cX10_at 17 = .ok (.ireturn, 1) := by decide +kernel
theorem dX10_put_0 : decode cX10_put 0 = .ok (.iload_n 1, 1) := by decide +kernel
theorem dX10_put_1 : decode cX10_put 1 = .ok (.ifCond .lt 13, 3) := by decide +kernel
theorem dX10_put_4 : decode cX10_put 4 = .ok (.iload_n 1, 1) := by decide +kernel
theorem dX10_put_5 : decode cX10_put 5 = .ok (.aload_n 0, 1) := by decide +kernel
theorem dX10_put_6 : decode cX10_put 6 = .ok (.arraylength, 1) := by decide +kernel
theorem dX10_put_7 : decode cX10_put 7 = .ok (.if_icmp .ge 7, 3) := by decide +kernel
theorem dX10_put_10 : decode cX10_put 10 = .ok (.aload_n 0, 1) := by decide +kernel
theorem dX10_put_11 : decode cX10_put 11 = .ok (.iload_n 1, 1) := by decide +kernel
theorem dX10_put_12 : decode cX10_put 12 = .ok (.iload_n 2, 1) := by decide +kernel
theorem dX10_put_13 : decode cX10_put 13 = .ok (.iastore, 1) := by decide +kernel
theorem dX10_put_14 : decode cX10_put 14 = .ok (.return_, 1) := by decide +kernel
theorem dX10_hasBit_0 : decode cX10_hasBit 0 = .ok (.lload_n 0, 1) := by decide +kernel
theorem dX10_hasBit_1 : decode cX10_hasBit 1 = .ok (.iload_n 2, 1) := by decide +kernel
theorem dX10_hasBit_2 : decode cX10_hasBit 2 = .ok (.lushr, 1) := by decide +kernel
theorem dX10_hasBit_3 : decode cX10_hasBit 3 = .ok (.lconst 1, 1) := by decide +kernel
theorem dX10_hasBit_4 : decode cX10_hasBit 4 = .ok (.land, 1) := by decide +kernel
theorem dX10_hasBit_5 : decode cX10_hasBit 5 = .ok (.lconst 0, 1) := by decide +kernel
theorem dX10_hasBit_6 : decode cX10_hasBit 6 = .ok (.lcmp, 1) := by decide +kernel
theorem dX10_hasBit_7 : decode cX10_hasBit 7 = .ok (.ifCond .eq 7, 3) := by decide +kernel
theorem dX10_hasBit_10 : decode cX10_hasBit 10 = .ok (.iconst 1, 1) := by decide +kernel
theorem dX10_hasBit_11 : decode cX10_hasBit 11 = .ok (.goto 4, 3) := by decide +kernel
theorem dX10_hasBit_14 : decode cX10_hasBit 14 = .ok (.iconst 0, 1) := by decide +kernel
theorem dX10_hasBit_15 : decode cX10_hasBit 15 = .ok (.ireturn, 1) := by decide +kernel
theorem dX10_withBit_0 : decode cX10_withBit 0 = .ok (.iload_n 3, 1) := by decide +kernel
theorem dX10_withBit_1 : decode cX10_withBit 1 = .ok (.ifCond .eq 11, 3) := by decide +kernel
theorem dX10_withBit_4 : decode cX10_withBit 4 = .ok (.lload_n 0, 1) := by decide +kernel
theorem dX10_withBit_5 : decode cX10_withBit 5 = .ok (.lconst 1, 1) := by decide +kernel
theorem dX10_withBit_6 : decode cX10_withBit 6 = .ok (.iload_n 2, 1) := by decide +kernel
theorem dX10_withBit_7 : decode cX10_withBit 7 = .ok (.lshl, 1) := by decide +kernel
theorem dX10_withBit_8 : decode cX10_withBit 8 = .ok (.lor, 1) := by decide +kernel
theorem dX10_withBit_9 : decode cX10_withBit 9 = .ok (.goto 12, 3) := by decide +kernel
theorem dX10_withBit_12 : decode cX10_withBit 12 = .ok (.lload_n 0, 1) := by decide +kernel
theorem dX10_withBit_13 : decode cX10_withBit 13 = .ok (.lconst 1, 1) := by decide +kernel
theorem dX10_withBit_14 : decode cX10_withBit 14 = .ok (.iload_n 2, 1) := by decide +kernel
theorem dX10_withBit_15 : decode cX10_withBit 15 = .ok (.lshl, 1) := by decide +kernel
theorem dX10_withBit_16 : decode cX10_withBit 16 = .ok (.ldc2_w 302, 3) := by decide +kernel
theorem dX10_withBit_19 : decode cX10_withBit 19 = .ok (.lxor, 1) := by decide +kernel
theorem dX10_withBit_20 : decode cX10_withBit 20 = .ok (.land, 1) := by decide +kernel
theorem dX10_withBit_21 : decode cX10_withBit 21 = .ok (.lreturn, 1) := by decide +kernel
theorem dX10_flag_0 : decode cX10_flag 0 = .ok (.iload_n 0, 1) := by decide +kernel
theorem dX10_flag_1 : decode cX10_flag 1 = .ok (.ifCond .eq 7, 3) := by decide +kernel
theorem dX10_flag_4 : decode cX10_flag 4 = .ok (.iconst 1, 1) := by decide +kernel
theorem dX10_flag_5 : decode cX10_flag 5 = .ok (.goto 4, 3) := by decide +kernel
theorem dX10_flag_8 : decode cX10_flag 8 = .ok (.iconst 0, 1) := by decide +kernel
theorem dX10_flag_9 : decode cX10_flag 9 = .ok (.ireturn, 1) := by decide +kernel
theorem dX10_layOut_0 : decode cX10_layOut 0 = .ok (.aload_n 0, 1) := by decide +kernel
theorem dX10_layOut_1 : decode cX10_layOut 1 = .ok (.getfield 40, 3) := by decide +kernel
theorem dX10_layOut_4 : decode cX10_layOut 4 = .ok (.aload_n 0, 1) := by decide +kernel
theorem dX10_layOut_5 : decode cX10_layOut 5 = .ok (.getfield 12, 3) := by decide +kernel
theorem dX10_layOut_8 : decode cX10_layOut 8 = .ok (.invokevirtual 304, 3) := by decide +kernel
theorem dX10_layOut_11 : decode cX10_layOut 11 = .ok (.aload_n 0, 1) := by decide +kernel
theorem dX10_layOut_12 : decode cX10_layOut 12 = .ok (.getfield 26, 3) := by decide +kernel
theorem dX10_layOut_15 : decode cX10_layOut 15 = .ok (.aload_n 0, 1) := by decide +kernel
theorem dX10_layOut_16 : decode cX10_layOut 16 = .ok (.getfield 40, 3) := by decide +kernel
theorem dX10_layOut_19 : decode cX10_layOut 19 = .ok (.getfield 139, 3) := by decide +kernel
theorem dX10_layOut_22 : decode cX10_layOut 22 = .ok (.invokevirtual 308, 3) := by decide +kernel
theorem dX10_layOut_25 : decode cX10_layOut 25 = .ok (.aload_n 0, 1) := by decide +kernel
theorem dX10_layOut_26 : decode cX10_layOut 26 = .ok (.getfield 47, 3) := by decide +kernel
theorem dX10_layOut_29 : decode cX10_layOut 29 = .ok (.aload_n 0, 1) := by decide +kernel
theorem dX10_layOut_30 : decode cX10_layOut 30 = .ok (.getfield 40, 3) := by decide +kernel
theorem dX10_layOut_33 : decode cX10_layOut 33 = .ok (.getfield 139, 3) := by decide +kernel
theorem dX10_layOut_36 : decode cX10_layOut 36 = .ok (.aload_n 0, 1) := by decide +kernel
theorem dX10_layOut_37 : decode cX10_layOut 37 = .ok (.getfield 26, 3) := by decide +kernel
theorem dX10_layOut_40 : decode cX10_layOut 40 = .ok (.invokevirtual 311, 3) := by decide +kernel
theorem dX10_layOut_43 : decode cX10_layOut 43 = .ok (.aload_n 0, 1) := by decide +kernel
theorem dX10_layOut_44 : decode cX10_layOut 44 = .ok (.getfield 54, 3) := by decide +kernel
theorem dX10_layOut_47 : decode cX10_layOut 47 = .ok (.aload_n 0, 1) := by decide +kernel
theorem dX10_layOut_48 : decode cX10_layOut 48 = .ok (.getfield 40, 3) := by decide +kernel
theorem dX10_layOut_51 : decode cX10_layOut 51 = .ok (.aload_n 0, 1) := by decide +kernel
theorem dX10_layOut_52 : decode cX10_layOut 52 = .ok (.getfield 47, 3) := by decide +kernel
theorem dX10_layOut_55 : decode cX10_layOut 55 = .ok (.aload_n 0, 1) := by decide +kernel
theorem dX10_layOut_56 : decode cX10_layOut 56 = .ok (.getfield 33, 3) := by decide +kernel
theorem dX10_layOut_59 : decode cX10_layOut 59 = .ok (.invokevirtual 314, 3) := by decide +kernel
theorem dX10_layOut_62 : decode cX10_layOut 62 = .ok (.aload_n 0, 1) := by decide +kernel
theorem dX10_layOut_63 : decode cX10_layOut 63 = .ok (.getfield 54, 3) := by decide +kernel
theorem dX10_layOut_66 : decode cX10_layOut 66 = .ok (.aload_n 0, 1) := by decide +kernel
theorem dX10_layOut_67 : decode cX10_layOut 67 = .ok (.getfield 40, 3) := by decide +kernel
theorem dX10_layOut_70 : decode cX10_layOut 70 = .ok (.aload_n 0, 1) := by decide +kernel
theorem dX10_layOut_71 : decode cX10_layOut 71 = .ok (.getfield 72, 3) := by decide +kernel
theorem dX10_layOut_74 : decode cX10_layOut 74 = .ok (.invokevirtual 318, 3) := by decide +kernel
theorem dX10_layOut_77 : decode cX10_layOut 77 = .ok (.return_, 1) := by decide +kernel
theorem dX10_noteProperty_0 : decode cX10_noteProperty 0 = .ok (.aload_n 0, 1) := by decide +kernel
theorem dX10_noteProperty_1 : decode cX10_noteProperty 1 = .ok (.getfield 12, 3) := by decide +kernel
theorem dX10_noteProperty_4 : decode cX10_noteProperty 4 = .ok (.iload_n 1, 1) := by decide +kernel
theorem dX10_noteProperty_5 : decode cX10_noteProperty 5 = .ok (.invokevirtual 322, 3) := by decide +kernel
theorem dX10_noteProperty_8 : decode cX10_noteProperty 8 = .ok (.istore_n 3, 1) := by decide +kernel
theorem dX10_noteProperty_9 : decode cX10_noteProperty 9 = .ok (.iload_n 2, 1) := by decide +kernel
theorem dX10_noteProperty_10 : decode cX10_noteProperty 10 = .ok (.tableswitch 158 0 7 #[46, 55, 76, 85, 103, 112, 121, 149], 46) := by decide +kernel
theorem dX10_noteProperty_56 : decode cX10_noteProperty 56 = .ok (.aload_n 0, 1) := by decide +kernel
theorem dX10_noteProperty_57 : decode cX10_noteProperty 57 = .ok (.getfield 12, 3) := by decide +kernel
theorem dX10_noteProperty_60 : decode cX10_noteProperty 60 = .ok (.iload_n 1, 1) := by decide +kernel
theorem dX10_noteProperty_61 : decode cX10_noteProperty 61 = .ok (.invokevirtual 325, 3) := by decide +kernel
theorem dX10_noteProperty_64 : decode cX10_noteProperty 64 = .ok (.ireturn, 1) := by decide +kernel
theorem dX10_noteProperty_65 : decode cX10_noteProperty 65 = .ok (.aload_n 0, 1) := by decide +kernel
theorem dX10_noteProperty_66 : decode cX10_noteProperty 66 = .ok (.getfield 40, 3) := by decide +kernel
theorem dX10_noteProperty_69 : decode cX10_noteProperty 69 = .ok (.iload_n 1, 1) := by decide +kernel
theorem dX10_noteProperty_70 : decode cX10_noteProperty 70 = .ok (.invokevirtual 328, 3) := by decide +kernel
theorem dX10_noteProperty_73 : decode cX10_noteProperty 73 = .ok (.iconst (-1), 1) := by decide +kernel
theorem dX10_noteProperty_74 : decode cX10_noteProperty 74 = .ok (.if_icmp .ne 7, 3) := by decide +kernel
theorem dX10_noteProperty_77 : decode cX10_noteProperty 77 = .ok (.iconst 1, 1) := by decide +kernel
theorem dX10_noteProperty_78 : decode cX10_noteProperty 78 = .ok (.goto 4, 3) := by decide +kernel
theorem dX10_noteProperty_81 : decode cX10_noteProperty 81 = .ok (.iconst 0, 1) := by decide +kernel
theorem dX10_noteProperty_82 : decode cX10_noteProperty 82 = .ok (.invokestatic 331, 3) := by decide +kernel
theorem dX10_noteProperty_85 : decode cX10_noteProperty 85 = .ok (.ireturn, 1) := by decide +kernel
theorem dX10_noteProperty_86 : decode cX10_noteProperty 86 = .ok (.aload_n 0, 1) := by decide +kernel
theorem dX10_noteProperty_87 : decode cX10_noteProperty 87 = .ok (.getfield 40, 3) := by decide +kernel
theorem dX10_noteProperty_90 : decode cX10_noteProperty 90 = .ok (.iload_n 1, 1) := by decide +kernel
theorem dX10_noteProperty_91 : decode cX10_noteProperty 91 = .ok (.invokevirtual 335, 3) := by decide +kernel
theorem dX10_noteProperty_94 : decode cX10_noteProperty 94 = .ok (.ireturn, 1) := by decide +kernel
theorem dX10_noteProperty_95 : decode cX10_noteProperty 95 = .ok (.iload_n 1, 1) := by decide +kernel
theorem dX10_noteProperty_96 : decode cX10_noteProperty 96 = .ok (.aload_n 0, 1) := by decide +kernel
theorem dX10_noteProperty_97 : decode cX10_noteProperty 97 = .ok (.getfield 40, 3) := by decide +kernel
theorem dX10_noteProperty_100 : decode cX10_noteProperty 100 = .ok (.aload_n 0, 1) := by decide +kernel
theorem dX10_noteProperty_101 : decode cX10_noteProperty 101 = .ok (.getfield 40, 3) := by decide +kernel
theorem dX10_noteProperty_104 : decode cX10_noteProperty 104 = .ok (.iload_n 1, 1) := by decide +kernel
theorem dX10_noteProperty_105 : decode cX10_noteProperty 105 = .ok (.invokevirtual 335, 3) := by decide +kernel
theorem dX10_noteProperty_108 : decode cX10_noteProperty 108 = .ok (.invokevirtual 338, 3) := by decide +kernel
theorem dX10_noteProperty_111 : decode cX10_noteProperty 111 = .ok (.isub, 1) := by decide +kernel
theorem dX10_noteProperty_112 : decode cX10_noteProperty 112 = .ok (.ireturn, 1) := by decide +kernel
theorem dX10_noteProperty_113 : decode cX10_noteProperty 113 = .ok (.aload_n 0, 1) := by decide +kernel
theorem dX10_noteProperty_114 : decode cX10_noteProperty 114 = .ok (.getfield 19, 3) := by decide +kernel
theorem dX10_noteProperty_117 : decode cX10_noteProperty 117 = .ok (.iload_n 3, 1) := by decide +kernel
theorem dX10_noteProperty_118 : decode cX10_noteProperty 118 = .ok (.invokevirtual 341, 3) := by decide +kernel
theorem dX10_noteProperty_121 : decode cX10_noteProperty 121 = .ok (.ireturn, 1) := by decide +kernel
theorem dX10_noteProperty_122 : decode cX10_noteProperty 122 = .ok (.aload_n 0, 1) := by decide +kernel
theorem dX10_noteProperty_123 : decode cX10_noteProperty 123 = .ok (.getfield 19, 3) := by decide +kernel
theorem dX10_noteProperty_126 : decode cX10_noteProperty 126 = .ok (.iload_n 3, 1) := by decide +kernel
theorem dX10_noteProperty_127 : decode cX10_noteProperty 127 = .ok (.invokevirtual 343, 3) := by decide +kernel
theorem dX10_noteProperty_130 : decode cX10_noteProperty 130 = .ok (.ireturn, 1) := by decide +kernel
theorem dX10_noteProperty_131 : decode cX10_noteProperty 131 = .ok (.aload_n 0, 1) := by decide +kernel
theorem dX10_noteProperty_132 : decode cX10_noteProperty 132 = .ok (.getfield 12, 3) := by decide +kernel
theorem dX10_noteProperty_135 : decode cX10_noteProperty 135 = .ok (.iload_n 1, 1) := by decide +kernel
theorem dX10_noteProperty_136 : decode cX10_noteProperty 136 = .ok (.invokevirtual 325, 3) := by decide +kernel
theorem dX10_noteProperty_139 : decode cX10_noteProperty 139 = .ok (.aload_n 0, 1) := by decide +kernel
theorem dX10_noteProperty_140 : decode cX10_noteProperty 140 = .ok (.getfield 19, 3) := by decide +kernel
theorem dX10_noteProperty_143 : decode cX10_noteProperty 143 = .ok (.iload_n 3, 1) := by decide +kernel
theorem dX10_noteProperty_144 : decode cX10_noteProperty 144 = .ok (.invokevirtual 346, 3) := by decide +kernel
theorem dX10_noteProperty_147 : decode cX10_noteProperty 147 = .ok (.if_icmp .le 7, 3) := by decide +kernel
theorem dX10_noteProperty_150 : decode cX10_noteProperty 150 = .ok (.iconst 1, 1) := by decide +kernel
theorem dX10_noteProperty_151 : decode cX10_noteProperty 151 = .ok (.goto 4, 3) := by decide +kernel
theorem dX10_noteProperty_154 : decode cX10_noteProperty 154 = .ok (.iconst 0, 1) := by decide +kernel
theorem dX10_noteProperty_155 : decode cX10_noteProperty 155 = .ok (.invokestatic 331, 3) := by decide +kernel
theorem dX10_noteProperty_158 : decode cX10_noteProperty 158 = .ok (.ireturn, 1) := by decide +kernel
theorem dX10_noteProperty_159 : decode cX10_noteProperty 159 = .ok (.aload_n 0, 1) := by decide +kernel
theorem dX10_noteProperty_160 : decode cX10_noteProperty 160 = .ok (.getfield 54, 3) := by decide +kernel
theorem dX10_noteProperty_163 : decode cX10_noteProperty 163 = .ok (.iload_n 1, 1) := by decide +kernel
theorem dX10_noteProperty_164 : decode cX10_noteProperty 164 = .ok (.invokevirtual 349, 3) := by decide +kernel
theorem dX10_noteProperty_167 : decode cX10_noteProperty 167 = .ok (.ireturn, 1) := by decide +kernel
theorem dX10_noteProperty_168 : decode cX10_noteProperty 168 = .ok (.aload_n 0, 1) := by decide +kernel
theorem dX10_noteProperty_169 : decode cX10_noteProperty 169 = .ok (.getfield 12, 3) := by decide +kernel
theorem dX10_noteProperty_172 : decode cX10_noteProperty 172 = .ok (.iload_n 1, 1) := by decide +kernel
theorem dX10_noteProperty_173 : decode cX10_noteProperty 173 = .ok (.invokevirtual 352, 3) := by decide +kernel
theorem dX10_noteProperty_176 : decode cX10_noteProperty 176 = .ok (.ireturn, 1) := by decide +kernel
theorem dX10_partProperty_0 : decode cX10_partProperty 0 = .ok (.aload_n 0, 1) := by decide +kernel
theorem dX10_partProperty_1 : decode cX10_partProperty 1 = .ok (.getfield 12, 3) := by decide +kernel
theorem dX10_partProperty_4 : decode cX10_partProperty 4 = .ok (.iload_n 1, 1) := by decide +kernel
theorem dX10_partProperty_5 : decode cX10_partProperty 5 = .ok (.iload_n 2, 1) := by decide +kernel
theorem dX10_partProperty_6 : decode cX10_partProperty 6 = .ok (.invokevirtual 121, 3) := by decide +kernel
theorem dX10_partProperty_9 : decode cX10_partProperty 9 = .ok (.istore 4, 2) := by decide +kernel
theorem dX10_partProperty_11 : decode cX10_partProperty 11 = .ok (.aload_n 0, 1) := by decide +kernel
theorem dX10_partProperty_12 : decode cX10_partProperty 12 = .ok (.getfield 12, 3) := by decide +kernel
theorem dX10_partProperty_15 : decode cX10_partProperty 15 = .ok (.getfield 163, 3) := by decide +kernel
theorem dX10_partProperty_18 : decode cX10_partProperty 18 = .ok (.iload 4, 2) := by decide +kernel
theorem dX10_partProperty_20 : decode cX10_partProperty 20 = .ok (.invokestatic 355, 3) := by decide +kernel
theorem dX10_partProperty_23 : decode cX10_partProperty 23 = .ok (.istore 5, 2) := by decide +kernel
theorem dX10_partProperty_25 : decode cX10_partProperty 25 = .ok (.iload_n 3, 1) := by decide +kernel
theorem dX10_partProperty_26 : decode cX10_partProperty 26 = .ok (.tableswitch 91 0 4 #[34, 37, 50, 63, 69], 34) := by decide +kernel
theorem dX10_partProperty_60 : decode cX10_partProperty 60 = .ok (.iload 4, 2) := by decide +kernel
theorem dX10_partProperty_62 : decode cX10_partProperty 62 = .ok (.ireturn, 1) := by decide +kernel
theorem dX10_partProperty_63 : decode cX10_partProperty 63 = .ok (.aload_n 0, 1) := by decide +kernel
theorem dX10_partProperty_64 : decode cX10_partProperty 64 = .ok (.getfield 12, 3) := by decide +kernel
theorem dX10_partProperty_67 : decode cX10_partProperty 67 = .ok (.getfield 163, 3) := by decide +kernel
theorem dX10_partProperty_70 : decode cX10_partProperty 70 = .ok (.iload 4, 2) := by decide +kernel
theorem dX10_partProperty_72 : decode cX10_partProperty 72 = .ok (.invokestatic 360, 3) := by decide +kernel
theorem dX10_partProperty_75 : decode cX10_partProperty 75 = .ok (.ireturn, 1) := by decide +kernel
theorem dX10_partProperty_76 : decode cX10_partProperty 76 = .ok (.aload_n 0, 1) := by decide +kernel
theorem dX10_partProperty_77 : decode cX10_partProperty 77 = .ok (.getfield 12, 3) := by decide +kernel
theorem dX10_partProperty_80 : decode cX10_partProperty 80 = .ok (.getfield 163, 3) := by decide +kernel
theorem dX10_partProperty_83 : decode cX10_partProperty 83 = .ok (.iload 4, 2) := by decide +kernel
theorem dX10_partProperty_85 : decode cX10_partProperty 85 = .ok (.invokestatic 363, 3) := by decide +kernel
theorem dX10_partProperty_88 : decode cX10_partProperty 88 = .ok (.ireturn, 1) := by decide +kernel
theorem dX10_partProperty_89 : decode cX10_partProperty 89 = .ok (.iload 5, 2) := by decide +kernel
theorem dX10_partProperty_91 : decode cX10_partProperty 91 = .ok (.invokestatic 331, 3) := by decide +kernel
theorem dX10_partProperty_94 : decode cX10_partProperty 94 = .ok (.ireturn, 1) := by decide +kernel
theorem dX10_partProperty_95 : decode cX10_partProperty 95 = .ok (.iload 5, 2) := by decide +kernel
theorem dX10_partProperty_97 : decode cX10_partProperty 97 = .ok (.ifCond .eq 7, 3) := by decide +kernel
theorem dX10_partProperty_100 : decode cX10_partProperty 100 = .ok (.iconst (-1), 1) := by decide +kernel
theorem dX10_partProperty_101 : decode cX10_partProperty 101 = .ok (.goto 15, 3) := by decide +kernel
theorem dX10_partProperty_104 : decode cX10_partProperty 104 = .ok (.aload_n 0, 1) := by decide +kernel
theorem dX10_partProperty_105 : decode cX10_partProperty 105 = .ok (.getfield 12, 3) := by decide +kernel
theorem dX10_partProperty_108 : decode cX10_partProperty 108 = .ok (.getfield 163, 3) := by decide +kernel
theorem dX10_partProperty_111 : decode cX10_partProperty 111 = .ok (.iload 4, 2) := by decide +kernel
theorem dX10_partProperty_113 : decode cX10_partProperty 113 = .ok (.invokestatic 366, 3) := by decide +kernel
theorem dX10_partProperty_116 : decode cX10_partProperty 116 = .ok (.ireturn, 1) := by decide +kernel
theorem dX10_partProperty_117 : decode cX10_partProperty 117 = .ok (.aload_n 0, 1) := by decide +kernel
theorem dX10_partProperty_118 : decode cX10_partProperty 118 = .ok (.getfield 12, 3) := by decide +kernel
theorem dX10_partProperty_121 : decode cX10_partProperty 121 = .ok (.getfield 163, 3) := by decide +kernel
theorem dX10_partProperty_124 : decode cX10_partProperty 124 = .ok (.iload 4, 2) := by decide +kernel
theorem dX10_partProperty_126 : decode cX10_partProperty 126 = .ok (.invokestatic 363, 3) := by decide +kernel
theorem dX10_partProperty_129 : decode cX10_partProperty 129 = .ok (.iload_n 2, 1) := by decide +kernel
theorem dX10_partProperty_130 : decode cX10_partProperty 130 = .ok (.iconst 2, 1) := by decide +kernel
theorem dX10_partProperty_131 : decode cX10_partProperty 131 = .ok (.idiv, 1) := by decide +kernel
theorem dX10_partProperty_132 : decode cX10_partProperty 132 = .ok (.invokestatic 369, 3) := by decide +kernel
theorem dX10_partProperty_135 : decode cX10_partProperty 135 = .ok (.ireturn, 1) := by decide +kernel
theorem dX10_headsOf_0 : decode cX10_headsOf 0 = .ok (.aload_n 0, 1) := by decide +kernel
theorem dX10_headsOf_1 : decode cX10_headsOf 1 = .ok (.getfield 12, 3) := by decide +kernel
theorem dX10_headsOf_4 : decode cX10_headsOf 4 = .ok (.iload_n 1, 1) := by decide +kernel
theorem dX10_headsOf_5 : decode cX10_headsOf 5 = .ok (.iconst 2, 1) := by decide +kernel
theorem dX10_headsOf_6 : decode cX10_headsOf 6 = .ok (.iload_n 2, 1) := by decide +kernel
theorem dX10_headsOf_7 : decode cX10_headsOf 7 = .ok (.imul, 1) := by decide +kernel
theorem dX10_headsOf_8 : decode cX10_headsOf 8 = .ok (.invokevirtual 121, 3) := by decide +kernel
theorem dX10_headsOf_11 : decode cX10_headsOf 11 = .ok (.istore_n 3, 1) := by decide +kernel
theorem dX10_headsOf_12 : decode cX10_headsOf 12 = .ok (.aload_n 0, 1) := by decide +kernel
theorem dX10_headsOf_13 : decode cX10_headsOf 13 = .ok (.getfield 12, 3) := by decide +kernel
theorem dX10_headsOf_16 : decode cX10_headsOf 16 = .ok (.iload_n 1, 1) := by decide +kernel
theorem dX10_headsOf_17 : decode cX10_headsOf 17 = .ok (.iconst 2, 1) := by decide +kernel
theorem dX10_headsOf_18 : decode cX10_headsOf 18 = .ok (.iload_n 2, 1) := by decide +kernel
theorem dX10_headsOf_19 : decode cX10_headsOf 19 = .ok (.imul, 1) := by decide +kernel
theorem dX10_headsOf_20 : decode cX10_headsOf 20 = .ok (.iconst 1, 1) := by decide +kernel
theorem dX10_headsOf_21 : decode cX10_headsOf 21 = .ok (.iadd, 1) := by decide +kernel
theorem dX10_headsOf_22 : decode cX10_headsOf 22 = .ok (.invokevirtual 121, 3) := by decide +kernel
theorem dX10_headsOf_25 : decode cX10_headsOf 25 = .ok (.istore 4, 2) := by decide +kernel
theorem dX10_headsOf_27 : decode cX10_headsOf 27 = .ok (.aload_n 0, 1) := by decide +kernel
theorem dX10_headsOf_28 : decode cX10_headsOf 28 = .ok (.getfield 12, 3) := by decide +kernel
theorem dX10_headsOf_31 : decode cX10_headsOf 31 = .ok (.getfield 163, 3) := by decide +kernel
theorem dX10_headsOf_34 : decode cX10_headsOf 34 = .ok (.iload_n 3, 1) := by decide +kernel
theorem dX10_headsOf_35 : decode cX10_headsOf 35 = .ok (.invokestatic 363, 3) := by decide +kernel
theorem dX10_headsOf_38 : decode cX10_headsOf 38 = .ok (.aload_n 0, 1) := by decide +kernel
theorem dX10_headsOf_39 : decode cX10_headsOf 39 = .ok (.getfield 12, 3) := by decide +kernel
theorem dX10_headsOf_42 : decode cX10_headsOf 42 = .ok (.getfield 163, 3) := by decide +kernel
theorem dX10_headsOf_45 : decode cX10_headsOf 45 = .ok (.iload 4, 2) := by decide +kernel
theorem dX10_headsOf_47 : decode cX10_headsOf 47 = .ok (.invokestatic 363, 3) := by decide +kernel
theorem dX10_headsOf_50 : decode cX10_headsOf 50 = .ok (.isub, 1) := by decide +kernel
theorem dX10_headsOf_51 : decode cX10_headsOf 51 = .ok (.istore 5, 2) := by decide +kernel
theorem dX10_headsOf_53 : decode cX10_headsOf 53 = .ok (.iload_n 3, 1) := by decide +kernel
theorem dX10_headsOf_54 : decode cX10_headsOf 54 = .ok (.iload 4, 2) := by decide +kernel
theorem dX10_headsOf_56 : decode cX10_headsOf 56 = .ok (.if_icmp .ne 7, 3) := by decide +kernel
theorem dX10_headsOf_59 : decode cX10_headsOf 59 = .ok (.iconst 1, 1) := by decide +kernel
theorem dX10_headsOf_60 : decode cX10_headsOf 60 = .ok (.goto 4, 3) := by decide +kernel
theorem dX10_headsOf_63 : decode cX10_headsOf 63 = .ok (.iconst 0, 1) := by decide +kernel
theorem dX10_headsOf_64 : decode cX10_headsOf 64 = .ok (.istore 6, 2) := by decide +kernel
theorem dX10_headsOf_66 : decode cX10_headsOf 66 = .ok (.iload 6, 2) := by decide +kernel
theorem dX10_headsOf_68 : decode cX10_headsOf 68 = .ok (.ifCond .ne 16, 3) := by decide +kernel
theorem dX10_headsOf_71 : decode cX10_headsOf 71 = .ok (.iload 5, 2) := by decide +kernel
theorem dX10_headsOf_73 : decode cX10_headsOf 73 = .ok (.invokestatic 372, 3) := by decide +kernel
theorem dX10_headsOf_76 : decode cX10_headsOf 76 = .ok (.iconst 1, 1) := by decide +kernel
theorem dX10_headsOf_77 : decode cX10_headsOf 77 = .ok (.if_icmp .gt 7, 3) := by decide +kernel
theorem dX10_headsOf_80 : decode cX10_headsOf 80 = .ok (.iconst 1, 1) := by decide +kernel
theorem dX10_headsOf_81 : decode cX10_headsOf 81 = .ok (.goto 4, 3) := by decide +kernel
theorem dX10_headsOf_84 : decode cX10_headsOf 84 = .ok (.iconst 0, 1) := by decide +kernel
theorem dX10_headsOf_85 : decode cX10_headsOf 85 = .ok (.istore 7, 2) := by decide +kernel
theorem dX10_headsOf_87 : decode cX10_headsOf 87 = .ok (.iload 6, 2) := by decide +kernel
theorem dX10_headsOf_89 : decode cX10_headsOf 89 = .ok (.invokestatic 331, 3) := by decide +kernel
theorem dX10_headsOf_92 : decode cX10_headsOf 92 = .ok (.iconst 2, 1) := by decide +kernel
theorem dX10_headsOf_93 : decode cX10_headsOf 93 = .ok (.iload 7, 2) := by decide +kernel
theorem dX10_headsOf_95 : decode cX10_headsOf 95 = .ok (.invokestatic 331, 3) := by decide +kernel
theorem dX10_headsOf_98 : decode cX10_headsOf 98 = .ok (.imul, 1) := by decide +kernel
theorem dX10_headsOf_99 : decode cX10_headsOf 99 = .ok (.iadd, 1) := by decide +kernel
theorem dX10_headsOf_100 : decode cX10_headsOf 100 = .ok (.iconst 4, 1) := by decide +kernel
theorem dX10_headsOf_101 : decode cX10_headsOf 101 = .ok (.iload 4, 2) := by decide +kernel
theorem dX10_headsOf_103 : decode cX10_headsOf 103 = .ok (.iload_n 3, 1) := by decide +kernel
theorem dX10_headsOf_104 : decode cX10_headsOf 104 = .ok (.if_icmp .le 7, 3) := by decide +kernel
theorem dX10_headsOf_107 : decode cX10_headsOf 107 = .ok (.iconst 1, 1) := by decide +kernel
theorem dX10_headsOf_108 : decode cX10_headsOf 108 = .ok (.goto 4, 3) := by decide +kernel
theorem dX10_headsOf_111 : decode cX10_headsOf 111 = .ok (.iconst 0, 1) := by decide +kernel
theorem dX10_headsOf_112 : decode cX10_headsOf 112 = .ok (.invokestatic 331, 3) := by decide +kernel
theorem dX10_headsOf_115 : decode cX10_headsOf 115 = .ok (.imul, 1) := by decide +kernel
theorem dX10_headsOf_116 : decode cX10_headsOf 116 = .ok (.iadd, 1) := by decide +kernel
theorem dX10_headsOf_117 : decode cX10_headsOf 117 = .ok (.ireturn, 1) := by decide +kernel
theorem dX10_phraseProperty_0 : decode cX10_phraseProperty 0 = .ok (.iload_n 2, 1) := by decide +kernel
theorem dX10_phraseProperty_1 : decode cX10_phraseProperty 1 = .ok (.tableswitch 80 0 4 #[35, 44, 53, 62, 71], 35) := by decide +kernel
theorem dX10_phraseProperty_36 : decode cX10_phraseProperty 36 = .ok (.aload_n 0, 1) := by decide +kernel
theorem dX10_phraseProperty_37 : decode cX10_phraseProperty 37 = .ok (.getfield 40, 3) := by decide +kernel
theorem dX10_phraseProperty_40 : decode cX10_phraseProperty 40 = .ok (.iload_n 1, 1) := by decide +kernel
theorem dX10_phraseProperty_41 : decode cX10_phraseProperty 41 = .ok (.invokevirtual 338, 3) := by decide +kernel
theorem dX10_phraseProperty_44 : decode cX10_phraseProperty 44 = .ok (.ireturn, 1) := by decide +kernel
theorem dX10_phraseProperty_45 : decode cX10_phraseProperty 45 = .ok (.aload_n 0, 1) := by decide +kernel
theorem dX10_phraseProperty_46 : decode cX10_phraseProperty 46 = .ok (.getfield 40, 3) := by decide +kernel
theorem dX10_phraseProperty_49 : decode cX10_phraseProperty 49 = .ok (.iload_n 1, 1) := by decide +kernel
theorem dX10_phraseProperty_50 : decode cX10_phraseProperty 50 = .ok (.invokevirtual 377, 3) := by decide +kernel
theorem dX10_phraseProperty_53 : decode cX10_phraseProperty 53 = .ok (.ireturn, 1) := by decide +kernel
theorem dX10_phraseProperty_54 : decode cX10_phraseProperty 54 = .ok (.aload_n 0, 1) := by decide +kernel
theorem dX10_phraseProperty_55 : decode cX10_phraseProperty 55 = .ok (.getfield 40, 3) := by decide +kernel
theorem dX10_phraseProperty_58 : decode cX10_phraseProperty 58 = .ok (.iload_n 1, 1) := by decide +kernel
theorem dX10_phraseProperty_59 : decode cX10_phraseProperty 59 = .ok (.invokevirtual 380, 3) := by decide +kernel
theorem dX10_phraseProperty_62 : decode cX10_phraseProperty 62 = .ok (.ireturn, 1) := by decide +kernel
theorem dX10_phraseProperty_63 : decode cX10_phraseProperty 63 = .ok (.aload_n 0, 1) := by decide +kernel
theorem dX10_phraseProperty_64 : decode cX10_phraseProperty 64 = .ok (.getfield 54, 3) := by decide +kernel
theorem dX10_phraseProperty_67 : decode cX10_phraseProperty 67 = .ok (.iload_n 1, 1) := by decide +kernel
theorem dX10_phraseProperty_68 : decode cX10_phraseProperty 68 = .ok (.invokevirtual 382, 3) := by decide +kernel
theorem dX10_phraseProperty_71 : decode cX10_phraseProperty 71 = .ok (.ireturn, 1) := by decide +kernel
theorem dX10_phraseProperty_72 : decode cX10_phraseProperty 72 = .ok (.aload_n 0, 1) := by decide +kernel
theorem dX10_phraseProperty_73 : decode cX10_phraseProperty 73 = .ok (.getfield 54, 3) := by decide +kernel
theorem dX10_phraseProperty_76 : decode cX10_phraseProperty 76 = .ok (.iload_n 1, 1) := by decide +kernel
theorem dX10_phraseProperty_77 : decode cX10_phraseProperty 77 = .ok (.invokevirtual 385, 3) := by decide +kernel
theorem dX10_phraseProperty_80 : decode cX10_phraseProperty 80 = .ok (.ireturn, 1) := by decide +kernel
theorem dX10_phraseProperty_81 : decode cX10_phraseProperty 81 = .ok (.aload_n 0, 1) := by decide +kernel
theorem dX10_phraseProperty_82 : decode cX10_phraseProperty 82 = .ok (.getfield 47, 3) := by decide +kernel
theorem dX10_phraseProperty_85 : decode cX10_phraseProperty 85 = .ok (.iload_n 1, 1) := by decide +kernel
theorem dX10_phraseProperty_86 : decode cX10_phraseProperty 86 = .ok (.invokevirtual 388, 3) := by decide +kernel
theorem dX10_phraseProperty_89 : decode cX10_phraseProperty 89 = .ok (.ireturn, 1) := by decide +kernel
theorem dX10_syllablesSung_0 : decode cX10_syllablesSung 0 = .ok (.aload_n 0, 1) := by decide +kernel
theorem dX10_syllablesSung_1 : decode cX10_syllablesSung 1 = .ok (.getfield 40, 3) := by decide +kernel
theorem dX10_syllablesSung_4 : decode cX10_syllablesSung 4 = .ok (.aload_n 0, 1) := by decide +kernel
theorem dX10_syllablesSung_5 : decode cX10_syllablesSung 5 = .ok (.getfield 47, 3) := by decide +kernel
theorem dX10_syllablesSung_8 : decode cX10_syllablesSung 8 = .ok (.iload_n 1, 1) := by decide +kernel
theorem dX10_syllablesSung_9 : decode cX10_syllablesSung 9 = .ok (.invokevirtual 224, 3) := by decide +kernel
theorem dX10_syllablesSung_12 : decode cX10_syllablesSung 12 = .ok (.invokevirtual 380, 3) := by decide +kernel
theorem dX10_syllablesSung_15 : decode cX10_syllablesSung 15 = .ok (.ireturn, 1) := by decide +kernel
theorem dX10_firstMisfit_0 : decode cX10_firstMisfit 0 = .ok (.iconst 0, 1) := by decide +kernel
theorem dX10_firstMisfit_1 : decode cX10_firstMisfit 1 = .ok (.istore_n 2, 1) := by decide +kernel
theorem dX10_firstMisfit_2 : decode cX10_firstMisfit 2 = .ok (.iload_n 2, 1) := by decide +kernel
theorem dX10_firstMisfit_3 : decode cX10_firstMisfit 3 = .ok (.bipush 24, 2) := by decide +kernel
theorem dX10_firstMisfit_5 : decode cX10_firstMisfit 5 = .ok (.if_icmp .ge 45, 3) := by decide +kernel
theorem dX10_firstMisfit_8 : decode cX10_firstMisfit 8 = .ok (.iload_n 2, 1) := by decide +kernel
theorem dX10_firstMisfit_9 : decode cX10_firstMisfit 9 = .ok (.aload_n 0, 1) := by decide +kernel
theorem dX10_firstMisfit_10 : decode cX10_firstMisfit 10 = .ok (.getfield 47, 3) := by decide +kernel
theorem dX10_firstMisfit_13 : decode cX10_firstMisfit 13 = .ok (.getfield 153, 3) := by decide +kernel
theorem dX10_firstMisfit_16 : decode cX10_firstMisfit 16 = .ok (.if_icmp .ge 11, 3) := by decide +kernel
theorem dX10_firstMisfit_19 : decode cX10_firstMisfit 19 = .ok (.aload_n 0, 1) := by decide +kernel
theorem dX10_firstMisfit_20 : decode cX10_firstMisfit 20 = .ok (.iload_n 2, 1) := by decide +kernel
theorem dX10_firstMisfit_21 : decode cX10_firstMisfit 21 = .ok (.invokevirtual 391, 3) := by decide +kernel
theorem dX10_firstMisfit_24 : decode cX10_firstMisfit 24 = .ok (.goto 4, 3) := by decide +kernel
theorem dX10_firstMisfit_27 : decode cX10_firstMisfit 27 = .ok (.iconst 0, 1) := by decide +kernel
theorem dX10_firstMisfit_28 : decode cX10_firstMisfit 28 = .ok (.istore_n 3, 1) := by decide +kernel
theorem dX10_firstMisfit_29 : decode cX10_firstMisfit 29 = .ok (.aload_n 0, 1) := by decide +kernel
theorem dX10_firstMisfit_30 : decode cX10_firstMisfit 30 = .ok (.getfield 33, 3) := by decide +kernel
theorem dX10_firstMisfit_33 : decode cX10_firstMisfit 33 = .ok (.iload_n 1, 1) := by decide +kernel
theorem dX10_firstMisfit_34 : decode cX10_firstMisfit 34 = .ok (.iload_n 2, 1) := by decide +kernel
theorem dX10_firstMisfit_35 : decode cX10_firstMisfit 35 = .ok (.invokevirtual 194, 3) := by decide +kernel
theorem dX10_firstMisfit_38 : decode cX10_firstMisfit 38 = .ok (.iload_n 3, 1) := by decide +kernel
theorem dX10_firstMisfit_39 : decode cX10_firstMisfit 39 = .ok (.if_icmp .eq 5, 3) := by decide +kernel
theorem dX10_firstMisfit_42 : decode cX10_firstMisfit 42 = .ok (.iload_n 2, 1) := by decide +kernel
theorem dX10_firstMisfit_43 : decode cX10_firstMisfit 43 = .ok (.ireturn, 1) := by decide +kernel
theorem dX10_firstMisfit_44 : decode cX10_firstMisfit 44 = .ok (.iinc 2 1, 3) := by decide +kernel
theorem dX10_firstMisfit_47 : decode cX10_firstMisfit 47 = .ok (.goto (-45), 3) := by decide +kernel
theorem dX10_firstMisfit_50 : decode cX10_firstMisfit 50 = .ok (.aload_n 0, 1) := by decide +kernel
theorem dX10_firstMisfit_51 : decode cX10_firstMisfit 51 = .ok (.getfield 47, 3) := by decide +kernel
theorem dX10_firstMisfit_54 : decode cX10_firstMisfit 54 = .ok (.getfield 153, 3) := by decide +kernel
theorem dX10_firstMisfit_57 : decode cX10_firstMisfit 57 = .ok (.bipush 24, 2) := by decide +kernel
theorem dX10_firstMisfit_59 : decode cX10_firstMisfit 59 = .ok (.if_icmp .le 8, 3) := by decide +kernel
theorem dX10_firstMisfit_62 : decode cX10_firstMisfit 62 = .ok (.bipush 24, 2) := by decide +kernel
theorem dX10_firstMisfit_64 : decode cX10_firstMisfit 64 = .ok (.goto 4, 3) := by decide +kernel
theorem dX10_firstMisfit_67 : decode cX10_firstMisfit 67 = .ok (.iconst (-1), 1) := by decide +kernel
theorem dX10_firstMisfit_68 : decode cX10_firstMisfit 68 = .ok (.ireturn, 1) := by decide +kernel
theorem dX10_lineProperty_0 : decode cX10_lineProperty 0 = .ok (.iload_n 3, 1) := by decide +kernel
theorem dX10_lineProperty_1 : decode cX10_lineProperty 1 = .ok (.lookupswitch 47 #[(0, 27), (1, 37)], 27) := by decide +kernel
theorem dX10_lineProperty_28 : decode cX10_lineProperty 28 = .ok (.aload_n 0, 1) := by decide +kernel
theorem dX10_lineProperty_29 : decode cX10_lineProperty 29 = .ok (.getfield 33, 3) := by decide +kernel
theorem dX10_lineProperty_32 : decode cX10_lineProperty 32 = .ok (.iload_n 1, 1) := by decide +kernel
theorem dX10_lineProperty_33 : decode cX10_lineProperty 33 = .ok (.iload_n 2, 1) := by decide +kernel
theorem dX10_lineProperty_34 : decode cX10_lineProperty 34 = .ok (.invokevirtual 194, 3) := by decide +kernel
theorem dX10_lineProperty_37 : decode cX10_lineProperty 37 = .ok (.ireturn, 1) := by decide +kernel
theorem dX10_lineProperty_38 : decode cX10_lineProperty 38 = .ok (.aload_n 0, 1) := by decide +kernel
theorem dX10_lineProperty_39 : decode cX10_lineProperty 39 = .ok (.getfield 33, 3) := by decide +kernel
theorem dX10_lineProperty_42 : decode cX10_lineProperty 42 = .ok (.iload_n 1, 1) := by decide +kernel
theorem dX10_lineProperty_43 : decode cX10_lineProperty 43 = .ok (.iload_n 2, 1) := by decide +kernel
theorem dX10_lineProperty_44 : decode cX10_lineProperty 44 = .ok (.invokevirtual 394, 3) := by decide +kernel
theorem dX10_lineProperty_47 : decode cX10_lineProperty 47 = .ok (.ireturn, 1) := by decide +kernel
theorem dX10_lineProperty_48 : decode cX10_lineProperty 48 = .ok (.aload_n 0, 1) := by decide +kernel
theorem dX10_lineProperty_49 : decode cX10_lineProperty 49 = .ok (.getfield 33, 3) := by decide +kernel
theorem dX10_lineProperty_52 : decode cX10_lineProperty 52 = .ok (.iload_n 1, 1) := by decide +kernel
theorem dX10_lineProperty_53 : decode cX10_lineProperty 53 = .ok (.iload_n 2, 1) := by decide +kernel
theorem dX10_lineProperty_54 : decode cX10_lineProperty 54 = .ok (.invokevirtual 397, 3) := by decide +kernel
theorem dX10_lineProperty_57 : decode cX10_lineProperty 57 = .ok (.ireturn, 1) := by decide +kernel
theorem dX10_belowProperty_0 : decode cX10_belowProperty 0 = .ok (.aload_n 0, 1) := by decide +kernel
theorem dX10_belowProperty_1 : decode cX10_belowProperty 1 = .ok (.getfield 40, 3) := by decide +kernel
theorem dX10_belowProperty_4 : decode cX10_belowProperty 4 = .ok (.aload_n 0, 1) := by decide +kernel
theorem dX10_belowProperty_5 : decode cX10_belowProperty 5 = .ok (.getfield 47, 3) := by decide +kernel
theorem dX10_belowProperty_8 : decode cX10_belowProperty 8 = .ok (.iload_n 2, 1) := by decide +kernel
theorem dX10_belowProperty_9 : decode cX10_belowProperty 9 = .ok (.invokevirtual 224, 3) := by decide +kernel
theorem dX10_belowProperty_12 : decode cX10_belowProperty 12 = .ok (.invokevirtual 338, 3) := by decide +kernel
theorem dX10_belowProperty_15 : decode cX10_belowProperty 15 = .ok (.iload_n 3, 1) := by decide +kernel
theorem dX10_belowProperty_16 : decode cX10_belowProperty 16 = .ok (.iadd, 1) := by decide +kernel
theorem dX10_belowProperty_17 : decode cX10_belowProperty 17 = .ok (.istore 5, 2) := by decide +kernel
theorem dX10_belowProperty_19 : decode cX10_belowProperty 19 = .ok (.aload_n 0, 1) := by decide +kernel
theorem dX10_belowProperty_20 : decode cX10_belowProperty 20 = .ok (.getfield 40, 3) := by decide +kernel
theorem dX10_belowProperty_23 : decode cX10_belowProperty 23 = .ok (.iload 5, 2) := by decide +kernel
theorem dX10_belowProperty_25 : decode cX10_belowProperty 25 = .ok (.invokevirtual 328, 3) := by decide +kernel
theorem dX10_belowProperty_28 : decode cX10_belowProperty 28 = .ok (.istore 6, 2) := by decide +kernel
theorem dX10_belowProperty_30 : decode cX10_belowProperty 30 = .ok (.aload_n 0, 1) := by decide +kernel
theorem dX10_belowProperty_31 : decode cX10_belowProperty 31 = .ok (.getfield 33, 3) := by decide +kernel
theorem dX10_belowProperty_34 : decode cX10_belowProperty 34 = .ok (.iload_n 1, 1) := by decide +kernel
theorem dX10_belowProperty_35 : decode cX10_belowProperty 35 = .ok (.iload_n 2, 1) := by decide +kernel
theorem dX10_belowProperty_36 : decode cX10_belowProperty 36 = .ok (.iload 6, 2) := by decide +kernel
theorem dX10_belowProperty_38 : decode cX10_belowProperty 38 = .ok (.invokevirtual 400, 3) := by decide +kernel
theorem dX10_belowProperty_41 : decode cX10_belowProperty 41 = .ok (.ifCond .ne 5, 3) := by decide +kernel
theorem dX10_belowProperty_44 : decode cX10_belowProperty 44 = .ok (.iconst (-1), 1) := by decide +kernel
theorem dX10_belowProperty_45 : decode cX10_belowProperty 45 = .ok (.ireturn, 1) := by decide +kernel
theorem dX10_belowProperty_46 : decode cX10_belowProperty 46 = .ok (.iload 4, 2) := by decide +kernel
theorem dX10_belowProperty_48 : decode cX10_belowProperty 48 = .ok (.tableswitch 55 0 2 #[28, 31, 43], 28) := by decide +kernel
theorem dX10_belowProperty_76 : decode cX10_belowProperty 76 = .ok (.iload 6, 2) := by decide +kernel
theorem dX10_belowProperty_78 : decode cX10_belowProperty 78 = .ok (.ireturn, 1) := by decide +kernel
theorem dX10_belowProperty_79 : decode cX10_belowProperty 79 = .ok (.aload_n 0, 1) := by decide +kernel
theorem dX10_belowProperty_80 : decode cX10_belowProperty 80 = .ok (.getfield 33, 3) := by decide +kernel
theorem dX10_belowProperty_83 : decode cX10_belowProperty 83 = .ok (.iload_n 1, 1) := by decide +kernel
theorem dX10_belowProperty_84 : decode cX10_belowProperty 84 = .ok (.iload_n 2, 1) := by decide +kernel
theorem dX10_belowProperty_85 : decode cX10_belowProperty 85 = .ok (.iload 6, 2) := by decide +kernel
theorem dX10_belowProperty_87 : decode cX10_belowProperty 87 = .ok (.invokevirtual 404, 3) := by decide +kernel
theorem dX10_belowProperty_90 : decode cX10_belowProperty 90 = .ok (.ireturn, 1) := by decide +kernel
theorem dX10_belowProperty_91 : decode cX10_belowProperty 91 = .ok (.aload_n 0, 1) := by decide +kernel
theorem dX10_belowProperty_92 : decode cX10_belowProperty 92 = .ok (.getfield 33, 3) := by decide +kernel
theorem dX10_belowProperty_95 : decode cX10_belowProperty 95 = .ok (.iload_n 1, 1) := by decide +kernel
theorem dX10_belowProperty_96 : decode cX10_belowProperty 96 = .ok (.iload_n 2, 1) := by decide +kernel
theorem dX10_belowProperty_97 : decode cX10_belowProperty 97 = .ok (.iload 6, 2) := by decide +kernel
theorem dX10_belowProperty_99 : decode cX10_belowProperty 99 = .ok (.invokevirtual 407, 3) := by decide +kernel
theorem dX10_belowProperty_102 : decode cX10_belowProperty 102 = .ok (.ireturn, 1) := by decide +kernel
theorem dX10_belowProperty_103 : decode cX10_belowProperty 103 = .ok (.aload_n 0, 1) := by decide +kernel
theorem dX10_belowProperty_104 : decode cX10_belowProperty 104 = .ok (.getfield 33, 3) := by decide +kernel
theorem dX10_belowProperty_107 : decode cX10_belowProperty 107 = .ok (.iload_n 1, 1) := by decide +kernel
theorem dX10_belowProperty_108 : decode cX10_belowProperty 108 = .ok (.iload_n 2, 1) := by decide +kernel
theorem dX10_belowProperty_109 : decode cX10_belowProperty 109 = .ok (.iload 6, 2) := by decide +kernel
theorem dX10_belowProperty_111 : decode cX10_belowProperty 111 = .ok (.invokevirtual 410, 3) := by decide +kernel
theorem dX10_belowProperty_114 : decode cX10_belowProperty 114 = .ok (.invokestatic 331, 3) := by decide +kernel
theorem dX10_belowProperty_117 : decode cX10_belowProperty 117 = .ok (.ireturn, 1) := by decide +kernel
theorem dX10_distanceOf_0 : decode cX10_distanceOf 0 = .ok (.aload_n 0, 1) := by decide +kernel
theorem dX10_distanceOf_1 : decode cX10_distanceOf 1 = .ok (.getfield 61, 3) := by decide +kernel
theorem dX10_distanceOf_4 : decode cX10_distanceOf 4 = .ok (.iload_n 1, 1) := by decide +kernel
theorem dX10_distanceOf_5 : decode cX10_distanceOf 5 = .ok (.invokevirtual 243, 3) := by decide +kernel
theorem dX10_distanceOf_8 : decode cX10_distanceOf 8 = .ok (.aload_n 0, 1) := by decide +kernel
theorem dX10_distanceOf_9 : decode cX10_distanceOf 9 = .ok (.getfield 47, 3) := by decide +kernel
theorem dX10_distanceOf_12 : decode cX10_distanceOf 12 = .ok (.getfield 153, 3) := by decide +kernel
theorem dX10_distanceOf_15 : decode cX10_distanceOf 15 = .ok (.if_icmp .eq 5, 3) := by decide +kernel
theorem dX10_distanceOf_18 : decode cX10_distanceOf 18 = .ok (.iconst (-1), 1) := by decide +kernel
theorem dX10_distanceOf_19 : decode cX10_distanceOf 19 = .ok (.ireturn, 1) := by decide +kernel
theorem dX10_distanceOf_20 : decode cX10_distanceOf 20 = .ok (.iconst 0, 1) := by decide +kernel
theorem dX10_distanceOf_21 : decode cX10_distanceOf 21 = .ok (.istore_n 2, 1) := by decide +kernel
theorem dX10_distanceOf_22 : decode cX10_distanceOf 22 = .ok (.iconst 0, 1) := by decide +kernel
theorem dX10_distanceOf_23 : decode cX10_distanceOf 23 = .ok (.istore_n 3, 1) := by decide +kernel
theorem dX10_distanceOf_24 : decode cX10_distanceOf 24 = .ok (.iload_n 3, 1) := by decide +kernel
theorem dX10_distanceOf_25 : decode cX10_distanceOf 25 = .ok (.aload_n 0, 1) := by decide +kernel
theorem dX10_distanceOf_26 : decode cX10_distanceOf 26 = .ok (.getfield 47, 3) := by decide +kernel
theorem dX10_distanceOf_29 : decode cX10_distanceOf 29 = .ok (.getfield 153, 3) := by decide +kernel
theorem dX10_distanceOf_32 : decode cX10_distanceOf 32 = .ok (.if_icmp .ge 30, 3) := by decide +kernel
theorem dX10_distanceOf_35 : decode cX10_distanceOf 35 = .ok (.iload_n 2, 1) := by decide +kernel
theorem dX10_distanceOf_36 : decode cX10_distanceOf 36 = .ok (.aload_n 0, 1) := by decide +kernel
theorem dX10_distanceOf_37 : decode cX10_distanceOf 37 = .ok (.getfield 61, 3) := by decide +kernel
theorem dX10_distanceOf_40 : decode cX10_distanceOf 40 = .ok (.iload_n 1, 1) := by decide +kernel
theorem dX10_distanceOf_41 : decode cX10_distanceOf 41 = .ok (.iload_n 3, 1) := by decide +kernel
theorem dX10_distanceOf_42 : decode cX10_distanceOf 42 = .ok (.invokevirtual 246, 3) := by decide +kernel
theorem dX10_distanceOf_45 : decode cX10_distanceOf 45 = .ok (.aload_n 0, 1) := by decide +kernel
theorem dX10_distanceOf_46 : decode cX10_distanceOf 46 = .ok (.iload_n 3, 1) := by decide +kernel
theorem dX10_distanceOf_47 : decode cX10_distanceOf 47 = .ok (.invokevirtual 391, 3) := by decide +kernel
theorem dX10_distanceOf_50 : decode cX10_distanceOf 50 = .ok (.isub, 1) := by decide +kernel
theorem dX10_distanceOf_51 : decode cX10_distanceOf 51 = .ok (.invokestatic 372, 3) := by decide +kernel
theorem dX10_distanceOf_54 : decode cX10_distanceOf 54 = .ok (.iadd, 1) := by decide +kernel
theorem dX10_distanceOf_55 : decode cX10_distanceOf 55 = .ok (.istore_n 2, 1) := by decide +kernel
theorem dX10_distanceOf_56 : decode cX10_distanceOf 56 = .ok (.iinc 3 1, 3) := by decide +kernel
theorem dX10_distanceOf_59 : decode cX10_distanceOf 59 = .ok (.goto (-35), 3) := by decide +kernel
theorem dX10_distanceOf_62 : decode cX10_distanceOf 62 = .ok (.iload_n 2, 1) := by decide +kernel
theorem dX10_distanceOf_63 : decode cX10_distanceOf 63 = .ok (.ireturn, 1) := by decide +kernel
theorem dX10_countOfTune_0 : decode cX10_countOfTune 0 = .ok (.iload_n 1, 1) := by decide +kernel
theorem dX10_countOfTune_1 : decode cX10_countOfTune 1 = .ok (.tableswitch 87 0 5 #[39, 47, 55, 63, 71, 79], 39) := by decide +kernel
theorem dX10_countOfTune_40 : decode cX10_countOfTune 40 = .ok (.aload_n 0, 1) := by decide +kernel
theorem dX10_countOfTune_41 : decode cX10_countOfTune 41 = .ok (.getfield 12, 3) := by decide +kernel
theorem dX10_countOfTune_44 : decode cX10_countOfTune 44 = .ok (.getfield 80, 3) := by decide +kernel
theorem dX10_countOfTune_47 : decode cX10_countOfTune 47 = .ok (.ireturn, 1) := by decide +kernel
theorem dX10_countOfTune_48 : decode cX10_countOfTune 48 = .ok (.aload_n 0, 1) := by decide +kernel
theorem dX10_countOfTune_49 : decode cX10_countOfTune 49 = .ok (.getfield 12, 3) := by decide +kernel
theorem dX10_countOfTune_52 : decode cX10_countOfTune 52 = .ok (.getfield 163, 3) := by decide +kernel
theorem dX10_countOfTune_55 : decode cX10_countOfTune 55 = .ok (.ireturn, 1) := by decide +kernel
theorem dX10_countOfTune_56 : decode cX10_countOfTune 56 = .ok (.aload_n 0, 1) := by decide +kernel
theorem dX10_countOfTune_57 : decode cX10_countOfTune 57 = .ok (.getfield 40, 3) := by decide +kernel
theorem dX10_countOfTune_60 : decode cX10_countOfTune 60 = .ok (.getfield 139, 3) := by decide +kernel
theorem dX10_countOfTune_63 : decode cX10_countOfTune 63 = .ok (.ireturn, 1) := by decide +kernel
theorem dX10_countOfTune_64 : decode cX10_countOfTune 64 = .ok (.aload_n 0, 1) := by decide +kernel
theorem dX10_countOfTune_65 : decode cX10_countOfTune 65 = .ok (.getfield 47, 3) := by decide +kernel
theorem dX10_countOfTune_68 : decode cX10_countOfTune 68 = .ok (.getfield 153, 3) := by decide +kernel
theorem dX10_countOfTune_71 : decode cX10_countOfTune 71 = .ok (.ireturn, 1) := by decide +kernel
theorem dX10_countOfTune_72 : decode cX10_countOfTune 72 = .ok (.aload_n 0, 1) := by decide +kernel
theorem dX10_countOfTune_73 : decode cX10_countOfTune 73 = .ok (.getfield 26, 3) := by decide +kernel
theorem dX10_countOfTune_76 : decode cX10_countOfTune 76 = .ok (.getfield 91, 3) := by decide +kernel
theorem dX10_countOfTune_79 : decode cX10_countOfTune 79 = .ok (.ireturn, 1) := by decide +kernel
theorem dX10_countOfTune_80 : decode cX10_countOfTune 80 = .ok (.aload_n 0, 1) := by decide +kernel
theorem dX10_countOfTune_81 : decode cX10_countOfTune 81 = .ok (.getfield 19, 3) := by decide +kernel
theorem dX10_countOfTune_84 : decode cX10_countOfTune 84 = .ok (.getfield 140, 3) := by decide +kernel
theorem dX10_countOfTune_87 : decode cX10_countOfTune 87 = .ok (.ireturn, 1) := by decide +kernel
theorem dX10_countOfTune_88 : decode cX10_countOfTune 88 = .ok (.aload_n 0, 1) := by decide +kernel
theorem dX10_countOfTune_89 : decode cX10_countOfTune 89 = .ok (.getfield 19, 3) := by decide +kernel
theorem dX10_countOfTune_92 : decode cX10_countOfTune 92 = .ok (.getfield 413, 3) := by decide +kernel
theorem dX10_countOfTune_95 : decode cX10_countOfTune 95 = .ok (.ireturn, 1) := by decide +kernel
theorem dX10_countOfPage_0 : decode cX10_countOfPage 0 = .ok (.aload_n 0, 1) := by decide +kernel
theorem dX10_countOfPage_1 : decode cX10_countOfPage 1 = .ok (.getfield 12, 3) := by decide +kernel
theorem dX10_countOfPage_4 : decode cX10_countOfPage 4 = .ok (.aload_n 0, 1) := by decide +kernel
theorem dX10_countOfPage_5 : decode cX10_countOfPage 5 = .ok (.getfield 12, 3) := by decide +kernel
theorem dX10_countOfPage_8 : decode cX10_countOfPage 8 = .ok (.getfield 80, 3) := by decide +kernel
theorem dX10_countOfPage_11 : decode cX10_countOfPage 11 = .ok (.invokevirtual 322, 3) := by decide +kernel
theorem dX10_countOfPage_14 : decode cX10_countOfPage 14 = .ok (.istore_n 2, 1) := by decide +kernel
theorem dX10_countOfPage_15 : decode cX10_countOfPage 15 = .ok (.iload_n 1, 1) := by decide +kernel
theorem dX10_countOfPage_16 : decode cX10_countOfPage 16 = .ok (.tableswitch 80 7 12 #[40, 42, 54, 59, 67, 75], 40) := by decide +kernel
theorem dX10_countOfPage_56 : decode cX10_countOfPage 56 = .ok (.iload_n 2, 1) := by decide +kernel
theorem dX10_countOfPage_57 : decode cX10_countOfPage 57 = .ok (.ireturn, 1) := by decide +kernel
theorem dX10_countOfPage_58 : decode cX10_countOfPage 58 = .ok (.aload_n 0, 1) := by decide +kernel
theorem dX10_countOfPage_59 : decode cX10_countOfPage 59 = .ok (.getfield 19, 3) := by decide +kernel
theorem dX10_countOfPage_62 : decode cX10_countOfPage 62 = .ok (.iload_n 2, 1) := by decide +kernel
theorem dX10_countOfPage_63 : decode cX10_countOfPage 63 = .ok (.invokevirtual 416, 3) := by decide +kernel
theorem dX10_countOfPage_66 : decode cX10_countOfPage 66 = .ok (.invokestatic 331, 3) := by decide +kernel
theorem dX10_countOfPage_69 : decode cX10_countOfPage 69 = .ok (.ireturn, 1) := by decide +kernel
theorem dX10_countOfPage_70 : decode cX10_countOfPage 70 = .ok (.aload_n 0, 1) := by decide +kernel
theorem dX10_countOfPage_71 : decode cX10_countOfPage 71 = .ok (.getfield 72, 3) := by decide +kernel
theorem dX10_countOfPage_74 : decode cX10_countOfPage 74 = .ok (.ireturn, 1) := by decide +kernel
theorem dX10_countOfPage_75 : decode cX10_countOfPage 75 = .ok (.aload_n 0, 1) := by decide +kernel
theorem dX10_countOfPage_76 : decode cX10_countOfPage 76 = .ok (.getfield 54, 3) := by decide +kernel
theorem dX10_countOfPage_79 : decode cX10_countOfPage 79 = .ok (.getfield 166, 3) := by decide +kernel
theorem dX10_countOfPage_82 : decode cX10_countOfPage 82 = .ok (.ireturn, 1) := by decide +kernel
theorem dX10_countOfPage_83 : decode cX10_countOfPage 83 = .ok (.aload_n 0, 1) := by decide +kernel
theorem dX10_countOfPage_84 : decode cX10_countOfPage 84 = .ok (.getfield 61, 3) := by decide +kernel
theorem dX10_countOfPage_87 : decode cX10_countOfPage 87 = .ok (.getfield 202, 3) := by decide +kernel
theorem dX10_countOfPage_90 : decode cX10_countOfPage 90 = .ok (.ireturn, 1) := by decide +kernel
theorem dX10_countOfPage_91 : decode cX10_countOfPage 91 = .ok (.aload_n 0, 1) := by decide +kernel
theorem dX10_countOfPage_92 : decode cX10_countOfPage 92 = .ok (.invokevirtual 419, 3) := by decide +kernel
theorem dX10_countOfPage_95 : decode cX10_countOfPage 95 = .ok (.ireturn, 1) := by decide +kernel
theorem dX10_countOfPage_96 : decode cX10_countOfPage 96 = .ok (.aload_n 0, 1) := by decide +kernel
theorem dX10_countOfPage_97 : decode cX10_countOfPage 97 = .ok (.getfield 12, 3) := by decide +kernel
theorem dX10_countOfPage_100 : decode cX10_countOfPage 100 = .ok (.invokevirtual 422, 3) := by decide +kernel
theorem dX10_countOfPage_103 : decode cX10_countOfPage 103 = .ok (.ireturn, 1) := by decide +kernel
theorem dX10_fittingVerses_0 : decode cX10_fittingVerses 0 = .ok (.iconst 0, 1) := by decide +kernel
theorem dX10_fittingVerses_1 : decode cX10_fittingVerses 1 = .ok (.istore_n 1, 1) := by decide +kernel
theorem dX10_fittingVerses_2 : decode cX10_fittingVerses 2 = .ok (.iconst 0, 1) := by decide +kernel
theorem dX10_fittingVerses_3 : decode cX10_fittingVerses 3 = .ok (.istore_n 2, 1) := by decide +kernel
theorem dX10_fittingVerses_4 : decode cX10_fittingVerses 4 = .ok (.iload_n 2, 1) := by decide +kernel
theorem dX10_fittingVerses_5 : decode cX10_fittingVerses 5 = .ok (.iconst 4, 1) := by decide +kernel
theorem dX10_fittingVerses_6 : decode cX10_fittingVerses 6 = .ok (.if_icmp .ge 24, 3) := by decide +kernel
theorem dX10_fittingVerses_9 : decode cX10_fittingVerses 9 = .ok (.aload_n 0, 1) := by decide +kernel
theorem dX10_fittingVerses_10 : decode cX10_fittingVerses 10 = .ok (.iload_n 2, 1) := by decide +kernel
theorem dX10_fittingVerses_11 : decode cX10_fittingVerses 11 = .ok (.invokevirtual 227, 3) := by decide +kernel
theorem dX10_fittingVerses_14 : decode cX10_fittingVerses 14 = .ok (.iconst (-1), 1) := by decide +kernel
theorem dX10_fittingVerses_15 : decode cX10_fittingVerses 15 = .ok (.if_icmp .ne 9, 3) := by decide +kernel
theorem dX10_fittingVerses_18 : decode cX10_fittingVerses 18 = .ok (.iload_n 1, 1) := by decide +kernel
theorem dX10_fittingVerses_19 : decode cX10_fittingVerses 19 = .ok (.iconst 1, 1) := by decide +kernel
theorem dX10_fittingVerses_20 : decode cX10_fittingVerses 20 = .ok (.iload_n 2, 1) := by decide +kernel
theorem dX10_fittingVerses_21 : decode cX10_fittingVerses 21 = .ok (.ishl, 1) := by decide +kernel
theorem dX10_fittingVerses_22 : decode cX10_fittingVerses 22 = .ok (.ior, 1) := by decide +kernel
theorem dX10_fittingVerses_23 : decode cX10_fittingVerses 23 = .ok (.istore_n 1, 1) := by decide +kernel
theorem dX10_fittingVerses_24 : decode cX10_fittingVerses 24 = .ok (.iinc 2 1, 3) := by decide +kernel
theorem dX10_fittingVerses_27 : decode cX10_fittingVerses 27 = .ok (.goto (-23), 3) := by decide +kernel
theorem dX10_fittingVerses_30 : decode cX10_fittingVerses 30 = .ok (.iload_n 1, 1) := by decide +kernel
theorem dX10_fittingVerses_31 : decode cX10_fittingVerses 31 = .ok (.ireturn, 1) := by decide +kernel
