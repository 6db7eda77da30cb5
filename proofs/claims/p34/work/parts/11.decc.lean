theorem dL_cell_0 : decode cL_cell 0 = .ok (.iload_n 1, 1) := by decide +kernel
theorem dL_cell_1 : decode cL_cell 1 = .ok (.aload_n 0, 1) := by decide +kernel
theorem dL_cell_2 : decode cL_cell 2 = .ok (.arraylength, 1) := by decide +kernel
theorem dL_cell_3 : decode cL_cell 3 = .ok (.if_icmp .ge 9, 3) := by decide +kernel
theorem dL_cell_6 : decode cL_cell 6 = .ok (.aload_n 0, 1) := by decide +kernel
theorem dL_cell_7 : decode cL_cell 7 = .ok (.iload_n 1, 1) := by decide +kernel
theorem dL_cell_8 : decode cL_cell 8 = .ok (.iaload, 1) := by decide +kernel
theorem dL_cell_9 : decode cL_cell 9 = .ok (.goto 9, 3) := by decide +kernel
theorem dL_cell_12 : decode cL_cell 12 = .ok (.ldc 7, 2) := by decide +kernel
theorem dL_cell_14 : decode cL_cell 14 = .ok (.iload_n 1, 1) := by decide +kernel
theorem dL_cell_15 : decode cL_cell 15 = .ok (.iconst 1, 1) := by decide +kernel
theorem dL_cell_16 : decode cL_cell 16 = .ok (.iadd, 1) := by decide +kernel
theorem dL_cell_17 : decode cL_cell 17 = .ok (.imul, 1) := by decide +kernel
theorem dL_cell_18 : decode cL_cell 18 = .ok (.ireturn, 1) := by decide +kernel
theorem dL_at_0 : decode cL_at 0 = .ok (.iload_n 0, 1) := by decide +kernel
theorem dL_at_1 : decode cL_at 1 = .ok (.iconst 1, 1) := by decide +kernel
theorem dL_at_2 : decode cL_at 2 = .ok (.iushr, 1) := by decide +kernel
theorem dL_at_3 : decode cL_at 3 = .ok (.iload_n 1, 1) := by decide +kernel
theorem dL_at_4 : decode cL_at 4 = .ok (.irem, 1) := by decide +kernel
theorem dL_at_5 : decode cL_at 5 = .ok (.ireturn, 1) := by decide +kernel
theorem dL_end_0 : decode cL_end 0 = .ok (.aload_n 2, 1) := by decide +kernel
theorem dL_end_1 : decode cL_end 1 = .ok (.iconst 5, 1) := by decide +kernel
theorem dL_end_2 : decode cL_end 2 = .ok (.iload_n 0, 1) := by decide +kernel
theorem dL_end_3 : decode cL_end 3 = .ok (.imul, 1) := by decide +kernel
theorem dL_end_4 : decode cL_end 4 = .ok (.iaload, 1) := by decide +kernel
theorem dL_end_5 : decode cL_end 5 = .ok (.iconst 2, 1) := by decide +kernel
theorem dL_end_6 : decode cL_end 6 = .ok (.iand, 1) := by decide +kernel
theorem dL_end_7 : decode cL_end 7 = .ok (.ifCond .ne 12, 3) := by decide +kernel
theorem dL_end_10 : decode cL_end 10 = .ok (.iload_n 0, 1) := by decide +kernel
theorem dL_end_11 : decode cL_end 11 = .ok (.aload_n 1, 1) := by decide +kernel
theorem dL_end_12 : decode cL_end 12 = .ok (.iconst 1, 1) := by decide +kernel
theorem dL_end_13 : decode cL_end 13 = .ok (.iaload, 1) := by decide +kernel
theorem dL_end_14 : decode cL_end 14 = .ok (.iconst 1, 1) := by decide +kernel
theorem dL_end_15 : decode cL_end 15 = .ok (.isub, 1) := by decide +kernel
theorem dL_end_16 : decode cL_end 16 = .ok (.if_icmp .ne 7, 3) := by decide +kernel
theorem dL_end_19 : decode cL_end 19 = .ok (.iconst 1, 1) := by decide +kernel
theorem dL_end_20 : decode cL_end 20 = .ok (.goto 4, 3) := by decide +kernel
theorem dL_end_23 : decode cL_end 23 = .ok (.iconst 0, 1) := by decide +kernel
theorem dL_end_24 : decode cL_end 24 = .ok (.ireturn, 1) := by decide +kernel
theorem dL_phraseOf_0 : decode cL_phraseOf 0 = .ok (.iconst 0, 1) := by decide +kernel
theorem dL_phraseOf_1 : decode cL_phraseOf 1 = .ok (.istore_n 3, 1) := by decide +kernel
theorem dL_phraseOf_2 : decode cL_phraseOf 2 = .ok (.iconst 0, 1) := by decide +kernel
theorem dL_phraseOf_3 : decode cL_phraseOf 3 = .ok (.istore 4, 2) := by decide +kernel
theorem dL_phraseOf_5 : decode cL_phraseOf 5 = .ok (.iload 4, 2) := by decide +kernel
theorem dL_phraseOf_7 : decode cL_phraseOf 7 = .ok (.iload_n 0, 1) := by decide +kernel
theorem dL_phraseOf_8 : decode cL_phraseOf 8 = .ok (.if_icmp .ge 27, 3) := by decide +kernel
theorem dL_phraseOf_11 : decode cL_phraseOf 11 = .ok (.iload_n 3, 1) := by decide +kernel
theorem dL_phraseOf_12 : decode cL_phraseOf 12 = .ok (.iload 4, 2) := by decide +kernel
theorem dL_phraseOf_14 : decode cL_phraseOf 14 = .ok (.aload_n 1, 1) := by decide +kernel
theorem dL_phraseOf_15 : decode cL_phraseOf 15 = .ok (.aload_n 2, 1) := by decide +kernel
theorem dL_phraseOf_16 : decode cL_phraseOf 16 = .ok (.invokestatic 8, 3) := by decide +kernel
theorem dL_phraseOf_19 : decode cL_phraseOf 19 = .ok (.ifCond .eq 7, 3) := by decide +kernel
theorem dL_phraseOf_22 : decode cL_phraseOf 22 = .ok (.iconst 1, 1) := by decide +kernel
theorem dL_phraseOf_23 : decode cL_phraseOf 23 = .ok (.goto 4, 3) := by decide +kernel
theorem dL_phraseOf_26 : decode cL_phraseOf 26 = .ok (.iconst 0, 1) := by decide +kernel
theorem dL_phraseOf_27 : decode cL_phraseOf 27 = .ok (.iadd, 1) := by decide +kernel
theorem dL_phraseOf_28 : decode cL_phraseOf 28 = .ok (.istore_n 3, 1) := by decide +kernel
theorem dL_phraseOf_29 : decode cL_phraseOf 29 = .ok (.iinc 4 1, 3) := by decide +kernel
theorem dL_phraseOf_32 : decode cL_phraseOf 32 = .ok (.goto (-27), 3) := by decide +kernel
theorem dL_phraseOf_35 : decode cL_phraseOf 35 = .ok (.iload_n 3, 1) := by decide +kernel
theorem dL_phraseOf_36 : decode cL_phraseOf 36 = .ok (.ireturn, 1) := by decide +kernel
theorem dL_phrases_0 : decode cL_phrases 0 = .ok (.aload_n 0, 1) := by decide +kernel
theorem dL_phrases_1 : decode cL_phrases 1 = .ok (.iconst 1, 1) := by decide +kernel
theorem dL_phrases_2 : decode cL_phrases 2 = .ok (.iaload, 1) := by decide +kernel
theorem dL_phrases_3 : decode cL_phrases 3 = .ok (.ifCond .ne 7, 3) := by decide +kernel
theorem dL_phrases_6 : decode cL_phrases 6 = .ok (.iconst 0, 1) := by decide +kernel
theorem dL_phrases_7 : decode cL_phrases 7 = .ok (.goto 15, 3) := by decide +kernel
theorem dL_phrases_10 : decode cL_phrases 10 = .ok (.aload_n 0, 1) := by decide +kernel
theorem dL_phrases_11 : decode cL_phrases 11 = .ok (.iconst 1, 1) := by decide +kernel
theorem dL_phrases_12 : decode cL_phrases 12 = .ok (.iaload, 1) := by decide +kernel
theorem dL_phrases_13 : decode cL_phrases 13 = .ok (.iconst 1, 1) := by decide +kernel
theorem dL_phrases_14 : decode cL_phrases 14 = .ok (.isub, 1) := by decide +kernel
theorem dL_phrases_15 : decode cL_phrases 15 = .ok (.aload_n 0, 1) := by decide +kernel
theorem dL_phrases_16 : decode cL_phrases 16 = .ok (.aload_n 1, 1) := by decide +kernel
theorem dL_phrases_17 : decode cL_phrases 17 = .ok (.invokestatic 14, 3) := by decide +kernel
theorem dL_phrases_20 : decode cL_phrases 20 = .ok (.iconst 1, 1) := by decide +kernel
theorem dL_phrases_21 : decode cL_phrases 21 = .ok (.iadd, 1) := by decide +kernel
theorem dL_phrases_22 : decode cL_phrases 22 = .ok (.ireturn, 1) := by decide +kernel
theorem dL_first_0 : decode cL_first 0 = .ok (.iconst 0, 1) := by decide +kernel
theorem dL_first_1 : decode cL_first 1 = .ok (.istore_n 3, 1) := by decide +kernel
theorem dL_first_2 : decode cL_first 2 = .ok (.iload_n 3, 1) := by decide +kernel
theorem dL_first_3 : decode cL_first 3 = .ok (.aload_n 1, 1) := by decide +kernel
theorem dL_first_4 : decode cL_first 4 = .ok (.aload_n 2, 1) := by decide +kernel
theorem dL_first_5 : decode cL_first 5 = .ok (.invokestatic 14, 3) := by decide +kernel
theorem dL_first_8 : decode cL_first 8 = .ok (.iload_n 0, 1) := by decide +kernel
theorem dL_first_9 : decode cL_first 9 = .ok (.if_icmp .ge 9, 3) := by decide +kernel
theorem dL_first_12 : decode cL_first 12 = .ok (.iinc 3 1, 3) := by decide +kernel
theorem dL_first_15 : decode cL_first 15 = .ok (.goto (-13), 3) := by decide +kernel
theorem dL_first_18 : decode cL_first 18 = .ok (.iload_n 3, 1) := by decide +kernel
theorem dL_first_19 : decode cL_first 19 = .ok (.ireturn, 1) := by decide +kernel
theorem dL_last_0 : decode cL_last 0 = .ok (.aload_n 1, 1) := by decide +kernel
theorem dL_last_1 : decode cL_last 1 = .ok (.iconst 1, 1) := by decide +kernel
theorem dL_last_2 : decode cL_last 2 = .ok (.iaload, 1) := by decide +kernel
theorem dL_last_3 : decode cL_last 3 = .ok (.iconst 1, 1) := by decide +kernel
theorem dL_last_4 : decode cL_last 4 = .ok (.isub, 1) := by decide +kernel
theorem dL_last_5 : decode cL_last 5 = .ok (.istore_n 3, 1) := by decide +kernel
theorem dL_last_6 : decode cL_last 6 = .ok (.iload_n 3, 1) := by decide +kernel
theorem dL_last_7 : decode cL_last 7 = .ok (.aload_n 1, 1) := by decide +kernel
theorem dL_last_8 : decode cL_last 8 = .ok (.aload_n 2, 1) := by decide +kernel
theorem dL_last_9 : decode cL_last 9 = .ok (.invokestatic 14, 3) := by decide +kernel
theorem dL_last_12 : decode cL_last 12 = .ok (.iload_n 0, 1) := by decide +kernel
theorem dL_last_13 : decode cL_last 13 = .ok (.if_icmp .le 9, 3) := by decide +kernel
theorem dL_last_16 : decode cL_last 16 = .ok (.iinc 3 (-1), 3) := by decide +kernel
theorem dL_last_19 : decode cL_last 19 = .ok (.goto (-13), 3) := by decide +kernel
theorem dL_last_22 : decode cL_last 22 = .ok (.iload_n 3, 1) := by decide +kernel
theorem dL_last_23 : decode cL_last 23 = .ok (.ireturn, 1) := by decide +kernel
theorem dL_slurred_0 : decode cL_slurred 0 = .ok (.aload_n 2, 1) := by decide +kernel
theorem dL_slurred_1 : decode cL_slurred 1 = .ok (.iconst 5, 1) := by decide +kernel
theorem dL_slurred_2 : decode cL_slurred 2 = .ok (.iload_n 0, 1) := by decide +kernel
theorem dL_slurred_3 : decode cL_slurred 3 = .ok (.imul, 1) := by decide +kernel
theorem dL_slurred_4 : decode cL_slurred 4 = .ok (.iaload, 1) := by decide +kernel
theorem dL_slurred_5 : decode cL_slurred 5 = .ok (.iconst 1, 1) := by decide +kernel
theorem dL_slurred_6 : decode cL_slurred 6 = .ok (.iand, 1) := by decide +kernel
theorem dL_slurred_7 : decode cL_slurred 7 = .ok (.iconst 1, 1) := by decide +kernel
theorem dL_slurred_8 : decode cL_slurred 8 = .ok (.if_icmp .ne 22, 3) := by decide +kernel
theorem dL_slurred_11 : decode cL_slurred 11 = .ok (.iload_n 0, 1) := by decide +kernel
theorem dL_slurred_12 : decode cL_slurred 12 = .ok (.ifCond .le 18, 3) := by decide +kernel
theorem dL_slurred_15 : decode cL_slurred 15 = .ok (.iload_n 0, 1) := by decide +kernel
theorem dL_slurred_16 : decode cL_slurred 16 = .ok (.iconst 1, 1) := by decide +kernel
theorem dL_slurred_17 : decode cL_slurred 17 = .ok (.isub, 1) := by decide +kernel
theorem dL_slurred_18 : decode cL_slurred 18 = .ok (.aload_n 1, 1) := by decide +kernel
theorem dL_slurred_19 : decode cL_slurred 19 = .ok (.aload_n 2, 1) := by decide +kernel
theorem dL_slurred_20 : decode cL_slurred 20 = .ok (.invokestatic 8, 3) := by decide +kernel
theorem dL_slurred_23 : decode cL_slurred 23 = .ok (.ifCond .ne 7, 3) := by decide +kernel
theorem dL_slurred_26 : decode cL_slurred 26 = .ok (.iconst 1, 1) := by decide +kernel
theorem dL_slurred_27 : decode cL_slurred 27 = .ok (.goto 4, 3) := by decide +kernel
theorem dL_slurred_30 : decode cL_slurred 30 = .ok (.iconst 0, 1) := by decide +kernel
theorem dL_slurred_31 : decode cL_slurred 31 = .ok (.ireturn, 1) := by decide +kernel
theorem dL_syllables_0 : decode cL_syllables 0 = .ok (.iconst 0, 1) := by decide +kernel
theorem dL_syllables_1 : decode cL_syllables 1 = .ok (.istore 4, 2) := by decide +kernel
theorem dL_syllables_3 : decode cL_syllables 3 = .ok (.iload_n 0, 1) := by decide +kernel
theorem dL_syllables_4 : decode cL_syllables 4 = .ok (.istore 5, 2) := by decide +kernel
theorem dL_syllables_6 : decode cL_syllables 6 = .ok (.iload 5, 2) := by decide +kernel
theorem dL_syllables_8 : decode cL_syllables 8 = .ok (.iload_n 1, 1) := by decide +kernel
theorem dL_syllables_9 : decode cL_syllables 9 = .ok (.if_icmp .gt 29, 3) := by decide +kernel
theorem dL_syllables_12 : decode cL_syllables 12 = .ok (.iload 4, 2) := by decide +kernel
theorem dL_syllables_14 : decode cL_syllables 14 = .ok (.iload 5, 2) := by decide +kernel
theorem dL_syllables_16 : decode cL_syllables 16 = .ok (.aload_n 2, 1) := by decide +kernel
theorem dL_syllables_17 : decode cL_syllables 17 = .ok (.aload_n 3, 1) := by decide +kernel
theorem dL_syllables_18 : decode cL_syllables 18 = .ok (.invokestatic 18, 3) := by decide +kernel
theorem dL_syllables_21 : decode cL_syllables 21 = .ok (.ifCond .eq 7, 3) := by decide +kernel
theorem dL_syllables_24 : decode cL_syllables 24 = .ok (.iconst 0, 1) := by decide +kernel
theorem dL_syllables_25 : decode cL_syllables 25 = .ok (.goto 4, 3) := by decide +kernel
theorem dL_syllables_28 : decode cL_syllables 28 = .ok (.iconst 1, 1) := by decide +kernel
theorem dL_syllables_29 : decode cL_syllables 29 = .ok (.iadd, 1) := by decide +kernel
theorem dL_syllables_30 : decode cL_syllables 30 = .ok (.istore 4, 2) := by decide +kernel
theorem dL_syllables_32 : decode cL_syllables 32 = .ok (.iinc 5 1, 3) := by decide +kernel
theorem dL_syllables_35 : decode cL_syllables 35 = .ok (.goto (-29), 3) := by decide +kernel
theorem dL_syllables_38 : decode cL_syllables 38 = .ok (.iload 4, 2) := by decide +kernel
theorem dL_syllables_40 : decode cL_syllables 40 = .ok (.ireturn, 1) := by decide +kernel
theorem dL_sung_0 : decode cL_sung 0 = .ok (.iconst 0, 1) := by decide +kernel
theorem dL_sung_1 : decode cL_sung 1 = .ok (.istore 4, 2) := by decide +kernel
theorem dL_sung_3 : decode cL_sung 3 = .ok (.iconst 0, 1) := by decide +kernel
theorem dL_sung_4 : decode cL_sung 4 = .ok (.istore 5, 2) := by decide +kernel
theorem dL_sung_6 : decode cL_sung 6 = .ok (.iload 5, 2) := by decide +kernel
theorem dL_sung_8 : decode cL_sung 8 = .ok (.aload_n 0, 1) := by decide +kernel
theorem dL_sung_9 : decode cL_sung 9 = .ok (.aload_n 1, 1) := by decide +kernel
theorem dL_sung_10 : decode cL_sung 10 = .ok (.invokestatic 21, 3) := by decide +kernel
theorem dL_sung_13 : decode cL_sung 13 = .ok (.if_icmp .ge 142, 3) := by decide +kernel
theorem dL_sung_16 : decode cL_sung 16 = .ok (.iconst (-1), 1) := by decide +kernel
theorem dL_sung_17 : decode cL_sung 17 = .ok (.istore 6, 2) := by decide +kernel
theorem dL_sung_19 : decode cL_sung 19 = .ok (.iconst 0, 1) := by decide +kernel
theorem dL_sung_20 : decode cL_sung 20 = .ok (.istore 7, 2) := by decide +kernel
theorem dL_sung_22 : decode cL_sung 22 = .ok (.iload 7, 2) := by decide +kernel
theorem dL_sung_24 : decode cL_sung 24 = .ok (.aload_n 0, 1) := by decide +kernel
theorem dL_sung_25 : decode cL_sung 25 = .ok (.iconst 5, 1) := by decide +kernel
theorem dL_sung_26 : decode cL_sung 26 = .ok (.iaload, 1) := by decide +kernel
theorem dL_sung_27 : decode cL_sung 27 = .ok (.if_icmp .ge 24, 3) := by decide +kernel
theorem dL_sung_30 : decode cL_sung 30 = .ok (.aload_n 2, 1) := by decide +kernel
theorem dL_sung_31 : decode cL_sung 31 = .ok (.iconst 3, 1) := by decide +kernel
theorem dL_sung_32 : decode cL_sung 32 = .ok (.iload 7, 2) := by decide +kernel
theorem dL_sung_34 : decode cL_sung 34 = .ok (.imul, 1) := by decide +kernel
theorem dL_sung_35 : decode cL_sung 35 = .ok (.iaload, 1) := by decide +kernel
theorem dL_sung_36 : decode cL_sung 36 = .ok (.iload 5, 2) := by decide +kernel
theorem dL_sung_38 : decode cL_sung 38 = .ok (.if_icmp .ne 7, 3) := by decide +kernel
theorem dL_sung_41 : decode cL_sung 41 = .ok (.iload 7, 2) := by decide +kernel
theorem dL_sung_43 : decode cL_sung 43 = .ok (.istore 6, 2) := by decide +kernel
theorem dL_sung_45 : decode cL_sung 45 = .ok (.iinc 7 1, 3) := by decide +kernel
theorem dL_sung_48 : decode cL_sung 48 = .ok (.goto (-26), 3) := by decide +kernel
theorem dL_sung_51 : decode cL_sung 51 = .ok (.iload 6, 2) := by decide +kernel
theorem dL_sung_53 : decode cL_sung 53 = .ok (.ifCond .ge 18, 3) := by decide +kernel
theorem dL_sung_56 : decode cL_sung 56 = .ok (.aload_n 3, 1) := by decide +kernel
theorem dL_sung_57 : decode cL_sung 57 = .ok (.iload 4, 2) := by decide +kernel
theorem dL_sung_59 : decode cL_sung 59 = .ok (.iinc 4 1, 3) := by decide +kernel
theorem dL_sung_62 : decode cL_sung 62 = .ok (.iload 5, 2) := by decide +kernel
theorem dL_sung_64 : decode cL_sung 64 = .ok (.iinc 5 1, 3) := by decide +kernel
theorem dL_sung_67 : decode cL_sung 67 = .ok (.iastore, 1) := by decide +kernel
theorem dL_sung_68 : decode cL_sung 68 = .ok (.goto (-62), 3) := by decide +kernel
theorem dL_sung_71 : decode cL_sung 71 = .ok (.iconst 0, 1) := by decide +kernel
theorem dL_sung_72 : decode cL_sung 72 = .ok (.istore 7, 2) := by decide +kernel
theorem dL_sung_74 : decode cL_sung 74 = .ok (.iload 7, 2) := by decide +kernel
theorem dL_sung_76 : decode cL_sung 76 = .ok (.iconst 2, 1) := by decide +kernel
theorem dL_sung_77 : decode cL_sung 77 = .ok (.if_icmp .ge 63, 3) := by decide +kernel
theorem dL_sung_80 : decode cL_sung 80 = .ok (.aload_n 2, 1) := by decide +kernel
theorem dL_sung_81 : decode cL_sung 81 = .ok (.iconst 3, 1) := by decide +kernel
theorem dL_sung_82 : decode cL_sung 82 = .ok (.iload 6, 2) := by decide +kernel
theorem dL_sung_84 : decode cL_sung 84 = .ok (.imul, 1) := by decide +kernel
theorem dL_sung_85 : decode cL_sung 85 = .ok (.iaload, 1) := by decide +kernel
theorem dL_sung_86 : decode cL_sung 86 = .ok (.istore 8, 2) := by decide +kernel
theorem dL_sung_88 : decode cL_sung 88 = .ok (.iload 8, 2) := by decide +kernel
theorem dL_sung_90 : decode cL_sung 90 = .ok (.aload_n 2, 1) := by decide +kernel
theorem dL_sung_91 : decode cL_sung 91 = .ok (.iconst 3, 1) := by decide +kernel
theorem dL_sung_92 : decode cL_sung 92 = .ok (.iload 6, 2) := by decide +kernel
theorem dL_sung_94 : decode cL_sung 94 = .ok (.imul, 1) := by decide +kernel
theorem dL_sung_95 : decode cL_sung 95 = .ok (.iconst 1, 1) := by decide +kernel
theorem dL_sung_96 : decode cL_sung 96 = .ok (.iadd, 1) := by decide +kernel
theorem dL_sung_97 : decode cL_sung 97 = .ok (.iaload, 1) := by decide +kernel
theorem dL_sung_98 : decode cL_sung 98 = .ok (.iload 7, 2) := by decide +kernel
theorem dL_sung_100 : decode cL_sung 100 = .ok (.ifCond .ne 7, 3) := by decide +kernel
theorem dL_sung_103 : decode cL_sung 103 = .ok (.iconst 0, 1) := by decide +kernel
theorem dL_sung_104 : decode cL_sung 104 = .ok (.goto 11, 3) := by decide +kernel
theorem dL_sung_107 : decode cL_sung 107 = .ok (.aload_n 2, 1) := by decide +kernel
theorem dL_sung_108 : decode cL_sung 108 = .ok (.iconst 3, 1) := by decide +kernel
theorem dL_sung_109 : decode cL_sung 109 = .ok (.iload 6, 2) := by decide +kernel
theorem dL_sung_111 : decode cL_sung 111 = .ok (.imul, 1) := by decide +kernel
theorem dL_sung_112 : decode cL_sung 112 = .ok (.iconst 2, 1) := by decide +kernel
theorem dL_sung_113 : decode cL_sung 113 = .ok (.iadd, 1) := by decide +kernel
theorem dL_sung_114 : decode cL_sung 114 = .ok (.iaload, 1) := by decide +kernel
theorem dL_sung_115 : decode cL_sung 115 = .ok (.isub, 1) := by decide +kernel
theorem dL_sung_116 : decode cL_sung 116 = .ok (.if_icmp .gt 18, 3) := by decide +kernel
theorem dL_sung_119 : decode cL_sung 119 = .ok (.aload_n 3, 1) := by decide +kernel
theorem dL_sung_120 : decode cL_sung 120 = .ok (.iload 4, 2) := by decide +kernel
theorem dL_sung_122 : decode cL_sung 122 = .ok (.iinc 4 1, 3) := by decide +kernel
theorem dL_sung_125 : decode cL_sung 125 = .ok (.iload 8, 2) := by decide +kernel
theorem dL_sung_127 : decode cL_sung 127 = .ok (.iastore, 1) := by decide +kernel
theorem dL_sung_128 : decode cL_sung 128 = .ok (.iinc 8 1, 3) := by decide +kernel
theorem dL_sung_131 : decode cL_sung 131 = .ok (.goto (-43), 3) := by decide +kernel
theorem dL_sung_134 : decode cL_sung 134 = .ok (.iinc 7 1, 3) := by decide +kernel
theorem dL_sung_137 : decode cL_sung 137 = .ok (.goto (-63), 3) := by decide +kernel
theorem dL_sung_140 : decode cL_sung 140 = .ok (.aload_n 2, 1) := by decide +kernel
theorem dL_sung_141 : decode cL_sung 141 = .ok (.iconst 3, 1) := by decide +kernel
theorem dL_sung_142 : decode cL_sung 142 = .ok (.iload 6, 2) := by decide +kernel
theorem dL_sung_144 : decode cL_sung 144 = .ok (.imul, 1) := by decide +kernel
theorem dL_sung_145 : decode cL_sung 145 = .ok (.iconst 1, 1) := by decide +kernel
theorem dL_sung_146 : decode cL_sung 146 = .ok (.iadd, 1) := by decide +kernel
theorem dL_sung_147 : decode cL_sung 147 = .ok (.iaload, 1) := by decide +kernel
theorem dL_sung_148 : decode cL_sung 148 = .ok (.iconst 1, 1) := by decide +kernel
theorem dL_sung_149 : decode cL_sung 149 = .ok (.iadd, 1) := by decide +kernel
theorem dL_sung_150 : decode cL_sung 150 = .ok (.istore 5, 2) := by decide +kernel
theorem dL_sung_152 : decode cL_sung 152 = .ok (.goto (-146), 3) := by decide +kernel
theorem dL_sung_155 : decode cL_sung 155 = .ok (.iload 4, 2) := by decide +kernel
theorem dL_sung_157 : decode cL_sung 157 = .ok (.ireturn, 1) := by decide +kernel
theorem dL_size_0 : decode cL_size 0 = .ok (.iconst 0, 1) := by decide +kernel
theorem dL_size_1 : decode cL_size 1 = .ok (.istore_n 1, 1) := by decide +kernel
theorem dL_size_2 : decode cL_size 2 = .ok (.iload_n 1, 1) := by decide +kernel
theorem dL_size_3 : decode cL_size 3 = .ok (.bipush 6, 2) := by decide +kernel
theorem dL_size_5 : decode cL_size 5 = .ok (.if_icmp .ge 20, 3) := by decide +kernel
theorem dL_size_8 : decode cL_size 8 = .ok (.iload_n 0, 1) := by decide +kernel
theorem dL_size_9 : decode cL_size 9 = .ok (.iconst 4, 1) := by decide +kernel
theorem dL_size_10 : decode cL_size 10 = .ok (.iload_n 1, 1) := by decide +kernel
theorem dL_size_11 : decode cL_size 11 = .ok (.imul, 1) := by decide +kernel
theorem dL_size_12 : decode cL_size 12 = .ok (.ishr, 1) := by decide +kernel
theorem dL_size_13 : decode cL_size 13 = .ok (.bipush 15, 2) := by decide +kernel
theorem dL_size_15 : decode cL_size 15 = .ok (.iand, 1) := by decide +kernel
theorem dL_size_16 : decode cL_size 16 = .ok (.ifCond .le 9, 3) := by decide +kernel
theorem dL_size_19 : decode cL_size 19 = .ok (.iinc 1 1, 3) := by decide +kernel
theorem dL_size_22 : decode cL_size 22 = .ok (.goto (-20), 3) := by decide +kernel
theorem dL_size_25 : decode cL_size 25 = .ok (.iload_n 1, 1) := by decide +kernel
theorem dL_size_26 : decode cL_size 26 = .ok (.ireturn, 1) := by decide +kernel
theorem dL_below_0 : decode cL_below 0 = .ok (.iload_n 2, 1) := by decide +kernel
theorem dL_below_1 : decode cL_below 1 = .ok (.aload_n 3, 1) := by decide +kernel
theorem dL_below_2 : decode cL_below 2 = .ok (.aload 4, 2) := by decide +kernel
theorem dL_below_4 : decode cL_below 4 = .ok (.invokestatic 18, 3) := by decide +kernel
theorem dL_below_7 : decode cL_below 7 = .ok (.ifCond .ne 14, 3) := by decide +kernel
theorem dL_below_10 : decode cL_below 10 = .ok (.iload_n 1, 1) := by decide +kernel
theorem dL_below_11 : decode cL_below 11 = .ok (.bipush 7, 2) := by decide +kernel
theorem dL_below_13 : decode cL_below 13 = .ok (.if_icmp .gt 8, 3) := by decide +kernel
theorem dL_below_16 : decode cL_below 16 = .ok (.iload_n 0, 1) := by decide +kernel
theorem dL_below_17 : decode cL_below 17 = .ok (.iconst 1, 1) := by decide +kernel
theorem dL_below_18 : decode cL_below 18 = .ok (.if_icmp .le 5, 3) := by decide +kernel
theorem dL_below_21 : decode cL_below 21 = .ok (.iconst 0, 1) := by decide +kernel
theorem dL_below_22 : decode cL_below 22 = .ok (.ireturn, 1) := by decide +kernel
theorem dL_below_23 : decode cL_below 23 = .ok (.iload_n 2, 1) := by decide +kernel
theorem dL_below_24 : decode cL_below 24 = .ok (.aload_n 3, 1) := by decide +kernel
theorem dL_below_25 : decode cL_below 25 = .ok (.aload 4, 2) := by decide +kernel
theorem dL_below_27 : decode cL_below 27 = .ok (.invokestatic 14, 3) := by decide +kernel
theorem dL_below_30 : decode cL_below 30 = .ok (.aload_n 3, 1) := by decide +kernel
theorem dL_below_31 : decode cL_below 31 = .ok (.aload 4, 2) := by decide +kernel
theorem dL_below_33 : decode cL_below 33 = .ok (.invokestatic 25, 3) := by decide +kernel
theorem dL_below_36 : decode cL_below 36 = .ok (.iload_n 2, 1) := by decide +kernel
theorem dL_below_37 : decode cL_below 37 = .ok (.aload_n 3, 1) := by decide +kernel
theorem dL_below_38 : decode cL_below 38 = .ok (.aload 4, 2) := by decide +kernel
theorem dL_below_40 : decode cL_below 40 = .ok (.invokestatic 28, 3) := by decide +kernel
theorem dL_below_43 : decode cL_below 43 = .ok (.iconst 1, 1) := by decide +kernel
theorem dL_below_44 : decode cL_below 44 = .ok (.isub, 1) := by decide +kernel
theorem dL_below_45 : decode cL_below 45 = .ok (.istore 6, 2) := by decide +kernel
theorem dL_below_47 : decode cL_below 47 = .ok (.iload 6, 2) := by decide +kernel
theorem dL_below_49 : decode cL_below 49 = .ok (.aload 5, 2) := by decide +kernel
theorem dL_below_51 : decode cL_below 51 = .ok (.bipush 8, 2) := by decide +kernel
theorem dL_below_53 : decode cL_below 53 = .ok (.iload_n 0, 1) := by decide +kernel
theorem dL_below_54 : decode cL_below 54 = .ok (.imul, 1) := by decide +kernel
theorem dL_below_55 : decode cL_below 55 = .ok (.iload_n 1, 1) := by decide +kernel
theorem dL_below_56 : decode cL_below 56 = .ok (.iadd, 1) := by decide +kernel
theorem dL_below_57 : decode cL_below 57 = .ok (.iaload, 1) := by decide +kernel
theorem dL_below_58 : decode cL_below 58 = .ok (.invokestatic 32, 3) := by decide +kernel
theorem dL_below_61 : decode cL_below 61 = .ok (.if_icmp .ge 23, 3) := by decide +kernel
theorem dL_below_64 : decode cL_below 64 = .ok (.aload 5, 2) := by decide +kernel
theorem dL_below_66 : decode cL_below 66 = .ok (.bipush 8, 2) := by decide +kernel
theorem dL_below_68 : decode cL_below 68 = .ok (.iload_n 0, 1) := by decide +kernel
theorem dL_below_69 : decode cL_below 69 = .ok (.imul, 1) := by decide +kernel
theorem dL_below_70 : decode cL_below 70 = .ok (.iload_n 1, 1) := by decide +kernel
theorem dL_below_71 : decode cL_below 71 = .ok (.iadd, 1) := by decide +kernel
theorem dL_below_72 : decode cL_below 72 = .ok (.iaload, 1) := by decide +kernel
theorem dL_below_73 : decode cL_below 73 = .ok (.iconst 4, 1) := by decide +kernel
theorem dL_below_74 : decode cL_below 74 = .ok (.iload 6, 2) := by decide +kernel
theorem dL_below_76 : decode cL_below 76 = .ok (.imul, 1) := by decide +kernel
theorem dL_below_77 : decode cL_below 77 = .ok (.ishr, 1) := by decide +kernel
theorem dL_below_78 : decode cL_below 78 = .ok (.bipush 15, 2) := by decide +kernel
theorem dL_below_80 : decode cL_below 80 = .ok (.iand, 1) := by decide +kernel
theorem dL_below_81 : decode cL_below 81 = .ok (.goto 4, 3) := by decide +kernel
theorem dL_below_84 : decode cL_below 84 = .ok (.iconst 0, 1) := by decide +kernel
theorem dL_below_85 : decode cL_below 85 = .ok (.ireturn, 1) := by decide +kernel
theorem dL_column_0 : decode cL_column 0 = .ok (.iconst 3, 1) := by decide +kernel
theorem dL_column_1 : decode cL_column 1 = .ok (.istore 6, 2) := by decide +kernel
theorem dL_column_3 : decode cL_column 3 = .ok (.iconst 0, 1) := by decide +kernel
theorem dL_column_4 : decode cL_column 4 = .ok (.istore 7, 2) := by decide +kernel
theorem dL_column_6 : decode cL_column 6 = .ok (.iload 7, 2) := by decide +kernel
theorem dL_column_8 : decode cL_column 8 = .ok (.iload_n 1, 1) := by decide +kernel
theorem dL_column_9 : decode cL_column 9 = .ok (.if_icmp .ge 77, 3) := by decide +kernel
theorem dL_column_12 : decode cL_column 12 = .ok (.iconst 0, 1) := by decide +kernel
theorem dL_column_13 : decode cL_column 13 = .ok (.istore 8, 2) := by decide +kernel
theorem dL_column_15 : decode cL_column 15 = .ok (.iload 8, 2) := by decide +kernel
theorem dL_column_17 : decode cL_column 17 = .ok (.iconst 2, 1) := by decide +kernel
theorem dL_column_18 : decode cL_column 18 = .ok (.if_icmp .ge 62, 3) := by decide +kernel
theorem dL_column_21 : decode cL_column 21 = .ok (.aload_n 2, 1) := by decide +kernel
theorem dL_column_22 : decode cL_column 22 = .ok (.iload 7, 2) := by decide +kernel
theorem dL_column_24 : decode cL_column 24 = .ok (.iaload, 1) := by decide +kernel
theorem dL_column_25 : decode cL_column 25 = .ok (.iload_n 0, 1) := by decide +kernel
theorem dL_column_26 : decode cL_column 26 = .ok (.aload_n 3, 1) := by decide +kernel
theorem dL_column_27 : decode cL_column 27 = .ok (.aload 4, 2) := by decide +kernel
theorem dL_column_29 : decode cL_column 29 = .ok (.invokestatic 14, 3) := by decide +kernel
theorem dL_column_32 : decode cL_column 32 = .ok (.if_icmp .ne 19, 3) := by decide +kernel
theorem dL_column_35 : decode cL_column 35 = .ok (.iload 8, 2) := by decide +kernel
theorem dL_column_37 : decode cL_column 37 = .ok (.iload 7, 2) := by decide +kernel
theorem dL_column_39 : decode cL_column 39 = .ok (.iload_n 0, 1) := by decide +kernel
theorem dL_column_40 : decode cL_column 40 = .ok (.aload_n 3, 1) := by decide +kernel
theorem dL_column_41 : decode cL_column 41 = .ok (.aload 4, 2) := by decide +kernel
theorem dL_column_43 : decode cL_column 43 = .ok (.aload 5, 2) := by decide +kernel
theorem dL_column_45 : decode cL_column 45 = .ok (.invokestatic 36, 3) := by decide +kernel
theorem dL_column_48 : decode cL_column 48 = .ok (.goto 4, 3) := by decide +kernel
theorem dL_column_51 : decode cL_column 51 = .ok (.iconst 0, 1) := by decide +kernel
theorem dL_column_52 : decode cL_column 52 = .ok (.istore 9, 2) := by decide +kernel
theorem dL_column_54 : decode cL_column 54 = .ok (.iload 9, 2) := by decide +kernel
theorem dL_column_56 : decode cL_column 56 = .ok (.iconst 1, 1) := by decide +kernel
theorem dL_column_57 : decode cL_column 57 = .ok (.iadd, 1) := by decide +kernel
theorem dL_column_58 : decode cL_column 58 = .ok (.iload 6, 2) := by decide +kernel
theorem dL_column_60 : decode cL_column 60 = .ok (.if_icmp .le 10, 3) := by decide +kernel
theorem dL_column_63 : decode cL_column 63 = .ok (.iload 9, 2) := by decide +kernel
theorem dL_column_65 : decode cL_column 65 = .ok (.iconst 1, 1) := by decide +kernel
theorem dL_column_66 : decode cL_column 66 = .ok (.iadd, 1) := by decide +kernel
theorem dL_column_67 : decode cL_column 67 = .ok (.goto 5, 3) := by decide +kernel
theorem dL_column_70 : decode cL_column 70 = .ok (.iload 6, 2) := by decide +kernel
theorem dL_column_72 : decode cL_column 72 = .ok (.istore 6, 2) := by decide +kernel
theorem dL_column_74 : decode cL_column 74 = .ok (.iinc 8 1, 3) := by decide +kernel
theorem dL_column_77 : decode cL_column 77 = .ok (.goto (-62), 3) := by decide +kernel
theorem dL_column_80 : decode cL_column 80 = .ok (.iinc 7 1, 3) := by decide +kernel
theorem dL_column_83 : decode cL_column 83 = .ok (.goto (-77), 3) := by decide +kernel
theorem dL_column_86 : decode cL_column 86 = .ok (.iload 6, 2) := by decide +kernel
theorem dL_column_88 : decode cL_column 88 = .ok (.ireturn, 1) := by decide +kernel
theorem dL_semitones_0 : decode cL_semitones 0 = .ok (.iload_n 0, 1) := by decide +kernel
theorem dL_semitones_1 : decode cL_semitones 1 = .ok (.iconst 3, 1) := by decide +kernel
theorem dL_semitones_2 : decode cL_semitones 2 = .ok (.if_icmp .ge 9, 3) := by decide +kernel
theorem dL_semitones_5 : decode cL_semitones 5 = .ok (.iconst 2, 1) := by decide +kernel
theorem dL_semitones_6 : decode cL_semitones 6 = .ok (.iload_n 0, 1) := by decide +kernel
theorem dL_semitones_7 : decode cL_semitones 7 = .ok (.imul, 1) := by decide +kernel
theorem dL_semitones_8 : decode cL_semitones 8 = .ok (.goto 8, 3) := by decide +kernel
theorem dL_semitones_11 : decode cL_semitones 11 = .ok (.iconst 2, 1) := by decide +kernel
theorem dL_semitones_12 : decode cL_semitones 12 = .ok (.iload_n 0, 1) := by decide +kernel
theorem dL_semitones_13 : decode cL_semitones 13 = .ok (.imul, 1) := by decide +kernel
theorem dL_semitones_14 : decode cL_semitones 14 = .ok (.iconst 1, 1) := by decide +kernel
theorem dL_semitones_15 : decode cL_semitones 15 = .ok (.isub, 1) := by decide +kernel
theorem dL_semitones_16 : decode cL_semitones 16 = .ok (.ireturn, 1) := by decide +kernel
theorem dL_degree_0 : decode cL_degree 0 = .ok (.iconst 0, 1) := by decide +kernel
theorem dL_degree_1 : decode cL_degree 1 = .ok (.istore_n 2, 1) := by decide +kernel
theorem dL_degree_2 : decode cL_degree 2 = .ok (.iload_n 2, 1) := by decide +kernel
theorem dL_degree_3 : decode cL_degree 3 = .ok (.bipush 7, 2) := by decide +kernel
theorem dL_degree_5 : decode cL_degree 5 = .ok (.if_icmp .ge 30, 3) := by decide +kernel
theorem dL_degree_8 : decode cL_degree 8 = .ok (.iload_n 0, 1) := by decide +kernel
theorem dL_degree_9 : decode cL_degree 9 = .ok (.bipush 120, 2) := by decide +kernel
theorem dL_degree_11 : decode cL_degree 11 = .ok (.iadd, 1) := by decide +kernel
theorem dL_degree_12 : decode cL_degree 12 = .ok (.aload_n 1, 1) := by decide +kernel
theorem dL_degree_13 : decode cL_degree 13 = .ok (.iconst 0, 1) := by decide +kernel
theorem dL_degree_14 : decode cL_degree 14 = .ok (.iaload, 1) := by decide +kernel
theorem dL_degree_15 : decode cL_degree 15 = .ok (.isub, 1) := by decide +kernel
theorem dL_degree_16 : decode cL_degree 16 = .ok (.iload_n 2, 1) := by decide +kernel
theorem dL_degree_17 : decode cL_degree 17 = .ok (.invokestatic 40, 3) := by decide +kernel
theorem dL_degree_20 : decode cL_degree 20 = .ok (.isub, 1) := by decide +kernel
theorem dL_degree_21 : decode cL_degree 21 = .ok (.bipush 12, 2) := by decide +kernel
theorem dL_degree_23 : decode cL_degree 23 = .ok (.irem, 1) := by decide +kernel
theorem dL_degree_24 : decode cL_degree 24 = .ok (.ifCond .ne 5, 3) := by decide +kernel
theorem dL_degree_27 : decode cL_degree 27 = .ok (.iload_n 2, 1) := by decide +kernel
theorem dL_degree_28 : decode cL_degree 28 = .ok (.ireturn, 1) := by decide +kernel
theorem dL_degree_29 : decode cL_degree 29 = .ok (.iinc 2 1, 3) := by decide +kernel
theorem dL_degree_32 : decode cL_degree 32 = .ok (.goto (-30), 3) := by decide +kernel
theorem dL_degree_35 : decode cL_degree 35 = .ok (.iconst (-1), 1) := by decide +kernel
theorem dL_degree_36 : decode cL_degree 36 = .ok (.ireturn, 1) := by decide +kernel
theorem dL_step_0 : decode cL_step 0 = .ok (.aload_n 1, 1) := by decide +kernel
theorem dL_step_1 : decode cL_step 1 = .ok (.iconst 0, 1) := by decide +kernel
theorem dL_step_2 : decode cL_step 2 = .ok (.iaload, 1) := by decide +kernel
theorem dL_step_3 : decode cL_step 3 = .ok (.ifCond .ne 7, 3) := by decide +kernel
