theorem dL_step_6 : decode cL_step 6 = .ok (.iconst 0, 1) := by decide +kernel
theorem dL_step_7 : decode cL_step 7 = .ok (.goto 62, 3) := by decide +kernel
theorem dL_step_10 : decode cL_step 10 = .ok (.aload_n 1, 1) := by decide +kernel
theorem dL_step_11 : decode cL_step 11 = .ok (.iconst 0, 1) := by decide +kernel
theorem dL_step_12 : decode cL_step 12 = .ok (.iaload, 1) := by decide +kernel
theorem dL_step_13 : decode cL_step 13 = .ok (.iconst 3, 1) := by decide +kernel
theorem dL_step_14 : decode cL_step 14 = .ok (.if_icmp .ge 7, 3) := by decide +kernel
theorem dL_step_17 : decode cL_step 17 = .ok (.iconst 1, 1) := by decide +kernel
theorem dL_step_18 : decode cL_step 18 = .ok (.goto 51, 3) := by decide +kernel
theorem dL_step_21 : decode cL_step 21 = .ok (.aload_n 1, 1) := by decide +kernel
theorem dL_step_22 : decode cL_step 22 = .ok (.iconst 0, 1) := by decide +kernel
theorem dL_step_23 : decode cL_step 23 = .ok (.iaload, 1) := by decide +kernel
theorem dL_step_24 : decode cL_step 24 = .ok (.iconst 5, 1) := by decide +kernel
theorem dL_step_25 : decode cL_step 25 = .ok (.if_icmp .ge 7, 3) := by decide +kernel
theorem dL_step_28 : decode cL_step 28 = .ok (.iconst 2, 1) := by decide +kernel
theorem dL_step_29 : decode cL_step 29 = .ok (.goto 40, 3) := by decide +kernel
theorem dL_step_32 : decode cL_step 32 = .ok (.aload_n 1, 1) := by decide +kernel
theorem dL_step_33 : decode cL_step 33 = .ok (.iconst 0, 1) := by decide +kernel
theorem dL_step_34 : decode cL_step 34 = .ok (.iaload, 1) := by decide +kernel
theorem dL_step_35 : decode cL_step 35 = .ok (.iconst 5, 1) := by decide +kernel
theorem dL_step_36 : decode cL_step 36 = .ok (.if_icmp .ne 7, 3) := by decide +kernel
theorem dL_step_39 : decode cL_step 39 = .ok (.iconst 3, 1) := by decide +kernel
theorem dL_step_40 : decode cL_step 40 = .ok (.goto 29, 3) := by decide +kernel
theorem dL_step_43 : decode cL_step 43 = .ok (.aload_n 1, 1) := by decide +kernel
theorem dL_step_44 : decode cL_step 44 = .ok (.iconst 0, 1) := by decide +kernel
theorem dL_step_45 : decode cL_step 45 = .ok (.iaload, 1) := by decide +kernel
theorem dL_step_46 : decode cL_step 46 = .ok (.bipush 8, 2) := by decide +kernel
theorem dL_step_48 : decode cL_step 48 = .ok (.if_icmp .ge 7, 3) := by decide +kernel
theorem dL_step_51 : decode cL_step 51 = .ok (.iconst 4, 1) := by decide +kernel
theorem dL_step_52 : decode cL_step 52 = .ok (.goto 17, 3) := by decide +kernel
theorem dL_step_55 : decode cL_step 55 = .ok (.aload_n 1, 1) := by decide +kernel
theorem dL_step_56 : decode cL_step 56 = .ok (.iconst 0, 1) := by decide +kernel
theorem dL_step_57 : decode cL_step 57 = .ok (.iaload, 1) := by decide +kernel
theorem dL_step_58 : decode cL_step 58 = .ok (.bipush 10, 2) := by decide +kernel
theorem dL_step_60 : decode cL_step 60 = .ok (.if_icmp .ge 7, 3) := by decide +kernel
theorem dL_step_63 : decode cL_step 63 = .ok (.iconst 5, 1) := by decide +kernel
theorem dL_step_64 : decode cL_step 64 = .ok (.goto 5, 3) := by decide +kernel
theorem dL_step_67 : decode cL_step 67 = .ok (.bipush 6, 2) := by decide +kernel
theorem dL_step_69 : decode cL_step 69 = .ok (.istore_n 2, 1) := by decide +kernel
theorem dL_step_70 : decode cL_step 70 = .ok (.iload_n 2, 1) := by decide +kernel
theorem dL_step_71 : decode cL_step 71 = .ok (.istore_n 3, 1) := by decide +kernel
theorem dL_step_72 : decode cL_step 72 = .ok (.aload_n 1, 1) := by decide +kernel
theorem dL_step_73 : decode cL_step 73 = .ok (.iconst 0, 1) := by decide +kernel
theorem dL_step_74 : decode cL_step 74 = .ok (.iaload, 1) := by decide +kernel
theorem dL_step_75 : decode cL_step 75 = .ok (.istore 4, 2) := by decide +kernel
theorem dL_step_77 : decode cL_step 77 = .ok (.iconst 0, 1) := by decide +kernel
theorem dL_step_78 : decode cL_step 78 = .ok (.istore 5, 2) := by decide +kernel
theorem dL_step_80 : decode cL_step 80 = .ok (.iload 4, 2) := by decide +kernel
theorem dL_step_82 : decode cL_step 82 = .ok (.iload_n 0, 1) := by decide +kernel
theorem dL_step_83 : decode cL_step 83 = .ok (.if_icmp .ge 41, 3) := by decide +kernel
theorem dL_step_86 : decode cL_step 86 = .ok (.iload 4, 2) := by decide +kernel
theorem dL_step_88 : decode cL_step 88 = .ok (.iload 5, 2) := by decide +kernel
theorem dL_step_90 : decode cL_step 90 = .ok (.iconst 2, 1) := by decide +kernel
theorem dL_step_91 : decode cL_step 91 = .ok (.if_icmp .eq 10, 3) := by decide +kernel
theorem dL_step_94 : decode cL_step 94 = .ok (.iload 5, 2) := by decide +kernel
theorem dL_step_96 : decode cL_step 96 = .ok (.bipush 6, 2) := by decide +kernel
theorem dL_step_98 : decode cL_step 98 = .ok (.if_icmp .ne 7, 3) := by decide +kernel
theorem dL_step_101 : decode cL_step 101 = .ok (.iconst 1, 1) := by decide +kernel
theorem dL_step_102 : decode cL_step 102 = .ok (.goto 4, 3) := by decide +kernel
theorem dL_step_105 : decode cL_step 105 = .ok (.iconst 2, 1) := by decide +kernel
theorem dL_step_106 : decode cL_step 106 = .ok (.iadd, 1) := by decide +kernel
theorem dL_step_107 : decode cL_step 107 = .ok (.istore 4, 2) := by decide +kernel
theorem dL_step_109 : decode cL_step 109 = .ok (.iload 5, 2) := by decide +kernel
theorem dL_step_111 : decode cL_step 111 = .ok (.iconst 1, 1) := by decide +kernel
theorem dL_step_112 : decode cL_step 112 = .ok (.iadd, 1) := by decide +kernel
theorem dL_step_113 : decode cL_step 113 = .ok (.bipush 7, 2) := by decide +kernel
theorem dL_step_115 : decode cL_step 115 = .ok (.irem, 1) := by decide +kernel
theorem dL_step_116 : decode cL_step 116 = .ok (.istore 5, 2) := by decide +kernel
theorem dL_step_118 : decode cL_step 118 = .ok (.iinc 3 1, 3) := by decide +kernel
theorem dL_step_121 : decode cL_step 121 = .ok (.goto (-41), 3) := by decide +kernel
theorem dL_step_124 : decode cL_step 124 = .ok (.iload_n 3, 1) := by decide +kernel
theorem dL_step_125 : decode cL_step 125 = .ok (.ireturn, 1) := by decide +kernel
theorem dL_stepOf_0 : decode cL_stepOf 0 = .ok (.iload_n 0, 1) := by decide +kernel
theorem dL_stepOf_1 : decode cL_stepOf 1 = .ok (.aload_n 1, 1) := by decide +kernel
theorem dL_stepOf_2 : decode cL_stepOf 2 = .ok (.invokestatic 43, 3) := by decide +kernel
theorem dL_stepOf_5 : decode cL_stepOf 5 = .ok (.ifCond .ge 9, 3) := by decide +kernel
theorem dL_stepOf_8 : decode cL_stepOf 8 = .ok (.iload_n 0, 1) := by decide +kernel
theorem dL_stepOf_9 : decode cL_stepOf 9 = .ok (.iconst 1, 1) := by decide +kernel
theorem dL_stepOf_10 : decode cL_stepOf 10 = .ok (.isub, 1) := by decide +kernel
theorem dL_stepOf_11 : decode cL_stepOf 11 = .ok (.goto 4, 3) := by decide +kernel
theorem dL_stepOf_14 : decode cL_stepOf 14 = .ok (.iload_n 0, 1) := by decide +kernel
theorem dL_stepOf_15 : decode cL_stepOf 15 = .ok (.aload_n 1, 1) := by decide +kernel
theorem dL_stepOf_16 : decode cL_stepOf 16 = .ok (.invokestatic 47, 3) := by decide +kernel
theorem dL_stepOf_19 : decode cL_stepOf 19 = .ok (.ireturn, 1) := by decide +kernel
theorem dL_apart_0 : decode cL_apart 0 = .ok (.iload_n 0, 1) := by decide +kernel
theorem dL_apart_1 : decode cL_apart 1 = .ok (.iload_n 1, 1) := by decide +kernel
theorem dL_apart_2 : decode cL_apart 2 = .ok (.if_icmp .le 9, 3) := by decide +kernel
theorem dL_apart_5 : decode cL_apart 5 = .ok (.iload_n 0, 1) := by decide +kernel
theorem dL_apart_6 : decode cL_apart 6 = .ok (.iload_n 1, 1) := by decide +kernel
theorem dL_apart_7 : decode cL_apart 7 = .ok (.isub, 1) := by decide +kernel
theorem dL_apart_8 : decode cL_apart 8 = .ok (.goto 6, 3) := by decide +kernel
theorem dL_apart_11 : decode cL_apart 11 = .ok (.iload_n 1, 1) := by decide +kernel
theorem dL_apart_12 : decode cL_apart 12 = .ok (.iload_n 0, 1) := by decide +kernel
theorem dL_apart_13 : decode cL_apart 13 = .ok (.isub, 1) := by decide +kernel
theorem dL_apart_14 : decode cL_apart 14 = .ok (.ireturn, 1) := by decide +kernel
theorem dL_parallels_0 : decode cL_parallels 0 = .ok (.iconst 0, 1) := by decide +kernel
theorem dL_parallels_1 : decode cL_parallels 1 = .ok (.istore_n 2, 1) := by decide +kernel
theorem dL_parallels_2 : decode cL_parallels 2 = .ok (.iconst 0, 1) := by decide +kernel
theorem dL_parallels_3 : decode cL_parallels 3 = .ok (.istore_n 3, 1) := by decide +kernel
theorem dL_parallels_4 : decode cL_parallels 4 = .ok (.iconst 0, 1) := by decide +kernel
theorem dL_parallels_5 : decode cL_parallels 5 = .ok (.istore 4, 2) := by decide +kernel
theorem dL_parallels_7 : decode cL_parallels 7 = .ok (.iload 4, 2) := by decide +kernel
theorem dL_parallels_9 : decode cL_parallels 9 = .ok (.iconst 4, 1) := by decide +kernel
theorem dL_parallels_10 : decode cL_parallels 10 = .ok (.if_icmp .ge 201, 3) := by decide +kernel
theorem dL_parallels_13 : decode cL_parallels 13 = .ok (.iload 4, 2) := by decide +kernel
theorem dL_parallels_15 : decode cL_parallels 15 = .ok (.iconst 1, 1) := by decide +kernel
theorem dL_parallels_16 : decode cL_parallels 16 = .ok (.iadd, 1) := by decide +kernel
theorem dL_parallels_17 : decode cL_parallels 17 = .ok (.istore 5, 2) := by decide +kernel
theorem dL_parallels_19 : decode cL_parallels 19 = .ok (.iload 5, 2) := by decide +kernel
theorem dL_parallels_21 : decode cL_parallels 21 = .ok (.iconst 4, 1) := by decide +kernel
theorem dL_parallels_22 : decode cL_parallels 22 = .ok (.if_icmp .ge 183, 3) := by decide +kernel
theorem dL_parallels_25 : decode cL_parallels 25 = .ok (.aload_n 1, 1) := by decide +kernel
theorem dL_parallels_26 : decode cL_parallels 26 = .ok (.iconst 5, 1) := by decide +kernel
theorem dL_parallels_27 : decode cL_parallels 27 = .ok (.iload_n 0, 1) := by decide +kernel
theorem dL_parallels_28 : decode cL_parallels 28 = .ok (.imul, 1) := by decide +kernel
theorem dL_parallels_29 : decode cL_parallels 29 = .ok (.iconst 1, 1) := by decide +kernel
theorem dL_parallels_30 : decode cL_parallels 30 = .ok (.iadd, 1) := by decide +kernel
theorem dL_parallels_31 : decode cL_parallels 31 = .ok (.iload 4, 2) := by decide +kernel
theorem dL_parallels_33 : decode cL_parallels 33 = .ok (.iadd, 1) := by decide +kernel
theorem dL_parallels_34 : decode cL_parallels 34 = .ok (.iaload, 1) := by decide +kernel
theorem dL_parallels_35 : decode cL_parallels 35 = .ok (.istore 6, 2) := by decide +kernel
theorem dL_parallels_37 : decode cL_parallels 37 = .ok (.aload_n 1, 1) := by decide +kernel
theorem dL_parallels_38 : decode cL_parallels 38 = .ok (.iconst 5, 1) := by decide +kernel
theorem dL_parallels_39 : decode cL_parallels 39 = .ok (.iload_n 0, 1) := by decide +kernel
theorem dL_parallels_40 : decode cL_parallels 40 = .ok (.imul, 1) := by decide +kernel
theorem dL_parallels_41 : decode cL_parallels 41 = .ok (.iconst 1, 1) := by decide +kernel
theorem dL_parallels_42 : decode cL_parallels 42 = .ok (.iadd, 1) := by decide +kernel
theorem dL_parallels_43 : decode cL_parallels 43 = .ok (.iload 5, 2) := by decide +kernel
theorem dL_parallels_45 : decode cL_parallels 45 = .ok (.iadd, 1) := by decide +kernel
theorem dL_parallels_46 : decode cL_parallels 46 = .ok (.iaload, 1) := by decide +kernel
theorem dL_parallels_47 : decode cL_parallels 47 = .ok (.istore 7, 2) := by decide +kernel
theorem dL_parallels_49 : decode cL_parallels 49 = .ok (.iload_n 0, 1) := by decide +kernel
theorem dL_parallels_50 : decode cL_parallels 50 = .ok (.ifCond .ne 8, 3) := by decide +kernel
theorem dL_parallels_53 : decode cL_parallels 53 = .ok (.iload 6, 2) := by decide +kernel
theorem dL_parallels_55 : decode cL_parallels 55 = .ok (.goto 13, 3) := by decide +kernel
theorem dL_parallels_58 : decode cL_parallels 58 = .ok (.aload_n 1, 1) := by decide +kernel
theorem dL_parallels_59 : decode cL_parallels 59 = .ok (.iconst 5, 1) := by decide +kernel
theorem dL_parallels_60 : decode cL_parallels 60 = .ok (.iload_n 0, 1) := by decide +kernel
theorem dL_parallels_61 : decode cL_parallels 61 = .ok (.imul, 1) := by decide +kernel
theorem dL_parallels_62 : decode cL_parallels 62 = .ok (.iconst 4, 1) := by decide +kernel
theorem dL_parallels_63 : decode cL_parallels 63 = .ok (.isub, 1) := by decide +kernel
theorem dL_parallels_64 : decode cL_parallels 64 = .ok (.iload 4, 2) := by decide +kernel
theorem dL_parallels_66 : decode cL_parallels 66 = .ok (.iadd, 1) := by decide +kernel
theorem dL_parallels_67 : decode cL_parallels 67 = .ok (.iaload, 1) := by decide +kernel
theorem dL_parallels_68 : decode cL_parallels 68 = .ok (.istore 8, 2) := by decide +kernel
theorem dL_parallels_70 : decode cL_parallels 70 = .ok (.iload_n 0, 1) := by decide +kernel
theorem dL_parallels_71 : decode cL_parallels 71 = .ok (.ifCond .ne 8, 3) := by decide +kernel
theorem dL_parallels_74 : decode cL_parallels 74 = .ok (.iload 7, 2) := by decide +kernel
theorem dL_parallels_76 : decode cL_parallels 76 = .ok (.goto 13, 3) := by decide +kernel
theorem dL_parallels_79 : decode cL_parallels 79 = .ok (.aload_n 1, 1) := by decide +kernel
theorem dL_parallels_80 : decode cL_parallels 80 = .ok (.iconst 5, 1) := by decide +kernel
theorem dL_parallels_81 : decode cL_parallels 81 = .ok (.iload_n 0, 1) := by decide +kernel
theorem dL_parallels_82 : decode cL_parallels 82 = .ok (.imul, 1) := by decide +kernel
theorem dL_parallels_83 : decode cL_parallels 83 = .ok (.iconst 4, 1) := by decide +kernel
theorem dL_parallels_84 : decode cL_parallels 84 = .ok (.isub, 1) := by decide +kernel
theorem dL_parallels_85 : decode cL_parallels 85 = .ok (.iload 5, 2) := by decide +kernel
theorem dL_parallels_87 : decode cL_parallels 87 = .ok (.iadd, 1) := by decide +kernel
theorem dL_parallels_88 : decode cL_parallels 88 = .ok (.iaload, 1) := by decide +kernel
theorem dL_parallels_89 : decode cL_parallels 89 = .ok (.istore 9, 2) := by decide +kernel
theorem dL_parallels_91 : decode cL_parallels 91 = .ok (.iload 6, 2) := by decide +kernel
theorem dL_parallels_93 : decode cL_parallels 93 = .ok (.iload 7, 2) := by decide +kernel
theorem dL_parallels_95 : decode cL_parallels 95 = .ok (.isub, 1) := by decide +kernel
theorem dL_parallels_96 : decode cL_parallels 96 = .ok (.bipush 120, 2) := by decide +kernel
theorem dL_parallels_98 : decode cL_parallels 98 = .ok (.iadd, 1) := by decide +kernel
theorem dL_parallels_99 : decode cL_parallels 99 = .ok (.bipush 12, 2) := by decide +kernel
theorem dL_parallels_101 : decode cL_parallels 101 = .ok (.irem, 1) := by decide +kernel
theorem dL_parallels_102 : decode cL_parallels 102 = .ok (.iload 8, 2) := by decide +kernel
theorem dL_parallels_104 : decode cL_parallels 104 = .ok (.iload 9, 2) := by decide +kernel
theorem dL_parallels_106 : decode cL_parallels 106 = .ok (.isub, 1) := by decide +kernel
theorem dL_parallels_107 : decode cL_parallels 107 = .ok (.bipush 120, 2) := by decide +kernel
theorem dL_parallels_109 : decode cL_parallels 109 = .ok (.iadd, 1) := by decide +kernel
theorem dL_parallels_110 : decode cL_parallels 110 = .ok (.bipush 12, 2) := by decide +kernel
theorem dL_parallels_112 : decode cL_parallels 112 = .ok (.irem, 1) := by decide +kernel
theorem dL_parallels_113 : decode cL_parallels 113 = .ok (.if_icmp .ne 37, 3) := by decide +kernel
theorem dL_parallels_116 : decode cL_parallels 116 = .ok (.iload 6, 2) := by decide +kernel
theorem dL_parallels_118 : decode cL_parallels 118 = .ok (.iload 7, 2) := by decide +kernel
theorem dL_parallels_120 : decode cL_parallels 120 = .ok (.isub, 1) := by decide +kernel
theorem dL_parallels_121 : decode cL_parallels 121 = .ok (.bipush 120, 2) := by decide +kernel
theorem dL_parallels_123 : decode cL_parallels 123 = .ok (.iadd, 1) := by decide +kernel
theorem dL_parallels_124 : decode cL_parallels 124 = .ok (.bipush 12, 2) := by decide +kernel
theorem dL_parallels_126 : decode cL_parallels 126 = .ok (.irem, 1) := by decide +kernel
theorem dL_parallels_127 : decode cL_parallels 127 = .ok (.ifCond .eq 19, 3) := by decide +kernel
theorem dL_parallels_130 : decode cL_parallels 130 = .ok (.iload 6, 2) := by decide +kernel
theorem dL_parallels_132 : decode cL_parallels 132 = .ok (.iload 7, 2) := by decide +kernel
theorem dL_parallels_134 : decode cL_parallels 134 = .ok (.isub, 1) := by decide +kernel
theorem dL_parallels_135 : decode cL_parallels 135 = .ok (.bipush 120, 2) := by decide +kernel
theorem dL_parallels_137 : decode cL_parallels 137 = .ok (.iadd, 1) := by decide +kernel
theorem dL_parallels_138 : decode cL_parallels 138 = .ok (.bipush 12, 2) := by decide +kernel
theorem dL_parallels_140 : decode cL_parallels 140 = .ok (.irem, 1) := by decide +kernel
theorem dL_parallels_141 : decode cL_parallels 141 = .ok (.bipush 7, 2) := by decide +kernel
theorem dL_parallels_143 : decode cL_parallels 143 = .ok (.if_icmp .ne 7, 3) := by decide +kernel
theorem dL_parallels_146 : decode cL_parallels 146 = .ok (.iconst 1, 1) := by decide +kernel
theorem dL_parallels_147 : decode cL_parallels 147 = .ok (.goto 4, 3) := by decide +kernel
theorem dL_parallels_150 : decode cL_parallels 150 = .ok (.iconst 0, 1) := by decide +kernel
theorem dL_parallels_151 : decode cL_parallels 151 = .ok (.istore 10, 2) := by decide +kernel
theorem dL_parallels_153 : decode cL_parallels 153 = .ok (.iload_n 2, 1) := by decide +kernel
theorem dL_parallels_154 : decode cL_parallels 154 = .ok (.iload 10, 2) := by decide +kernel
theorem dL_parallels_156 : decode cL_parallels 156 = .ok (.ifCond .eq 37, 3) := by decide +kernel
theorem dL_parallels_159 : decode cL_parallels 159 = .ok (.iload 6, 2) := by decide +kernel
theorem dL_parallels_161 : decode cL_parallels 161 = .ok (.iload 8, 2) := by decide +kernel
theorem dL_parallels_163 : decode cL_parallels 163 = .ok (.if_icmp .le 10, 3) := by decide +kernel
theorem dL_parallels_166 : decode cL_parallels 166 = .ok (.iload 7, 2) := by decide +kernel
theorem dL_parallels_168 : decode cL_parallels 168 = .ok (.iload 9, 2) := by decide +kernel
theorem dL_parallels_170 : decode cL_parallels 170 = .ok (.if_icmp .gt 17, 3) := by decide +kernel
theorem dL_parallels_173 : decode cL_parallels 173 = .ok (.iload 6, 2) := by decide +kernel
theorem dL_parallels_175 : decode cL_parallels 175 = .ok (.iload 8, 2) := by decide +kernel
theorem dL_parallels_177 : decode cL_parallels 177 = .ok (.if_icmp .ge 16, 3) := by decide +kernel
theorem dL_parallels_180 : decode cL_parallels 180 = .ok (.iload 7, 2) := by decide +kernel
theorem dL_parallels_182 : decode cL_parallels 182 = .ok (.iload 9, 2) := by decide +kernel
theorem dL_parallels_184 : decode cL_parallels 184 = .ok (.if_icmp .ge 9, 3) := by decide +kernel
theorem dL_parallels_187 : decode cL_parallels 187 = .ok (.iconst 1, 1) := by decide +kernel
theorem dL_parallels_188 : decode cL_parallels 188 = .ok (.iload_n 3, 1) := by decide +kernel
theorem dL_parallels_189 : decode cL_parallels 189 = .ok (.ishl, 1) := by decide +kernel
theorem dL_parallels_190 : decode cL_parallels 190 = .ok (.goto 4, 3) := by decide +kernel
theorem dL_parallels_193 : decode cL_parallels 193 = .ok (.iconst 0, 1) := by decide +kernel
theorem dL_parallels_194 : decode cL_parallels 194 = .ok (.ior, 1) := by decide +kernel
theorem dL_parallels_195 : decode cL_parallels 195 = .ok (.istore_n 2, 1) := by decide +kernel
theorem dL_parallels_196 : decode cL_parallels 196 = .ok (.iinc 3 1, 3) := by decide +kernel
theorem dL_parallels_199 : decode cL_parallels 199 = .ok (.iinc 5 1, 3) := by decide +kernel
theorem dL_parallels_202 : decode cL_parallels 202 = .ok (.goto (-183), 3) := by decide +kernel
theorem dL_parallels_205 : decode cL_parallels 205 = .ok (.iinc 4 1, 3) := by decide +kernel
theorem dL_parallels_208 : decode cL_parallels 208 = .ok (.goto (-201), 3) := by decide +kernel
theorem dL_parallels_211 : decode cL_parallels 211 = .ok (.iload_n 2, 1) := by decide +kernel
theorem dL_parallels_212 : decode cL_parallels 212 = .ok (.ireturn, 1) := by decide +kernel
theorem dL_note_0 : decode cL_note 0 = .ok (.iconst 5, 1) := by decide +kernel
theorem dL_note_1 : decode cL_note 1 = .ok (.iload_n 1, 1) := by decide +kernel
theorem dL_note_2 : decode cL_note 2 = .ok (.imul, 1) := by decide +kernel
theorem dL_note_3 : decode cL_note 3 = .ok (.istore 7, 2) := by decide +kernel
theorem dL_note_5 : decode cL_note 5 = .ok (.iload_n 1, 1) := by decide +kernel
theorem dL_note_6 : decode cL_note 6 = .ok (.aload 4, 2) := by decide +kernel
theorem dL_note_8 : decode cL_note 8 = .ok (.aload 5, 2) := by decide +kernel
theorem dL_note_10 : decode cL_note 10 = .ok (.invokestatic 14, 3) := by decide +kernel
theorem dL_note_13 : decode cL_note 13 = .ok (.istore 8, 2) := by decide +kernel
theorem dL_note_15 : decode cL_note 15 = .ok (.iconst 0, 1) := by decide +kernel
theorem dL_note_16 : decode cL_note 16 = .ok (.istore 9, 2) := by decide +kernel
theorem dL_note_18 : decode cL_note 18 = .ok (.iconst 0, 1) := by decide +kernel
theorem dL_note_19 : decode cL_note 19 = .ok (.istore 10, 2) := by decide +kernel
theorem dL_note_21 : decode cL_note 21 = .ok (.iload 10, 2) := by decide +kernel
theorem dL_note_23 : decode cL_note 23 = .ok (.iload_n 1, 1) := by decide +kernel
theorem dL_note_24 : decode cL_note 24 = .ok (.if_icmp .ge 23, 3) := by decide +kernel
theorem dL_note_27 : decode cL_note 27 = .ok (.iload 9, 2) := by decide +kernel
theorem dL_note_29 : decode cL_note 29 = .ok (.aload 5, 2) := by decide +kernel
theorem dL_note_31 : decode cL_note 31 = .ok (.iconst 5, 1) := by decide +kernel
theorem dL_note_32 : decode cL_note 32 = .ok (.iload 10, 2) := by decide +kernel
theorem dL_note_34 : decode cL_note 34 = .ok (.imul, 1) := by decide +kernel
theorem dL_note_35 : decode cL_note 35 = .ok (.iaload, 1) := by decide +kernel
theorem dL_note_36 : decode cL_note 36 = .ok (.iconst 2, 1) := by decide +kernel
theorem dL_note_37 : decode cL_note 37 = .ok (.ishr, 1) := by decide +kernel
theorem dL_note_38 : decode cL_note 38 = .ok (.iadd, 1) := by decide +kernel
theorem dL_note_39 : decode cL_note 39 = .ok (.istore 9, 2) := by decide +kernel
theorem dL_note_41 : decode cL_note 41 = .ok (.iinc 10 1, 3) := by decide +kernel
theorem dL_note_44 : decode cL_note 44 = .ok (.goto (-23), 3) := by decide +kernel
theorem dL_note_47 : decode cL_note 47 = .ok (.iconst 0, 1) := by decide +kernel
theorem dL_note_48 : decode cL_note 48 = .ok (.istore 10, 2) := by decide +kernel
theorem dL_note_50 : decode cL_note 50 = .ok (.iconst 0, 1) := by decide +kernel
theorem dL_note_51 : decode cL_note 51 = .ok (.istore 11, 2) := by decide +kernel
theorem dL_note_53 : decode cL_note 53 = .ok (.aload 4, 2) := by decide +kernel
theorem dL_note_55 : decode cL_note 55 = .ok (.iconst 3, 1) := by decide +kernel
theorem dL_note_56 : decode cL_note 56 = .ok (.iaload, 1) := by decide +kernel
theorem dL_note_57 : decode cL_note 57 = .ok (.istore 12, 2) := by decide +kernel
theorem dL_note_59 : decode cL_note 59 = .ok (.iload 12, 2) := by decide +kernel
theorem dL_note_61 : decode cL_note 61 = .ok (.iload 9, 2) := by decide +kernel
theorem dL_note_63 : decode cL_note 63 = .ok (.if_icmp .gt 22, 3) := by decide +kernel
theorem dL_note_66 : decode cL_note 66 = .ok (.iload 12, 2) := by decide +kernel
theorem dL_note_68 : decode cL_note 68 = .ok (.istore 11, 2) := by decide +kernel
theorem dL_note_70 : decode cL_note 70 = .ok (.iload 12, 2) := by decide +kernel
theorem dL_note_72 : decode cL_note 72 = .ok (.aload 4, 2) := by decide +kernel
theorem dL_note_74 : decode cL_note 74 = .ok (.iconst 2, 1) := by decide +kernel
theorem dL_note_75 : decode cL_note 75 = .ok (.iaload, 1) := by decide +kernel
theorem dL_note_76 : decode cL_note 76 = .ok (.iadd, 1) := by decide +kernel
theorem dL_note_77 : decode cL_note 77 = .ok (.istore 12, 2) := by decide +kernel
theorem dL_note_79 : decode cL_note 79 = .ok (.iinc 10 1, 3) := by decide +kernel
theorem dL_note_82 : decode cL_note 82 = .ok (.goto (-23), 3) := by decide +kernel
theorem dL_note_85 : decode cL_note 85 = .ok (.aload_n 0, 1) := by decide +kernel
theorem dL_note_86 : decode cL_note 86 = .ok (.iload_n 1, 1) := by decide +kernel
theorem dL_note_87 : decode cL_note 87 = .ok (.iconst 0, 1) := by decide +kernel
theorem dL_note_88 : decode cL_note 88 = .ok (.invokevirtual 50, 3) := by decide +kernel
theorem dL_note_91 : decode cL_note 91 = .ok (.aload 5, 2) := by decide +kernel
theorem dL_note_93 : decode cL_note 93 = .ok (.iload 7, 2) := by decide +kernel
theorem dL_note_95 : decode cL_note 95 = .ok (.iaload, 1) := by decide +kernel
theorem dL_note_96 : decode cL_note 96 = .ok (.iconst 2, 1) := by decide +kernel
theorem dL_note_97 : decode cL_note 97 = .ok (.ishr, 1) := by decide +kernel
theorem dL_note_98 : decode cL_note 98 = .ok (.if_icmp .ne 152, 3) := by decide +kernel
theorem dL_note_101 : decode cL_note 101 = .ok (.aload_n 0, 1) := by decide +kernel
theorem dL_note_102 : decode cL_note 102 = .ok (.iload_n 1, 1) := by decide +kernel
theorem dL_note_103 : decode cL_note 103 = .ok (.iconst 1, 1) := by decide +kernel
theorem dL_note_104 : decode cL_note 104 = .ok (.invokevirtual 50, 3) := by decide +kernel
theorem dL_note_107 : decode cL_note 107 = .ok (.iload_n 1, 1) := by decide +kernel
theorem dL_note_108 : decode cL_note 108 = .ok (.aload 4, 2) := by decide +kernel
theorem dL_note_110 : decode cL_note 110 = .ok (.aload 5, 2) := by decide +kernel
theorem dL_note_112 : decode cL_note 112 = .ok (.invokestatic 18, 3) := by decide +kernel
theorem dL_note_115 : decode cL_note 115 = .ok (.ifCond .eq 7, 3) := by decide +kernel
theorem dL_note_118 : decode cL_note 118 = .ok (.iconst 1, 1) := by decide +kernel
theorem dL_note_119 : decode cL_note 119 = .ok (.goto 4, 3) := by decide +kernel
theorem dL_note_122 : decode cL_note 122 = .ok (.iconst 0, 1) := by decide +kernel
theorem dL_note_123 : decode cL_note 123 = .ok (.if_icmp .ne 127, 3) := by decide +kernel
theorem dL_note_126 : decode cL_note 126 = .ok (.aload_n 0, 1) := by decide +kernel
theorem dL_note_127 : decode cL_note 127 = .ok (.iload_n 1, 1) := by decide +kernel
theorem dL_note_128 : decode cL_note 128 = .ok (.iconst 2, 1) := by decide +kernel
theorem dL_note_129 : decode cL_note 129 = .ok (.invokevirtual 50, 3) := by decide +kernel
theorem dL_note_132 : decode cL_note 132 = .ok (.iload 8, 2) := by decide +kernel
theorem dL_note_134 : decode cL_note 134 = .ok (.if_icmp .ne 116, 3) := by decide +kernel
theorem dL_note_137 : decode cL_note 137 = .ok (.aload_n 0, 1) := by decide +kernel
theorem dL_note_138 : decode cL_note 138 = .ok (.iload_n 1, 1) := by decide +kernel
theorem dL_note_139 : decode cL_note 139 = .ok (.iconst 3, 1) := by decide +kernel
theorem dL_note_140 : decode cL_note 140 = .ok (.invokevirtual 50, 3) := by decide +kernel
theorem dL_note_143 : decode cL_note 143 = .ok (.iload_n 1, 1) := by decide +kernel
theorem dL_note_144 : decode cL_note 144 = .ok (.iload 8, 2) := by decide +kernel
theorem dL_note_146 : decode cL_note 146 = .ok (.aload 4, 2) := by decide +kernel
theorem dL_note_148 : decode cL_note 148 = .ok (.aload 5, 2) := by decide +kernel
theorem dL_note_150 : decode cL_note 150 = .ok (.invokestatic 25, 3) := by decide +kernel
theorem dL_note_153 : decode cL_note 153 = .ok (.isub, 1) := by decide +kernel
theorem dL_note_154 : decode cL_note 154 = .ok (.if_icmp .ne 96, 3) := by decide +kernel
theorem dL_note_157 : decode cL_note 157 = .ok (.aload_n 0, 1) := by decide +kernel
theorem dL_note_158 : decode cL_note 158 = .ok (.iload_n 1, 1) := by decide +kernel
theorem dL_note_159 : decode cL_note 159 = .ok (.iconst 4, 1) := by decide +kernel
theorem dL_note_160 : decode cL_note 160 = .ok (.invokevirtual 50, 3) := by decide +kernel
theorem dL_note_163 : decode cL_note 163 = .ok (.iload 10, 2) := by decide +kernel
theorem dL_note_165 : decode cL_note 165 = .ok (.if_icmp .ne 85, 3) := by decide +kernel
theorem dL_note_168 : decode cL_note 168 = .ok (.aload_n 0, 1) := by decide +kernel
theorem dL_note_169 : decode cL_note 169 = .ok (.iload_n 1, 1) := by decide +kernel
theorem dL_note_170 : decode cL_note 170 = .ok (.iconst 5, 1) := by decide +kernel
theorem dL_note_171 : decode cL_note 171 = .ok (.invokevirtual 50, 3) := by decide +kernel
theorem dL_note_174 : decode cL_note 174 = .ok (.iload 9, 2) := by decide +kernel
theorem dL_note_176 : decode cL_note 176 = .ok (.iload 11, 2) := by decide +kernel
theorem dL_note_178 : decode cL_note 178 = .ok (.isub, 1) := by decide +kernel
theorem dL_note_179 : decode cL_note 179 = .ok (.if_icmp .ne 71, 3) := by decide +kernel
theorem dL_note_182 : decode cL_note 182 = .ok (.aload_n 0, 1) := by decide +kernel
theorem dL_note_183 : decode cL_note 183 = .ok (.iload_n 1, 1) := by decide +kernel
theorem dL_note_184 : decode cL_note 184 = .ok (.bipush 6, 2) := by decide +kernel
theorem dL_note_186 : decode cL_note 186 = .ok (.invokevirtual 50, 3) := by decide +kernel
theorem dL_note_189 : decode cL_note 189 = .ok (.iload 9, 2) := by decide +kernel
theorem dL_note_191 : decode cL_note 191 = .ok (.aload 5, 2) := by decide +kernel
theorem dL_note_193 : decode cL_note 193 = .ok (.iload 7, 2) := by decide +kernel
theorem dL_note_195 : decode cL_note 195 = .ok (.iaload, 1) := by decide +kernel
theorem dL_note_196 : decode cL_note 196 = .ok (.iconst 2, 1) := by decide +kernel
theorem dL_note_197 : decode cL_note 197 = .ok (.ishr, 1) := by decide +kernel
theorem dL_note_198 : decode cL_note 198 = .ok (.iadd, 1) := by decide +kernel
theorem dL_note_199 : decode cL_note 199 = .ok (.iload 12, 2) := by decide +kernel
theorem dL_note_201 : decode cL_note 201 = .ok (.if_icmp .le 7, 3) := by decide +kernel
theorem dL_note_204 : decode cL_note 204 = .ok (.iconst 1, 1) := by decide +kernel
theorem dL_note_205 : decode cL_note 205 = .ok (.goto 4, 3) := by decide +kernel
theorem dL_note_208 : decode cL_note 208 = .ok (.iconst 0, 1) := by decide +kernel
theorem dL_note_209 : decode cL_note 209 = .ok (.if_icmp .ne 41, 3) := by decide +kernel
theorem dL_note_212 : decode cL_note 212 = .ok (.aload_n 0, 1) := by decide +kernel
theorem dL_note_213 : decode cL_note 213 = .ok (.iload_n 1, 1) := by decide +kernel
theorem dL_note_214 : decode cL_note 214 = .ok (.bipush 7, 2) := by decide +kernel
theorem dL_note_216 : decode cL_note 216 = .ok (.invokevirtual 50, 3) := by decide +kernel
theorem dL_note_219 : decode cL_note 219 = .ok (.iload_n 1, 1) := by decide +kernel
theorem dL_note_220 : decode cL_note 220 = .ok (.iload_n 2, 1) := by decide +kernel
theorem dL_note_221 : decode cL_note 221 = .ok (.aload_n 3, 1) := by decide +kernel
theorem dL_note_222 : decode cL_note 222 = .ok (.aload 4, 2) := by decide +kernel
theorem dL_note_224 : decode cL_note 224 = .ok (.aload 5, 2) := by decide +kernel
theorem dL_note_226 : decode cL_note 226 = .ok (.aload 6, 2) := by decide +kernel
theorem dL_note_228 : decode cL_note 228 = .ok (.invokestatic 56, 3) := by decide +kernel
theorem dL_note_231 : decode cL_note 231 = .ok (.if_icmp .ne 19, 3) := by decide +kernel
theorem dL_note_234 : decode cL_note 234 = .ok (.aload_n 0, 1) := by decide +kernel
theorem dL_note_235 : decode cL_note 235 = .ok (.iload_n 1, 1) := by decide +kernel
theorem dL_note_236 : decode cL_note 236 = .ok (.bipush 8, 2) := by decide +kernel
theorem dL_note_238 : decode cL_note 238 = .ok (.invokevirtual 50, 3) := by decide +kernel
theorem dL_note_241 : decode cL_note 241 = .ok (.iload_n 1, 1) := by decide +kernel
theorem dL_note_242 : decode cL_note 242 = .ok (.aload 5, 2) := by decide +kernel
theorem dL_note_244 : decode cL_note 244 = .ok (.invokestatic 60, 3) := by decide +kernel
theorem dL_note_247 : decode cL_note 247 = .ok (.if_icmp .eq 5, 3) := by decide +kernel
theorem dL_note_250 : decode cL_note 250 = .ok (.iconst 0, 1) := by decide +kernel
theorem dL_note_251 : decode cL_note 251 = .ok (.ireturn, 1) := by decide +kernel
theorem dL_note_252 : decode cL_note 252 = .ok (.iconst 0, 1) := by decide +kernel
theorem dL_note_253 : decode cL_note 253 = .ok (.istore 13, 2) := by decide +kernel
theorem dL_note_255 : decode cL_note 255 = .ok (.iload 13, 2) := by decide +kernel
theorem dL_note_257 : decode cL_note 257 = .ok (.iconst 4, 1) := by decide +kernel
theorem dL_note_258 : decode cL_note 258 = .ok (.if_icmp .ge 233, 3) := by decide +kernel
theorem dL_note_261 : decode cL_note 261 = .ok (.aload 5, 2) := by decide +kernel
theorem dL_note_263 : decode cL_note 263 = .ok (.iload 7, 2) := by decide +kernel
theorem dL_note_265 : decode cL_note 265 = .ok (.iconst 1, 1) := by decide +kernel
theorem dL_note_266 : decode cL_note 266 = .ok (.iadd, 1) := by decide +kernel
theorem dL_note_267 : decode cL_note 267 = .ok (.iload 13, 2) := by decide +kernel
theorem dL_note_269 : decode cL_note 269 = .ok (.iadd, 1) := by decide +kernel
theorem dL_note_270 : decode cL_note 270 = .ok (.iaload, 1) := by decide +kernel
theorem dL_note_271 : decode cL_note 271 = .ok (.istore 14, 2) := by decide +kernel
theorem dL_note_273 : decode cL_note 273 = .ok (.iload 14, 2) := by decide +kernel
theorem dL_note_275 : decode cL_note 275 = .ok (.aload 4, 2) := by decide +kernel
theorem dL_note_277 : decode cL_note 277 = .ok (.invokestatic 43, 3) := by decide +kernel
theorem dL_note_280 : decode cL_note 280 = .ok (.istore 15, 2) := by decide +kernel
theorem dL_note_282 : decode cL_note 282 = .ok (.iload 15, 2) := by decide +kernel
theorem dL_note_284 : decode cL_note 284 = .ok (.ifCond .ge 15, 3) := by decide +kernel
theorem dL_note_287 : decode cL_note 287 = .ok (.iload 14, 2) := by decide +kernel
theorem dL_note_289 : decode cL_note 289 = .ok (.iconst 1, 1) := by decide +kernel
theorem dL_note_290 : decode cL_note 290 = .ok (.isub, 1) := by decide +kernel
theorem dL_note_291 : decode cL_note 291 = .ok (.aload 4, 2) := by decide +kernel
theorem dL_note_293 : decode cL_note 293 = .ok (.invokestatic 43, 3) := by decide +kernel
theorem dL_note_296 : decode cL_note 296 = .ok (.goto 5, 3) := by decide +kernel
theorem dL_note_299 : decode cL_note 299 = .ok (.iload 15, 2) := by decide +kernel
theorem dL_note_301 : decode cL_note 301 = .ok (.istore 16, 2) := by decide +kernel
theorem dL_note_303 : decode cL_note 303 = .ok (.iload 14, 2) := by decide +kernel
theorem dL_note_305 : decode cL_note 305 = .ok (.aload 4, 2) := by decide +kernel
theorem dL_note_307 : decode cL_note 307 = .ok (.invokestatic 63, 3) := by decide +kernel
theorem dL_note_310 : decode cL_note 310 = .ok (.istore 17, 2) := by decide +kernel
theorem dL_note_312 : decode cL_note 312 = .ok (.iload 13, 2) := by decide +kernel
theorem dL_note_314 : decode cL_note 314 = .ok (.iconst 2, 1) := by decide +kernel
theorem dL_note_315 : decode cL_note 315 = .ok (.if_icmp .ge 8, 3) := by decide +kernel
