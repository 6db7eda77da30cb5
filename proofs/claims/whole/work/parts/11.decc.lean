theorem dX11_init_0 : decode cX11_init 0 = .ok (.aload_n 0, 1) := by decide +kernel
theorem dX11_init_1 : decode cX11_init 1 = .ok (.invokespecial 1, 3) := by decide +kernel
theorem dX11_init_4 : decode cX11_init 4 = .ok (.aload_n 0, 1) := by decide +kernel
theorem dX11_init_5 : decode cX11_init 5 = .ok (.bipush 40, 2) := by decide +kernel
theorem dX11_init_7 : decode cX11_init 7 = .ok (.newarray .int, 2) := by decide +kernel
theorem dX11_init_9 : decode cX11_init 9 = .ok (.putfield 7, 3) := by decide +kernel
theorem dX11_init_12 : decode cX11_init 12 = .ok (.aload_n 0, 1) := by decide +kernel
theorem dX11_init_13 : decode cX11_init 13 = .ok (.sipush 160, 3) := by decide +kernel
theorem dX11_init_16 : decode cX11_init 16 = .ok (.newarray .int, 2) := by decide +kernel
theorem dX11_init_18 : decode cX11_init 18 = .ok (.putfield 13, 3) := by decide +kernel
theorem dX11_init_21 : decode cX11_init 21 = .ok (.aload_n 0, 1) := by decide +kernel
theorem dX11_init_22 : decode cX11_init 22 = .ok (.bipush 40, 2) := by decide +kernel
theorem dX11_init_24 : decode cX11_init 24 = .ok (.newarray .boolean, 2) := by decide +kernel
theorem dX11_init_26 : decode cX11_init 26 = .ok (.putfield 16, 3) := by decide +kernel
theorem dX11_init_29 : decode cX11_init 29 = .ok (.aload_n 0, 1) := by decide +kernel
theorem dX11_init_30 : decode cX11_init 30 = .ok (.bipush 40, 2) := by decide +kernel
theorem dX11_init_32 : decode cX11_init 32 = .ok (.newarray .boolean, 2) := by decide +kernel
theorem dX11_init_34 : decode cX11_init 34 = .ok (.putfield 20, 3) := by decide +kernel
theorem dX11_init_37 : decode cX11_init 37 = .ok (.aload_n 0, 1) := by decide +kernel
theorem dX11_init_38 : decode cX11_init 38 = .ok (.iconst 3, 1) := by decide +kernel
theorem dX11_init_39 : decode cX11_init 39 = .ok (.newarray .int, 2) := by decide +kernel
theorem dX11_init_41 : decode cX11_init 41 = .ok (.putfield 23, 3) := by decide +kernel
theorem dX11_init_44 : decode cX11_init 44 = .ok (.aload_n 0, 1) := by decide +kernel
theorem dX11_init_45 : decode cX11_init 45 = .ok (.iconst 3, 1) := by decide +kernel
theorem dX11_init_46 : decode cX11_init 46 = .ok (.newarray .int, 2) := by decide +kernel
theorem dX11_init_48 : decode cX11_init 48 = .ok (.putfield 26, 3) := by decide +kernel
theorem dX11_init_51 : decode cX11_init 51 = .ok (.aload_n 0, 1) := by decide +kernel
theorem dX11_init_52 : decode cX11_init 52 = .ok (.iconst 3, 1) := by decide +kernel
theorem dX11_init_53 : decode cX11_init 53 = .ok (.newarray .int, 2) := by decide +kernel
theorem dX11_init_55 : decode cX11_init 55 = .ok (.putfield 29, 3) := by decide +kernel
theorem dX11_init_58 : decode cX11_init 58 = .ok (.aload_n 0, 1) := by decide +kernel
theorem dX11_init_59 : decode cX11_init 59 = .ok (.iconst 4, 1) := by decide +kernel
theorem dX11_init_60 : decode cX11_init 60 = .ok (.putfield 32, 3) := by decide +kernel
theorem dX11_init_63 : decode cX11_init 63 = .ok (.aload_n 0, 1) := by decide +kernel
theorem dX11_init_64 : decode cX11_init 64 = .ok (.bipush 80, 2) := by decide +kernel
theorem dX11_init_66 : decode cX11_init 66 = .ok (.putfield 36, 3) := by decide +kernel
theorem dX11_init_69 : decode cX11_init 69 = .ok (.aload_n 0, 1) := by decide +kernel
theorem dX11_init_70 : decode cX11_init 70 = .ok (.bipush 96, 2) := by decide +kernel
theorem dX11_init_72 : decode cX11_init 72 = .ok (.newarray .int, 2) := by decide +kernel
theorem dX11_init_74 : decode cX11_init 74 = .ok (.putfield 39, 3) := by decide +kernel
theorem dX11_init_77 : decode cX11_init 77 = .ok (.aload_n 0, 1) := by decide +kernel
theorem dX11_init_78 : decode cX11_init 78 = .ok (.sipush 5760, 3) := by decide +kernel
theorem dX11_init_81 : decode cX11_init 81 = .ok (.newarray .int, 2) := by decide +kernel
theorem dX11_init_83 : decode cX11_init 83 = .ok (.putfield 42, 3) := by decide +kernel
theorem dX11_init_86 : decode cX11_init 86 = .ok (.aload_n 0, 1) := by decide +kernel
theorem dX11_init_87 : decode cX11_init 87 = .ok (.bipush 8, 2) := by decide +kernel
theorem dX11_init_89 : decode cX11_init 89 = .ok (.newarray .int, 2) := by decide +kernel
theorem dX11_init_91 : decode cX11_init 91 = .ok (.putfield 45, 3) := by decide +kernel
theorem dX11_init_94 : decode cX11_init 94 = .ok (.aload_n 0, 1) := by decide +kernel
theorem dX11_init_95 : decode cX11_init 95 = .ok (.sipush 192, 3) := by decide +kernel
theorem dX11_init_98 : decode cX11_init 98 = .ok (.newarray .int, 2) := by decide +kernel
theorem dX11_init_100 : decode cX11_init 100 = .ok (.putfield 48, 3) := by decide +kernel
theorem dX11_init_103 : decode cX11_init 103 = .ok (.aload_n 0, 1) := by decide +kernel
theorem dX11_init_104 : decode cX11_init 104 = .ok (.bipush 60, 2) := by decide +kernel
theorem dX11_init_106 : decode cX11_init 106 = .ok (.newarray .int, 2) := by decide +kernel
theorem dX11_init_108 : decode cX11_init 108 = .ok (.putfield 51, 3) := by decide +kernel
theorem dX11_init_111 : decode cX11_init 111 = .ok (.aload_n 0, 1) := by decide +kernel
theorem dX11_init_112 : decode cX11_init 112 = .ok (.bipush 40, 2) := by decide +kernel
theorem dX11_init_114 : decode cX11_init 114 = .ok (.newarray .int, 2) := by decide +kernel
theorem dX11_init_116 : decode cX11_init 116 = .ok (.putfield 54, 3) := by decide +kernel
theorem dX11_init_119 : decode cX11_init 119 = .ok (.aload_n 0, 1) := by decide +kernel
theorem dX11_init_120 : decode cX11_init 120 = .ok (.bipush 40, 2) := by decide +kernel
theorem dX11_init_122 : decode cX11_init 122 = .ok (.newarray .int, 2) := by decide +kernel
theorem dX11_init_124 : decode cX11_init 124 = .ok (.putfield 57, 3) := by decide +kernel
theorem dX11_init_127 : decode cX11_init 127 = .ok (.aload_n 0, 1) := by decide +kernel
theorem dX11_init_128 : decode cX11_init 128 = .ok (.bipush 40, 2) := by decide +kernel
theorem dX11_init_130 : decode cX11_init 130 = .ok (.newarray .int, 2) := by decide +kernel
theorem dX11_init_132 : decode cX11_init 132 = .ok (.putfield 60, 3) := by decide +kernel
theorem dX11_init_135 : decode cX11_init 135 = .ok (.aload_n 0, 1) := by decide +kernel
theorem dX11_init_136 : decode cX11_init 136 = .ok (.bipush 80, 2) := by decide +kernel
theorem dX11_init_138 : decode cX11_init 138 = .ok (.newarray .int, 2) := by decide +kernel
theorem dX11_init_140 : decode cX11_init 140 = .ok (.putfield 63, 3) := by decide +kernel
theorem dX11_init_143 : decode cX11_init 143 = .ok (.aload_n 0, 1) := by decide +kernel
theorem dX11_init_144 : decode cX11_init 144 = .ok (.bipush 40, 2) := by decide +kernel
theorem dX11_init_146 : decode cX11_init 146 = .ok (.newarray .int, 2) := by decide +kernel
theorem dX11_init_148 : decode cX11_init 148 = .ok (.putfield 66, 3) := by decide +kernel
theorem dX11_init_151 : decode cX11_init 151 = .ok (.aload_n 0, 1) := by decide +kernel
theorem dX11_init_152 : decode cX11_init 152 = .ok (.bipush 40, 2) := by decide +kernel
theorem dX11_init_154 : decode cX11_init 154 = .ok (.newarray .int, 2) := by decide +kernel
theorem dX11_init_156 : decode cX11_init 156 = .ok (.putfield 69, 3) := by decide +kernel
theorem dX11_init_159 : decode cX11_init 159 = .ok (.aload_n 0, 1) := by decide +kernel
theorem dX11_init_160 : decode cX11_init 160 = .ok (.bipush 40, 2) := by decide +kernel
theorem dX11_init_162 : decode cX11_init 162 = .ok (.newarray .int, 2) := by decide +kernel
theorem dX11_init_164 : decode cX11_init 164 = .ok (.putfield 72, 3) := by decide +kernel
theorem dX11_init_167 : decode cX11_init 167 = .ok (.aload_n 0, 1) := by decide +kernel
theorem dX11_init_168 : decode cX11_init 168 = .ok (.bipush 48, 2) := by decide +kernel
theorem dX11_init_170 : decode cX11_init 170 = .ok (.newarray .int, 2) := by decide +kernel
theorem dX11_init_172 : decode cX11_init 172 = .ok (.putfield 75, 3) := by decide +kernel
theorem dX11_init_175 : decode cX11_init 175 = .ok (.return_, 1) := by decide +kernel
theorem dX11_thrown_0 : decode cX11_thrown 0 = .ok (.aload_n 0, 1) := by decide +kernel
theorem dX11_thrown_1 : decode cX11_thrown 1 = .ok (.getfield 78, 3) := by decide +kernel
theorem dX11_thrown_4 : decode cX11_thrown 4 = .ok (.ireturn, 1) := by decide +kernel
theorem dX11_within_0 : decode cX11_within 0 = .ok (.iload_n 0, 1) := by decide +kernel
theorem dX11_within_1 : decode cX11_within 1 = .ok (.iload_n 1, 1) := by decide +kernel
theorem dX11_within_2 : decode cX11_within 2 = .ok (.if_icmp .lt 12, 3) := by decide +kernel
theorem dX11_within_5 : decode cX11_within 5 = .ok (.iload_n 0, 1) := by decide +kernel
theorem dX11_within_6 : decode cX11_within 6 = .ok (.iload_n 2, 1) := by decide +kernel
theorem dX11_within_7 : decode cX11_within 7 = .ok (.if_icmp .gt 7, 3) := by decide +kernel
theorem dX11_within_10 : decode cX11_within 10 = .ok (.iconst 1, 1) := by decide +kernel
theorem dX11_within_11 : decode cX11_within 11 = .ok (.goto 4, 3) := by decide +kernel
theorem dX11_within_14 : decode cX11_within 14 = .ok (.iconst 0, 1) := by decide +kernel
theorem dX11_within_15 : decode cX11_within 15 = .ok (.ireturn, 1) := by decide +kernel
theorem dX11_isNote_0 : decode cX11_isNote 0 = .ok (.iload_n 1, 1) := by decide +kernel
theorem dX11_isNote_1 : decode cX11_isNote 1 = .ok (.iconst 0, 1) := by decide +kernel
theorem dX11_isNote_2 : decode cX11_isNote 2 = .ok (.aload_n 0, 1) := by decide +kernel
theorem dX11_isNote_3 : decode cX11_isNote 3 = .ok (.getfield 81, 3) := by decide +kernel
theorem dX11_isNote_6 : decode cX11_isNote 6 = .ok (.iconst 1, 1) := by decide +kernel
theorem dX11_isNote_7 : decode cX11_isNote 7 = .ok (.isub, 1) := by decide +kernel
theorem dX11_isNote_8 : decode cX11_isNote 8 = .ok (.invokestatic 84, 3) := by decide +kernel
theorem dX11_isNote_11 : decode cX11_isNote 11 = .ok (.ireturn, 1) := by decide +kernel
theorem dX11_isPitch_0 : decode cX11_isPitch 0 = .ok (.iload_n 0, 1) := by decide +kernel
theorem dX11_isPitch_1 : decode cX11_isPitch 1 = .ok (.bipush 36, 2) := by decide +kernel
theorem dX11_isPitch_3 : decode cX11_isPitch 3 = .ok (.bipush 84, 2) := by decide +kernel
theorem dX11_isPitch_5 : decode cX11_isPitch 5 = .ok (.invokestatic 84, 3) := by decide +kernel
theorem dX11_isPitch_8 : decode cX11_isPitch 8 = .ok (.ireturn, 1) := by decide +kernel
theorem dX11_layPhrases_0 : decode cX11_layPhrases 0 = .ok (.aload_n 0, 1) := by decide +kernel
theorem dX11_layPhrases_1 : decode cX11_layPhrases 1 = .ok (.iconst 0, 1) := by decide +kernel
theorem dX11_layPhrases_2 : decode cX11_layPhrases 2 = .ok (.putfield 88, 3) := by decide +kernel
theorem dX11_layPhrases_5 : decode cX11_layPhrases 5 = .ok (.iconst 1, 1) := by decide +kernel
theorem dX11_layPhrases_6 : decode cX11_layPhrases 6 = .ok (.istore_n 1, 1) := by decide +kernel
theorem dX11_layPhrases_7 : decode cX11_layPhrases 7 = .ok (.iconst 0, 1) := by decide +kernel
theorem dX11_layPhrases_8 : decode cX11_layPhrases 8 = .ok (.istore_n 2, 1) := by decide +kernel
theorem dX11_layPhrases_9 : decode cX11_layPhrases 9 = .ok (.iload_n 2, 1) := by decide +kernel
theorem dX11_layPhrases_10 : decode cX11_layPhrases 10 = .ok (.aload_n 0, 1) := by decide +kernel
theorem dX11_layPhrases_11 : decode cX11_layPhrases 11 = .ok (.getfield 81, 3) := by decide +kernel
theorem dX11_layPhrases_14 : decode cX11_layPhrases 14 = .ok (.if_icmp .ge 64, 3) := by decide +kernel
theorem dX11_layPhrases_17 : decode cX11_layPhrases 17 = .ok (.iload_n 1, 1) := by decide +kernel
theorem dX11_layPhrases_18 : decode cX11_layPhrases 18 = .ok (.ifCond .eq 23, 3) := by decide +kernel
theorem dX11_layPhrases_21 : decode cX11_layPhrases 21 = .ok (.aload_n 0, 1) := by decide +kernel
theorem dX11_layPhrases_22 : decode cX11_layPhrases 22 = .ok (.getfield 54, 3) := by decide +kernel
theorem dX11_layPhrases_25 : decode cX11_layPhrases 25 = .ok (.aload_n 0, 1) := by decide +kernel
theorem dX11_layPhrases_26 : decode cX11_layPhrases 26 = .ok (.getfield 88, 3) := by decide +kernel
theorem dX11_layPhrases_29 : decode cX11_layPhrases 29 = .ok (.iload_n 2, 1) := by decide +kernel
theorem dX11_layPhrases_30 : decode cX11_layPhrases 30 = .ok (.iastore, 1) := by decide +kernel
theorem dX11_layPhrases_31 : decode cX11_layPhrases 31 = .ok (.aload_n 0, 1) := by decide +kernel
theorem dX11_layPhrases_32 : decode cX11_layPhrases 32 = .ok (.dup, 1) := by decide +kernel
theorem dX11_layPhrases_33 : decode cX11_layPhrases 33 = .ok (.getfield 88, 3) := by decide +kernel
theorem dX11_layPhrases_36 : decode cX11_layPhrases 36 = .ok (.iconst 1, 1) := by decide +kernel
theorem dX11_layPhrases_37 : decode cX11_layPhrases 37 = .ok (.iadd, 1) := by decide +kernel
theorem dX11_layPhrases_38 : decode cX11_layPhrases 38 = .ok (.putfield 88, 3) := by decide +kernel
theorem dX11_layPhrases_41 : decode cX11_layPhrases 41 = .ok (.aload_n 0, 1) := by decide +kernel
theorem dX11_layPhrases_42 : decode cX11_layPhrases 42 = .ok (.getfield 60, 3) := by decide +kernel
theorem dX11_layPhrases_45 : decode cX11_layPhrases 45 = .ok (.iload_n 2, 1) := by decide +kernel
theorem dX11_layPhrases_46 : decode cX11_layPhrases 46 = .ok (.aload_n 0, 1) := by decide +kernel
theorem dX11_layPhrases_47 : decode cX11_layPhrases 47 = .ok (.getfield 88, 3) := by decide +kernel
theorem dX11_layPhrases_50 : decode cX11_layPhrases 50 = .ok (.iconst 1, 1) := by decide +kernel
theorem dX11_layPhrases_51 : decode cX11_layPhrases 51 = .ok (.isub, 1) := by decide +kernel
theorem dX11_layPhrases_52 : decode cX11_layPhrases 52 = .ok (.iastore, 1) := by decide +kernel
theorem dX11_layPhrases_53 : decode cX11_layPhrases 53 = .ok (.aload_n 0, 1) := by decide +kernel
theorem dX11_layPhrases_54 : decode cX11_layPhrases 54 = .ok (.getfield 57, 3) := by decide +kernel
theorem dX11_layPhrases_57 : decode cX11_layPhrases 57 = .ok (.aload_n 0, 1) := by decide +kernel
theorem dX11_layPhrases_58 : decode cX11_layPhrases 58 = .ok (.getfield 88, 3) := by decide +kernel
theorem dX11_layPhrases_61 : decode cX11_layPhrases 61 = .ok (.iconst 1, 1) := by decide +kernel
theorem dX11_layPhrases_62 : decode cX11_layPhrases 62 = .ok (.isub, 1) := by decide +kernel
theorem dX11_layPhrases_63 : decode cX11_layPhrases 63 = .ok (.iload_n 2, 1) := by decide +kernel
theorem dX11_layPhrases_64 : decode cX11_layPhrases 64 = .ok (.iastore, 1) := by decide +kernel
theorem dX11_layPhrases_65 : decode cX11_layPhrases 65 = .ok (.aload_n 0, 1) := by decide +kernel
theorem dX11_layPhrases_66 : decode cX11_layPhrases 66 = .ok (.getfield 20, 3) := by decide +kernel
theorem dX11_layPhrases_69 : decode cX11_layPhrases 69 = .ok (.iload_n 2, 1) := by decide +kernel
theorem dX11_layPhrases_70 : decode cX11_layPhrases 70 = .ok (.baload, 1) := by decide +kernel
theorem dX11_layPhrases_71 : decode cX11_layPhrases 71 = .ok (.istore_n 1, 1) := by decide +kernel
theorem dX11_layPhrases_72 : decode cX11_layPhrases 72 = .ok (.iinc 2 1, 3) := by decide +kernel
theorem dX11_layPhrases_75 : decode cX11_layPhrases 75 = .ok (.goto (-66), 3) := by decide +kernel
theorem dX11_layPhrases_78 : decode cX11_layPhrases 78 = .ok (.return_, 1) := by decide +kernel
theorem dX11_sing_0 : decode cX11_sing 0 = .ok (.iload_n 1, 1) := by decide +kernel
theorem dX11_sing_1 : decode cX11_sing 1 = .ok (.istore_n 3, 1) := by decide +kernel
theorem dX11_sing_2 : decode cX11_sing 2 = .ok (.iload_n 3, 1) := by decide +kernel
theorem dX11_sing_3 : decode cX11_sing 3 = .ok (.iload_n 2, 1) := by decide +kernel
theorem dX11_sing_4 : decode cX11_sing 4 = .ok (.if_icmp .gt 29, 3) := by decide +kernel
theorem dX11_sing_7 : decode cX11_sing 7 = .ok (.aload_n 0, 1) := by decide +kernel
theorem dX11_sing_8 : decode cX11_sing 8 = .ok (.getfield 63, 3) := by decide +kernel
theorem dX11_sing_11 : decode cX11_sing 11 = .ok (.aload_n 0, 1) := by decide +kernel
theorem dX11_sing_12 : decode cX11_sing 12 = .ok (.getfield 91, 3) := by decide +kernel
theorem dX11_sing_15 : decode cX11_sing 15 = .ok (.iload_n 3, 1) := by decide +kernel
theorem dX11_sing_16 : decode cX11_sing 16 = .ok (.iastore, 1) := by decide +kernel
theorem dX11_sing_17 : decode cX11_sing 17 = .ok (.aload_n 0, 1) := by decide +kernel
theorem dX11_sing_18 : decode cX11_sing 18 = .ok (.dup, 1) := by decide +kernel
theorem dX11_sing_19 : decode cX11_sing 19 = .ok (.getfield 91, 3) := by decide +kernel
theorem dX11_sing_22 : decode cX11_sing 22 = .ok (.iconst 1, 1) := by decide +kernel
theorem dX11_sing_23 : decode cX11_sing 23 = .ok (.iadd, 1) := by decide +kernel
theorem dX11_sing_24 : decode cX11_sing 24 = .ok (.putfield 91, 3) := by decide +kernel
theorem dX11_sing_27 : decode cX11_sing 27 = .ok (.iinc 3 1, 3) := by decide +kernel
theorem dX11_sing_30 : decode cX11_sing 30 = .ok (.goto (-28), 3) := by decide +kernel
theorem dX11_sing_33 : decode cX11_sing 33 = .ok (.return_, 1) := by decide +kernel
theorem dX11_laySung_0 : decode cX11_laySung 0 = .ok (.aload_n 0, 1) := by decide +kernel
theorem dX11_laySung_1 : decode cX11_laySung 1 = .ok (.invokevirtual 94, 3) := by decide +kernel
theorem dX11_laySung_4 : decode cX11_laySung 4 = .ok (.aload_n 0, 1) := by decide +kernel
theorem dX11_laySung_5 : decode cX11_laySung 5 = .ok (.iconst 0, 1) := by decide +kernel
theorem dX11_laySung_6 : decode cX11_laySung 6 = .ok (.putfield 91, 3) := by decide +kernel
theorem dX11_laySung_9 : decode cX11_laySung 9 = .ok (.iconst 0, 1) := by decide +kernel
theorem dX11_laySung_10 : decode cX11_laySung 10 = .ok (.istore_n 1, 1) := by decide +kernel
theorem dX11_laySung_11 : decode cX11_laySung 11 = .ok (.iload_n 1, 1) := by decide +kernel
theorem dX11_laySung_12 : decode cX11_laySung 12 = .ok (.aload_n 0, 1) := by decide +kernel
theorem dX11_laySung_13 : decode cX11_laySung 13 = .ok (.getfield 88, 3) := by decide +kernel
theorem dX11_laySung_16 : decode cX11_laySung 16 = .ok (.if_icmp .ge 84, 3) := by decide +kernel
theorem dX11_laySung_19 : decode cX11_laySung 19 = .ok (.iconst (-1), 1) := by decide +kernel
theorem dX11_laySung_20 : decode cX11_laySung 20 = .ok (.istore_n 2, 1) := by decide +kernel
theorem dX11_laySung_21 : decode cX11_laySung 21 = .ok (.iconst 0, 1) := by decide +kernel
theorem dX11_laySung_22 : decode cX11_laySung 22 = .ok (.istore_n 3, 1) := by decide +kernel
theorem dX11_laySung_23 : decode cX11_laySung 23 = .ok (.iload_n 3, 1) := by decide +kernel
theorem dX11_laySung_24 : decode cX11_laySung 24 = .ok (.aload_n 0, 1) := by decide +kernel
theorem dX11_laySung_25 : decode cX11_laySung 25 = .ok (.getfield 97, 3) := by decide +kernel
theorem dX11_laySung_28 : decode cX11_laySung 28 = .ok (.if_icmp .ge 25, 3) := by decide +kernel
theorem dX11_laySung_31 : decode cX11_laySung 31 = .ok (.aload_n 0, 1) := by decide +kernel
theorem dX11_laySung_32 : decode cX11_laySung 32 = .ok (.getfield 23, 3) := by decide +kernel
theorem dX11_laySung_35 : decode cX11_laySung 35 = .ok (.iload_n 3, 1) := by decide +kernel
theorem dX11_laySung_36 : decode cX11_laySung 36 = .ok (.iaload, 1) := by decide +kernel
theorem dX11_laySung_37 : decode cX11_laySung 37 = .ok (.iload_n 1, 1) := by decide +kernel
theorem dX11_laySung_38 : decode cX11_laySung 38 = .ok (.if_icmp .ne 7, 3) := by decide +kernel
theorem dX11_laySung_41 : decode cX11_laySung 41 = .ok (.iload_n 3, 1) := by decide +kernel
theorem dX11_laySung_42 : decode cX11_laySung 42 = .ok (.goto 4, 3) := by decide +kernel
theorem dX11_laySung_45 : decode cX11_laySung 45 = .ok (.iload_n 2, 1) := by decide +kernel
theorem dX11_laySung_46 : decode cX11_laySung 46 = .ok (.istore_n 2, 1) := by decide +kernel
theorem dX11_laySung_47 : decode cX11_laySung 47 = .ok (.iinc 3 1, 3) := by decide +kernel
theorem dX11_laySung_50 : decode cX11_laySung 50 = .ok (.goto (-27), 3) := by decide +kernel
theorem dX11_laySung_53 : decode cX11_laySung 53 = .ok (.iload_n 2, 1) := by decide +kernel
theorem dX11_laySung_54 : decode cX11_laySung 54 = .ok (.iconst (-1), 1) := by decide +kernel
theorem dX11_laySung_55 : decode cX11_laySung 55 = .ok (.if_icmp .ne 7, 3) := by decide +kernel
theorem dX11_laySung_58 : decode cX11_laySung 58 = .ok (.iload_n 1, 1) := by decide +kernel
theorem dX11_laySung_59 : decode cX11_laySung 59 = .ok (.goto 9, 3) := by decide +kernel
theorem dX11_laySung_62 : decode cX11_laySung 62 = .ok (.aload_n 0, 1) := by decide +kernel
theorem dX11_laySung_63 : decode cX11_laySung 63 = .ok (.getfield 26, 3) := by decide +kernel
theorem dX11_laySung_66 : decode cX11_laySung 66 = .ok (.iload_n 2, 1) := by decide +kernel
theorem dX11_laySung_67 : decode cX11_laySung 67 = .ok (.iaload, 1) := by decide +kernel
theorem dX11_laySung_68 : decode cX11_laySung 68 = .ok (.istore_n 3, 1) := by decide +kernel
theorem dX11_laySung_69 : decode cX11_laySung 69 = .ok (.aload_n 0, 1) := by decide +kernel
theorem dX11_laySung_70 : decode cX11_laySung 70 = .ok (.iload_n 1, 1) := by decide +kernel
theorem dX11_laySung_71 : decode cX11_laySung 71 = .ok (.iload_n 3, 1) := by decide +kernel
theorem dX11_laySung_72 : decode cX11_laySung 72 = .ok (.invokevirtual 100, 3) := by decide +kernel
theorem dX11_laySung_75 : decode cX11_laySung 75 = .ok (.iload_n 2, 1) := by decide +kernel
theorem dX11_laySung_76 : decode cX11_laySung 76 = .ok (.iconst (-1), 1) := by decide +kernel
theorem dX11_laySung_77 : decode cX11_laySung 77 = .ok (.if_icmp .eq 16, 3) := by decide +kernel
theorem dX11_laySung_80 : decode cX11_laySung 80 = .ok (.aload_n 0, 1) := by decide +kernel
theorem dX11_laySung_81 : decode cX11_laySung 81 = .ok (.iload_n 1, 1) := by decide +kernel
theorem dX11_laySung_82 : decode cX11_laySung 82 = .ok (.iload_n 3, 1) := by decide +kernel
theorem dX11_laySung_83 : decode cX11_laySung 83 = .ok (.aload_n 0, 1) := by decide +kernel
theorem dX11_laySung_84 : decode cX11_laySung 84 = .ok (.getfield 29, 3) := by decide +kernel
theorem dX11_laySung_87 : decode cX11_laySung 87 = .ok (.iload_n 2, 1) := by decide +kernel
theorem dX11_laySung_88 : decode cX11_laySung 88 = .ok (.iaload, 1) := by decide +kernel
theorem dX11_laySung_89 : decode cX11_laySung 89 = .ok (.isub, 1) := by decide +kernel
theorem dX11_laySung_90 : decode cX11_laySung 90 = .ok (.invokevirtual 100, 3) := by decide +kernel
theorem dX11_laySung_93 : decode cX11_laySung 93 = .ok (.iload_n 3, 1) := by decide +kernel
theorem dX11_laySung_94 : decode cX11_laySung 94 = .ok (.iconst 1, 1) := by decide +kernel
theorem dX11_laySung_95 : decode cX11_laySung 95 = .ok (.iadd, 1) := by decide +kernel
theorem dX11_laySung_96 : decode cX11_laySung 96 = .ok (.istore_n 1, 1) := by decide +kernel
theorem dX11_laySung_97 : decode cX11_laySung 97 = .ok (.goto (-86), 3) := by decide +kernel
theorem dX11_laySung_100 : decode cX11_laySung 100 = .ok (.return_, 1) := by decide +kernel
theorem dX11_dropRepeats_0 : decode cX11_dropRepeats 0 = .ok (.aload_n 0, 1) := by decide +kernel
theorem dX11_dropRepeats_1 : decode cX11_dropRepeats 1 = .ok (.invokevirtual 94, 3) := by decide +kernel
theorem dX11_dropRepeats_4 : decode cX11_dropRepeats 4 = .ok (.iconst 0, 1) := by decide +kernel
theorem dX11_dropRepeats_5 : decode cX11_dropRepeats 5 = .ok (.istore_n 1, 1) := by decide +kernel
theorem dX11_dropRepeats_6 : decode cX11_dropRepeats 6 = .ok (.iconst 0, 1) := by decide +kernel
theorem dX11_dropRepeats_7 : decode cX11_dropRepeats 7 = .ok (.istore_n 2, 1) := by decide +kernel
theorem dX11_dropRepeats_8 : decode cX11_dropRepeats 8 = .ok (.iload_n 2, 1) := by decide +kernel
theorem dX11_dropRepeats_9 : decode cX11_dropRepeats 9 = .ok (.aload_n 0, 1) := by decide +kernel
theorem dX11_dropRepeats_10 : decode cX11_dropRepeats 10 = .ok (.getfield 97, 3) := by decide +kernel
theorem dX11_dropRepeats_13 : decode cX11_dropRepeats 13 = .ok (.if_icmp .ge 61, 3) := by decide +kernel
theorem dX11_dropRepeats_16 : decode cX11_dropRepeats 16 = .ok (.aload_n 0, 1) := by decide +kernel
theorem dX11_dropRepeats_17 : decode cX11_dropRepeats 17 = .ok (.getfield 26, 3) := by decide +kernel
theorem dX11_dropRepeats_20 : decode cX11_dropRepeats 20 = .ok (.iload_n 2, 1) := by decide +kernel
theorem dX11_dropRepeats_21 : decode cX11_dropRepeats 21 = .ok (.iaload, 1) := by decide +kernel
theorem dX11_dropRepeats_22 : decode cX11_dropRepeats 22 = .ok (.aload_n 0, 1) := by decide +kernel
theorem dX11_dropRepeats_23 : decode cX11_dropRepeats 23 = .ok (.getfield 88, 3) := by decide +kernel
theorem dX11_dropRepeats_26 : decode cX11_dropRepeats 26 = .ok (.if_icmp .ge 42, 3) := by decide +kernel
theorem dX11_dropRepeats_29 : decode cX11_dropRepeats 29 = .ok (.aload_n 0, 1) := by decide +kernel
theorem dX11_dropRepeats_30 : decode cX11_dropRepeats 30 = .ok (.getfield 23, 3) := by decide +kernel
theorem dX11_dropRepeats_33 : decode cX11_dropRepeats 33 = .ok (.iload_n 1, 1) := by decide +kernel
theorem dX11_dropRepeats_34 : decode cX11_dropRepeats 34 = .ok (.aload_n 0, 1) := by decide +kernel
theorem dX11_dropRepeats_35 : decode cX11_dropRepeats 35 = .ok (.getfield 23, 3) := by decide +kernel
theorem dX11_dropRepeats_38 : decode cX11_dropRepeats 38 = .ok (.iload_n 2, 1) := by decide +kernel
theorem dX11_dropRepeats_39 : decode cX11_dropRepeats 39 = .ok (.iaload, 1) := by decide +kernel
theorem dX11_dropRepeats_40 : decode cX11_dropRepeats 40 = .ok (.iastore, 1) := by decide +kernel
theorem dX11_dropRepeats_41 : decode cX11_dropRepeats 41 = .ok (.aload_n 0, 1) := by decide +kernel
theorem dX11_dropRepeats_42 : decode cX11_dropRepeats 42 = .ok (.getfield 26, 3) := by decide +kernel
theorem dX11_dropRepeats_45 : decode cX11_dropRepeats 45 = .ok (.iload_n 1, 1) := by decide +kernel
theorem dX11_dropRepeats_46 : decode cX11_dropRepeats 46 = .ok (.aload_n 0, 1) := by decide +kernel
theorem dX11_dropRepeats_47 : decode cX11_dropRepeats 47 = .ok (.getfield 26, 3) := by decide +kernel
theorem dX11_dropRepeats_50 : decode cX11_dropRepeats 50 = .ok (.iload_n 2, 1) := by decide +kernel
theorem dX11_dropRepeats_51 : decode cX11_dropRepeats 51 = .ok (.iaload, 1) := by decide +kernel
theorem dX11_dropRepeats_52 : decode cX11_dropRepeats 52 = .ok (.iastore, 1) := by decide +kernel
theorem dX11_dropRepeats_53 : decode cX11_dropRepeats 53 = .ok (.aload_n 0, 1) := by decide +kernel
theorem dX11_dropRepeats_54 : decode cX11_dropRepeats 54 = .ok (.getfield 29, 3) := by decide +kernel
theorem dX11_dropRepeats_57 : decode cX11_dropRepeats 57 = .ok (.iload_n 1, 1) := by decide +kernel
theorem dX11_dropRepeats_58 : decode cX11_dropRepeats 58 = .ok (.aload_n 0, 1) := by decide +kernel
theorem dX11_dropRepeats_59 : decode cX11_dropRepeats 59 = .ok (.getfield 29, 3) := by decide +kernel
theorem dX11_dropRepeats_62 : decode cX11_dropRepeats 62 = .ok (.iload_n 2, 1) := by decide +kernel
theorem dX11_dropRepeats_63 : decode cX11_dropRepeats 63 = .ok (.iaload, 1) := by decide +kernel
theorem dX11_dropRepeats_64 : decode cX11_dropRepeats 64 = .ok (.iastore, 1) := by decide +kernel
theorem dX11_dropRepeats_65 : decode cX11_dropRepeats 65 = .ok (.iinc 1 1, 3) := by decide +kernel
theorem dX11_dropRepeats_68 : decode cX11_dropRepeats 68 = .ok (.iinc 2 1, 3) := by decide +kernel
theorem dX11_dropRepeats_71 : decode cX11_dropRepeats 71 = .ok (.goto (-63), 3) := by decide +kernel
theorem dX11_dropRepeats_74 : decode cX11_dropRepeats 74 = .ok (.aload_n 0, 1) := by decide +kernel
theorem dX11_dropRepeats_75 : decode cX11_dropRepeats 75 = .ok (.iload_n 1, 1) := by decide +kernel
theorem dX11_dropRepeats_76 : decode cX11_dropRepeats 76 = .ok (.putfield 97, 3) := by decide +kernel
theorem dX11_dropRepeats_79 : decode cX11_dropRepeats 79 = .ok (.return_, 1) := by decide +kernel
theorem dX11_isSlurred_0 : decode cX11_isSlurred 0 = .ok (.aload_n 0, 1) := by decide +kernel
theorem dX11_isSlurred_1 : decode cX11_isSlurred 1 = .ok (.getfield 16, 3) := by decide +kernel
theorem dX11_isSlurred_4 : decode cX11_isSlurred 4 = .ok (.iload_n 1, 1) := by decide +kernel
theorem dX11_isSlurred_5 : decode cX11_isSlurred 5 = .ok (.baload, 1) := by decide +kernel
theorem dX11_isSlurred_6 : decode cX11_isSlurred 6 = .ok (.ifCond .eq 22, 3) := by decide +kernel
theorem dX11_isSlurred_9 : decode cX11_isSlurred 9 = .ok (.aload_n 0, 1) := by decide +kernel
theorem dX11_isSlurred_10 : decode cX11_isSlurred 10 = .ok (.getfield 54, 3) := by decide +kernel
theorem dX11_isSlurred_13 : decode cX11_isSlurred 13 = .ok (.aload_n 0, 1) := by decide +kernel
theorem dX11_isSlurred_14 : decode cX11_isSlurred 14 = .ok (.getfield 60, 3) := by decide +kernel
theorem dX11_isSlurred_17 : decode cX11_isSlurred 17 = .ok (.iload_n 1, 1) := by decide +kernel
theorem dX11_isSlurred_18 : decode cX11_isSlurred 18 = .ok (.iaload, 1) := by decide +kernel
theorem dX11_isSlurred_19 : decode cX11_isSlurred 19 = .ok (.iaload, 1) := by decide +kernel
theorem dX11_isSlurred_20 : decode cX11_isSlurred 20 = .ok (.iload_n 1, 1) := by decide +kernel
theorem dX11_isSlurred_21 : decode cX11_isSlurred 21 = .ok (.if_icmp .eq 7, 3) := by decide +kernel
theorem dX11_isSlurred_24 : decode cX11_isSlurred 24 = .ok (.iconst 1, 1) := by decide +kernel
theorem dX11_isSlurred_25 : decode cX11_isSlurred 25 = .ok (.goto 4, 3) := by decide +kernel
theorem dX11_isSlurred_28 : decode cX11_isSlurred 28 = .ok (.iconst 0, 1) := by decide +kernel
theorem dX11_isSlurred_29 : decode cX11_isSlurred 29 = .ok (.ireturn, 1) := by decide +kernel
theorem dX11_syllablesOf_0 : decode cX11_syllablesOf 0 = .ok (.iconst 0, 1) := by decide +kernel
theorem dX11_syllablesOf_1 : decode cX11_syllablesOf 1 = .ok (.istore_n 2, 1) := by decide +kernel
theorem dX11_syllablesOf_2 : decode cX11_syllablesOf 2 = .ok (.aload_n 0, 1) := by decide +kernel
theorem dX11_syllablesOf_3 : decode cX11_syllablesOf 3 = .ok (.getfield 54, 3) := by decide +kernel
theorem dX11_syllablesOf_6 : decode cX11_syllablesOf 6 = .ok (.iload_n 1, 1) := by decide +kernel
theorem dX11_syllablesOf_7 : decode cX11_syllablesOf 7 = .ok (.iaload, 1) := by decide +kernel
theorem dX11_syllablesOf_8 : decode cX11_syllablesOf 8 = .ok (.istore_n 3, 1) := by decide +kernel
theorem dX11_syllablesOf_9 : decode cX11_syllablesOf 9 = .ok (.iload_n 3, 1) := by decide +kernel
theorem dX11_syllablesOf_10 : decode cX11_syllablesOf 10 = .ok (.aload_n 0, 1) := by decide +kernel
theorem dX11_syllablesOf_11 : decode cX11_syllablesOf 11 = .ok (.getfield 57, 3) := by decide +kernel
theorem dX11_syllablesOf_14 : decode cX11_syllablesOf 14 = .ok (.iload_n 1, 1) := by decide +kernel
theorem dX11_syllablesOf_15 : decode cX11_syllablesOf 15 = .ok (.iaload, 1) := by decide +kernel
theorem dX11_syllablesOf_16 : decode cX11_syllablesOf 16 = .ok (.if_icmp .gt 25, 3) := by decide +kernel
theorem dX11_syllablesOf_19 : decode cX11_syllablesOf 19 = .ok (.iload_n 2, 1) := by decide +kernel
theorem dX11_syllablesOf_20 : decode cX11_syllablesOf 20 = .ok (.aload_n 0, 1) := by decide +kernel
theorem dX11_syllablesOf_21 : decode cX11_syllablesOf 21 = .ok (.iload_n 3, 1) := by decide +kernel
theorem dX11_syllablesOf_22 : decode cX11_syllablesOf 22 = .ok (.invokevirtual 104, 3) := by decide +kernel
theorem dX11_syllablesOf_25 : decode cX11_syllablesOf 25 = .ok (.ifCond .eq 7, 3) := by decide +kernel
theorem dX11_syllablesOf_28 : decode cX11_syllablesOf 28 = .ok (.iconst 0, 1) := by decide +kernel
theorem dX11_syllablesOf_29 : decode cX11_syllablesOf 29 = .ok (.goto 4, 3) := by decide +kernel
theorem dX11_syllablesOf_32 : decode cX11_syllablesOf 32 = .ok (.iconst 1, 1) := by decide +kernel
theorem dX11_syllablesOf_33 : decode cX11_syllablesOf 33 = .ok (.iadd, 1) := by decide +kernel
theorem dX11_syllablesOf_34 : decode cX11_syllablesOf 34 = .ok (.istore_n 2, 1) := by decide +kernel
theorem dX11_syllablesOf_35 : decode cX11_syllablesOf 35 = .ok (.iinc 3 1, 3) := by decide +kernel
theorem dX11_syllablesOf_38 : decode cX11_syllablesOf 38 = .ok (.goto (-29), 3) := by decide +kernel
theorem dX11_syllablesOf_41 : decode cX11_syllablesOf 41 = .ok (.iload_n 2, 1) := by decide +kernel
theorem dX11_syllablesOf_42 : decode cX11_syllablesOf 42 = .ok (.ireturn, 1) := by decide +kernel
theorem dX11_syllableOf_0 : decode cX11_syllableOf 0 = .ok (.iconst 0, 1) := by decide +kernel
theorem dX11_syllableOf_1 : decode cX11_syllableOf 1 = .ok (.istore_n 2, 1) := by decide +kernel
theorem dX11_syllableOf_2 : decode cX11_syllableOf 2 = .ok (.aload_n 0, 1) := by decide +kernel
theorem dX11_syllableOf_3 : decode cX11_syllableOf 3 = .ok (.getfield 54, 3) := by decide +kernel
theorem dX11_syllableOf_6 : decode cX11_syllableOf 6 = .ok (.aload_n 0, 1) := by decide +kernel
theorem dX11_syllableOf_7 : decode cX11_syllableOf 7 = .ok (.getfield 60, 3) := by decide +kernel
theorem dX11_syllableOf_10 : decode cX11_syllableOf 10 = .ok (.iload_n 1, 1) := by decide +kernel
theorem dX11_syllableOf_11 : decode cX11_syllableOf 11 = .ok (.iaload, 1) := by decide +kernel
theorem dX11_syllableOf_12 : decode cX11_syllableOf 12 = .ok (.iaload, 1) := by decide +kernel
theorem dX11_syllableOf_13 : decode cX11_syllableOf 13 = .ok (.istore_n 3, 1) := by decide +kernel
theorem dX11_syllableOf_14 : decode cX11_syllableOf 14 = .ok (.iload_n 3, 1) := by decide +kernel
theorem dX11_syllableOf_15 : decode cX11_syllableOf 15 = .ok (.iload_n 1, 1) := by decide +kernel
theorem dX11_syllableOf_16 : decode cX11_syllableOf 16 = .ok (.if_icmp .ge 25, 3) := by decide +kernel
theorem dX11_syllableOf_19 : decode cX11_syllableOf 19 = .ok (.iload_n 2, 1) := by decide +kernel
theorem dX11_syllableOf_20 : decode cX11_syllableOf 20 = .ok (.aload_n 0, 1) := by decide +kernel
theorem dX11_syllableOf_21 : decode cX11_syllableOf 21 = .ok (.iload_n 3, 1) := by decide +kernel
theorem dX11_syllableOf_22 : decode cX11_syllableOf 22 = .ok (.invokevirtual 104, 3) := by decide +kernel
theorem dX11_syllableOf_25 : decode cX11_syllableOf 25 = .ok (.ifCond .eq 7, 3) := by decide +kernel
theorem dX11_syllableOf_28 : decode cX11_syllableOf 28 = .ok (.iconst 0, 1) := by decide +kernel
theorem dX11_syllableOf_29 : decode cX11_syllableOf 29 = .ok (.goto 4, 3) := by decide +kernel
theorem dX11_syllableOf_32 : decode cX11_syllableOf 32 = .ok (.iconst 1, 1) := by decide +kernel
theorem dX11_syllableOf_33 : decode cX11_syllableOf 33 = .ok (.iadd, 1) := by decide +kernel
theorem dX11_syllableOf_34 : decode cX11_syllableOf 34 = .ok (.istore_n 2, 1) := by decide +kernel
theorem dX11_syllableOf_35 : decode cX11_syllableOf 35 = .ok (.iinc 3 1, 3) := by decide +kernel
theorem dX11_syllableOf_38 : decode cX11_syllableOf 38 = .ok (.goto (-24), 3) := by decide +kernel
theorem dX11_syllableOf_41 : decode cX11_syllableOf 41 = .ok (.iload_n 2, 1) := by decide +kernel
theorem dX11_syllableOf_42 : decode cX11_syllableOf 42 = .ok (.ireturn, 1) := by decide +kernel
theorem dX11_sign_0 : decode cX11_sign 0 = .ok (.aload_n 0, 1) := by decide +kernel
theorem dX11_sign_1 : decode cX11_sign 1 = .ok (.getfield 42, 3) := by decide +kernel
theorem dX11_sign_4 : decode cX11_sign 4 = .ok (.bipush 60, 2) := by decide +kernel
theorem dX11_sign_6 : decode cX11_sign 6 = .ok (.iload_n 1, 1) := by decide +kernel
theorem dX11_sign_7 : decode cX11_sign 7 = .ok (.imul, 1) := by decide +kernel
theorem dX11_sign_8 : decode cX11_sign 8 = .ok (.iload_n 2, 1) := by decide +kernel
theorem dX11_sign_9 : decode cX11_sign 9 = .ok (.iadd, 1) := by decide +kernel
theorem dX11_sign_10 : decode cX11_sign 10 = .ok (.iaload, 1) := by decide +kernel
theorem dX11_sign_11 : decode cX11_sign 11 = .ok (.ireturn, 1) := by decide +kernel
theorem dX11_isLetter_0 : decode cX11_isLetter 0 = .ok (.iload_n 0, 1) := by decide +kernel
theorem dX11_isLetter_1 : decode cX11_isLetter 1 = .ok (.bipush 97, 2) := by decide +kernel
theorem dX11_isLetter_3 : decode cX11_isLetter 3 = .ok (.bipush 122, 2) := by decide +kernel
theorem dX11_isLetter_5 : decode cX11_isLetter 5 = .ok (.invokestatic 84, 3) := by decide +kernel
theorem dX11_isLetter_8 : decode cX11_isLetter 8 = .ok (.ifCond .ne 20, 3) := by decide +kernel
theorem dX11_isLetter_11 : decode cX11_isLetter 11 = .ok (.iload_n 0, 1) := by decide +kernel
theorem dX11_isLetter_12 : decode cX11_isLetter 12 = .ok (.bipush 65, 2) := by decide +kernel
theorem dX11_isLetter_14 : decode cX11_isLetter 14 = .ok (.bipush 90, 2) := by decide +kernel
theorem dX11_isLetter_16 : decode cX11_isLetter 16 = .ok (.invokestatic 84, 3) := by decide +kernel
theorem dX11_isLetter_19 : decode cX11_isLetter 19 = .ok (.ifCond .ne 9, 3) := by decide +kernel
theorem dX11_isLetter_22 : decode cX11_isLetter 22 = .ok (.iload_n 0, 1) := by decide +kernel
theorem dX11_isLetter_23 : decode cX11_isLetter 23 = .ok (.bipush 39, 2) := by decide +kernel
theorem dX11_isLetter_25 : decode cX11_isLetter 25 = .ok (.if_icmp .ne 7, 3) := by decide +kernel
theorem dX11_isLetter_28 : decode cX11_isLetter 28 = .ok (.iconst 1, 1) := by decide +kernel
theorem dX11_isLetter_29 : decode cX11_isLetter 29 = .ok (.goto 4, 3) := by decide +kernel
theorem dX11_isLetter_32 : decode cX11_isLetter 32 = .ok (.iconst 0, 1) := by decide +kernel
theorem dX11_isLetter_33 : decode cX11_isLetter 33 = .ok (.ireturn, 1) := by decide +kernel
theorem dX11_counts_0 : decode cX11_counts 0 = .ok (.aload_n 0, 1) := by decide +kernel
theorem dX11_counts_1 : decode cX11_counts 1 = .ok (.getfield 39, 3) := by decide +kernel
theorem dX11_counts_4 : decode cX11_counts 4 = .ok (.iload_n 1, 1) := by decide +kernel
theorem dX11_counts_5 : decode cX11_counts 5 = .ok (.iaload, 1) := by decide +kernel
theorem dX11_counts_6 : decode cX11_counts 6 = .ok (.ifCond .le 7, 3) := by decide +kernel
theorem dX11_counts_9 : decode cX11_counts 9 = .ok (.iconst 1, 1) := by decide +kernel
theorem dX11_counts_10 : decode cX11_counts 10 = .ok (.goto 4, 3) := by decide +kernel
theorem dX11_counts_13 : decode cX11_counts 13 = .ok (.iconst 0, 1) := by decide +kernel
theorem dX11_counts_14 : decode cX11_counts 14 = .ok (.istore_n 3, 1) := by decide +kernel
theorem dX11_counts_15 : decode cX11_counts 15 = .ok (.iconst 0, 1) := by decide +kernel
theorem dX11_counts_16 : decode cX11_counts 16 = .ok (.istore 4, 2) := by decide +kernel
theorem dX11_counts_18 : decode cX11_counts 18 = .ok (.iload 4, 2) := by decide +kernel
theorem dX11_counts_20 : decode cX11_counts 20 = .ok (.aload_n 0, 1) := by decide +kernel
theorem dX11_counts_21 : decode cX11_counts 21 = .ok (.getfield 39, 3) := by decide +kernel
theorem dX11_counts_24 : decode cX11_counts 24 = .ok (.iload_n 1, 1) := by decide +kernel
theorem dX11_counts_25 : decode cX11_counts 25 = .ok (.iaload, 1) := by decide +kernel
theorem dX11_counts_26 : decode cX11_counts 26 = .ok (.if_icmp .ge 44, 3) := by decide +kernel
theorem dX11_counts_29 : decode cX11_counts 29 = .ok (.aload_n 0, 1) := by decide +kernel
theorem dX11_counts_30 : decode cX11_counts 30 = .ok (.iload_n 1, 1) := by decide +kernel
theorem dX11_counts_31 : decode cX11_counts 31 = .ok (.iload 4, 2) := by decide +kernel
theorem dX11_counts_33 : decode cX11_counts 33 = .ok (.invokevirtual 108, 3) := by decide +kernel
theorem dX11_counts_36 : decode cX11_counts 36 = .ok (.istore 5, 2) := by decide +kernel
theorem dX11_counts_38 : decode cX11_counts 38 = .ok (.iload_n 3, 1) := by decide +kernel
theorem dX11_counts_39 : decode cX11_counts 39 = .ok (.iload 5, 2) := by decide +kernel
theorem dX11_counts_41 : decode cX11_counts 41 = .ok (.bipush 32, 2) := by decide +kernel
theorem dX11_counts_43 : decode cX11_counts 43 = .ok (.if_icmp .eq 14, 3) := by decide +kernel
theorem dX11_counts_46 : decode cX11_counts 46 = .ok (.iload 5, 2) := by decide +kernel
theorem dX11_counts_48 : decode cX11_counts 48 = .ok (.bipush 45, 2) := by decide +kernel
theorem dX11_counts_50 : decode cX11_counts 50 = .ok (.if_icmp .ne 11, 3) := by decide +kernel
theorem dX11_counts_53 : decode cX11_counts 53 = .ok (.iload_n 2, 1) := by decide +kernel
theorem dX11_counts_54 : decode cX11_counts 54 = .ok (.ifCond .ne 7, 3) := by decide +kernel
theorem dX11_counts_57 : decode cX11_counts 57 = .ok (.iconst 1, 1) := by decide +kernel
theorem dX11_counts_58 : decode cX11_counts 58 = .ok (.goto 4, 3) := by decide +kernel
theorem dX11_counts_61 : decode cX11_counts 61 = .ok (.iconst 0, 1) := by decide +kernel
theorem dX11_counts_62 : decode cX11_counts 62 = .ok (.iadd, 1) := by decide +kernel
theorem dX11_counts_63 : decode cX11_counts 63 = .ok (.istore_n 3, 1) := by decide +kernel
theorem dX11_counts_64 : decode cX11_counts 64 = .ok (.iinc 4 1, 3) := by decide +kernel
theorem dX11_counts_67 : decode cX11_counts 67 = .ok (.goto (-49), 3) := by decide +kernel
theorem dX11_counts_70 : decode cX11_counts 70 = .ok (.iload_n 3, 1) := by decide +kernel
theorem dX11_counts_71 : decode cX11_counts 71 = .ok (.ireturn, 1) := by decide +kernel
theorem dX11_beginOf_0 : decode cX11_beginOf 0 = .ok (.iconst 0, 1) := by decide +kernel
theorem dX11_beginOf_1 : decode cX11_beginOf 1 = .ok (.istore_n 3, 1) := by decide +kernel
theorem dX11_beginOf_2 : decode cX11_beginOf 2 = .ok (.iload_n 2, 1) := by decide +kernel
theorem dX11_beginOf_3 : decode cX11_beginOf 3 = .ok (.istore 4, 2) := by decide +kernel
theorem dX11_beginOf_5 : decode cX11_beginOf 5 = .ok (.iload 4, 2) := by decide +kernel
theorem dX11_beginOf_7 : decode cX11_beginOf 7 = .ok (.ifCond .le 31, 3) := by decide +kernel
theorem dX11_beginOf_10 : decode cX11_beginOf 10 = .ok (.iload 4, 2) := by decide +kernel
theorem dX11_beginOf_12 : decode cX11_beginOf 12 = .ok (.aload_n 0, 1) := by decide +kernel
theorem dX11_beginOf_13 : decode cX11_beginOf 13 = .ok (.iload_n 1, 1) := by decide +kernel
theorem dX11_beginOf_14 : decode cX11_beginOf 14 = .ok (.iload_n 3, 1) := by decide +kernel
theorem dX11_beginOf_15 : decode cX11_beginOf 15 = .ok (.invokevirtual 108, 3) := by decide +kernel
theorem dX11_beginOf_18 : decode cX11_beginOf 18 = .ok (.invokestatic 112, 3) := by decide +kernel
theorem dX11_beginOf_21 : decode cX11_beginOf 21 = .ok (.ifCond .eq 7, 3) := by decide +kernel
theorem dX11_beginOf_24 : decode cX11_beginOf 24 = .ok (.iconst 0, 1) := by decide +kernel
theorem dX11_beginOf_25 : decode cX11_beginOf 25 = .ok (.goto 4, 3) := by decide +kernel
theorem dX11_beginOf_28 : decode cX11_beginOf 28 = .ok (.iconst 1, 1) := by decide +kernel
theorem dX11_beginOf_29 : decode cX11_beginOf 29 = .ok (.isub, 1) := by decide +kernel
theorem dX11_beginOf_30 : decode cX11_beginOf 30 = .ok (.istore 4, 2) := by decide +kernel
theorem dX11_beginOf_32 : decode cX11_beginOf 32 = .ok (.iinc 3 1, 3) := by decide +kernel
theorem dX11_beginOf_35 : decode cX11_beginOf 35 = .ok (.goto (-30), 3) := by decide +kernel
theorem dX11_beginOf_38 : decode cX11_beginOf 38 = .ok (.iload_n 3, 1) := by decide +kernel
theorem dX11_beginOf_39 : decode cX11_beginOf 39 = .ok (.ireturn, 1) := by decide +kernel
theorem dX11_sizeOf_0 : decode cX11_sizeOf 0 = .ok (.aload_n 0, 1) := by decide +kernel
theorem dX11_sizeOf_1 : decode cX11_sizeOf 1 = .ok (.iload_n 1, 1) := by decide +kernel
theorem dX11_sizeOf_2 : decode cX11_sizeOf 2 = .ok (.iload_n 2, 1) := by decide +kernel
theorem dX11_sizeOf_3 : decode cX11_sizeOf 3 = .ok (.invokevirtual 115, 3) := by decide +kernel
theorem dX11_sizeOf_6 : decode cX11_sizeOf 6 = .ok (.istore_n 3, 1) := by decide +kernel
theorem dX11_sizeOf_7 : decode cX11_sizeOf 7 = .ok (.iload_n 3, 1) := by decide +kernel
theorem dX11_sizeOf_8 : decode cX11_sizeOf 8 = .ok (.istore 4, 2) := by decide +kernel
theorem dX11_sizeOf_10 : decode cX11_sizeOf 10 = .ok (.iload 4, 2) := by decide +kernel
theorem dX11_sizeOf_12 : decode cX11_sizeOf 12 = .ok (.aload_n 0, 1) := by decide +kernel
theorem dX11_sizeOf_13 : decode cX11_sizeOf 13 = .ok (.getfield 39, 3) := by decide +kernel
theorem dX11_sizeOf_16 : decode cX11_sizeOf 16 = .ok (.iload_n 1, 1) := by decide +kernel
theorem dX11_sizeOf_17 : decode cX11_sizeOf 17 = .ok (.iaload, 1) := by decide +kernel
theorem dX11_sizeOf_18 : decode cX11_sizeOf 18 = .ok (.if_icmp .ge 22, 3) := by decide +kernel
theorem dX11_sizeOf_21 : decode cX11_sizeOf 21 = .ok (.aload_n 0, 1) := by decide +kernel
theorem dX11_sizeOf_22 : decode cX11_sizeOf 22 = .ok (.iload_n 1, 1) := by decide +kernel
theorem dX11_sizeOf_23 : decode cX11_sizeOf 23 = .ok (.iload 4, 2) := by decide +kernel
theorem dX11_sizeOf_25 : decode cX11_sizeOf 25 = .ok (.invokevirtual 108, 3) := by decide +kernel
theorem dX11_sizeOf_28 : decode cX11_sizeOf 28 = .ok (.invokestatic 112, 3) := by decide +kernel
theorem dX11_sizeOf_31 : decode cX11_sizeOf 31 = .ok (.ifCond .eq 9, 3) := by decide +kernel
theorem dX11_sizeOf_34 : decode cX11_sizeOf 34 = .ok (.iinc 4 1, 3) := by decide +kernel
theorem dX11_sizeOf_37 : decode cX11_sizeOf 37 = .ok (.goto (-27), 3) := by decide +kernel
theorem dX11_sizeOf_40 : decode cX11_sizeOf 40 = .ok (.iload 4, 2) := by decide +kernel
theorem dX11_sizeOf_42 : decode cX11_sizeOf 42 = .ok (.iload_n 3, 1) := by decide +kernel
theorem dX11_sizeOf_43 : decode cX11_sizeOf 43 = .ok (.isub, 1) := by decide +kernel
theorem dX11_sizeOf_44 : decode cX11_sizeOf 44 = .ok (.ireturn, 1) := by decide +kernel
theorem dX11_longest_0 : decode cX11_longest 0 = .ok (.iconst 0, 1) := by decide +kernel
theorem dX11_longest_1 : decode cX11_longest 1 = .ok (.istore_n 2, 1) := by decide +kernel
theorem dX11_longest_2 : decode cX11_longest 2 = .ok (.iconst 0, 1) := by decide +kernel
theorem dX11_longest_3 : decode cX11_longest 3 = .ok (.istore_n 3, 1) := by decide +kernel
theorem dX11_longest_4 : decode cX11_longest 4 = .ok (.iconst 0, 1) := by decide +kernel
theorem dX11_longest_5 : decode cX11_longest 5 = .ok (.istore 4, 2) := by decide +kernel
theorem dX11_longest_7 : decode cX11_longest 7 = .ok (.iload 4, 2) := by decide +kernel
theorem dX11_longest_9 : decode cX11_longest 9 = .ok (.aload_n 0, 1) := by decide +kernel
theorem dX11_longest_10 : decode cX11_longest 10 = .ok (.getfield 39, 3) := by decide +kernel
theorem dX11_longest_13 : decode cX11_longest 13 = .ok (.iload_n 1, 1) := by decide +kernel
theorem dX11_longest_14 : decode cX11_longest 14 = .ok (.iaload, 1) := by decide +kernel
theorem dX11_longest_15 : decode cX11_longest 15 = .ok (.if_icmp .ge 41, 3) := by decide +kernel
theorem dX11_longest_18 : decode cX11_longest 18 = .ok (.aload_n 0, 1) := by decide +kernel
theorem dX11_longest_19 : decode cX11_longest 19 = .ok (.iload_n 1, 1) := by decide +kernel
theorem dX11_longest_20 : decode cX11_longest 20 = .ok (.iload 4, 2) := by decide +kernel
theorem dX11_longest_22 : decode cX11_longest 22 = .ok (.invokevirtual 108, 3) := by decide +kernel
theorem dX11_longest_25 : decode cX11_longest 25 = .ok (.invokestatic 112, 3) := by decide +kernel
theorem dX11_longest_28 : decode cX11_longest 28 = .ok (.ifCond .eq 9, 3) := by decide +kernel
theorem dX11_longest_31 : decode cX11_longest 31 = .ok (.iload_n 3, 1) := by decide +kernel
theorem dX11_longest_32 : decode cX11_longest 32 = .ok (.iconst 1, 1) := by decide +kernel
theorem dX11_longest_33 : decode cX11_longest 33 = .ok (.iadd, 1) := by decide +kernel
theorem dX11_longest_34 : decode cX11_longest 34 = .ok (.goto 4, 3) := by decide +kernel
theorem dX11_longest_37 : decode cX11_longest 37 = .ok (.iconst 0, 1) := by decide +kernel
theorem dX11_longest_38 : decode cX11_longest 38 = .ok (.istore_n 3, 1) := by decide +kernel
theorem dX11_longest_39 : decode cX11_longest 39 = .ok (.iload_n 3, 1) := by decide +kernel
theorem dX11_longest_40 : decode cX11_longest 40 = .ok (.iload_n 2, 1) := by decide +kernel
theorem dX11_longest_41 : decode cX11_longest 41 = .ok (.if_icmp .le 7, 3) := by decide +kernel
theorem dX11_longest_44 : decode cX11_longest 44 = .ok (.iload_n 3, 1) := by decide +kernel
theorem dX11_longest_45 : decode cX11_longest 45 = .ok (.goto 4, 3) := by decide +kernel
theorem dX11_longest_48 : decode cX11_longest 48 = .ok (.iload_n 2, 1) := by decide +kernel
theorem dX11_longest_49 : decode cX11_longest 49 = .ok (.istore_n 2, 1) := by decide +kernel
theorem dX11_longest_50 : decode cX11_longest 50 = .ok (.iinc 4 1, 3) := by decide +kernel
theorem dX11_longest_53 : decode cX11_longest 53 = .ok (.goto (-46), 3) := by decide +kernel
theorem dX11_longest_56 : decode cX11_longest 56 = .ok (.iload_n 2, 1) := by decide +kernel
theorem dX11_longest_57 : decode cX11_longest 57 = .ok (.ireturn, 1) := by decide +kernel
theorem dX11_fitNow_0 : decode cX11_fitNow 0 = .ok (.iconst (-1), 1) := by decide +kernel
theorem dX11_fitNow_1 : decode cX11_fitNow 1 = .ok (.istore_n 2, 1) := by decide +kernel
theorem dX11_fitNow_2 : decode cX11_fitNow 2 = .ok (.iconst 0, 1) := by decide +kernel
theorem dX11_fitNow_3 : decode cX11_fitNow 3 = .ok (.istore_n 3, 1) := by decide +kernel
theorem dX11_fitNow_4 : decode cX11_fitNow 4 = .ok (.iload_n 3, 1) := by decide +kernel
theorem dX11_fitNow_5 : decode cX11_fitNow 5 = .ok (.bipush 24, 2) := by decide +kernel
theorem dX11_fitNow_7 : decode cX11_fitNow 7 = .ok (.if_icmp .ge 96, 3) := by decide +kernel
theorem dX11_fitNow_10 : decode cX11_fitNow 10 = .ok (.iload_n 2, 1) := by decide +kernel
theorem dX11_fitNow_11 : decode cX11_fitNow 11 = .ok (.iconst (-1), 1) := by decide +kernel
theorem dX11_fitNow_12 : decode cX11_fitNow 12 = .ok (.if_icmp .ne 91, 3) := by decide +kernel
theorem dX11_fitNow_15 : decode cX11_fitNow 15 = .ok (.bipush 24, 2) := by decide +kernel
theorem dX11_fitNow_17 : decode cX11_fitNow 17 = .ok (.iload_n 1, 1) := by decide +kernel
theorem dX11_fitNow_18 : decode cX11_fitNow 18 = .ok (.imul, 1) := by decide +kernel
theorem dX11_fitNow_19 : decode cX11_fitNow 19 = .ok (.iload_n 3, 1) := by decide +kernel
theorem dX11_fitNow_20 : decode cX11_fitNow 20 = .ok (.iadd, 1) := by decide +kernel
theorem dX11_fitNow_21 : decode cX11_fitNow 21 = .ok (.istore 4, 2) := by decide +kernel
theorem dX11_fitNow_23 : decode cX11_fitNow 23 = .ok (.iload_n 3, 1) := by decide +kernel
theorem dX11_fitNow_24 : decode cX11_fitNow 24 = .ok (.aload_n 0, 1) := by decide +kernel
theorem dX11_fitNow_25 : decode cX11_fitNow 25 = .ok (.getfield 91, 3) := by decide +kernel
theorem dX11_fitNow_28 : decode cX11_fitNow 28 = .ok (.if_icmp .ge 41, 3) := by decide +kernel
theorem dX11_fitNow_31 : decode cX11_fitNow 31 = .ok (.aload_n 0, 1) := by decide +kernel
theorem dX11_fitNow_32 : decode cX11_fitNow 32 = .ok (.getfield 39, 3) := by decide +kernel
theorem dX11_fitNow_35 : decode cX11_fitNow 35 = .ok (.iload 4, 2) := by decide +kernel
theorem dX11_fitNow_37 : decode cX11_fitNow 37 = .ok (.iaload, 1) := by decide +kernel
theorem dX11_fitNow_38 : decode cX11_fitNow 38 = .ok (.ifCond .le 27, 3) := by decide +kernel
theorem dX11_fitNow_41 : decode cX11_fitNow 41 = .ok (.aload_n 0, 1) := by decide +kernel
theorem dX11_fitNow_42 : decode cX11_fitNow 42 = .ok (.iload 4, 2) := by decide +kernel
theorem dX11_fitNow_44 : decode cX11_fitNow 44 = .ok (.iconst 0, 1) := by decide +kernel
theorem dX11_fitNow_45 : decode cX11_fitNow 45 = .ok (.invokevirtual 118, 3) := by decide +kernel
theorem dX11_fitNow_48 : decode cX11_fitNow 48 = .ok (.aload_n 0, 1) := by decide +kernel
theorem dX11_fitNow_49 : decode cX11_fitNow 49 = .ok (.aload_n 0, 1) := by decide +kernel
theorem dX11_fitNow_50 : decode cX11_fitNow 50 = .ok (.getfield 63, 3) := by decide +kernel
theorem dX11_fitNow_53 : decode cX11_fitNow 53 = .ok (.iload_n 3, 1) := by decide +kernel
theorem dX11_fitNow_54 : decode cX11_fitNow 54 = .ok (.iaload, 1) := by decide +kernel
theorem dX11_fitNow_55 : decode cX11_fitNow 55 = .ok (.invokevirtual 121, 3) := by decide +kernel
theorem dX11_fitNow_58 : decode cX11_fitNow 58 = .ok (.if_icmp .ne 7, 3) := by decide +kernel
theorem dX11_fitNow_61 : decode cX11_fitNow 61 = .ok (.iconst 1, 1) := by decide +kernel
theorem dX11_fitNow_62 : decode cX11_fitNow 62 = .ok (.goto 22, 3) := by decide +kernel
theorem dX11_fitNow_65 : decode cX11_fitNow 65 = .ok (.iconst 0, 1) := by decide +kernel
theorem dX11_fitNow_66 : decode cX11_fitNow 66 = .ok (.goto 18, 3) := by decide +kernel
theorem dX11_fitNow_69 : decode cX11_fitNow 69 = .ok (.aload_n 0, 1) := by decide +kernel
theorem dX11_fitNow_70 : decode cX11_fitNow 70 = .ok (.getfield 39, 3) := by decide +kernel
theorem dX11_fitNow_73 : decode cX11_fitNow 73 = .ok (.iload 4, 2) := by decide +kernel
theorem dX11_fitNow_75 : decode cX11_fitNow 75 = .ok (.iaload, 1) := by decide +kernel
theorem dX11_fitNow_76 : decode cX11_fitNow 76 = .ok (.ifCond .ne 7, 3) := by decide +kernel
theorem dX11_fitNow_79 : decode cX11_fitNow 79 = .ok (.iconst 1, 1) := by decide +kernel
theorem dX11_fitNow_80 : decode cX11_fitNow 80 = .ok (.goto 4, 3) := by decide +kernel
theorem dX11_fitNow_83 : decode cX11_fitNow 83 = .ok (.iconst 0, 1) := by decide +kernel
theorem dX11_fitNow_84 : decode cX11_fitNow 84 = .ok (.istore 5, 2) := by decide +kernel
theorem dX11_fitNow_86 : decode cX11_fitNow 86 = .ok (.iload 5, 2) := by decide +kernel
theorem dX11_fitNow_88 : decode cX11_fitNow 88 = .ok (.ifCond .eq 7, 3) := by decide +kernel
theorem dX11_fitNow_91 : decode cX11_fitNow 91 = .ok (.iconst (-1), 1) := by decide +kernel
theorem dX11_fitNow_92 : decode cX11_fitNow 92 = .ok (.goto 4, 3) := by decide +kernel
theorem dX11_fitNow_95 : decode cX11_fitNow 95 = .ok (.iload_n 3, 1) := by decide +kernel
theorem dX11_fitNow_96 : decode cX11_fitNow 96 = .ok (.istore_n 2, 1) := by decide +kernel
theorem dX11_fitNow_97 : decode cX11_fitNow 97 = .ok (.iinc 3 1, 3) := by decide +kernel
theorem dX11_fitNow_100 : decode cX11_fitNow 100 = .ok (.goto (-96), 3) := by decide +kernel
theorem dX11_fitNow_103 : decode cX11_fitNow 103 = .ok (.iload_n 2, 1) := by decide +kernel
theorem dX11_fitNow_104 : decode cX11_fitNow 104 = .ok (.iconst (-1), 1) := by decide +kernel
theorem dX11_fitNow_105 : decode cX11_fitNow 105 = .ok (.if_icmp .ne 17, 3) := by decide +kernel
theorem dX11_fitNow_108 : decode cX11_fitNow 108 = .ok (.aload_n 0, 1) := by decide +kernel
theorem dX11_fitNow_109 : decode cX11_fitNow 109 = .ok (.getfield 91, 3) := by decide +kernel
theorem dX11_fitNow_112 : decode cX11_fitNow 112 = .ok (.bipush 24, 2) := by decide +kernel
theorem dX11_fitNow_114 : decode cX11_fitNow 114 = .ok (.if_icmp .le 8, 3) := by decide +kernel
theorem dX11_fitNow_117 : decode cX11_fitNow 117 = .ok (.bipush 24, 2) := by decide +kernel
theorem dX11_fitNow_119 : decode cX11_fitNow 119 = .ok (.goto 4, 3) := by decide +kernel
theorem dX11_fitNow_122 : decode cX11_fitNow 122 = .ok (.iload_n 2, 1) := by decide +kernel
theorem dX11_fitNow_123 : decode cX11_fitNow 123 = .ok (.ireturn, 1) := by decide +kernel
theorem dX11_columnOf_0 : decode cX11_columnOf 0 = .ok (.iconst 2, 1) := by decide +kernel
theorem dX11_columnOf_1 : decode cX11_columnOf 1 = .ok (.istore_n 2, 1) := by decide +kernel
theorem dX11_columnOf_2 : decode cX11_columnOf 2 = .ok (.aload_n 0, 1) := by decide +kernel
theorem dX11_columnOf_3 : decode cX11_columnOf 3 = .ok (.iload_n 1, 1) := by decide +kernel
theorem dX11_columnOf_4 : decode cX11_columnOf 4 = .ok (.invokevirtual 125, 3) := by decide +kernel
theorem dX11_columnOf_7 : decode cX11_columnOf 7 = .ok (.istore_n 3, 1) := by decide +kernel
theorem dX11_columnOf_8 : decode cX11_columnOf 8 = .ok (.iconst 0, 1) := by decide +kernel
theorem dX11_columnOf_9 : decode cX11_columnOf 9 = .ok (.istore 4, 2) := by decide +kernel
theorem dX11_columnOf_11 : decode cX11_columnOf 11 = .ok (.iload 4, 2) := by decide +kernel
theorem dX11_columnOf_13 : decode cX11_columnOf 13 = .ok (.aload_n 0, 1) := by decide +kernel
theorem dX11_columnOf_14 : decode cX11_columnOf 14 = .ok (.getfield 91, 3) := by decide +kernel
theorem dX11_columnOf_17 : decode cX11_columnOf 17 = .ok (.if_icmp .ge 102, 3) := by decide +kernel
theorem dX11_columnOf_20 : decode cX11_columnOf 20 = .ok (.iload 4, 2) := by decide +kernel
theorem dX11_columnOf_22 : decode cX11_columnOf 22 = .ok (.bipush 24, 2) := by decide +kernel
theorem dX11_columnOf_24 : decode cX11_columnOf 24 = .ok (.if_icmp .ge 95, 3) := by decide +kernel
theorem dX11_columnOf_27 : decode cX11_columnOf 27 = .ok (.aload_n 0, 1) := by decide +kernel
theorem dX11_columnOf_28 : decode cX11_columnOf 28 = .ok (.iload_n 1, 1) := by decide +kernel
theorem dX11_columnOf_29 : decode cX11_columnOf 29 = .ok (.invokevirtual 104, 3) := by decide +kernel
theorem dX11_columnOf_32 : decode cX11_columnOf 32 = .ok (.ifCond .ne 87, 3) := by decide +kernel
theorem dX11_columnOf_35 : decode cX11_columnOf 35 = .ok (.iconst 0, 1) := by decide +kernel
theorem dX11_columnOf_36 : decode cX11_columnOf 36 = .ok (.istore 5, 2) := by decide +kernel
theorem dX11_columnOf_38 : decode cX11_columnOf 38 = .ok (.iload 5, 2) := by decide +kernel
theorem dX11_columnOf_40 : decode cX11_columnOf 40 = .ok (.iconst 4, 1) := by decide +kernel
theorem dX11_columnOf_41 : decode cX11_columnOf 41 = .ok (.if_icmp .ge 72, 3) := by decide +kernel
theorem dX11_columnOf_44 : decode cX11_columnOf 44 = .ok (.aload_n 0, 1) := by decide +kernel
theorem dX11_columnOf_45 : decode cX11_columnOf 45 = .ok (.getfield 63, 3) := by decide +kernel
theorem dX11_columnOf_48 : decode cX11_columnOf 48 = .ok (.iload 4, 2) := by decide +kernel
theorem dX11_columnOf_50 : decode cX11_columnOf 50 = .ok (.iaload, 1) := by decide +kernel
theorem dX11_columnOf_51 : decode cX11_columnOf 51 = .ok (.aload_n 0, 1) := by decide +kernel
theorem dX11_columnOf_52 : decode cX11_columnOf 52 = .ok (.getfield 60, 3) := by decide +kernel
theorem dX11_columnOf_55 : decode cX11_columnOf 55 = .ok (.iload_n 1, 1) := by decide +kernel
theorem dX11_columnOf_56 : decode cX11_columnOf 56 = .ok (.iaload, 1) := by decide +kernel
theorem dX11_columnOf_57 : decode cX11_columnOf 57 = .ok (.if_icmp .ne 56, 3) := by decide +kernel
theorem dX11_columnOf_60 : decode cX11_columnOf 60 = .ok (.bipush 24, 2) := by decide +kernel
theorem dX11_columnOf_62 : decode cX11_columnOf 62 = .ok (.iload 5, 2) := by decide +kernel
theorem dX11_columnOf_64 : decode cX11_columnOf 64 = .ok (.imul, 1) := by decide +kernel
theorem dX11_columnOf_65 : decode cX11_columnOf 65 = .ok (.iload 4, 2) := by decide +kernel
theorem dX11_columnOf_67 : decode cX11_columnOf 67 = .ok (.iadd, 1) := by decide +kernel
theorem dX11_columnOf_68 : decode cX11_columnOf 68 = .ok (.istore 6, 2) := by decide +kernel
theorem dX11_columnOf_70 : decode cX11_columnOf 70 = .ok (.iload_n 3, 1) := by decide +kernel
theorem dX11_columnOf_71 : decode cX11_columnOf 71 = .ok (.aload_n 0, 1) := by decide +kernel
theorem dX11_columnOf_72 : decode cX11_columnOf 72 = .ok (.iload 6, 2) := by decide +kernel
theorem dX11_columnOf_74 : decode cX11_columnOf 74 = .ok (.iconst 0, 1) := by decide +kernel
theorem dX11_columnOf_75 : decode cX11_columnOf 75 = .ok (.invokevirtual 118, 3) := by decide +kernel
theorem dX11_columnOf_78 : decode cX11_columnOf 78 = .ok (.if_icmp .ge 13, 3) := by decide +kernel
theorem dX11_columnOf_81 : decode cX11_columnOf 81 = .ok (.aload_n 0, 1) := by decide +kernel
theorem dX11_columnOf_82 : decode cX11_columnOf 82 = .ok (.iload 6, 2) := by decide +kernel
theorem dX11_columnOf_84 : decode cX11_columnOf 84 = .ok (.iload_n 3, 1) := by decide +kernel
theorem dX11_columnOf_85 : decode cX11_columnOf 85 = .ok (.invokevirtual 128, 3) := by decide +kernel
theorem dX11_columnOf_88 : decode cX11_columnOf 88 = .ok (.goto 4, 3) := by decide +kernel
theorem dX11_columnOf_91 : decode cX11_columnOf 91 = .ok (.iconst 0, 1) := by decide +kernel
theorem dX11_columnOf_92 : decode cX11_columnOf 92 = .ok (.istore 7, 2) := by decide +kernel
theorem dX11_columnOf_94 : decode cX11_columnOf 94 = .ok (.iload 7, 2) := by decide +kernel
theorem dX11_columnOf_96 : decode cX11_columnOf 96 = .ok (.iload_n 2, 1) := by decide +kernel
theorem dX11_columnOf_97 : decode cX11_columnOf 97 = .ok (.if_icmp .le 8, 3) := by decide +kernel
theorem dX11_columnOf_100 : decode cX11_columnOf 100 = .ok (.iload 7, 2) := by decide +kernel
theorem dX11_columnOf_102 : decode cX11_columnOf 102 = .ok (.goto 4, 3) := by decide +kernel
theorem dX11_columnOf_105 : decode cX11_columnOf 105 = .ok (.iload_n 2, 1) := by decide +kernel
theorem dX11_columnOf_106 : decode cX11_columnOf 106 = .ok (.istore_n 2, 1) := by decide +kernel
theorem dX11_columnOf_107 : decode cX11_columnOf 107 = .ok (.iinc 5 1, 3) := by decide +kernel
theorem dX11_columnOf_110 : decode cX11_columnOf 110 = .ok (.goto (-72), 3) := by decide +kernel
theorem dX11_columnOf_113 : decode cX11_columnOf 113 = .ok (.iinc 4 1, 3) := by decide +kernel
theorem dX11_columnOf_116 : decode cX11_columnOf 116 = .ok (.goto (-105), 3) := by decide +kernel
theorem dX11_columnOf_119 : decode cX11_columnOf 119 = .ok (.iload_n 2, 1) := by decide +kernel
theorem dX11_columnOf_120 : decode cX11_columnOf 120 = .ok (.iconst 1, 1) := by decide +kernel
theorem dX11_columnOf_121 : decode cX11_columnOf 121 = .ok (.iadd, 1) := by decide +kernel
theorem dX11_columnOf_122 : decode cX11_columnOf 122 = .ok (.ireturn, 1) := by decide +kernel
theorem dX11_lay_0 : decode cX11_lay 0 = .ok (.aload_n 0, 1) := by decide +kernel
theorem dX11_lay_1 : decode cX11_lay 1 = .ok (.invokevirtual 131, 3) := by decide +kernel
theorem dX11_lay_4 : decode cX11_lay 4 = .ok (.iconst 0, 1) := by decide +kernel
theorem dX11_lay_5 : decode cX11_lay 5 = .ok (.istore_n 1, 1) := by decide +kernel
theorem dX11_lay_6 : decode cX11_lay 6 = .ok (.iload_n 1, 1) := by decide +kernel
theorem dX11_lay_7 : decode cX11_lay 7 = .ok (.aload_n 0, 1) := by decide +kernel
theorem dX11_lay_8 : decode cX11_lay 8 = .ok (.getfield 81, 3) := by decide +kernel
theorem dX11_lay_11 : decode cX11_lay 11 = .ok (.if_icmp .ge 20, 3) := by decide +kernel
theorem dX11_lay_14 : decode cX11_lay 14 = .ok (.aload_n 0, 1) := by decide +kernel
theorem dX11_lay_15 : decode cX11_lay 15 = .ok (.getfield 66, 3) := by decide +kernel
theorem dX11_lay_18 : decode cX11_lay 18 = .ok (.iload_n 1, 1) := by decide +kernel
theorem dX11_lay_19 : decode cX11_lay 19 = .ok (.aload_n 0, 1) := by decide +kernel
theorem dX11_lay_20 : decode cX11_lay 20 = .ok (.iload_n 1, 1) := by decide +kernel
theorem dX11_lay_21 : decode cX11_lay 21 = .ok (.invokevirtual 134, 3) := by decide +kernel
theorem dX11_lay_24 : decode cX11_lay 24 = .ok (.iastore, 1) := by decide +kernel
theorem dX11_lay_25 : decode cX11_lay 25 = .ok (.iinc 1 1, 3) := by decide +kernel
theorem dX11_lay_28 : decode cX11_lay 28 = .ok (.goto (-22), 3) := by decide +kernel
theorem dX11_lay_31 : decode cX11_lay 31 = .ok (.aload_n 0, 1) := by decide +kernel
theorem dX11_lay_32 : decode cX11_lay 32 = .ok (.iconst 0, 1) := by decide +kernel
theorem dX11_lay_33 : decode cX11_lay 33 = .ok (.putfield 137, 3) := by decide +kernel
theorem dX11_lay_36 : decode cX11_lay 36 = .ok (.iconst 0, 1) := by decide +kernel
theorem dX11_lay_37 : decode cX11_lay 37 = .ok (.istore_n 1, 1) := by decide +kernel
theorem dX11_lay_38 : decode cX11_lay 38 = .ok (.iconst 0, 1) := by decide +kernel
theorem dX11_lay_39 : decode cX11_lay 39 = .ok (.istore_n 2, 1) := by decide +kernel
theorem dX11_lay_40 : decode cX11_lay 40 = .ok (.iload_n 2, 1) := by decide +kernel
theorem dX11_lay_41 : decode cX11_lay 41 = .ok (.aload_n 0, 1) := by decide +kernel
theorem dX11_lay_42 : decode cX11_lay 42 = .ok (.getfield 88, 3) := by decide +kernel
theorem dX11_lay_45 : decode cX11_lay 45 = .ok (.if_icmp .ge 106, 3) := by decide +kernel
theorem dX11_lay_48 : decode cX11_lay 48 = .ok (.aload_n 0, 1) := by decide +kernel
theorem dX11_lay_49 : decode cX11_lay 49 = .ok (.getfield 69, 3) := by decide +kernel
theorem dX11_lay_52 : decode cX11_lay 52 = .ok (.iload_n 2, 1) := by decide +kernel
theorem dX11_lay_53 : decode cX11_lay 53 = .ok (.iconst 0, 1) := by decide +kernel
theorem dX11_lay_54 : decode cX11_lay 54 = .ok (.iastore, 1) := by decide +kernel
theorem dX11_lay_55 : decode cX11_lay 55 = .ok (.aload_n 0, 1) := by decide +kernel
theorem dX11_lay_56 : decode cX11_lay 56 = .ok (.getfield 54, 3) := by decide +kernel
theorem dX11_lay_59 : decode cX11_lay 59 = .ok (.iload_n 2, 1) := by decide +kernel
theorem dX11_lay_60 : decode cX11_lay 60 = .ok (.iaload, 1) := by decide +kernel
theorem dX11_lay_61 : decode cX11_lay 61 = .ok (.istore_n 3, 1) := by decide +kernel
theorem dX11_lay_62 : decode cX11_lay 62 = .ok (.iload_n 3, 1) := by decide +kernel
theorem dX11_lay_63 : decode cX11_lay 63 = .ok (.aload_n 0, 1) := by decide +kernel
theorem dX11_lay_64 : decode cX11_lay 64 = .ok (.getfield 57, 3) := by decide +kernel
theorem dX11_lay_67 : decode cX11_lay 67 = .ok (.iload_n 2, 1) := by decide +kernel
theorem dX11_lay_68 : decode cX11_lay 68 = .ok (.iaload, 1) := by decide +kernel
theorem dX11_lay_69 : decode cX11_lay 69 = .ok (.if_icmp .gt 24, 3) := by decide +kernel
theorem dX11_lay_72 : decode cX11_lay 72 = .ok (.aload_n 0, 1) := by decide +kernel
theorem dX11_lay_73 : decode cX11_lay 73 = .ok (.getfield 69, 3) := by decide +kernel
theorem dX11_lay_76 : decode cX11_lay 76 = .ok (.iload_n 2, 1) := by decide +kernel
theorem dX11_lay_77 : decode cX11_lay 77 = .ok (.dup2, 1) := by decide +kernel
theorem dX11_lay_78 : decode cX11_lay 78 = .ok (.iaload, 1) := by decide +kernel
theorem dX11_lay_79 : decode cX11_lay 79 = .ok (.aload_n 0, 1) := by decide +kernel
theorem dX11_lay_80 : decode cX11_lay 80 = .ok (.getfield 66, 3) := by decide +kernel
theorem dX11_lay_83 : decode cX11_lay 83 = .ok (.iload_n 3, 1) := by decide +kernel
theorem dX11_lay_84 : decode cX11_lay 84 = .ok (.iaload, 1) := by decide +kernel
theorem dX11_lay_85 : decode cX11_lay 85 = .ok (.iadd, 1) := by decide +kernel
theorem dX11_lay_86 : decode cX11_lay 86 = .ok (.iastore, 1) := by decide +kernel
theorem dX11_lay_87 : decode cX11_lay 87 = .ok (.iinc 3 1, 3) := by decide +kernel
theorem dX11_lay_90 : decode cX11_lay 90 = .ok (.goto (-28), 3) := by decide +kernel
theorem dX11_lay_93 : decode cX11_lay 93 = .ok (.iload_n 2, 1) := by decide +kernel
theorem dX11_lay_94 : decode cX11_lay 94 = .ok (.ifCond .eq 18, 3) := by decide +kernel
theorem dX11_lay_97 : decode cX11_lay 97 = .ok (.iload_n 1, 1) := by decide +kernel
theorem dX11_lay_98 : decode cX11_lay 98 = .ok (.aload_n 0, 1) := by decide +kernel
theorem dX11_lay_99 : decode cX11_lay 99 = .ok (.getfield 69, 3) := by decide +kernel
theorem dX11_lay_102 : decode cX11_lay 102 = .ok (.iload_n 2, 1) := by decide +kernel
theorem dX11_lay_103 : decode cX11_lay 103 = .ok (.iaload, 1) := by decide +kernel
theorem dX11_lay_104 : decode cX11_lay 104 = .ok (.iadd, 1) := by decide +kernel
theorem dX11_lay_105 : decode cX11_lay 105 = .ok (.aload_n 0, 1) := by decide +kernel
theorem dX11_lay_106 : decode cX11_lay 106 = .ok (.getfield 36, 3) := by decide +kernel
theorem dX11_lay_109 : decode cX11_lay 109 = .ok (.if_icmp .le 15, 3) := by decide +kernel
theorem dX11_lay_112 : decode cX11_lay 112 = .ok (.aload_n 0, 1) := by decide +kernel
theorem dX11_lay_113 : decode cX11_lay 113 = .ok (.dup, 1) := by decide +kernel
theorem dX11_lay_114 : decode cX11_lay 114 = .ok (.getfield 137, 3) := by decide +kernel
theorem dX11_lay_117 : decode cX11_lay 117 = .ok (.iconst 1, 1) := by decide +kernel
theorem dX11_lay_118 : decode cX11_lay 118 = .ok (.iadd, 1) := by decide +kernel
theorem dX11_lay_119 : decode cX11_lay 119 = .ok (.putfield 137, 3) := by decide +kernel
theorem dX11_lay_122 : decode cX11_lay 122 = .ok (.iconst 0, 1) := by decide +kernel
theorem dX11_lay_123 : decode cX11_lay 123 = .ok (.istore_n 1, 1) := by decide +kernel
theorem dX11_lay_124 : decode cX11_lay 124 = .ok (.iload_n 1, 1) := by decide +kernel
theorem dX11_lay_125 : decode cX11_lay 125 = .ok (.aload_n 0, 1) := by decide +kernel
theorem dX11_lay_126 : decode cX11_lay 126 = .ok (.getfield 69, 3) := by decide +kernel
theorem dX11_lay_129 : decode cX11_lay 129 = .ok (.iload_n 2, 1) := by decide +kernel
theorem dX11_lay_130 : decode cX11_lay 130 = .ok (.iaload, 1) := by decide +kernel
theorem dX11_lay_131 : decode cX11_lay 131 = .ok (.iadd, 1) := by decide +kernel
theorem dX11_lay_132 : decode cX11_lay 132 = .ok (.istore_n 1, 1) := by decide +kernel
theorem dX11_lay_133 : decode cX11_lay 133 = .ok (.aload_n 0, 1) := by decide +kernel
theorem dX11_lay_134 : decode cX11_lay 134 = .ok (.getfield 72, 3) := by decide +kernel
theorem dX11_lay_137 : decode cX11_lay 137 = .ok (.iload_n 2, 1) := by decide +kernel
theorem dX11_lay_138 : decode cX11_lay 138 = .ok (.aload_n 0, 1) := by decide +kernel
theorem dX11_lay_139 : decode cX11_lay 139 = .ok (.getfield 137, 3) := by decide +kernel
theorem dX11_lay_142 : decode cX11_lay 142 = .ok (.iconst 1, 1) := by decide +kernel
theorem dX11_lay_143 : decode cX11_lay 143 = .ok (.isub, 1) := by decide +kernel
theorem dX11_lay_144 : decode cX11_lay 144 = .ok (.iastore, 1) := by decide +kernel
theorem dX11_lay_145 : decode cX11_lay 145 = .ok (.iinc 2 1, 3) := by decide +kernel
theorem dX11_lay_148 : decode cX11_lay 148 = .ok (.goto (-108), 3) := by decide +kernel
theorem dX11_lay_151 : decode cX11_lay 151 = .ok (.return_, 1) := by decide +kernel
theorem dX11_begin_0 : decode cX11_begin 0 = .ok (.aload_n 0, 1) := by decide +kernel
theorem dX11_begin_1 : decode cX11_begin 1 = .ok (.iload_n 1, 1) := by decide +kernel
theorem dX11_begin_2 : decode cX11_begin 2 = .ok (.iconst 0, 1) := by decide +kernel
theorem dX11_begin_3 : decode cX11_begin 3 = .ok (.bipush 11, 2) := by decide +kernel
theorem dX11_begin_5 : decode cX11_begin 5 = .ok (.invokestatic 84, 3) := by decide +kernel
theorem dX11_begin_8 : decode cX11_begin 8 = .ok (.ifCond .eq 7, 3) := by decide +kernel
theorem dX11_begin_11 : decode cX11_begin 11 = .ok (.iconst 0, 1) := by decide +kernel
theorem dX11_begin_12 : decode cX11_begin 12 = .ok (.goto 4, 3) := by decide +kernel
theorem dX11_begin_15 : decode cX11_begin 15 = .ok (.iconst 1, 1) := by decide +kernel
theorem dX11_begin_16 : decode cX11_begin 16 = .ok (.putfield 78, 3) := by decide +kernel
theorem dX11_begin_19 : decode cX11_begin 19 = .ok (.aload_n 0, 1) := by decide +kernel
theorem dX11_begin_20 : decode cX11_begin 20 = .ok (.getfield 78, 3) := by decide +kernel
theorem dX11_begin_23 : decode cX11_begin 23 = .ok (.ifCond .le 5, 3) := by decide +kernel
theorem dX11_begin_26 : decode cX11_begin 26 = .ok (.iconst 0, 1) := by decide +kernel
theorem dX11_begin_27 : decode cX11_begin 27 = .ok (.ireturn, 1) := by decide +kernel
theorem dX11_begin_28 : decode cX11_begin 28 = .ok (.aload_n 0, 1) := by decide +kernel
theorem dX11_begin_29 : decode cX11_begin 29 = .ok (.getfield 81, 3) := by decide +kernel
theorem dX11_begin_32 : decode cX11_begin 32 = .ok (.istore_n 2, 1) := by decide +kernel
theorem dX11_begin_33 : decode cX11_begin 33 = .ok (.aload_n 0, 1) := by decide +kernel
theorem dX11_begin_34 : decode cX11_begin 34 = .ok (.iload_n 1, 1) := by decide +kernel
theorem dX11_begin_35 : decode cX11_begin 35 = .ok (.putfield 140, 3) := by decide +kernel
theorem dX11_begin_38 : decode cX11_begin 38 = .ok (.aload_n 0, 1) := by decide +kernel
theorem dX11_begin_39 : decode cX11_begin 39 = .ok (.iconst 0, 1) := by decide +kernel
theorem dX11_begin_40 : decode cX11_begin 40 = .ok (.putfield 81, 3) := by decide +kernel
theorem dX11_begin_43 : decode cX11_begin 43 = .ok (.aload_n 0, 1) := by decide +kernel
theorem dX11_begin_44 : decode cX11_begin 44 = .ok (.iconst 0, 1) := by decide +kernel
theorem dX11_begin_45 : decode cX11_begin 45 = .ok (.putfield 97, 3) := by decide +kernel
theorem dX11_begin_48 : decode cX11_begin 48 = .ok (.aload_n 0, 1) := by decide +kernel
theorem dX11_begin_49 : decode cX11_begin 49 = .ok (.iconst 4, 1) := by decide +kernel
theorem dX11_begin_50 : decode cX11_begin 50 = .ok (.putfield 32, 3) := by decide +kernel
theorem dX11_begin_53 : decode cX11_begin 53 = .ok (.aload_n 0, 1) := by decide +kernel
theorem dX11_begin_54 : decode cX11_begin 54 = .ok (.iconst 0, 1) := by decide +kernel
theorem dX11_begin_55 : decode cX11_begin 55 = .ok (.putfield 143, 3) := by decide +kernel
theorem dX11_begin_58 : decode cX11_begin 58 = .ok (.aload_n 0, 1) := by decide +kernel
theorem dX11_begin_59 : decode cX11_begin 59 = .ok (.bipush 80, 2) := by decide +kernel
theorem dX11_begin_61 : decode cX11_begin 61 = .ok (.putfield 36, 3) := by decide +kernel
theorem dX11_begin_64 : decode cX11_begin 64 = .ok (.iconst 0, 1) := by decide +kernel
theorem dX11_begin_65 : decode cX11_begin 65 = .ok (.istore_n 3, 1) := by decide +kernel
theorem dX11_begin_66 : decode cX11_begin 66 = .ok (.iload_n 3, 1) := by decide +kernel
theorem dX11_begin_67 : decode cX11_begin 67 = .ok (.bipush 96, 2) := by decide +kernel
theorem dX11_begin_69 : decode cX11_begin 69 = .ok (.if_icmp .ge 16, 3) := by decide +kernel
theorem dX11_begin_72 : decode cX11_begin 72 = .ok (.aload_n 0, 1) := by decide +kernel
theorem dX11_begin_73 : decode cX11_begin 73 = .ok (.getfield 39, 3) := by decide +kernel
theorem dX11_begin_76 : decode cX11_begin 76 = .ok (.iload_n 3, 1) := by decide +kernel
theorem dX11_begin_77 : decode cX11_begin 77 = .ok (.iconst 0, 1) := by decide +kernel
theorem dX11_begin_78 : decode cX11_begin 78 = .ok (.iastore, 1) := by decide +kernel
theorem dX11_begin_79 : decode cX11_begin 79 = .ok (.iinc 3 1, 3) := by decide +kernel
theorem dX11_begin_82 : decode cX11_begin 82 = .ok (.goto (-16), 3) := by decide +kernel
theorem dX11_begin_85 : decode cX11_begin 85 = .ok (.iload_n 2, 1) := by decide +kernel
theorem dX11_begin_86 : decode cX11_begin 86 = .ok (.ireturn, 1) := by decide +kernel
theorem dX11_addNote_0 : decode cX11_addNote 0 = .ok (.iload_n 2, 1) := by decide +kernel
theorem dX11_addNote_1 : decode cX11_addNote 1 = .ok (.invokestatic 146, 3) := by decide +kernel
theorem dX11_addNote_4 : decode cX11_addNote 4 = .ok (.ifCond .eq 30, 3) := by decide +kernel
theorem dX11_addNote_7 : decode cX11_addNote 7 = .ok (.iload_n 3, 1) := by decide +kernel
theorem dX11_addNote_8 : decode cX11_addNote 8 = .ok (.invokestatic 146, 3) := by decide +kernel
theorem dX11_addNote_11 : decode cX11_addNote 11 = .ok (.ifCond .eq 23, 3) := by decide +kernel
theorem dX11_addNote_14 : decode cX11_addNote 14 = .ok (.iload 4, 2) := by decide +kernel
theorem dX11_addNote_16 : decode cX11_addNote 16 = .ok (.invokestatic 146, 3) := by decide +kernel
theorem dX11_addNote_19 : decode cX11_addNote 19 = .ok (.ifCond .eq 15, 3) := by decide +kernel
theorem dX11_addNote_22 : decode cX11_addNote 22 = .ok (.iload 5, 2) := by decide +kernel
theorem dX11_addNote_24 : decode cX11_addNote 24 = .ok (.invokestatic 146, 3) := by decide +kernel
theorem dX11_addNote_27 : decode cX11_addNote 27 = .ok (.ifCond .eq 7, 3) := by decide +kernel
theorem dX11_addNote_30 : decode cX11_addNote 30 = .ok (.iconst 1, 1) := by decide +kernel
theorem dX11_addNote_31 : decode cX11_addNote 31 = .ok (.goto 4, 3) := by decide +kernel
theorem dX11_addNote_34 : decode cX11_addNote 34 = .ok (.iconst 0, 1) := by decide +kernel
theorem dX11_addNote_35 : decode cX11_addNote 35 = .ok (.istore 6, 2) := by decide +kernel
theorem dX11_addNote_37 : decode cX11_addNote 37 = .ok (.aload_n 0, 1) := by decide +kernel
theorem dX11_addNote_38 : decode cX11_addNote 38 = .ok (.iload_n 1, 1) := by decide +kernel
theorem dX11_addNote_39 : decode cX11_addNote 39 = .ok (.iconst 1, 1) := by decide +kernel
theorem dX11_addNote_40 : decode cX11_addNote 40 = .ok (.bipush 8, 2) := by decide +kernel
theorem dX11_addNote_42 : decode cX11_addNote 42 = .ok (.invokestatic 84, 3) := by decide +kernel
theorem dX11_addNote_45 : decode cX11_addNote 45 = .ok (.ifCond .eq 8, 3) := by decide +kernel
theorem dX11_addNote_48 : decode cX11_addNote 48 = .ok (.iload 6, 2) := by decide +kernel
theorem dX11_addNote_50 : decode cX11_addNote 50 = .ok (.ifCond .ne 7, 3) := by decide +kernel
theorem dX11_addNote_53 : decode cX11_addNote 53 = .ok (.iconst 1, 1) := by decide +kernel
theorem dX11_addNote_54 : decode cX11_addNote 54 = .ok (.goto 17, 3) := by decide +kernel
theorem dX11_addNote_57 : decode cX11_addNote 57 = .ok (.aload_n 0, 1) := by decide +kernel
theorem dX11_addNote_58 : decode cX11_addNote 58 = .ok (.getfield 81, 3) := by decide +kernel
theorem dX11_addNote_61 : decode cX11_addNote 61 = .ok (.bipush 40, 2) := by decide +kernel
theorem dX11_addNote_63 : decode cX11_addNote 63 = .ok (.if_icmp .ne 7, 3) := by decide +kernel
theorem dX11_addNote_66 : decode cX11_addNote 66 = .ok (.iconst 2, 1) := by decide +kernel
theorem dX11_addNote_67 : decode cX11_addNote 67 = .ok (.goto 4, 3) := by decide +kernel
theorem dX11_addNote_70 : decode cX11_addNote 70 = .ok (.iconst 0, 1) := by decide +kernel
theorem dX11_addNote_71 : decode cX11_addNote 71 = .ok (.putfield 78, 3) := by decide +kernel
theorem dX11_addNote_74 : decode cX11_addNote 74 = .ok (.aload_n 0, 1) := by decide +kernel
theorem dX11_addNote_75 : decode cX11_addNote 75 = .ok (.getfield 78, 3) := by decide +kernel
theorem dX11_addNote_78 : decode cX11_addNote 78 = .ok (.ifCond .le 5, 3) := by decide +kernel
theorem dX11_addNote_81 : decode cX11_addNote 81 = .ok (.iconst 0, 1) := by decide +kernel
theorem dX11_addNote_82 : decode cX11_addNote 82 = .ok (.ireturn, 1) := by decide +kernel
theorem dX11_addNote_83 : decode cX11_addNote 83 = .ok (.aload_n 0, 1) := by decide +kernel
theorem dX11_addNote_84 : decode cX11_addNote 84 = .ok (.getfield 7, 3) := by decide +kernel
theorem dX11_addNote_87 : decode cX11_addNote 87 = .ok (.aload_n 0, 1) := by decide +kernel
theorem dX11_addNote_88 : decode cX11_addNote 88 = .ok (.getfield 81, 3) := by decide +kernel
theorem dX11_addNote_91 : decode cX11_addNote 91 = .ok (.iload_n 1, 1) := by decide +kernel
theorem dX11_addNote_92 : decode cX11_addNote 92 = .ok (.iastore, 1) := by decide +kernel
theorem dX11_addNote_93 : decode cX11_addNote 93 = .ok (.aload_n 0, 1) := by decide +kernel
theorem dX11_addNote_94 : decode cX11_addNote 94 = .ok (.getfield 13, 3) := by decide +kernel
theorem dX11_addNote_97 : decode cX11_addNote 97 = .ok (.iconst 4, 1) := by decide +kernel
theorem dX11_addNote_98 : decode cX11_addNote 98 = .ok (.aload_n 0, 1) := by decide +kernel
theorem dX11_addNote_99 : decode cX11_addNote 99 = .ok (.getfield 81, 3) := by decide +kernel
theorem dX11_addNote_102 : decode cX11_addNote 102 = .ok (.imul, 1) := by decide +kernel
theorem dX11_addNote_103 : decode cX11_addNote 103 = .ok (.iload_n 2, 1) := by decide +kernel
theorem dX11_addNote_104 : decode cX11_addNote 104 = .ok (.iastore, 1) := by decide +kernel
theorem dX11_addNote_105 : decode cX11_addNote 105 = .ok (.aload_n 0, 1) := by decide +kernel
theorem dX11_addNote_106 : decode cX11_addNote 106 = .ok (.getfield 13, 3) := by decide +kernel
theorem dX11_addNote_109 : decode cX11_addNote 109 = .ok (.iconst 4, 1) := by decide +kernel
theorem dX11_addNote_110 : decode cX11_addNote 110 = .ok (.aload_n 0, 1) := by decide +kernel
theorem dX11_addNote_111 : decode cX11_addNote 111 = .ok (.getfield 81, 3) := by decide +kernel
theorem dX11_addNote_114 : decode cX11_addNote 114 = .ok (.imul, 1) := by decide +kernel
theorem dX11_addNote_115 : decode cX11_addNote 115 = .ok (.iconst 1, 1) := by decide +kernel
theorem dX11_addNote_116 : decode cX11_addNote 116 = .ok (.iadd, 1) := by decide +kernel
theorem dX11_addNote_117 : decode cX11_addNote 117 = .ok (.iload_n 3, 1) := by decide +kernel
theorem dX11_addNote_118 : decode cX11_addNote 118 = .ok (.iastore, 1) := by decide +kernel
theorem dX11_addNote_119 : decode cX11_addNote 119 = .ok (.aload_n 0, 1) := by decide +kernel
theorem dX11_addNote_120 : decode cX11_addNote 120 = .ok (.getfield 13, 3) := by decide +kernel
theorem dX11_addNote_123 : decode cX11_addNote 123 = .ok (.iconst 4, 1) := by decide +kernel
theorem dX11_addNote_124 : decode cX11_addNote 124 = .ok (.aload_n 0, 1) := by decide +kernel
theorem dX11_addNote_125 : decode cX11_addNote 125 = .ok (.getfield 81, 3) := by decide +kernel
theorem dX11_addNote_128 : decode cX11_addNote 128 = .ok (.imul, 1) := by decide +kernel
theorem dX11_addNote_129 : decode cX11_addNote 129 = .ok (.iconst 2, 1) := by decide +kernel
theorem dX11_addNote_130 : decode cX11_addNote 130 = .ok (.iadd, 1) := by decide +kernel
theorem dX11_addNote_131 : decode cX11_addNote 131 = .ok (.iload 4, 2) := by decide +kernel
theorem dX11_addNote_133 : decode cX11_addNote 133 = .ok (.iastore, 1) := by decide +kernel
theorem dX11_addNote_134 : decode cX11_addNote 134 = .ok (.aload_n 0, 1) := by decide +kernel
theorem dX11_addNote_135 : decode cX11_addNote 135 = .ok (.getfield 13, 3) := by decide +kernel
theorem dX11_addNote_138 : decode cX11_addNote 138 = .ok (.iconst 4, 1) := by decide +kernel
theorem dX11_addNote_139 : decode cX11_addNote 139 = .ok (.aload_n 0, 1) := by decide +kernel
theorem dX11_addNote_140 : decode cX11_addNote 140 = .ok (.getfield 81, 3) := by decide +kernel
theorem dX11_addNote_143 : decode cX11_addNote 143 = .ok (.imul, 1) := by decide +kernel
theorem dX11_addNote_144 : decode cX11_addNote 144 = .ok (.iconst 3, 1) := by decide +kernel
theorem dX11_addNote_145 : decode cX11_addNote 145 = .ok (.iadd, 1) := by decide +kernel
theorem dX11_addNote_146 : decode cX11_addNote 146 = .ok (.iload 5, 2) := by decide +kernel
theorem dX11_addNote_148 : decode cX11_addNote 148 = .ok (.iastore, 1) := by decide +kernel
theorem dX11_addNote_149 : decode cX11_addNote 149 = .ok (.aload_n 0, 1) := by decide +kernel
theorem dX11_addNote_150 : decode cX11_addNote 150 = .ok (.getfield 16, 3) := by decide +kernel
theorem dX11_addNote_153 : decode cX11_addNote 153 = .ok (.aload_n 0, 1) := by decide +kernel
theorem dX11_addNote_154 : decode cX11_addNote 154 = .ok (.getfield 81, 3) := by decide +kernel
theorem dX11_addNote_157 : decode cX11_addNote 157 = .ok (.iconst 0, 1) := by decide +kernel
theorem dX11_addNote_158 : decode cX11_addNote 158 = .ok (.bastore, 1) := by decide +kernel
theorem dX11_addNote_159 : decode cX11_addNote 159 = .ok (.aload_n 0, 1) := by decide +kernel
theorem dX11_addNote_160 : decode cX11_addNote 160 = .ok (.getfield 20, 3) := by decide +kernel
theorem dX11_addNote_163 : decode cX11_addNote 163 = .ok (.aload_n 0, 1) := by decide +kernel
theorem dX11_addNote_164 : decode cX11_addNote 164 = .ok (.getfield 81, 3) := by decide +kernel
theorem dX11_addNote_167 : decode cX11_addNote 167 = .ok (.iconst 0, 1) := by decide +kernel
theorem dX11_addNote_168 : decode cX11_addNote 168 = .ok (.bastore, 1) := by decide +kernel
theorem dX11_addNote_169 : decode cX11_addNote 169 = .ok (.aload_n 0, 1) := by decide +kernel
theorem dX11_addNote_170 : decode cX11_addNote 170 = .ok (.dup, 1) := by decide +kernel
theorem dX11_addNote_171 : decode cX11_addNote 171 = .ok (.getfield 81, 3) := by decide +kernel
theorem dX11_addNote_174 : decode cX11_addNote 174 = .ok (.iconst 1, 1) := by decide +kernel
theorem dX11_addNote_175 : decode cX11_addNote 175 = .ok (.iadd, 1) := by decide +kernel
theorem dX11_addNote_176 : decode cX11_addNote 176 = .ok (.putfield 81, 3) := by decide +kernel
theorem dX11_addNote_179 : decode cX11_addNote 179 = .ok (.aload_n 0, 1) := by decide +kernel
theorem dX11_addNote_180 : decode cX11_addNote 180 = .ok (.getfield 81, 3) := by decide +kernel
theorem dX11_addNote_183 : decode cX11_addNote 183 = .ok (.iconst 1, 1) := by decide +kernel
theorem dX11_addNote_184 : decode cX11_addNote 184 = .ok (.isub, 1) := by decide +kernel
theorem dX11_addNote_185 : decode cX11_addNote 185 = .ok (.ireturn, 1) := by decide +kernel
theorem dX11_dropNote_0 : decode cX11_dropNote 0 = .ok (.aload_n 0, 1) := by decide +kernel
theorem dX11_dropNote_1 : decode cX11_dropNote 1 = .ok (.aload_n 0, 1) := by decide +kernel
theorem dX11_dropNote_2 : decode cX11_dropNote 2 = .ok (.getfield 81, 3) := by decide +kernel
theorem dX11_dropNote_5 : decode cX11_dropNote 5 = .ok (.ifCond .le 7, 3) := by decide +kernel
theorem dX11_dropNote_8 : decode cX11_dropNote 8 = .ok (.iconst 0, 1) := by decide +kernel
theorem dX11_dropNote_9 : decode cX11_dropNote 9 = .ok (.goto 4, 3) := by decide +kernel
theorem dX11_dropNote_12 : decode cX11_dropNote 12 = .ok (.iconst 1, 1) := by decide +kernel
theorem dX11_dropNote_13 : decode cX11_dropNote 13 = .ok (.putfield 78, 3) := by decide +kernel
theorem dX11_dropNote_16 : decode cX11_dropNote 16 = .ok (.aload_n 0, 1) := by decide +kernel
theorem dX11_dropNote_17 : decode cX11_dropNote 17 = .ok (.getfield 78, 3) := by decide +kernel
theorem dX11_dropNote_20 : decode cX11_dropNote 20 = .ok (.ifCond .le 5, 3) := by decide +kernel
theorem dX11_dropNote_23 : decode cX11_dropNote 23 = .ok (.iconst 0, 1) := by decide +kernel
theorem dX11_dropNote_24 : decode cX11_dropNote 24 = .ok (.ireturn, 1) := by decide +kernel
theorem dX11_dropNote_25 : decode cX11_dropNote 25 = .ok (.aload_n 0, 1) := by decide +kernel
theorem dX11_dropNote_26 : decode cX11_dropNote 26 = .ok (.dup, 1) := by decide +kernel
theorem dX11_dropNote_27 : decode cX11_dropNote 27 = .ok (.getfield 81, 3) := by decide +kernel
theorem dX11_dropNote_30 : decode cX11_dropNote 30 = .ok (.iconst 1, 1) := by decide +kernel
theorem dX11_dropNote_31 : decode cX11_dropNote 31 = .ok (.isub, 1) := by decide +kernel
theorem dX11_dropNote_32 : decode cX11_dropNote 32 = .ok (.putfield 81, 3) := by decide +kernel
theorem dX11_dropNote_35 : decode cX11_dropNote 35 = .ok (.aload_n 0, 1) := by decide +kernel
theorem dX11_dropNote_36 : decode cX11_dropNote 36 = .ok (.invokevirtual 149, 3) := by decide +kernel
theorem dX11_dropNote_39 : decode cX11_dropNote 39 = .ok (.aload_n 0, 1) := by decide +kernel
theorem dX11_dropNote_40 : decode cX11_dropNote 40 = .ok (.getfield 81, 3) := by decide +kernel
theorem dX11_dropNote_43 : decode cX11_dropNote 43 = .ok (.ireturn, 1) := by decide +kernel
theorem dX11_isPart_0 : decode cX11_isPart 0 = .ok (.aload_n 0, 1) := by decide +kernel
theorem dX11_isPart_1 : decode cX11_isPart 1 = .ok (.iload_n 1, 1) := by decide +kernel
theorem dX11_isPart_2 : decode cX11_isPart 2 = .ok (.invokevirtual 152, 3) := by decide +kernel
theorem dX11_isPart_5 : decode cX11_isPart 5 = .ok (.ifCond .eq 16, 3) := by decide +kernel
theorem dX11_isPart_8 : decode cX11_isPart 8 = .ok (.iload_n 2, 1) := by decide +kernel
theorem dX11_isPart_9 : decode cX11_isPart 9 = .ok (.iconst 0, 1) := by decide +kernel
theorem dX11_isPart_10 : decode cX11_isPart 10 = .ok (.iconst 3, 1) := by decide +kernel
theorem dX11_isPart_11 : decode cX11_isPart 11 = .ok (.invokestatic 84, 3) := by decide +kernel
theorem dX11_isPart_14 : decode cX11_isPart 14 = .ok (.ifCond .eq 7, 3) := by decide +kernel
theorem dX11_isPart_17 : decode cX11_isPart 17 = .ok (.iconst 1, 1) := by decide +kernel
theorem dX11_isPart_18 : decode cX11_isPart 18 = .ok (.goto 4, 3) := by decide +kernel
theorem dX11_isPart_21 : decode cX11_isPart 21 = .ok (.iconst 0, 1) := by decide +kernel
theorem dX11_isPart_22 : decode cX11_isPart 22 = .ok (.ireturn, 1) := by decide +kernel
theorem dX11_setPitch_0 : decode cX11_setPitch 0 = .ok (.aload_n 0, 1) := by decide +kernel
theorem dX11_setPitch_1 : decode cX11_setPitch 1 = .ok (.aload_n 0, 1) := by decide +kernel
theorem dX11_setPitch_2 : decode cX11_setPitch 2 = .ok (.iload_n 1, 1) := by decide +kernel
theorem dX11_setPitch_3 : decode cX11_setPitch 3 = .ok (.iload_n 2, 1) := by decide +kernel
theorem dX11_setPitch_4 : decode cX11_setPitch 4 = .ok (.invokevirtual 155, 3) := by decide +kernel
theorem dX11_setPitch_7 : decode cX11_setPitch 7 = .ok (.ifCond .ne 7, 3) := by decide +kernel
theorem dX11_setPitch_10 : decode cX11_setPitch 10 = .ok (.iconst 1, 1) := by decide +kernel
theorem dX11_setPitch_11 : decode cX11_setPitch 11 = .ok (.goto 15, 3) := by decide +kernel
theorem dX11_setPitch_14 : decode cX11_setPitch 14 = .ok (.iload_n 3, 1) := by decide +kernel
theorem dX11_setPitch_15 : decode cX11_setPitch 15 = .ok (.invokestatic 146, 3) := by decide +kernel
theorem dX11_setPitch_18 : decode cX11_setPitch 18 = .ok (.ifCond .eq 7, 3) := by decide +kernel
theorem dX11_setPitch_21 : decode cX11_setPitch 21 = .ok (.iconst 0, 1) := by decide +kernel
theorem dX11_setPitch_22 : decode cX11_setPitch 22 = .ok (.goto 4, 3) := by decide +kernel
theorem dX11_setPitch_25 : decode cX11_setPitch 25 = .ok (.iconst 2, 1) := by decide +kernel
theorem dX11_setPitch_26 : decode cX11_setPitch 26 = .ok (.putfield 78, 3) := by decide +kernel
theorem dX11_setPitch_29 : decode cX11_setPitch 29 = .ok (.aload_n 0, 1) := by decide +kernel
theorem dX11_setPitch_30 : decode cX11_setPitch 30 = .ok (.getfield 78, 3) := by decide +kernel
theorem dX11_setPitch_33 : decode cX11_setPitch 33 = .ok (.ifCond .le 5, 3) := by decide +kernel
theorem dX11_setPitch_36 : decode cX11_setPitch 36 = .ok (.iconst 0, 1) := by decide +kernel
theorem dX11_setPitch_37 : decode cX11_setPitch 37 = .ok (.ireturn, 1) := by decide +kernel
theorem dX11_setPitch_38 : decode cX11_setPitch 38 = .ok (.aload_n 0, 1) := by decide +kernel
theorem dX11_setPitch_39 : decode cX11_setPitch 39 = .ok (.getfield 13, 3) := by decide +kernel
theorem dX11_setPitch_42 : decode cX11_setPitch 42 = .ok (.iconst 4, 1) := by decide +kernel
theorem dX11_setPitch_43 : decode cX11_setPitch 43 = .ok (.iload_n 1, 1) := by decide +kernel
theorem dX11_setPitch_44 : decode cX11_setPitch 44 = .ok (.imul, 1) := by decide +kernel
theorem dX11_setPitch_45 : decode cX11_setPitch 45 = .ok (.iload_n 2, 1) := by decide +kernel
theorem dX11_setPitch_46 : decode cX11_setPitch 46 = .ok (.iadd, 1) := by decide +kernel
theorem dX11_setPitch_47 : decode cX11_setPitch 47 = .ok (.iaload, 1) := by decide +kernel
theorem dX11_setPitch_48 : decode cX11_setPitch 48 = .ok (.istore 4, 2) := by decide +kernel
theorem dX11_setPitch_50 : decode cX11_setPitch 50 = .ok (.aload_n 0, 1) := by decide +kernel
theorem dX11_setPitch_51 : decode cX11_setPitch 51 = .ok (.getfield 13, 3) := by decide +kernel
theorem dX11_setPitch_54 : decode cX11_setPitch 54 = .ok (.iconst 4, 1) := by decide +kernel
theorem dX11_setPitch_55 : decode cX11_setPitch 55 = .ok (.iload_n 1, 1) := by decide +kernel
theorem dX11_setPitch_56 : decode cX11_setPitch 56 = .ok (.imul, 1) := by decide +kernel
theorem dX11_setPitch_57 : decode cX11_setPitch 57 = .ok (.iload_n 2, 1) := by decide +kernel
theorem dX11_setPitch_58 : decode cX11_setPitch 58 = .ok (.iadd, 1) := by decide +kernel
theorem dX11_setPitch_59 : decode cX11_setPitch 59 = .ok (.iload_n 3, 1) := by decide +kernel
theorem dX11_setPitch_60 : decode cX11_setPitch 60 = .ok (.iastore, 1) := by decide +kernel
theorem dX11_setPitch_61 : decode cX11_setPitch 61 = .ok (.iload 4, 2) := by decide +kernel
theorem dX11_setPitch_63 : decode cX11_setPitch 63 = .ok (.ireturn, 1) := by decide +kernel
theorem dX11_mark_0 : decode cX11_mark 0 = .ok (.aload_n 0, 1) := by decide +kernel
theorem dX11_mark_1 : decode cX11_mark 1 = .ok (.aload_n 0, 1) := by decide +kernel
theorem dX11_mark_2 : decode cX11_mark 2 = .ok (.iload_n 1, 1) := by decide +kernel
theorem dX11_mark_3 : decode cX11_mark 3 = .ok (.invokevirtual 152, 3) := by decide +kernel
theorem dX11_mark_6 : decode cX11_mark 6 = .ok (.ifCond .eq 7, 3) := by decide +kernel
theorem dX11_mark_9 : decode cX11_mark 9 = .ok (.iconst 0, 1) := by decide +kernel
theorem dX11_mark_10 : decode cX11_mark 10 = .ok (.goto 4, 3) := by decide +kernel
theorem dX11_mark_13 : decode cX11_mark 13 = .ok (.iconst 1, 1) := by decide +kernel
theorem dX11_mark_14 : decode cX11_mark 14 = .ok (.putfield 78, 3) := by decide +kernel
theorem dX11_mark_17 : decode cX11_mark 17 = .ok (.aload_n 0, 1) := by decide +kernel
theorem dX11_mark_18 : decode cX11_mark 18 = .ok (.getfield 78, 3) := by decide +kernel
theorem dX11_mark_21 : decode cX11_mark 21 = .ok (.ifCond .le 5, 3) := by decide +kernel
theorem dX11_mark_24 : decode cX11_mark 24 = .ok (.iconst 0, 1) := by decide +kernel
theorem dX11_mark_25 : decode cX11_mark 25 = .ok (.ireturn, 1) := by decide +kernel
theorem dX11_mark_26 : decode cX11_mark 26 = .ok (.aload_n 0, 1) := by decide +kernel
theorem dX11_mark_27 : decode cX11_mark 27 = .ok (.getfield 20, 3) := by decide +kernel
theorem dX11_mark_30 : decode cX11_mark 30 = .ok (.iload_n 1, 1) := by decide +kernel
theorem dX11_mark_31 : decode cX11_mark 31 = .ok (.iload_n 2, 1) := by decide +kernel
theorem dX11_mark_32 : decode cX11_mark 32 = .ok (.ifCond .eq 7, 3) := by decide +kernel
theorem dX11_mark_35 : decode cX11_mark 35 = .ok (.iload_n 3, 1) := by decide +kernel
theorem dX11_mark_36 : decode cX11_mark 36 = .ok (.goto 9, 3) := by decide +kernel
theorem dX11_mark_39 : decode cX11_mark 39 = .ok (.aload_n 0, 1) := by decide +kernel
theorem dX11_mark_40 : decode cX11_mark 40 = .ok (.getfield 20, 3) := by decide +kernel
theorem dX11_mark_43 : decode cX11_mark 43 = .ok (.iload_n 1, 1) := by decide +kernel
theorem dX11_mark_44 : decode cX11_mark 44 = .ok (.baload, 1) := by decide +kernel
theorem dX11_mark_45 : decode cX11_mark 45 = .ok (.bastore, 1) := by decide +kernel
theorem dX11_mark_46 : decode cX11_mark 46 = .ok (.aload_n 0, 1) := by decide +kernel
theorem dX11_mark_47 : decode cX11_mark 47 = .ok (.getfield 16, 3) := by decide +kernel
theorem dX11_mark_50 : decode cX11_mark 50 = .ok (.iload_n 1, 1) := by decide +kernel
theorem dX11_mark_51 : decode cX11_mark 51 = .ok (.iload_n 2, 1) := by decide +kernel
theorem dX11_mark_52 : decode cX11_mark 52 = .ok (.ifCond .eq 12, 3) := by decide +kernel
theorem dX11_mark_55 : decode cX11_mark 55 = .ok (.aload_n 0, 1) := by decide +kernel
theorem dX11_mark_56 : decode cX11_mark 56 = .ok (.getfield 16, 3) := by decide +kernel
theorem dX11_mark_59 : decode cX11_mark 59 = .ok (.iload_n 1, 1) := by decide +kernel
theorem dX11_mark_60 : decode cX11_mark 60 = .ok (.baload, 1) := by decide +kernel
theorem dX11_mark_61 : decode cX11_mark 61 = .ok (.goto 4, 3) := by decide +kernel
theorem dX11_mark_64 : decode cX11_mark 64 = .ok (.iload_n 3, 1) := by decide +kernel
theorem dX11_mark_65 : decode cX11_mark 65 = .ok (.bastore, 1) := by decide +kernel
theorem dX11_mark_66 : decode cX11_mark 66 = .ok (.aload_n 0, 1) := by decide +kernel
theorem dX11_mark_67 : decode cX11_mark 67 = .ok (.invokevirtual 149, 3) := by decide +kernel
theorem dX11_mark_70 : decode cX11_mark 70 = .ok (.aload_n 0, 1) := by decide +kernel
theorem dX11_mark_71 : decode cX11_mark 71 = .ok (.getfield 88, 3) := by decide +kernel
theorem dX11_mark_74 : decode cX11_mark 74 = .ok (.ireturn, 1) := by decide +kernel
theorem dX11_setBars_0 : decode cX11_setBars 0 = .ok (.aload_n 0, 1) := by decide +kernel
theorem dX11_setBars_1 : decode cX11_setBars 1 = .ok (.iload_n 1, 1) := by decide +kernel
theorem dX11_setBars_2 : decode cX11_setBars 2 = .ok (.iconst 2, 1) := by decide +kernel
theorem dX11_setBars_3 : decode cX11_setBars 3 = .ok (.bipush 24, 2) := by decide +kernel
theorem dX11_setBars_5 : decode cX11_setBars 5 = .ok (.invokestatic 84, 3) := by decide +kernel
theorem dX11_setBars_8 : decode cX11_setBars 8 = .ok (.ifCond .eq 18, 3) := by decide +kernel
theorem dX11_setBars_11 : decode cX11_setBars 11 = .ok (.iload_n 2, 1) := by decide +kernel
theorem dX11_setBars_12 : decode cX11_setBars 12 = .ok (.iconst 0, 1) := by decide +kernel
theorem dX11_setBars_13 : decode cX11_setBars 13 = .ok (.iload_n 1, 1) := by decide +kernel
theorem dX11_setBars_14 : decode cX11_setBars 14 = .ok (.iconst 1, 1) := by decide +kernel
theorem dX11_setBars_15 : decode cX11_setBars 15 = .ok (.isub, 1) := by decide +kernel
theorem dX11_setBars_16 : decode cX11_setBars 16 = .ok (.invokestatic 84, 3) := by decide +kernel
theorem dX11_setBars_19 : decode cX11_setBars 19 = .ok (.ifCond .eq 7, 3) := by decide +kernel
theorem dX11_setBars_22 : decode cX11_setBars 22 = .ok (.iconst 0, 1) := by decide +kernel
theorem dX11_setBars_23 : decode cX11_setBars 23 = .ok (.goto 4, 3) := by decide +kernel
theorem dX11_setBars_26 : decode cX11_setBars 26 = .ok (.iconst 1, 1) := by decide +kernel
theorem dX11_setBars_27 : decode cX11_setBars 27 = .ok (.putfield 78, 3) := by decide +kernel
theorem dX11_setBars_30 : decode cX11_setBars 30 = .ok (.aload_n 0, 1) := by decide +kernel
theorem dX11_setBars_31 : decode cX11_setBars 31 = .ok (.getfield 78, 3) := by decide +kernel
theorem dX11_setBars_34 : decode cX11_setBars 34 = .ok (.ifCond .le 5, 3) := by decide +kernel
theorem dX11_setBars_37 : decode cX11_setBars 37 = .ok (.iconst 0, 1) := by decide +kernel
theorem dX11_setBars_38 : decode cX11_setBars 38 = .ok (.ireturn, 1) := by decide +kernel
theorem dX11_setBars_39 : decode cX11_setBars 39 = .ok (.aload_n 0, 1) := by decide +kernel
theorem dX11_setBars_40 : decode cX11_setBars 40 = .ok (.getfield 32, 3) := by decide +kernel
theorem dX11_setBars_43 : decode cX11_setBars 43 = .ok (.istore_n 3, 1) := by decide +kernel
theorem dX11_setBars_44 : decode cX11_setBars 44 = .ok (.aload_n 0, 1) := by decide +kernel
theorem dX11_setBars_45 : decode cX11_setBars 45 = .ok (.iload_n 1, 1) := by decide +kernel
theorem dX11_setBars_46 : decode cX11_setBars 46 = .ok (.putfield 32, 3) := by decide +kernel
theorem dX11_setBars_49 : decode cX11_setBars 49 = .ok (.aload_n 0, 1) := by decide +kernel
theorem dX11_setBars_50 : decode cX11_setBars 50 = .ok (.iload_n 2, 1) := by decide +kernel
theorem dX11_setBars_51 : decode cX11_setBars 51 = .ok (.putfield 143, 3) := by decide +kernel
theorem dX11_setBars_54 : decode cX11_setBars 54 = .ok (.iload_n 3, 1) := by decide +kernel
theorem dX11_setBars_55 : decode cX11_setBars 55 = .ok (.ireturn, 1) := by decide +kernel
theorem dX11_isApart_0 : decode cX11_isApart 0 = .ok (.iconst 1, 1) := by decide +kernel
theorem dX11_isApart_1 : decode cX11_isApart 1 = .ok (.istore_n 3, 1) := by decide +kernel
theorem dX11_isApart_2 : decode cX11_isApart 2 = .ok (.iconst 0, 1) := by decide +kernel
theorem dX11_isApart_3 : decode cX11_isApart 3 = .ok (.istore 4, 2) := by decide +kernel
theorem dX11_isApart_5 : decode cX11_isApart 5 = .ok (.iload 4, 2) := by decide +kernel
theorem dX11_isApart_7 : decode cX11_isApart 7 = .ok (.aload_n 0, 1) := by decide +kernel
theorem dX11_isApart_8 : decode cX11_isApart 8 = .ok (.getfield 97, 3) := by decide +kernel
theorem dX11_isApart_11 : decode cX11_isApart 11 = .ok (.if_icmp .ge 41, 3) := by decide +kernel
theorem dX11_isApart_14 : decode cX11_isApart 14 = .ok (.iload_n 3, 1) := by decide +kernel
theorem dX11_isApart_15 : decode cX11_isApart 15 = .ok (.ifCond .eq 29, 3) := by decide +kernel
theorem dX11_isApart_18 : decode cX11_isApart 18 = .ok (.iload_n 2, 1) := by decide +kernel
theorem dX11_isApart_19 : decode cX11_isApart 19 = .ok (.aload_n 0, 1) := by decide +kernel
theorem dX11_isApart_20 : decode cX11_isApart 20 = .ok (.getfield 23, 3) := by decide +kernel
theorem dX11_isApart_23 : decode cX11_isApart 23 = .ok (.iload 4, 2) := by decide +kernel
theorem dX11_isApart_25 : decode cX11_isApart 25 = .ok (.iaload, 1) := by decide +kernel
theorem dX11_isApart_26 : decode cX11_isApart 26 = .ok (.if_icmp .lt 14, 3) := by decide +kernel
theorem dX11_isApart_29 : decode cX11_isApart 29 = .ok (.iload_n 1, 1) := by decide +kernel
theorem dX11_isApart_30 : decode cX11_isApart 30 = .ok (.aload_n 0, 1) := by decide +kernel
theorem dX11_isApart_31 : decode cX11_isApart 31 = .ok (.getfield 26, 3) := by decide +kernel
theorem dX11_isApart_34 : decode cX11_isApart 34 = .ok (.iload 4, 2) := by decide +kernel
theorem dX11_isApart_36 : decode cX11_isApart 36 = .ok (.iaload, 1) := by decide +kernel
theorem dX11_isApart_37 : decode cX11_isApart 37 = .ok (.if_icmp .le 7, 3) := by decide +kernel
theorem dX11_isApart_40 : decode cX11_isApart 40 = .ok (.iconst 1, 1) := by decide +kernel
theorem dX11_isApart_41 : decode cX11_isApart 41 = .ok (.goto 4, 3) := by decide +kernel
theorem dX11_isApart_44 : decode cX11_isApart 44 = .ok (.iconst 0, 1) := by decide +kernel
theorem dX11_isApart_45 : decode cX11_isApart 45 = .ok (.istore_n 3, 1) := by decide +kernel
theorem dX11_isApart_46 : decode cX11_isApart 46 = .ok (.iinc 4 1, 3) := by decide +kernel
theorem dX11_isApart_49 : decode cX11_isApart 49 = .ok (.goto (-44), 3) := by decide +kernel
theorem dX11_isApart_52 : decode cX11_isApart 52 = .ok (.iload_n 3, 1) := by decide +kernel
theorem dX11_isApart_53 : decode cX11_isApart 53 = .ok (.ireturn, 1) := by decide +kernel
theorem dX11_repeat_0 : decode cX11_repeat 0 = .ok (.aload_n 0, 1) := by decide +kernel
theorem dX11_repeat_1 : decode cX11_repeat 1 = .ok (.invokevirtual 94, 3) := by decide +kernel
theorem dX11_repeat_4 : decode cX11_repeat 4 = .ok (.iload_n 1, 1) := by decide +kernel
theorem dX11_repeat_5 : decode cX11_repeat 5 = .ok (.iconst 0, 1) := by decide +kernel
theorem dX11_repeat_6 : decode cX11_repeat 6 = .ok (.aload_n 0, 1) := by decide +kernel
theorem dX11_repeat_7 : decode cX11_repeat 7 = .ok (.getfield 88, 3) := by decide +kernel
theorem dX11_repeat_10 : decode cX11_repeat 10 = .ok (.iconst 1, 1) := by decide +kernel
theorem dX11_repeat_11 : decode cX11_repeat 11 = .ok (.isub, 1) := by decide +kernel
theorem dX11_repeat_12 : decode cX11_repeat 12 = .ok (.invokestatic 84, 3) := by decide +kernel
theorem dX11_repeat_15 : decode cX11_repeat 15 = .ok (.ifCond .eq 21, 3) := by decide +kernel
theorem dX11_repeat_18 : decode cX11_repeat 18 = .ok (.iload_n 2, 1) := by decide +kernel
theorem dX11_repeat_19 : decode cX11_repeat 19 = .ok (.iconst 0, 1) := by decide +kernel
theorem dX11_repeat_20 : decode cX11_repeat 20 = .ok (.aload_n 0, 1) := by decide +kernel
theorem dX11_repeat_21 : decode cX11_repeat 21 = .ok (.getfield 88, 3) := by decide +kernel
theorem dX11_repeat_24 : decode cX11_repeat 24 = .ok (.iconst 1, 1) := by decide +kernel
theorem dX11_repeat_25 : decode cX11_repeat 25 = .ok (.isub, 1) := by decide +kernel
theorem dX11_repeat_26 : decode cX11_repeat 26 = .ok (.invokestatic 84, 3) := by decide +kernel
theorem dX11_repeat_29 : decode cX11_repeat 29 = .ok (.ifCond .eq 7, 3) := by decide +kernel
theorem dX11_repeat_32 : decode cX11_repeat 32 = .ok (.iconst 1, 1) := by decide +kernel
theorem dX11_repeat_33 : decode cX11_repeat 33 = .ok (.goto 4, 3) := by decide +kernel
theorem dX11_repeat_36 : decode cX11_repeat 36 = .ok (.iconst 0, 1) := by decide +kernel
theorem dX11_repeat_37 : decode cX11_repeat 37 = .ok (.istore 4, 2) := by decide +kernel
theorem dX11_repeat_39 : decode cX11_repeat 39 = .ok (.iload_n 2, 1) := by decide +kernel
theorem dX11_repeat_40 : decode cX11_repeat 40 = .ok (.iload_n 1, 1) := by decide +kernel
theorem dX11_repeat_41 : decode cX11_repeat 41 = .ok (.if_icmp .lt 18, 3) := by decide +kernel
theorem dX11_repeat_44 : decode cX11_repeat 44 = .ok (.iload_n 3, 1) := by decide +kernel
theorem dX11_repeat_45 : decode cX11_repeat 45 = .ok (.iconst 0, 1) := by decide +kernel
theorem dX11_repeat_46 : decode cX11_repeat 46 = .ok (.iload_n 2, 1) := by decide +kernel
theorem dX11_repeat_47 : decode cX11_repeat 47 = .ok (.iload_n 1, 1) := by decide +kernel
theorem dX11_repeat_48 : decode cX11_repeat 48 = .ok (.isub, 1) := by decide +kernel
theorem dX11_repeat_49 : decode cX11_repeat 49 = .ok (.invokestatic 84, 3) := by decide +kernel
theorem dX11_repeat_52 : decode cX11_repeat 52 = .ok (.ifCond .eq 7, 3) := by decide +kernel
theorem dX11_repeat_55 : decode cX11_repeat 55 = .ok (.iconst 1, 1) := by decide +kernel
theorem dX11_repeat_56 : decode cX11_repeat 56 = .ok (.goto 4, 3) := by decide +kernel
theorem dX11_repeat_59 : decode cX11_repeat 59 = .ok (.iconst 0, 1) := by decide +kernel
theorem dX11_repeat_60 : decode cX11_repeat 60 = .ok (.istore 5, 2) := by decide +kernel
theorem dX11_repeat_62 : decode cX11_repeat 62 = .ok (.aload_n 0, 1) := by decide +kernel
theorem dX11_repeat_63 : decode cX11_repeat 63 = .ok (.iload 4, 2) := by decide +kernel
theorem dX11_repeat_65 : decode cX11_repeat 65 = .ok (.ifCond .ne 7, 3) := by decide +kernel
theorem dX11_repeat_68 : decode cX11_repeat 68 = .ok (.iconst 1, 1) := by decide +kernel
theorem dX11_repeat_69 : decode cX11_repeat 69 = .ok (.goto 34, 3) := by decide +kernel
theorem dX11_repeat_72 : decode cX11_repeat 72 = .ok (.iload 5, 2) := by decide +kernel
theorem dX11_repeat_74 : decode cX11_repeat 74 = .ok (.ifCond .ne 7, 3) := by decide +kernel
theorem dX11_repeat_77 : decode cX11_repeat 77 = .ok (.iconst 2, 1) := by decide +kernel
theorem dX11_repeat_78 : decode cX11_repeat 78 = .ok (.goto 25, 3) := by decide +kernel
theorem dX11_repeat_81 : decode cX11_repeat 81 = .ok (.aload_n 0, 1) := by decide +kernel
theorem dX11_repeat_82 : decode cX11_repeat 82 = .ok (.getfield 97, 3) := by decide +kernel
theorem dX11_repeat_85 : decode cX11_repeat 85 = .ok (.iconst 3, 1) := by decide +kernel
theorem dX11_repeat_86 : decode cX11_repeat 86 = .ok (.if_icmp .ge 16, 3) := by decide +kernel
theorem dX11_repeat_89 : decode cX11_repeat 89 = .ok (.aload_n 0, 1) := by decide +kernel
theorem dX11_repeat_90 : decode cX11_repeat 90 = .ok (.iload_n 1, 1) := by decide +kernel
theorem dX11_repeat_91 : decode cX11_repeat 91 = .ok (.iload_n 2, 1) := by decide +kernel
theorem dX11_repeat_92 : decode cX11_repeat 92 = .ok (.invokevirtual 159, 3) := by decide +kernel
theorem dX11_repeat_95 : decode cX11_repeat 95 = .ok (.ifCond .eq 7, 3) := by decide +kernel
theorem dX11_repeat_98 : decode cX11_repeat 98 = .ok (.iconst 0, 1) := by decide +kernel
theorem dX11_repeat_99 : decode cX11_repeat 99 = .ok (.goto 4, 3) := by decide +kernel
theorem dX11_repeat_102 : decode cX11_repeat 102 = .ok (.iconst 3, 1) := by decide +kernel
theorem dX11_repeat_103 : decode cX11_repeat 103 = .ok (.putfield 78, 3) := by decide +kernel
theorem dX11_repeat_106 : decode cX11_repeat 106 = .ok (.aload_n 0, 1) := by decide +kernel
theorem dX11_repeat_107 : decode cX11_repeat 107 = .ok (.getfield 78, 3) := by decide +kernel
theorem dX11_repeat_110 : decode cX11_repeat 110 = .ok (.ifCond .le 5, 3) := by decide +kernel
theorem dX11_repeat_113 : decode cX11_repeat 113 = .ok (.iconst 0, 1) := by decide +kernel
theorem dX11_repeat_114 : decode cX11_repeat 114 = .ok (.ireturn, 1) := by decide +kernel
theorem dX11_repeat_115 : decode cX11_repeat 115 = .ok (.aload_n 0, 1) := by decide +kernel
theorem dX11_repeat_116 : decode cX11_repeat 116 = .ok (.getfield 23, 3) := by decide +kernel
theorem dX11_repeat_119 : decode cX11_repeat 119 = .ok (.aload_n 0, 1) := by decide +kernel
theorem dX11_repeat_120 : decode cX11_repeat 120 = .ok (.getfield 97, 3) := by decide +kernel
theorem dX11_repeat_123 : decode cX11_repeat 123 = .ok (.iload_n 1, 1) := by decide +kernel
theorem dX11_repeat_124 : decode cX11_repeat 124 = .ok (.iastore, 1) := by decide +kernel
theorem dX11_repeat_125 : decode cX11_repeat 125 = .ok (.aload_n 0, 1) := by decide +kernel
theorem dX11_repeat_126 : decode cX11_repeat 126 = .ok (.getfield 26, 3) := by decide +kernel
theorem dX11_repeat_129 : decode cX11_repeat 129 = .ok (.aload_n 0, 1) := by decide +kernel
theorem dX11_repeat_130 : decode cX11_repeat 130 = .ok (.getfield 97, 3) := by decide +kernel
theorem dX11_repeat_133 : decode cX11_repeat 133 = .ok (.iload_n 2, 1) := by decide +kernel
theorem dX11_repeat_134 : decode cX11_repeat 134 = .ok (.iastore, 1) := by decide +kernel
theorem dX11_repeat_135 : decode cX11_repeat 135 = .ok (.aload_n 0, 1) := by decide +kernel
theorem dX11_repeat_136 : decode cX11_repeat 136 = .ok (.getfield 29, 3) := by decide +kernel
theorem dX11_repeat_139 : decode cX11_repeat 139 = .ok (.aload_n 0, 1) := by decide +kernel
theorem dX11_repeat_140 : decode cX11_repeat 140 = .ok (.getfield 97, 3) := by decide +kernel
theorem dX11_repeat_143 : decode cX11_repeat 143 = .ok (.iload_n 3, 1) := by decide +kernel
theorem dX11_repeat_144 : decode cX11_repeat 144 = .ok (.iastore, 1) := by decide +kernel
theorem dX11_repeat_145 : decode cX11_repeat 145 = .ok (.aload_n 0, 1) := by decide +kernel
theorem dX11_repeat_146 : decode cX11_repeat 146 = .ok (.dup, 1) := by decide +kernel
theorem dX11_repeat_147 : decode cX11_repeat 147 = .ok (.getfield 97, 3) := by decide +kernel
theorem dX11_repeat_150 : decode cX11_repeat 150 = .ok (.iconst 1, 1) := by decide +kernel
theorem dX11_repeat_151 : decode cX11_repeat 151 = .ok (.iadd, 1) := by decide +kernel
theorem dX11_repeat_152 : decode cX11_repeat 152 = .ok (.putfield 97, 3) := by decide +kernel
theorem dX11_repeat_155 : decode cX11_repeat 155 = .ok (.aload_n 0, 1) := by decide +kernel
theorem dX11_repeat_156 : decode cX11_repeat 156 = .ok (.invokevirtual 131, 3) := by decide +kernel
theorem dX11_repeat_159 : decode cX11_repeat 159 = .ok (.aload_n 0, 1) := by decide +kernel
theorem dX11_repeat_160 : decode cX11_repeat 160 = .ok (.getfield 91, 3) := by decide +kernel
theorem dX11_repeat_163 : decode cX11_repeat 163 = .ok (.ireturn, 1) := by decide +kernel
theorem dX11_clearRepeats_0 : decode cX11_clearRepeats 0 = .ok (.aload_n 0, 1) := by decide +kernel
theorem dX11_clearRepeats_1 : decode cX11_clearRepeats 1 = .ok (.iconst 0, 1) := by decide +kernel
theorem dX11_clearRepeats_2 : decode cX11_clearRepeats 2 = .ok (.putfield 78, 3) := by decide +kernel
theorem dX11_clearRepeats_5 : decode cX11_clearRepeats 5 = .ok (.aload_n 0, 1) := by decide +kernel
theorem dX11_clearRepeats_6 : decode cX11_clearRepeats 6 = .ok (.getfield 97, 3) := by decide +kernel
theorem dX11_clearRepeats_9 : decode cX11_clearRepeats 9 = .ok (.istore_n 1, 1) := by decide +kernel
theorem dX11_clearRepeats_10 : decode cX11_clearRepeats 10 = .ok (.aload_n 0, 1) := by decide +kernel
theorem dX11_clearRepeats_11 : decode cX11_clearRepeats 11 = .ok (.iconst 0, 1) := by decide +kernel
theorem dX11_clearRepeats_12 : decode cX11_clearRepeats 12 = .ok (.putfield 97, 3) := by decide +kernel
theorem dX11_clearRepeats_15 : decode cX11_clearRepeats 15 = .ok (.iload_n 1, 1) := by decide +kernel
theorem dX11_clearRepeats_16 : decode cX11_clearRepeats 16 = .ok (.ireturn, 1) := by decide +kernel
theorem dX11_canTranspose_0 : decode cX11_canTranspose 0 = .ok (.iconst 1, 1) := by decide +kernel
theorem dX11_canTranspose_1 : decode cX11_canTranspose 1 = .ok (.istore_n 2, 1) := by decide +kernel
theorem dX11_canTranspose_2 : decode cX11_canTranspose 2 = .ok (.iconst 0, 1) := by decide +kernel
theorem dX11_canTranspose_3 : decode cX11_canTranspose 3 = .ok (.istore_n 3, 1) := by decide +kernel
theorem dX11_canTranspose_4 : decode cX11_canTranspose 4 = .ok (.iload_n 3, 1) := by decide +kernel
theorem dX11_canTranspose_5 : decode cX11_canTranspose 5 = .ok (.iconst 4, 1) := by decide +kernel
theorem dX11_canTranspose_6 : decode cX11_canTranspose 6 = .ok (.aload_n 0, 1) := by decide +kernel
theorem dX11_canTranspose_7 : decode cX11_canTranspose 7 = .ok (.getfield 81, 3) := by decide +kernel
theorem dX11_canTranspose_10 : decode cX11_canTranspose 10 = .ok (.imul, 1) := by decide +kernel
theorem dX11_canTranspose_11 : decode cX11_canTranspose 11 = .ok (.if_icmp .ge 33, 3) := by decide +kernel
theorem dX11_canTranspose_14 : decode cX11_canTranspose 14 = .ok (.iload_n 2, 1) := by decide +kernel
theorem dX11_canTranspose_15 : decode cX11_canTranspose 15 = .ok (.ifCond .eq 21, 3) := by decide +kernel
theorem dX11_canTranspose_18 : decode cX11_canTranspose 18 = .ok (.aload_n 0, 1) := by decide +kernel
theorem dX11_canTranspose_19 : decode cX11_canTranspose 19 = .ok (.getfield 13, 3) := by decide +kernel
theorem dX11_canTranspose_22 : decode cX11_canTranspose 22 = .ok (.iload_n 3, 1) := by decide +kernel
theorem dX11_canTranspose_23 : decode cX11_canTranspose 23 = .ok (.iaload, 1) := by decide +kernel
theorem dX11_canTranspose_24 : decode cX11_canTranspose 24 = .ok (.iload_n 1, 1) := by decide +kernel
theorem dX11_canTranspose_25 : decode cX11_canTranspose 25 = .ok (.iadd, 1) := by decide +kernel
theorem dX11_canTranspose_26 : decode cX11_canTranspose 26 = .ok (.invokestatic 146, 3) := by decide +kernel
theorem dX11_canTranspose_29 : decode cX11_canTranspose 29 = .ok (.ifCond .eq 7, 3) := by decide +kernel
theorem dX11_canTranspose_32 : decode cX11_canTranspose 32 = .ok (.iconst 1, 1) := by decide +kernel
theorem dX11_canTranspose_33 : decode cX11_canTranspose 33 = .ok (.goto 4, 3) := by decide +kernel
theorem dX11_canTranspose_36 : decode cX11_canTranspose 36 = .ok (.iconst 0, 1) := by decide +kernel
theorem dX11_canTranspose_37 : decode cX11_canTranspose 37 = .ok (.istore_n 2, 1) := by decide +kernel
theorem dX11_canTranspose_38 : decode cX11_canTranspose 38 = .ok (.iinc 3 1, 3) := by decide +kernel
theorem dX11_canTranspose_41 : decode cX11_canTranspose 41 = .ok (.goto (-37), 3) := by decide +kernel
theorem dX11_canTranspose_44 : decode cX11_canTranspose 44 = .ok (.iload_n 2, 1) := by decide +kernel
theorem dX11_canTranspose_45 : decode cX11_canTranspose 45 = .ok (.ireturn, 1) := by decide +kernel
theorem dX11_transpose_0 : decode cX11_transpose 0 = .ok (.aload_n 0, 1) := by decide +kernel
theorem dX11_transpose_1 : decode cX11_transpose 1 = .ok (.iload_n 1, 1) := by decide +kernel
theorem dX11_transpose_2 : decode cX11_transpose 2 = .ok (.bipush (-24), 2) := by decide +kernel
theorem dX11_transpose_4 : decode cX11_transpose 4 = .ok (.bipush 24, 2) := by decide +kernel
theorem dX11_transpose_6 : decode cX11_transpose 6 = .ok (.invokestatic 84, 3) := by decide +kernel
theorem dX11_transpose_9 : decode cX11_transpose 9 = .ok (.ifCond .ne 7, 3) := by decide +kernel
theorem dX11_transpose_12 : decode cX11_transpose 12 = .ok (.iconst 1, 1) := by decide +kernel
theorem dX11_transpose_13 : decode cX11_transpose 13 = .ok (.goto 16, 3) := by decide +kernel
theorem dX11_transpose_16 : decode cX11_transpose 16 = .ok (.aload_n 0, 1) := by decide +kernel
theorem dX11_transpose_17 : decode cX11_transpose 17 = .ok (.iload_n 1, 1) := by decide +kernel
theorem dX11_transpose_18 : decode cX11_transpose 18 = .ok (.invokevirtual 162, 3) := by decide +kernel
theorem dX11_transpose_21 : decode cX11_transpose 21 = .ok (.ifCond .eq 7, 3) := by decide +kernel
theorem dX11_transpose_24 : decode cX11_transpose 24 = .ok (.iconst 0, 1) := by decide +kernel
theorem dX11_transpose_25 : decode cX11_transpose 25 = .ok (.goto 4, 3) := by decide +kernel
theorem dX11_transpose_28 : decode cX11_transpose 28 = .ok (.iconst 2, 1) := by decide +kernel
theorem dX11_transpose_29 : decode cX11_transpose 29 = .ok (.putfield 78, 3) := by decide +kernel
theorem dX11_transpose_32 : decode cX11_transpose 32 = .ok (.aload_n 0, 1) := by decide +kernel
theorem dX11_transpose_33 : decode cX11_transpose 33 = .ok (.getfield 78, 3) := by decide +kernel
theorem dX11_transpose_36 : decode cX11_transpose 36 = .ok (.ifCond .le 5, 3) := by decide +kernel
theorem dX11_transpose_39 : decode cX11_transpose 39 = .ok (.iconst 0, 1) := by decide +kernel
theorem dX11_transpose_40 : decode cX11_transpose 40 = .ok (.ireturn, 1) := by decide +kernel
theorem dX11_transpose_41 : decode cX11_transpose 41 = .ok (.iconst 0, 1) := by decide +kernel
theorem dX11_transpose_42 : decode cX11_transpose 42 = .ok (.istore_n 2, 1) := by decide +kernel
theorem dX11_transpose_43 : decode cX11_transpose 43 = .ok (.iload_n 2, 1) := by decide +kernel
theorem dX11_transpose_44 : decode cX11_transpose 44 = .ok (.iconst 4, 1) := by decide +kernel
theorem dX11_transpose_45 : decode cX11_transpose 45 = .ok (.aload_n 0, 1) := by decide +kernel
theorem dX11_transpose_46 : decode cX11_transpose 46 = .ok (.getfield 81, 3) := by decide +kernel
theorem dX11_transpose_49 : decode cX11_transpose 49 = .ok (.imul, 1) := by decide +kernel
theorem dX11_transpose_50 : decode cX11_transpose 50 = .ok (.if_icmp .ge 19, 3) := by decide +kernel
theorem dX11_transpose_53 : decode cX11_transpose 53 = .ok (.aload_n 0, 1) := by decide +kernel
theorem dX11_transpose_54 : decode cX11_transpose 54 = .ok (.getfield 13, 3) := by decide +kernel
theorem dX11_transpose_57 : decode cX11_transpose 57 = .ok (.iload_n 2, 1) := by decide +kernel
theorem dX11_transpose_58 : decode cX11_transpose 58 = .ok (.dup2, 1) := by decide +kernel
theorem dX11_transpose_59 : decode cX11_transpose 59 = .ok (.iaload, 1) := by decide +kernel
theorem dX11_transpose_60 : decode cX11_transpose 60 = .ok (.iload_n 1, 1) := by decide +kernel
theorem dX11_transpose_61 : decode cX11_transpose 61 = .ok (.iadd, 1) := by decide +kernel
theorem dX11_transpose_62 : decode cX11_transpose 62 = .ok (.iastore, 1) := by decide +kernel
theorem dX11_transpose_63 : decode cX11_transpose 63 = .ok (.iinc 2 1, 3) := by decide +kernel
theorem dX11_transpose_66 : decode cX11_transpose 66 = .ok (.goto (-23), 3) := by decide +kernel
theorem dX11_transpose_69 : decode cX11_transpose 69 = .ok (.aload_n 0, 1) := by decide +kernel
theorem dX11_transpose_70 : decode cX11_transpose 70 = .ok (.aload_n 0, 1) := by decide +kernel
theorem dX11_transpose_71 : decode cX11_transpose 71 = .ok (.getfield 140, 3) := by decide +kernel
theorem dX11_transpose_74 : decode cX11_transpose 74 = .ok (.iload_n 1, 1) := by decide +kernel
theorem dX11_transpose_75 : decode cX11_transpose 75 = .ok (.iadd, 1) := by decide +kernel
theorem dX11_transpose_76 : decode cX11_transpose 76 = .ok (.bipush 24, 2) := by decide +kernel
theorem dX11_transpose_78 : decode cX11_transpose 78 = .ok (.iadd, 1) := by decide +kernel
theorem dX11_transpose_79 : decode cX11_transpose 79 = .ok (.bipush 12, 2) := by decide +kernel
theorem dX11_transpose_81 : decode cX11_transpose 81 = .ok (.irem, 1) := by decide +kernel
theorem dX11_transpose_82 : decode cX11_transpose 82 = .ok (.putfield 140, 3) := by decide +kernel
theorem dX11_transpose_85 : decode cX11_transpose 85 = .ok (.aload_n 0, 1) := by decide +kernel
theorem dX11_transpose_86 : decode cX11_transpose 86 = .ok (.getfield 140, 3) := by decide +kernel
theorem dX11_transpose_89 : decode cX11_transpose 89 = .ok (.ireturn, 1) := by decide +kernel
theorem dX11_setWidth_0 : decode cX11_setWidth 0 = .ok (.aload_n 0, 1) := by decide +kernel
theorem dX11_setWidth_1 : decode cX11_setWidth 1 = .ok (.iload_n 1, 1) := by decide +kernel
theorem dX11_setWidth_2 : decode cX11_setWidth 2 = .ok (.bipush 20, 2) := by decide +kernel
theorem dX11_setWidth_4 : decode cX11_setWidth 4 = .ok (.sipush 200, 3) := by decide +kernel
theorem dX11_setWidth_7 : decode cX11_setWidth 7 = .ok (.invokestatic 84, 3) := by decide +kernel
theorem dX11_setWidth_10 : decode cX11_setWidth 10 = .ok (.ifCond .eq 7, 3) := by decide +kernel
theorem dX11_setWidth_13 : decode cX11_setWidth 13 = .ok (.iconst 0, 1) := by decide +kernel
theorem dX11_setWidth_14 : decode cX11_setWidth 14 = .ok (.goto 4, 3) := by decide +kernel
theorem dX11_setWidth_17 : decode cX11_setWidth 17 = .ok (.iconst 1, 1) := by decide +kernel
theorem dX11_setWidth_18 : decode cX11_setWidth 18 = .ok (.putfield 78, 3) := by decide +kernel
theorem dX11_setWidth_21 : decode cX11_setWidth 21 = .ok (.aload_n 0, 1) := by decide +kernel
theorem dX11_setWidth_22 : decode cX11_setWidth 22 = .ok (.getfield 78, 3) := by decide +kernel
theorem dX11_setWidth_25 : decode cX11_setWidth 25 = .ok (.ifCond .le 5, 3) := by decide +kernel
theorem dX11_setWidth_28 : decode cX11_setWidth 28 = .ok (.iconst 0, 1) := by decide +kernel
theorem dX11_setWidth_29 : decode cX11_setWidth 29 = .ok (.ireturn, 1) := by decide +kernel
theorem dX11_setWidth_30 : decode cX11_setWidth 30 = .ok (.aload_n 0, 1) := by decide +kernel
theorem dX11_setWidth_31 : decode cX11_setWidth 31 = .ok (.iload_n 1, 1) := by decide +kernel
theorem dX11_setWidth_32 : decode cX11_setWidth 32 = .ok (.putfield 36, 3) := by decide +kernel
theorem dX11_setWidth_35 : decode cX11_setWidth 35 = .ok (.aload_n 0, 1) := by decide +kernel
theorem dX11_setWidth_36 : decode cX11_setWidth 36 = .ok (.invokevirtual 165, 3) := by decide +kernel
theorem dX11_setWidth_39 : decode cX11_setWidth 39 = .ok (.aload_n 0, 1) := by decide +kernel
theorem dX11_setWidth_40 : decode cX11_setWidth 40 = .ok (.getfield 137, 3) := by decide +kernel
theorem dX11_setWidth_43 : decode cX11_setWidth 43 = .ok (.ireturn, 1) := by decide +kernel
theorem dX11_append_0 : decode cX11_append 0 = .ok (.aload_n 0, 1) := by decide +kernel
theorem dX11_append_1 : decode cX11_append 1 = .ok (.iload_n 1, 1) := by decide +kernel
theorem dX11_append_2 : decode cX11_append 2 = .ok (.bipush 32, 2) := by decide +kernel
theorem dX11_append_4 : decode cX11_append 4 = .ok (.bipush 126, 2) := by decide +kernel
theorem dX11_append_6 : decode cX11_append 6 = .ok (.invokestatic 84, 3) := by decide +kernel
theorem dX11_append_9 : decode cX11_append 9 = .ok (.ifCond .ne 7, 3) := by decide +kernel
theorem dX11_append_12 : decode cX11_append 12 = .ok (.iconst 1, 1) := by decide +kernel
theorem dX11_append_13 : decode cX11_append 13 = .ok (.goto 17, 3) := by decide +kernel
theorem dX11_append_16 : decode cX11_append 16 = .ok (.aload_n 0, 1) := by decide +kernel
theorem dX11_append_17 : decode cX11_append 17 = .ok (.getfield 168, 3) := by decide +kernel
theorem dX11_append_20 : decode cX11_append 20 = .ok (.bipush 60, 2) := by decide +kernel
theorem dX11_append_22 : decode cX11_append 22 = .ok (.if_icmp .ne 7, 3) := by decide +kernel
theorem dX11_append_25 : decode cX11_append 25 = .ok (.iconst 2, 1) := by decide +kernel
theorem dX11_append_26 : decode cX11_append 26 = .ok (.goto 4, 3) := by decide +kernel
theorem dX11_append_29 : decode cX11_append 29 = .ok (.iconst 0, 1) := by decide +kernel
theorem dX11_append_30 : decode cX11_append 30 = .ok (.putfield 78, 3) := by decide +kernel
theorem dX11_append_33 : decode cX11_append 33 = .ok (.aload_n 0, 1) := by decide +kernel
theorem dX11_append_34 : decode cX11_append 34 = .ok (.getfield 78, 3) := by decide +kernel
theorem dX11_append_37 : decode cX11_append 37 = .ok (.ifCond .le 5, 3) := by decide +kernel
theorem dX11_append_40 : decode cX11_append 40 = .ok (.iconst 0, 1) := by decide +kernel
theorem dX11_append_41 : decode cX11_append 41 = .ok (.ireturn, 1) := by decide +kernel
theorem dX11_append_42 : decode cX11_append 42 = .ok (.aload_n 0, 1) := by decide +kernel
theorem dX11_append_43 : decode cX11_append 43 = .ok (.getfield 51, 3) := by decide +kernel
theorem dX11_append_46 : decode cX11_append 46 = .ok (.aload_n 0, 1) := by decide +kernel
theorem dX11_append_47 : decode cX11_append 47 = .ok (.getfield 168, 3) := by decide +kernel
theorem dX11_append_50 : decode cX11_append 50 = .ok (.iload_n 1, 1) := by decide +kernel
theorem dX11_append_51 : decode cX11_append 51 = .ok (.iastore, 1) := by decide +kernel
theorem dX11_append_52 : decode cX11_append 52 = .ok (.aload_n 0, 1) := by decide +kernel
theorem dX11_append_53 : decode cX11_append 53 = .ok (.dup, 1) := by decide +kernel
theorem dX11_append_54 : decode cX11_append 54 = .ok (.getfield 168, 3) := by decide +kernel
theorem dX11_append_57 : decode cX11_append 57 = .ok (.iconst 1, 1) := by decide +kernel
theorem dX11_append_58 : decode cX11_append 58 = .ok (.iadd, 1) := by decide +kernel
theorem dX11_append_59 : decode cX11_append 59 = .ok (.putfield 168, 3) := by decide +kernel
theorem dX11_append_62 : decode cX11_append 62 = .ok (.aload_n 0, 1) := by decide +kernel
theorem dX11_append_63 : decode cX11_append 63 = .ok (.getfield 168, 3) := by decide +kernel
theorem dX11_append_66 : decode cX11_append 66 = .ok (.ireturn, 1) := by decide +kernel
theorem dX11_clearInput_0 : decode cX11_clearInput 0 = .ok (.aload_n 0, 1) := by decide +kernel
theorem dX11_clearInput_1 : decode cX11_clearInput 1 = .ok (.iconst 0, 1) := by decide +kernel
theorem dX11_clearInput_2 : decode cX11_clearInput 2 = .ok (.putfield 78, 3) := by decide +kernel
theorem dX11_clearInput_5 : decode cX11_clearInput 5 = .ok (.aload_n 0, 1) := by decide +kernel
theorem dX11_clearInput_6 : decode cX11_clearInput 6 = .ok (.getfield 168, 3) := by decide +kernel
theorem dX11_clearInput_9 : decode cX11_clearInput 9 = .ok (.istore_n 1, 1) := by decide +kernel
theorem dX11_clearInput_10 : decode cX11_clearInput 10 = .ok (.aload_n 0, 1) := by decide +kernel
theorem dX11_clearInput_11 : decode cX11_clearInput 11 = .ok (.iconst 0, 1) := by decide +kernel
theorem dX11_clearInput_12 : decode cX11_clearInput 12 = .ok (.putfield 168, 3) := by decide +kernel
theorem dX11_clearInput_15 : decode cX11_clearInput 15 = .ok (.iload_n 1, 1) := by decide +kernel
theorem dX11_clearInput_16 : decode cX11_clearInput 16 = .ok (.ireturn, 1) := by decide +kernel
theorem dX11_rightLine_0 : decode cX11_rightLine 0 = .ok (.aload_n 0, 1) := by decide +kernel
theorem dX11_rightLine_1 : decode cX11_rightLine 1 = .ok (.iconst 0, 1) := by decide +kernel
theorem dX11_rightLine_2 : decode cX11_rightLine 2 = .ok (.putfield 171, 3) := by decide +kernel
theorem dX11_rightLine_5 : decode cX11_rightLine 5 = .ok (.iconst 0, 1) := by decide +kernel
theorem dX11_rightLine_6 : decode cX11_rightLine 6 = .ok (.istore_n 1, 1) := by decide +kernel
theorem dX11_rightLine_7 : decode cX11_rightLine 7 = .ok (.iconst 1, 1) := by decide +kernel
theorem dX11_rightLine_8 : decode cX11_rightLine 8 = .ok (.istore_n 2, 1) := by decide +kernel
theorem dX11_rightLine_9 : decode cX11_rightLine 9 = .ok (.iload_n 1, 1) := by decide +kernel
theorem dX11_rightLine_10 : decode cX11_rightLine 10 = .ok (.aload_n 0, 1) := by decide +kernel
theorem dX11_rightLine_11 : decode cX11_rightLine 11 = .ok (.getfield 168, 3) := by decide +kernel
theorem dX11_rightLine_14 : decode cX11_rightLine 14 = .ok (.if_icmp .ge 117, 3) := by decide +kernel
theorem dX11_rightLine_17 : decode cX11_rightLine 17 = .ok (.iload_n 2, 1) := by decide +kernel
theorem dX11_rightLine_18 : decode cX11_rightLine 18 = .ok (.ifCond .eq 113, 3) := by decide +kernel
theorem dX11_rightLine_21 : decode cX11_rightLine 21 = .ok (.aload_n 0, 1) := by decide +kernel
theorem dX11_rightLine_22 : decode cX11_rightLine 22 = .ok (.getfield 51, 3) := by decide +kernel
theorem dX11_rightLine_25 : decode cX11_rightLine 25 = .ok (.iload_n 1, 1) := by decide +kernel
theorem dX11_rightLine_26 : decode cX11_rightLine 26 = .ok (.iaload, 1) := by decide +kernel
theorem dX11_rightLine_27 : decode cX11_rightLine 27 = .ok (.invokestatic 112, 3) := by decide +kernel
theorem dX11_rightLine_30 : decode cX11_rightLine 30 = .ok (.istore_n 3, 1) := by decide +kernel
theorem dX11_rightLine_31 : decode cX11_rightLine 31 = .ok (.iload_n 3, 1) := by decide +kernel
theorem dX11_rightLine_32 : decode cX11_rightLine 32 = .ok (.ifCond .eq 20, 3) := by decide +kernel
theorem dX11_rightLine_35 : decode cX11_rightLine 35 = .ok (.aload_n 0, 1) := by decide +kernel
theorem dX11_rightLine_36 : decode cX11_rightLine 36 = .ok (.getfield 171, 3) := by decide +kernel
theorem dX11_rightLine_39 : decode cX11_rightLine 39 = .ok (.bipush 12, 2) := by decide +kernel
theorem dX11_rightLine_41 : decode cX11_rightLine 41 = .ok (.if_icmp .ge 7, 3) := by decide +kernel
theorem dX11_rightLine_44 : decode cX11_rightLine 44 = .ok (.iconst 1, 1) := by decide +kernel
theorem dX11_rightLine_45 : decode cX11_rightLine 45 = .ok (.goto 41, 3) := by decide +kernel
theorem dX11_rightLine_48 : decode cX11_rightLine 48 = .ok (.iconst 0, 1) := by decide +kernel
theorem dX11_rightLine_49 : decode cX11_rightLine 49 = .ok (.goto 37, 3) := by decide +kernel
theorem dX11_rightLine_52 : decode cX11_rightLine 52 = .ok (.aload_n 0, 1) := by decide +kernel
theorem dX11_rightLine_53 : decode cX11_rightLine 53 = .ok (.getfield 171, 3) := by decide +kernel
theorem dX11_rightLine_56 : decode cX11_rightLine 56 = .ok (.ifCond .le 29, 3) := by decide +kernel
theorem dX11_rightLine_59 : decode cX11_rightLine 59 = .ok (.aload_n 0, 1) := by decide +kernel
theorem dX11_rightLine_60 : decode cX11_rightLine 60 = .ok (.getfield 51, 3) := by decide +kernel
theorem dX11_rightLine_63 : decode cX11_rightLine 63 = .ok (.iload_n 1, 1) := by decide +kernel
theorem dX11_rightLine_64 : decode cX11_rightLine 64 = .ok (.iaload, 1) := by decide +kernel
theorem dX11_rightLine_65 : decode cX11_rightLine 65 = .ok (.bipush 32, 2) := by decide +kernel
theorem dX11_rightLine_67 : decode cX11_rightLine 67 = .ok (.if_icmp .eq 14, 3) := by decide +kernel
theorem dX11_rightLine_70 : decode cX11_rightLine 70 = .ok (.aload_n 0, 1) := by decide +kernel
theorem dX11_rightLine_71 : decode cX11_rightLine 71 = .ok (.getfield 51, 3) := by decide +kernel
theorem dX11_rightLine_74 : decode cX11_rightLine 74 = .ok (.iload_n 1, 1) := by decide +kernel
theorem dX11_rightLine_75 : decode cX11_rightLine 75 = .ok (.iaload, 1) := by decide +kernel
theorem dX11_rightLine_76 : decode cX11_rightLine 76 = .ok (.bipush 45, 2) := by decide +kernel
theorem dX11_rightLine_78 : decode cX11_rightLine 78 = .ok (.if_icmp .ne 7, 3) := by decide +kernel
theorem dX11_rightLine_81 : decode cX11_rightLine 81 = .ok (.iconst 1, 1) := by decide +kernel
theorem dX11_rightLine_82 : decode cX11_rightLine 82 = .ok (.goto 4, 3) := by decide +kernel
theorem dX11_rightLine_85 : decode cX11_rightLine 85 = .ok (.iconst 0, 1) := by decide +kernel
theorem dX11_rightLine_86 : decode cX11_rightLine 86 = .ok (.istore_n 2, 1) := by decide +kernel
theorem dX11_rightLine_87 : decode cX11_rightLine 87 = .ok (.aload_n 0, 1) := by decide +kernel
theorem dX11_rightLine_88 : decode cX11_rightLine 88 = .ok (.iload_n 2, 1) := by decide +kernel
theorem dX11_rightLine_89 : decode cX11_rightLine 89 = .ok (.ifCond .ne 10, 3) := by decide +kernel
theorem dX11_rightLine_92 : decode cX11_rightLine 92 = .ok (.aload_n 0, 1) := by decide +kernel
theorem dX11_rightLine_93 : decode cX11_rightLine 93 = .ok (.getfield 171, 3) := by decide +kernel
theorem dX11_rightLine_96 : decode cX11_rightLine 96 = .ok (.goto 17, 3) := by decide +kernel
theorem dX11_rightLine_99 : decode cX11_rightLine 99 = .ok (.iload_n 3, 1) := by decide +kernel
theorem dX11_rightLine_100 : decode cX11_rightLine 100 = .ok (.ifCond .eq 12, 3) := by decide +kernel
theorem dX11_rightLine_103 : decode cX11_rightLine 103 = .ok (.aload_n 0, 1) := by decide +kernel
theorem dX11_rightLine_104 : decode cX11_rightLine 104 = .ok (.getfield 171, 3) := by decide +kernel
theorem dX11_rightLine_107 : decode cX11_rightLine 107 = .ok (.iconst 1, 1) := by decide +kernel
theorem dX11_rightLine_108 : decode cX11_rightLine 108 = .ok (.iadd, 1) := by decide +kernel
theorem dX11_rightLine_109 : decode cX11_rightLine 109 = .ok (.goto 4, 3) := by decide +kernel
theorem dX11_rightLine_112 : decode cX11_rightLine 112 = .ok (.iconst 0, 1) := by decide +kernel
theorem dX11_rightLine_113 : decode cX11_rightLine 113 = .ok (.putfield 171, 3) := by decide +kernel
theorem dX11_rightLine_116 : decode cX11_rightLine 116 = .ok (.iload_n 1, 1) := by decide +kernel
theorem dX11_rightLine_117 : decode cX11_rightLine 117 = .ok (.iload_n 2, 1) := by decide +kernel
theorem dX11_rightLine_118 : decode cX11_rightLine 118 = .ok (.ifCond .eq 7, 3) := by decide +kernel
theorem dX11_rightLine_121 : decode cX11_rightLine 121 = .ok (.iconst 1, 1) := by decide +kernel
theorem dX11_rightLine_122 : decode cX11_rightLine 122 = .ok (.goto 4, 3) := by decide +kernel
theorem dX11_rightLine_125 : decode cX11_rightLine 125 = .ok (.iconst 0, 1) := by decide +kernel
theorem dX11_rightLine_126 : decode cX11_rightLine 126 = .ok (.iadd, 1) := by decide +kernel
theorem dX11_rightLine_127 : decode cX11_rightLine 127 = .ok (.istore_n 1, 1) := by decide +kernel
theorem dX11_rightLine_128 : decode cX11_rightLine 128 = .ok (.goto (-119), 3) := by decide +kernel
theorem dX11_rightLine_131 : decode cX11_rightLine 131 = .ok (.iload_n 1, 1) := by decide +kernel
theorem dX11_rightLine_132 : decode cX11_rightLine 132 = .ok (.ireturn, 1) := by decide +kernel
theorem dX11_takesDigit_0 : decode cX11_takesDigit 0 = .ok (.iload_n 1, 1) := by decide +kernel
theorem dX11_takesDigit_1 : decode cX11_takesDigit 1 = .ok (.bipush 48, 2) := by decide +kernel
theorem dX11_takesDigit_3 : decode cX11_takesDigit 3 = .ok (.isub, 1) := by decide +kernel
theorem dX11_takesDigit_4 : decode cX11_takesDigit 4 = .ok (.istore_n 2, 1) := by decide +kernel
theorem dX11_takesDigit_5 : decode cX11_takesDigit 5 = .ok (.iload_n 2, 1) := by decide +kernel
theorem dX11_takesDigit_6 : decode cX11_takesDigit 6 = .ok (.iconst 0, 1) := by decide +kernel
theorem dX11_takesDigit_7 : decode cX11_takesDigit 7 = .ok (.bipush 9, 2) := by decide +kernel
theorem dX11_takesDigit_9 : decode cX11_takesDigit 9 = .ok (.invokestatic 84, 3) := by decide +kernel
theorem dX11_takesDigit_12 : decode cX11_takesDigit 12 = .ok (.ifCond .eq 14, 3) := by decide +kernel
theorem dX11_takesDigit_15 : decode cX11_takesDigit 15 = .ok (.aload_n 0, 1) := by decide +kernel
theorem dX11_takesDigit_16 : decode cX11_takesDigit 16 = .ok (.getfield 174, 3) := by decide +kernel
theorem dX11_takesDigit_19 : decode cX11_takesDigit 19 = .ok (.ifCond .ne 7, 3) := by decide +kernel
theorem dX11_takesDigit_22 : decode cX11_takesDigit 22 = .ok (.iconst 1, 1) := by decide +kernel
theorem dX11_takesDigit_23 : decode cX11_takesDigit 23 = .ok (.goto 4, 3) := by decide +kernel
theorem dX11_takesDigit_26 : decode cX11_takesDigit 26 = .ok (.iconst 0, 1) := by decide +kernel
theorem dX11_takesDigit_27 : decode cX11_takesDigit 27 = .ok (.istore_n 3, 1) := by decide +kernel
theorem dX11_takesDigit_28 : decode cX11_takesDigit 28 = .ok (.iload_n 3, 1) := by decide +kernel
theorem dX11_takesDigit_29 : decode cX11_takesDigit 29 = .ok (.ifCond .eq 70, 3) := by decide +kernel
theorem dX11_takesDigit_32 : decode cX11_takesDigit 32 = .ok (.aload_n 0, 1) := by decide +kernel
theorem dX11_takesDigit_33 : decode cX11_takesDigit 33 = .ok (.getfield 171, 3) := by decide +kernel
theorem dX11_takesDigit_36 : decode cX11_takesDigit 36 = .ok (.ifCond .ne 63, 3) := by decide +kernel
theorem dX11_takesDigit_39 : decode cX11_takesDigit 39 = .ok (.iload_n 2, 1) := by decide +kernel
theorem dX11_takesDigit_40 : decode cX11_takesDigit 40 = .ok (.ifCond .le 16, 3) := by decide +kernel
theorem dX11_takesDigit_43 : decode cX11_takesDigit 43 = .ok (.aload_n 0, 1) := by decide +kernel
theorem dX11_takesDigit_44 : decode cX11_takesDigit 44 = .ok (.getfield 178, 3) := by decide +kernel
theorem dX11_takesDigit_47 : decode cX11_takesDigit 47 = .ok (.bipush 24, 2) := by decide +kernel
theorem dX11_takesDigit_49 : decode cX11_takesDigit 49 = .ok (.if_icmp .ge 7, 3) := by decide +kernel
theorem dX11_takesDigit_52 : decode cX11_takesDigit 52 = .ok (.iconst 1, 1) := by decide +kernel
theorem dX11_takesDigit_53 : decode cX11_takesDigit 53 = .ok (.goto 4, 3) := by decide +kernel
theorem dX11_takesDigit_56 : decode cX11_takesDigit 56 = .ok (.iconst 0, 1) := by decide +kernel
theorem dX11_takesDigit_57 : decode cX11_takesDigit 57 = .ok (.istore_n 3, 1) := by decide +kernel
theorem dX11_takesDigit_58 : decode cX11_takesDigit 58 = .ok (.aload_n 0, 1) := by decide +kernel
theorem dX11_takesDigit_59 : decode cX11_takesDigit 59 = .ok (.dup, 1) := by decide +kernel
theorem dX11_takesDigit_60 : decode cX11_takesDigit 60 = .ok (.getfield 178, 3) := by decide +kernel
theorem dX11_takesDigit_63 : decode cX11_takesDigit 63 = .ok (.iload_n 3, 1) := by decide +kernel
theorem dX11_takesDigit_64 : decode cX11_takesDigit 64 = .ok (.ifCond .eq 7, 3) := by decide +kernel
theorem dX11_takesDigit_67 : decode cX11_takesDigit 67 = .ok (.iconst 1, 1) := by decide +kernel
theorem dX11_takesDigit_68 : decode cX11_takesDigit 68 = .ok (.goto 4, 3) := by decide +kernel
theorem dX11_takesDigit_71 : decode cX11_takesDigit 71 = .ok (.iconst 0, 1) := by decide +kernel
theorem dX11_takesDigit_72 : decode cX11_takesDigit 72 = .ok (.iadd, 1) := by decide +kernel
theorem dX11_takesDigit_73 : decode cX11_takesDigit 73 = .ok (.putfield 178, 3) := by decide +kernel
theorem dX11_takesDigit_76 : decode cX11_takesDigit 76 = .ok (.aload_n 0, 1) := by decide +kernel
theorem dX11_takesDigit_77 : decode cX11_takesDigit 77 = .ok (.getfield 75, 3) := by decide +kernel
theorem dX11_takesDigit_80 : decode cX11_takesDigit 80 = .ok (.aload_n 0, 1) := by decide +kernel
theorem dX11_takesDigit_81 : decode cX11_takesDigit 81 = .ok (.getfield 178, 3) := by decide +kernel
theorem dX11_takesDigit_84 : decode cX11_takesDigit 84 = .ok (.iload_n 3, 1) := by decide +kernel
theorem dX11_takesDigit_85 : decode cX11_takesDigit 85 = .ok (.ifCond .eq 7, 3) := by decide +kernel
theorem dX11_takesDigit_88 : decode cX11_takesDigit 88 = .ok (.iconst 1, 1) := by decide +kernel
theorem dX11_takesDigit_89 : decode cX11_takesDigit 89 = .ok (.goto 4, 3) := by decide +kernel
theorem dX11_takesDigit_92 : decode cX11_takesDigit 92 = .ok (.iconst 0, 1) := by decide +kernel
theorem dX11_takesDigit_93 : decode cX11_takesDigit 93 = .ok (.isub, 1) := by decide +kernel
theorem dX11_takesDigit_94 : decode cX11_takesDigit 94 = .ok (.iload_n 2, 1) := by decide +kernel
theorem dX11_takesDigit_95 : decode cX11_takesDigit 95 = .ok (.iastore, 1) := by decide +kernel
theorem dX11_takesDigit_96 : decode cX11_takesDigit 96 = .ok (.goto 69, 3) := by decide +kernel
theorem dX11_takesDigit_99 : decode cX11_takesDigit 99 = .ok (.iload_n 3, 1) := by decide +kernel
theorem dX11_takesDigit_100 : decode cX11_takesDigit 100 = .ok (.ifCond .eq 65, 3) := by decide +kernel
theorem dX11_takesDigit_103 : decode cX11_takesDigit 103 = .ok (.bipush 10, 2) := by decide +kernel
theorem dX11_takesDigit_105 : decode cX11_takesDigit 105 = .ok (.aload_n 0, 1) := by decide +kernel
theorem dX11_takesDigit_106 : decode cX11_takesDigit 106 = .ok (.getfield 75, 3) := by decide +kernel
theorem dX11_takesDigit_109 : decode cX11_takesDigit 109 = .ok (.aload_n 0, 1) := by decide +kernel
theorem dX11_takesDigit_110 : decode cX11_takesDigit 110 = .ok (.getfield 178, 3) := by decide +kernel
theorem dX11_takesDigit_113 : decode cX11_takesDigit 113 = .ok (.iconst 1, 1) := by decide +kernel
theorem dX11_takesDigit_114 : decode cX11_takesDigit 114 = .ok (.isub, 1) := by decide +kernel
theorem dX11_takesDigit_115 : decode cX11_takesDigit 115 = .ok (.iaload, 1) := by decide +kernel
theorem dX11_takesDigit_116 : decode cX11_takesDigit 116 = .ok (.imul, 1) := by decide +kernel
theorem dX11_takesDigit_117 : decode cX11_takesDigit 117 = .ok (.iload_n 2, 1) := by decide +kernel
theorem dX11_takesDigit_118 : decode cX11_takesDigit 118 = .ok (.iadd, 1) := by decide +kernel
theorem dX11_takesDigit_119 : decode cX11_takesDigit 119 = .ok (.istore 4, 2) := by decide +kernel
theorem dX11_takesDigit_121 : decode cX11_takesDigit 121 = .ok (.iload 4, 2) := by decide +kernel
theorem dX11_takesDigit_123 : decode cX11_takesDigit 123 = .ok (.bipush 20, 2) := by decide +kernel
theorem dX11_takesDigit_125 : decode cX11_takesDigit 125 = .ok (.if_icmp .gt 7, 3) := by decide +kernel
theorem dX11_takesDigit_128 : decode cX11_takesDigit 128 = .ok (.iconst 1, 1) := by decide +kernel
theorem dX11_takesDigit_129 : decode cX11_takesDigit 129 = .ok (.goto 4, 3) := by decide +kernel
theorem dX11_takesDigit_132 : decode cX11_takesDigit 132 = .ok (.iconst 0, 1) := by decide +kernel
theorem dX11_takesDigit_133 : decode cX11_takesDigit 133 = .ok (.istore_n 3, 1) := by decide +kernel
theorem dX11_takesDigit_134 : decode cX11_takesDigit 134 = .ok (.aload_n 0, 1) := by decide +kernel
theorem dX11_takesDigit_135 : decode cX11_takesDigit 135 = .ok (.getfield 75, 3) := by decide +kernel
theorem dX11_takesDigit_138 : decode cX11_takesDigit 138 = .ok (.aload_n 0, 1) := by decide +kernel
theorem dX11_takesDigit_139 : decode cX11_takesDigit 139 = .ok (.getfield 178, 3) := by decide +kernel
theorem dX11_takesDigit_142 : decode cX11_takesDigit 142 = .ok (.iconst 1, 1) := by decide +kernel
theorem dX11_takesDigit_143 : decode cX11_takesDigit 143 = .ok (.isub, 1) := by decide +kernel
theorem dX11_takesDigit_144 : decode cX11_takesDigit 144 = .ok (.iload_n 3, 1) := by decide +kernel
theorem dX11_takesDigit_145 : decode cX11_takesDigit 145 = .ok (.ifCond .eq 8, 3) := by decide +kernel
theorem dX11_takesDigit_148 : decode cX11_takesDigit 148 = .ok (.iload 4, 2) := by decide +kernel
theorem dX11_takesDigit_150 : decode cX11_takesDigit 150 = .ok (.goto 14, 3) := by decide +kernel
theorem dX11_takesDigit_153 : decode cX11_takesDigit 153 = .ok (.aload_n 0, 1) := by decide +kernel
theorem dX11_takesDigit_154 : decode cX11_takesDigit 154 = .ok (.getfield 75, 3) := by decide +kernel
theorem dX11_takesDigit_157 : decode cX11_takesDigit 157 = .ok (.aload_n 0, 1) := by decide +kernel
theorem dX11_takesDigit_158 : decode cX11_takesDigit 158 = .ok (.getfield 178, 3) := by decide +kernel
theorem dX11_takesDigit_161 : decode cX11_takesDigit 161 = .ok (.iconst 1, 1) := by decide +kernel
theorem dX11_takesDigit_162 : decode cX11_takesDigit 162 = .ok (.isub, 1) := by decide +kernel
theorem dX11_takesDigit_163 : decode cX11_takesDigit 163 = .ok (.iaload, 1) := by decide +kernel
theorem dX11_takesDigit_164 : decode cX11_takesDigit 164 = .ok (.iastore, 1) := by decide +kernel
theorem dX11_takesDigit_165 : decode cX11_takesDigit 165 = .ok (.aload_n 0, 1) := by decide +kernel
theorem dX11_takesDigit_166 : decode cX11_takesDigit 166 = .ok (.dup, 1) := by decide +kernel
theorem dX11_takesDigit_167 : decode cX11_takesDigit 167 = .ok (.getfield 171, 3) := by decide +kernel
theorem dX11_takesDigit_170 : decode cX11_takesDigit 170 = .ok (.iload_n 3, 1) := by decide +kernel
theorem dX11_takesDigit_171 : decode cX11_takesDigit 171 = .ok (.ifCond .eq 7, 3) := by decide +kernel
theorem dX11_takesDigit_174 : decode cX11_takesDigit 174 = .ok (.iconst 1, 1) := by decide +kernel
theorem dX11_takesDigit_175 : decode cX11_takesDigit 175 = .ok (.goto 4, 3) := by decide +kernel
theorem dX11_takesDigit_178 : decode cX11_takesDigit 178 = .ok (.iconst 0, 1) := by decide +kernel
theorem dX11_takesDigit_179 : decode cX11_takesDigit 179 = .ok (.iadd, 1) := by decide +kernel
theorem dX11_takesDigit_180 : decode cX11_takesDigit 180 = .ok (.putfield 171, 3) := by decide +kernel
theorem dX11_takesDigit_183 : decode cX11_takesDigit 183 = .ok (.iload_n 3, 1) := by decide +kernel
theorem dX11_takesDigit_184 : decode cX11_takesDigit 184 = .ok (.ireturn, 1) := by decide +kernel
theorem dX11_takesMetre_0 : decode cX11_takesMetre 0 = .ok (.iload_n 1, 1) := by decide +kernel
theorem dX11_takesMetre_1 : decode cX11_takesMetre 1 = .ok (.bipush 46, 2) := by decide +kernel
theorem dX11_takesMetre_3 : decode cX11_takesMetre 3 = .ok (.if_icmp .ne 26, 3) := by decide +kernel
theorem dX11_takesMetre_6 : decode cX11_takesMetre 6 = .ok (.aload_n 0, 1) := by decide +kernel
theorem dX11_takesMetre_7 : decode cX11_takesMetre 7 = .ok (.getfield 171, 3) := by decide +kernel
theorem dX11_takesMetre_10 : decode cX11_takesMetre 10 = .ok (.ifCond .le 19, 3) := by decide +kernel
theorem dX11_takesMetre_13 : decode cX11_takesMetre 13 = .ok (.aload_n 0, 1) := by decide +kernel
theorem dX11_takesMetre_14 : decode cX11_takesMetre 14 = .ok (.getfield 178, 3) := by decide +kernel
theorem dX11_takesMetre_17 : decode cX11_takesMetre 17 = .ok (.bipush 24, 2) := by decide +kernel
theorem dX11_takesMetre_19 : decode cX11_takesMetre 19 = .ok (.if_icmp .ge 10, 3) := by decide +kernel
theorem dX11_takesMetre_22 : decode cX11_takesMetre 22 = .ok (.aload_n 0, 1) := by decide +kernel
theorem dX11_takesMetre_23 : decode cX11_takesMetre 23 = .ok (.iconst 0, 1) := by decide +kernel
theorem dX11_takesMetre_24 : decode cX11_takesMetre 24 = .ok (.putfield 171, 3) := by decide +kernel
theorem dX11_takesMetre_27 : decode cX11_takesMetre 27 = .ok (.iconst 1, 1) := by decide +kernel
theorem dX11_takesMetre_28 : decode cX11_takesMetre 28 = .ok (.ireturn, 1) := by decide +kernel
theorem dX11_takesMetre_29 : decode cX11_takesMetre 29 = .ok (.iload_n 1, 1) := by decide +kernel
theorem dX11_takesMetre_30 : decode cX11_takesMetre 30 = .ok (.bipush 68, 2) := by decide +kernel
theorem dX11_takesMetre_32 : decode cX11_takesMetre 32 = .ok (.if_icmp .ne 42, 3) := by decide +kernel
theorem dX11_takesMetre_35 : decode cX11_takesMetre 35 = .ok (.aload_n 0, 1) := by decide +kernel
theorem dX11_takesMetre_36 : decode cX11_takesMetre 36 = .ok (.getfield 171, 3) := by decide +kernel
theorem dX11_takesMetre_39 : decode cX11_takesMetre 39 = .ok (.ifCond .ne 35, 3) := by decide +kernel
theorem dX11_takesMetre_42 : decode cX11_takesMetre 42 = .ok (.aload_n 0, 1) := by decide +kernel
theorem dX11_takesMetre_43 : decode cX11_takesMetre 43 = .ok (.getfield 178, 3) := by decide +kernel
theorem dX11_takesMetre_46 : decode cX11_takesMetre 46 = .ok (.ifCond .le 28, 3) := by decide +kernel
theorem dX11_takesMetre_49 : decode cX11_takesMetre 49 = .ok (.aload_n 0, 1) := by decide +kernel
theorem dX11_takesMetre_50 : decode cX11_takesMetre 50 = .ok (.getfield 174, 3) := by decide +kernel
theorem dX11_takesMetre_53 : decode cX11_takesMetre 53 = .ok (.ifCond .ne 21, 3) := by decide +kernel
theorem dX11_takesMetre_56 : decode cX11_takesMetre 56 = .ok (.iconst 2, 1) := by decide +kernel
theorem dX11_takesMetre_57 : decode cX11_takesMetre 57 = .ok (.aload_n 0, 1) := by decide +kernel
theorem dX11_takesMetre_58 : decode cX11_takesMetre 58 = .ok (.getfield 178, 3) := by decide +kernel
theorem dX11_takesMetre_61 : decode cX11_takesMetre 61 = .ok (.imul, 1) := by decide +kernel
theorem dX11_takesMetre_62 : decode cX11_takesMetre 62 = .ok (.bipush 24, 2) := by decide +kernel
theorem dX11_takesMetre_64 : decode cX11_takesMetre 64 = .ok (.if_icmp .gt 10, 3) := by decide +kernel
theorem dX11_takesMetre_67 : decode cX11_takesMetre 67 = .ok (.aload_n 0, 1) := by decide +kernel
theorem dX11_takesMetre_68 : decode cX11_takesMetre 68 = .ok (.iconst 1, 1) := by decide +kernel
theorem dX11_takesMetre_69 : decode cX11_takesMetre 69 = .ok (.putfield 174, 3) := by decide +kernel
theorem dX11_takesMetre_72 : decode cX11_takesMetre 72 = .ok (.iconst 1, 1) := by decide +kernel
theorem dX11_takesMetre_73 : decode cX11_takesMetre 73 = .ok (.ireturn, 1) := by decide +kernel
theorem dX11_takesMetre_74 : decode cX11_takesMetre 74 = .ok (.aload_n 0, 1) := by decide +kernel
theorem dX11_takesMetre_75 : decode cX11_takesMetre 75 = .ok (.iload_n 1, 1) := by decide +kernel
theorem dX11_takesMetre_76 : decode cX11_takesMetre 76 = .ok (.invokevirtual 181, 3) := by decide +kernel
theorem dX11_takesMetre_79 : decode cX11_takesMetre 79 = .ok (.ireturn, 1) := by decide +kernel
theorem dX11_rightMetre_0 : decode cX11_rightMetre 0 = .ok (.aload_n 0, 1) := by decide +kernel
theorem dX11_rightMetre_1 : decode cX11_rightMetre 1 = .ok (.iconst 0, 1) := by decide +kernel
theorem dX11_rightMetre_2 : decode cX11_rightMetre 2 = .ok (.putfield 171, 3) := by decide +kernel
theorem dX11_rightMetre_5 : decode cX11_rightMetre 5 = .ok (.aload_n 0, 1) := by decide +kernel
theorem dX11_rightMetre_6 : decode cX11_rightMetre 6 = .ok (.iconst 0, 1) := by decide +kernel
theorem dX11_rightMetre_7 : decode cX11_rightMetre 7 = .ok (.putfield 178, 3) := by decide +kernel
theorem dX11_rightMetre_10 : decode cX11_rightMetre 10 = .ok (.aload_n 0, 1) := by decide +kernel
theorem dX11_rightMetre_11 : decode cX11_rightMetre 11 = .ok (.iconst 0, 1) := by decide +kernel
theorem dX11_rightMetre_12 : decode cX11_rightMetre 12 = .ok (.putfield 174, 3) := by decide +kernel
theorem dX11_rightMetre_15 : decode cX11_rightMetre 15 = .ok (.iconst 0, 1) := by decide +kernel
theorem dX11_rightMetre_16 : decode cX11_rightMetre 16 = .ok (.istore_n 1, 1) := by decide +kernel
theorem dX11_rightMetre_17 : decode cX11_rightMetre 17 = .ok (.iload_n 1, 1) := by decide +kernel
theorem dX11_rightMetre_18 : decode cX11_rightMetre 18 = .ok (.aload_n 0, 1) := by decide +kernel
theorem dX11_rightMetre_19 : decode cX11_rightMetre 19 = .ok (.getfield 168, 3) := by decide +kernel
theorem dX11_rightMetre_22 : decode cX11_rightMetre 22 = .ok (.if_icmp .ge 22, 3) := by decide +kernel
theorem dX11_rightMetre_25 : decode cX11_rightMetre 25 = .ok (.aload_n 0, 1) := by decide +kernel
theorem dX11_rightMetre_26 : decode cX11_rightMetre 26 = .ok (.aload_n 0, 1) := by decide +kernel
theorem dX11_rightMetre_27 : decode cX11_rightMetre 27 = .ok (.getfield 51, 3) := by decide +kernel
theorem dX11_rightMetre_30 : decode cX11_rightMetre 30 = .ok (.iload_n 1, 1) := by decide +kernel
theorem dX11_rightMetre_31 : decode cX11_rightMetre 31 = .ok (.iaload, 1) := by decide +kernel
theorem dX11_rightMetre_32 : decode cX11_rightMetre 32 = .ok (.invokevirtual 184, 3) := by decide +kernel
theorem dX11_rightMetre_35 : decode cX11_rightMetre 35 = .ok (.ifCond .eq 9, 3) := by decide +kernel
theorem dX11_rightMetre_38 : decode cX11_rightMetre 38 = .ok (.iinc 1 1, 3) := by decide +kernel
theorem dX11_rightMetre_41 : decode cX11_rightMetre 41 = .ok (.goto (-24), 3) := by decide +kernel
theorem dX11_rightMetre_44 : decode cX11_rightMetre 44 = .ok (.iload_n 1, 1) := by decide +kernel
theorem dX11_rightMetre_45 : decode cX11_rightMetre 45 = .ok (.ireturn, 1) := by decide +kernel
theorem dX11_firstError_0 : decode cX11_firstError 0 = .ok (.aload_n 0, 1) := by decide +kernel
theorem dX11_firstError_1 : decode cX11_firstError 1 = .ok (.iconst 0, 1) := by decide +kernel
theorem dX11_firstError_2 : decode cX11_firstError 2 = .ok (.putfield 78, 3) := by decide +kernel
theorem dX11_firstError_5 : decode cX11_firstError 5 = .ok (.iload_n 1, 1) := by decide +kernel
theorem dX11_firstError_6 : decode cX11_firstError 6 = .ok (.ifCond .eq 10, 3) := by decide +kernel
theorem dX11_firstError_9 : decode cX11_firstError 9 = .ok (.aload_n 0, 1) := by decide +kernel
theorem dX11_firstError_10 : decode cX11_firstError 10 = .ok (.invokevirtual 187, 3) := by decide +kernel
theorem dX11_firstError_13 : decode cX11_firstError 13 = .ok (.goto 7, 3) := by decide +kernel
theorem dX11_firstError_16 : decode cX11_firstError 16 = .ok (.aload_n 0, 1) := by decide +kernel
theorem dX11_firstError_17 : decode cX11_firstError 17 = .ok (.invokevirtual 191, 3) := by decide +kernel
theorem dX11_firstError_20 : decode cX11_firstError 20 = .ok (.ireturn, 1) := by decide +kernel
theorem dX11_isLine_0 : decode cX11_isLine 0 = .ok (.iload_n 0, 1) := by decide +kernel
theorem dX11_isLine_1 : decode cX11_isLine 1 = .ok (.iconst 0, 1) := by decide +kernel
theorem dX11_isLine_2 : decode cX11_isLine 2 = .ok (.iconst 3, 1) := by decide +kernel
theorem dX11_isLine_3 : decode cX11_isLine 3 = .ok (.invokestatic 84, 3) := by decide +kernel
theorem dX11_isLine_6 : decode cX11_isLine 6 = .ok (.ifCond .eq 17, 3) := by decide +kernel
theorem dX11_isLine_9 : decode cX11_isLine 9 = .ok (.iload_n 1, 1) := by decide +kernel
theorem dX11_isLine_10 : decode cX11_isLine 10 = .ok (.iconst 0, 1) := by decide +kernel
theorem dX11_isLine_11 : decode cX11_isLine 11 = .ok (.bipush 23, 2) := by decide +kernel
theorem dX11_isLine_13 : decode cX11_isLine 13 = .ok (.invokestatic 84, 3) := by decide +kernel
theorem dX11_isLine_16 : decode cX11_isLine 16 = .ok (.ifCond .eq 7, 3) := by decide +kernel
theorem dX11_isLine_19 : decode cX11_isLine 19 = .ok (.iconst 1, 1) := by decide +kernel
theorem dX11_isLine_20 : decode cX11_isLine 20 = .ok (.goto 4, 3) := by decide +kernel
theorem dX11_isLine_23 : decode cX11_isLine 23 = .ok (.iconst 0, 1) := by decide +kernel
theorem dX11_isLine_24 : decode cX11_isLine 24 = .ok (.ireturn, 1) := by decide +kernel
theorem dX11_setLine_0 : decode cX11_setLine 0 = .ok (.aload_n 0, 1) := by decide +kernel
theorem dX11_setLine_1 : decode cX11_setLine 1 = .ok (.invokevirtual 191, 3) := by decide +kernel
theorem dX11_setLine_4 : decode cX11_setLine 4 = .ok (.aload_n 0, 1) := by decide +kernel
theorem dX11_setLine_5 : decode cX11_setLine 5 = .ok (.getfield 168, 3) := by decide +kernel
theorem dX11_setLine_8 : decode cX11_setLine 8 = .ok (.if_icmp .ne 14, 3) := by decide +kernel
theorem dX11_setLine_11 : decode cX11_setLine 11 = .ok (.aload_n 0, 1) := by decide +kernel
theorem dX11_setLine_12 : decode cX11_setLine 12 = .ok (.getfield 171, 3) := by decide +kernel
theorem dX11_setLine_15 : decode cX11_setLine 15 = .ok (.ifCond .le 7, 3) := by decide +kernel
theorem dX11_setLine_18 : decode cX11_setLine 18 = .ok (.iconst 1, 1) := by decide +kernel
theorem dX11_setLine_19 : decode cX11_setLine 19 = .ok (.goto 4, 3) := by decide +kernel
theorem dX11_setLine_22 : decode cX11_setLine 22 = .ok (.iconst 0, 1) := by decide +kernel
theorem dX11_setLine_23 : decode cX11_setLine 23 = .ok (.istore_n 3, 1) := by decide +kernel
theorem dX11_setLine_24 : decode cX11_setLine 24 = .ok (.aload_n 0, 1) := by decide +kernel
theorem dX11_setLine_25 : decode cX11_setLine 25 = .ok (.iload_n 1, 1) := by decide +kernel
theorem dX11_setLine_26 : decode cX11_setLine 26 = .ok (.iload_n 2, 1) := by decide +kernel
theorem dX11_setLine_27 : decode cX11_setLine 27 = .ok (.invokestatic 194, 3) := by decide +kernel
theorem dX11_setLine_30 : decode cX11_setLine 30 = .ok (.ifCond .ne 7, 3) := by decide +kernel
theorem dX11_setLine_33 : decode cX11_setLine 33 = .ok (.iconst 1, 1) := by decide +kernel
theorem dX11_setLine_34 : decode cX11_setLine 34 = .ok (.goto 12, 3) := by decide +kernel
theorem dX11_setLine_37 : decode cX11_setLine 37 = .ok (.iload_n 3, 1) := by decide +kernel
theorem dX11_setLine_38 : decode cX11_setLine 38 = .ok (.ifCond .eq 7, 3) := by decide +kernel
theorem dX11_setLine_41 : decode cX11_setLine 41 = .ok (.iconst 0, 1) := by decide +kernel
theorem dX11_setLine_42 : decode cX11_setLine 42 = .ok (.goto 4, 3) := by decide +kernel
theorem dX11_setLine_45 : decode cX11_setLine 45 = .ok (.iconst 2, 1) := by decide +kernel
theorem dX11_setLine_46 : decode cX11_setLine 46 = .ok (.putfield 78, 3) := by decide +kernel
theorem dX11_setLine_49 : decode cX11_setLine 49 = .ok (.aload_n 0, 1) := by decide +kernel
theorem dX11_setLine_50 : decode cX11_setLine 50 = .ok (.getfield 78, 3) := by decide +kernel
theorem dX11_setLine_53 : decode cX11_setLine 53 = .ok (.ifCond .le 5, 3) := by decide +kernel
theorem dX11_setLine_56 : decode cX11_setLine 56 = .ok (.iconst 0, 1) := by decide +kernel
theorem dX11_setLine_57 : decode cX11_setLine 57 = .ok (.ireturn, 1) := by decide +kernel
theorem dX11_setLine_58 : decode cX11_setLine 58 = .ok (.bipush 24, 2) := by decide +kernel
theorem dX11_setLine_60 : decode cX11_setLine 60 = .ok (.iload_n 1, 1) := by decide +kernel
theorem dX11_setLine_61 : decode cX11_setLine 61 = .ok (.imul, 1) := by decide +kernel
theorem dX11_setLine_62 : decode cX11_setLine 62 = .ok (.iload_n 2, 1) := by decide +kernel
theorem dX11_setLine_63 : decode cX11_setLine 63 = .ok (.iadd, 1) := by decide +kernel
theorem dX11_setLine_64 : decode cX11_setLine 64 = .ok (.istore 4, 2) := by decide +kernel
theorem dX11_setLine_66 : decode cX11_setLine 66 = .ok (.iconst 0, 1) := by decide +kernel
theorem dX11_setLine_67 : decode cX11_setLine 67 = .ok (.istore 5, 2) := by decide +kernel
theorem dX11_setLine_69 : decode cX11_setLine 69 = .ok (.iload 5, 2) := by decide +kernel
theorem dX11_setLine_71 : decode cX11_setLine 71 = .ok (.aload_n 0, 1) := by decide +kernel
theorem dX11_setLine_72 : decode cX11_setLine 72 = .ok (.getfield 168, 3) := by decide +kernel
theorem dX11_setLine_75 : decode cX11_setLine 75 = .ok (.if_icmp .ge 29, 3) := by decide +kernel
theorem dX11_setLine_78 : decode cX11_setLine 78 = .ok (.aload_n 0, 1) := by decide +kernel
theorem dX11_setLine_79 : decode cX11_setLine 79 = .ok (.getfield 42, 3) := by decide +kernel
theorem dX11_setLine_82 : decode cX11_setLine 82 = .ok (.bipush 60, 2) := by decide +kernel
theorem dX11_setLine_84 : decode cX11_setLine 84 = .ok (.iload 4, 2) := by decide +kernel
theorem dX11_setLine_86 : decode cX11_setLine 86 = .ok (.imul, 1) := by decide +kernel
theorem dX11_setLine_87 : decode cX11_setLine 87 = .ok (.iload 5, 2) := by decide +kernel
theorem dX11_setLine_89 : decode cX11_setLine 89 = .ok (.iadd, 1) := by decide +kernel
theorem dX11_setLine_90 : decode cX11_setLine 90 = .ok (.aload_n 0, 1) := by decide +kernel
theorem dX11_setLine_91 : decode cX11_setLine 91 = .ok (.getfield 51, 3) := by decide +kernel
theorem dX11_setLine_94 : decode cX11_setLine 94 = .ok (.iload 5, 2) := by decide +kernel
theorem dX11_setLine_96 : decode cX11_setLine 96 = .ok (.iaload, 1) := by decide +kernel
theorem dX11_setLine_97 : decode cX11_setLine 97 = .ok (.iastore, 1) := by decide +kernel
theorem dX11_setLine_98 : decode cX11_setLine 98 = .ok (.iinc 5 1, 3) := by decide +kernel
theorem dX11_setLine_101 : decode cX11_setLine 101 = .ok (.goto (-32), 3) := by decide +kernel
theorem dX11_setLine_104 : decode cX11_setLine 104 = .ok (.aload_n 0, 1) := by decide +kernel
theorem dX11_setLine_105 : decode cX11_setLine 105 = .ok (.getfield 39, 3) := by decide +kernel
theorem dX11_setLine_108 : decode cX11_setLine 108 = .ok (.iload 4, 2) := by decide +kernel
theorem dX11_setLine_110 : decode cX11_setLine 110 = .ok (.aload_n 0, 1) := by decide +kernel
theorem dX11_setLine_111 : decode cX11_setLine 111 = .ok (.getfield 168, 3) := by decide +kernel
theorem dX11_setLine_114 : decode cX11_setLine 114 = .ok (.iastore, 1) := by decide +kernel
theorem dX11_setLine_115 : decode cX11_setLine 115 = .ok (.aload_n 0, 1) := by decide +kernel
theorem dX11_setLine_116 : decode cX11_setLine 116 = .ok (.iconst 0, 1) := by decide +kernel
theorem dX11_setLine_117 : decode cX11_setLine 117 = .ok (.putfield 168, 3) := by decide +kernel
theorem dX11_setLine_120 : decode cX11_setLine 120 = .ok (.aload_n 0, 1) := by decide +kernel
theorem dX11_setLine_121 : decode cX11_setLine 121 = .ok (.iload 4, 2) := by decide +kernel
theorem dX11_setLine_123 : decode cX11_setLine 123 = .ok (.iconst 0, 1) := by decide +kernel
theorem dX11_setLine_124 : decode cX11_setLine 124 = .ok (.invokevirtual 118, 3) := by decide +kernel
theorem dX11_setLine_127 : decode cX11_setLine 127 = .ok (.ireturn, 1) := by decide +kernel
theorem dX11_clearVerse_0 : decode cX11_clearVerse 0 = .ok (.aload_n 0, 1) := by decide +kernel
theorem dX11_clearVerse_1 : decode cX11_clearVerse 1 = .ok (.iload_n 1, 1) := by decide +kernel
theorem dX11_clearVerse_2 : decode cX11_clearVerse 2 = .ok (.iconst 0, 1) := by decide +kernel
theorem dX11_clearVerse_3 : decode cX11_clearVerse 3 = .ok (.iconst 3, 1) := by decide +kernel
theorem dX11_clearVerse_4 : decode cX11_clearVerse 4 = .ok (.invokestatic 84, 3) := by decide +kernel
theorem dX11_clearVerse_7 : decode cX11_clearVerse 7 = .ok (.ifCond .eq 7, 3) := by decide +kernel
theorem dX11_clearVerse_10 : decode cX11_clearVerse 10 = .ok (.iconst 0, 1) := by decide +kernel
theorem dX11_clearVerse_11 : decode cX11_clearVerse 11 = .ok (.goto 4, 3) := by decide +kernel
theorem dX11_clearVerse_14 : decode cX11_clearVerse 14 = .ok (.iconst 1, 1) := by decide +kernel
theorem dX11_clearVerse_15 : decode cX11_clearVerse 15 = .ok (.putfield 78, 3) := by decide +kernel
theorem dX11_clearVerse_18 : decode cX11_clearVerse 18 = .ok (.aload_n 0, 1) := by decide +kernel
theorem dX11_clearVerse_19 : decode cX11_clearVerse 19 = .ok (.getfield 78, 3) := by decide +kernel
theorem dX11_clearVerse_22 : decode cX11_clearVerse 22 = .ok (.ifCond .le 5, 3) := by decide +kernel
theorem dX11_clearVerse_25 : decode cX11_clearVerse 25 = .ok (.iconst 0, 1) := by decide +kernel
theorem dX11_clearVerse_26 : decode cX11_clearVerse 26 = .ok (.ireturn, 1) := by decide +kernel
theorem dX11_clearVerse_27 : decode cX11_clearVerse 27 = .ok (.iconst 0, 1) := by decide +kernel
theorem dX11_clearVerse_28 : decode cX11_clearVerse 28 = .ok (.istore_n 2, 1) := by decide +kernel
theorem dX11_clearVerse_29 : decode cX11_clearVerse 29 = .ok (.bipush 24, 2) := by decide +kernel
theorem dX11_clearVerse_31 : decode cX11_clearVerse 31 = .ok (.iload_n 1, 1) := by decide +kernel
theorem dX11_clearVerse_32 : decode cX11_clearVerse 32 = .ok (.imul, 1) := by decide +kernel
theorem dX11_clearVerse_33 : decode cX11_clearVerse 33 = .ok (.istore_n 3, 1) := by decide +kernel
theorem dX11_clearVerse_34 : decode cX11_clearVerse 34 = .ok (.iload_n 3, 1) := by decide +kernel
theorem dX11_clearVerse_35 : decode cX11_clearVerse 35 = .ok (.bipush 24, 2) := by decide +kernel
theorem dX11_clearVerse_37 : decode cX11_clearVerse 37 = .ok (.iload_n 1, 1) := by decide +kernel
theorem dX11_clearVerse_38 : decode cX11_clearVerse 38 = .ok (.iconst 1, 1) := by decide +kernel
theorem dX11_clearVerse_39 : decode cX11_clearVerse 39 = .ok (.iadd, 1) := by decide +kernel
theorem dX11_clearVerse_40 : decode cX11_clearVerse 40 = .ok (.imul, 1) := by decide +kernel
theorem dX11_clearVerse_41 : decode cX11_clearVerse 41 = .ok (.if_icmp .ge 33, 3) := by decide +kernel
theorem dX11_clearVerse_44 : decode cX11_clearVerse 44 = .ok (.iload_n 2, 1) := by decide +kernel
theorem dX11_clearVerse_45 : decode cX11_clearVerse 45 = .ok (.aload_n 0, 1) := by decide +kernel
theorem dX11_clearVerse_46 : decode cX11_clearVerse 46 = .ok (.getfield 39, 3) := by decide +kernel
theorem dX11_clearVerse_49 : decode cX11_clearVerse 49 = .ok (.iload_n 3, 1) := by decide +kernel
theorem dX11_clearVerse_50 : decode cX11_clearVerse 50 = .ok (.iaload, 1) := by decide +kernel
theorem dX11_clearVerse_51 : decode cX11_clearVerse 51 = .ok (.ifCond .le 7, 3) := by decide +kernel
theorem dX11_clearVerse_54 : decode cX11_clearVerse 54 = .ok (.iconst 1, 1) := by decide +kernel
theorem dX11_clearVerse_55 : decode cX11_clearVerse 55 = .ok (.goto 4, 3) := by decide +kernel
theorem dX11_clearVerse_58 : decode cX11_clearVerse 58 = .ok (.iconst 0, 1) := by decide +kernel
theorem dX11_clearVerse_59 : decode cX11_clearVerse 59 = .ok (.iadd, 1) := by decide +kernel
theorem dX11_clearVerse_60 : decode cX11_clearVerse 60 = .ok (.istore_n 2, 1) := by decide +kernel
theorem dX11_clearVerse_61 : decode cX11_clearVerse 61 = .ok (.aload_n 0, 1) := by decide +kernel
theorem dX11_clearVerse_62 : decode cX11_clearVerse 62 = .ok (.getfield 39, 3) := by decide +kernel
theorem dX11_clearVerse_65 : decode cX11_clearVerse 65 = .ok (.iload_n 3, 1) := by decide +kernel
theorem dX11_clearVerse_66 : decode cX11_clearVerse 66 = .ok (.iconst 0, 1) := by decide +kernel
theorem dX11_clearVerse_67 : decode cX11_clearVerse 67 = .ok (.iastore, 1) := by decide +kernel
theorem dX11_clearVerse_68 : decode cX11_clearVerse 68 = .ok (.iinc 3 1, 3) := by decide +kernel
theorem dX11_clearVerse_71 : decode cX11_clearVerse 71 = .ok (.goto (-37), 3) := by decide +kernel
theorem dX11_clearVerse_74 : decode cX11_clearVerse 74 = .ok (.iload_n 2, 1) := by decide +kernel
theorem dX11_clearVerse_75 : decode cX11_clearVerse 75 = .ok (.ireturn, 1) := by decide +kernel
theorem dX11_addMetre_0 : decode cX11_addMetre 0 = .ok (.aload_n 0, 1) := by decide +kernel
theorem dX11_addMetre_1 : decode cX11_addMetre 1 = .ok (.invokevirtual 187, 3) := by decide +kernel
theorem dX11_addMetre_4 : decode cX11_addMetre 4 = .ok (.aload_n 0, 1) := by decide +kernel
theorem dX11_addMetre_5 : decode cX11_addMetre 5 = .ok (.getfield 168, 3) := by decide +kernel
theorem dX11_addMetre_8 : decode cX11_addMetre 8 = .ok (.if_icmp .ne 21, 3) := by decide +kernel
theorem dX11_addMetre_11 : decode cX11_addMetre 11 = .ok (.aload_n 0, 1) := by decide +kernel
theorem dX11_addMetre_12 : decode cX11_addMetre 12 = .ok (.getfield 171, 3) := by decide +kernel
theorem dX11_addMetre_15 : decode cX11_addMetre 15 = .ok (.ifCond .gt 10, 3) := by decide +kernel
theorem dX11_addMetre_18 : decode cX11_addMetre 18 = .ok (.aload_n 0, 1) := by decide +kernel
theorem dX11_addMetre_19 : decode cX11_addMetre 19 = .ok (.getfield 174, 3) := by decide +kernel
theorem dX11_addMetre_22 : decode cX11_addMetre 22 = .ok (.ifCond .eq 7, 3) := by decide +kernel
theorem dX11_addMetre_25 : decode cX11_addMetre 25 = .ok (.iconst 1, 1) := by decide +kernel
theorem dX11_addMetre_26 : decode cX11_addMetre 26 = .ok (.goto 4, 3) := by decide +kernel
theorem dX11_addMetre_29 : decode cX11_addMetre 29 = .ok (.iconst 0, 1) := by decide +kernel
theorem dX11_addMetre_30 : decode cX11_addMetre 30 = .ok (.istore_n 1, 1) := by decide +kernel
theorem dX11_addMetre_31 : decode cX11_addMetre 31 = .ok (.aload_n 0, 1) := by decide +kernel
theorem dX11_addMetre_32 : decode cX11_addMetre 32 = .ok (.iload_n 1, 1) := by decide +kernel
theorem dX11_addMetre_33 : decode cX11_addMetre 33 = .ok (.ifCond .ne 7, 3) := by decide +kernel
theorem dX11_addMetre_36 : decode cX11_addMetre 36 = .ok (.iconst 1, 1) := by decide +kernel
theorem dX11_addMetre_37 : decode cX11_addMetre 37 = .ok (.goto 17, 3) := by decide +kernel
theorem dX11_addMetre_40 : decode cX11_addMetre 40 = .ok (.aload_n 0, 1) := by decide +kernel
theorem dX11_addMetre_41 : decode cX11_addMetre 41 = .ok (.getfield 197, 3) := by decide +kernel
theorem dX11_addMetre_44 : decode cX11_addMetre 44 = .ok (.bipush 8, 2) := by decide +kernel
theorem dX11_addMetre_46 : decode cX11_addMetre 46 = .ok (.if_icmp .ne 7, 3) := by decide +kernel
theorem dX11_addMetre_49 : decode cX11_addMetre 49 = .ok (.iconst 2, 1) := by decide +kernel
theorem dX11_addMetre_50 : decode cX11_addMetre 50 = .ok (.goto 4, 3) := by decide +kernel
theorem dX11_addMetre_53 : decode cX11_addMetre 53 = .ok (.iconst 0, 1) := by decide +kernel
theorem dX11_addMetre_54 : decode cX11_addMetre 54 = .ok (.putfield 78, 3) := by decide +kernel
theorem dX11_addMetre_57 : decode cX11_addMetre 57 = .ok (.aload_n 0, 1) := by decide +kernel
theorem dX11_addMetre_58 : decode cX11_addMetre 58 = .ok (.getfield 78, 3) := by decide +kernel
theorem dX11_addMetre_61 : decode cX11_addMetre 61 = .ok (.ifCond .le 5, 3) := by decide +kernel
theorem dX11_addMetre_64 : decode cX11_addMetre 64 = .ok (.iconst 0, 1) := by decide +kernel
theorem dX11_addMetre_65 : decode cX11_addMetre 65 = .ok (.ireturn, 1) := by decide +kernel
theorem dX11_addMetre_66 : decode cX11_addMetre 66 = .ok (.aload_n 0, 1) := by decide +kernel
theorem dX11_addMetre_67 : decode cX11_addMetre 67 = .ok (.getfield 45, 3) := by decide +kernel
theorem dX11_addMetre_70 : decode cX11_addMetre 70 = .ok (.aload_n 0, 1) := by decide +kernel
theorem dX11_addMetre_71 : decode cX11_addMetre 71 = .ok (.getfield 197, 3) := by decide +kernel
theorem dX11_addMetre_74 : decode cX11_addMetre 74 = .ok (.aload_n 0, 1) := by decide +kernel
theorem dX11_addMetre_75 : decode cX11_addMetre 75 = .ok (.getfield 174, 3) := by decide +kernel
theorem dX11_addMetre_78 : decode cX11_addMetre 78 = .ok (.ifCond .eq 12, 3) := by decide +kernel
theorem dX11_addMetre_81 : decode cX11_addMetre 81 = .ok (.iconst 2, 1) := by decide +kernel
theorem dX11_addMetre_82 : decode cX11_addMetre 82 = .ok (.aload_n 0, 1) := by decide +kernel
theorem dX11_addMetre_83 : decode cX11_addMetre 83 = .ok (.getfield 178, 3) := by decide +kernel
theorem dX11_addMetre_86 : decode cX11_addMetre 86 = .ok (.imul, 1) := by decide +kernel
theorem dX11_addMetre_87 : decode cX11_addMetre 87 = .ok (.goto 7, 3) := by decide +kernel
theorem dX11_addMetre_90 : decode cX11_addMetre 90 = .ok (.aload_n 0, 1) := by decide +kernel
theorem dX11_addMetre_91 : decode cX11_addMetre 91 = .ok (.getfield 178, 3) := by decide +kernel
theorem dX11_addMetre_94 : decode cX11_addMetre 94 = .ok (.iastore, 1) := by decide +kernel
theorem dX11_addMetre_95 : decode cX11_addMetre 95 = .ok (.iconst 0, 1) := by decide +kernel
theorem dX11_addMetre_96 : decode cX11_addMetre 96 = .ok (.istore_n 2, 1) := by decide +kernel
theorem dX11_addMetre_97 : decode cX11_addMetre 97 = .ok (.iload_n 2, 1) := by decide +kernel
theorem dX11_addMetre_98 : decode cX11_addMetre 98 = .ok (.aload_n 0, 1) := by decide +kernel
theorem dX11_addMetre_99 : decode cX11_addMetre 99 = .ok (.getfield 45, 3) := by decide +kernel
theorem dX11_addMetre_102 : decode cX11_addMetre 102 = .ok (.aload_n 0, 1) := by decide +kernel
theorem dX11_addMetre_103 : decode cX11_addMetre 103 = .ok (.getfield 197, 3) := by decide +kernel
theorem dX11_addMetre_106 : decode cX11_addMetre 106 = .ok (.iaload, 1) := by decide +kernel
theorem dX11_addMetre_107 : decode cX11_addMetre 107 = .ok (.if_icmp .ge 34, 3) := by decide +kernel
theorem dX11_addMetre_110 : decode cX11_addMetre 110 = .ok (.aload_n 0, 1) := by decide +kernel
theorem dX11_addMetre_111 : decode cX11_addMetre 111 = .ok (.getfield 48, 3) := by decide +kernel
theorem dX11_addMetre_114 : decode cX11_addMetre 114 = .ok (.bipush 24, 2) := by decide +kernel
theorem dX11_addMetre_116 : decode cX11_addMetre 116 = .ok (.aload_n 0, 1) := by decide +kernel
theorem dX11_addMetre_117 : decode cX11_addMetre 117 = .ok (.getfield 197, 3) := by decide +kernel
theorem dX11_addMetre_120 : decode cX11_addMetre 120 = .ok (.imul, 1) := by decide +kernel
theorem dX11_addMetre_121 : decode cX11_addMetre 121 = .ok (.iload_n 2, 1) := by decide +kernel
theorem dX11_addMetre_122 : decode cX11_addMetre 122 = .ok (.iadd, 1) := by decide +kernel
theorem dX11_addMetre_123 : decode cX11_addMetre 123 = .ok (.aload_n 0, 1) := by decide +kernel
theorem dX11_addMetre_124 : decode cX11_addMetre 124 = .ok (.getfield 75, 3) := by decide +kernel
theorem dX11_addMetre_127 : decode cX11_addMetre 127 = .ok (.iload_n 2, 1) := by decide +kernel
theorem dX11_addMetre_128 : decode cX11_addMetre 128 = .ok (.aload_n 0, 1) := by decide +kernel
theorem dX11_addMetre_129 : decode cX11_addMetre 129 = .ok (.getfield 178, 3) := by decide +kernel
theorem dX11_addMetre_132 : decode cX11_addMetre 132 = .ok (.irem, 1) := by decide +kernel
theorem dX11_addMetre_133 : decode cX11_addMetre 133 = .ok (.iaload, 1) := by decide +kernel
theorem dX11_addMetre_134 : decode cX11_addMetre 134 = .ok (.iastore, 1) := by decide +kernel
theorem dX11_addMetre_135 : decode cX11_addMetre 135 = .ok (.iinc 2 1, 3) := by decide +kernel
theorem dX11_addMetre_138 : decode cX11_addMetre 138 = .ok (.goto (-41), 3) := by decide +kernel
theorem dX11_addMetre_141 : decode cX11_addMetre 141 = .ok (.aload_n 0, 1) := by decide +kernel
theorem dX11_addMetre_142 : decode cX11_addMetre 142 = .ok (.dup, 1) := by decide +kernel
theorem dX11_addMetre_143 : decode cX11_addMetre 143 = .ok (.getfield 197, 3) := by decide +kernel
theorem dX11_addMetre_146 : decode cX11_addMetre 146 = .ok (.iconst 1, 1) := by decide +kernel
theorem dX11_addMetre_147 : decode cX11_addMetre 147 = .ok (.iadd, 1) := by decide +kernel
theorem dX11_addMetre_148 : decode cX11_addMetre 148 = .ok (.putfield 197, 3) := by decide +kernel
theorem dX11_addMetre_151 : decode cX11_addMetre 151 = .ok (.aload_n 0, 1) := by decide +kernel
theorem dX11_addMetre_152 : decode cX11_addMetre 152 = .ok (.iconst 0, 1) := by decide +kernel
theorem dX11_addMetre_153 : decode cX11_addMetre 153 = .ok (.putfield 168, 3) := by decide +kernel
theorem dX11_addMetre_156 : decode cX11_addMetre 156 = .ok (.aload_n 0, 1) := by decide +kernel
theorem dX11_addMetre_157 : decode cX11_addMetre 157 = .ok (.getfield 197, 3) := by decide +kernel
theorem dX11_addMetre_160 : decode cX11_addMetre 160 = .ok (.iconst 1, 1) := by decide +kernel
theorem dX11_addMetre_161 : decode cX11_addMetre 161 = .ok (.isub, 1) := by decide +kernel
theorem dX11_addMetre_162 : decode cX11_addMetre 162 = .ok (.ireturn, 1) := by decide +kernel
theorem dX11_isMetre_0 : decode cX11_isMetre 0 = .ok (.iload_n 1, 1) := by decide +kernel
theorem dX11_isMetre_1 : decode cX11_isMetre 1 = .ok (.iconst 0, 1) := by decide +kernel
theorem dX11_isMetre_2 : decode cX11_isMetre 2 = .ok (.aload_n 0, 1) := by decide +kernel
theorem dX11_isMetre_3 : decode cX11_isMetre 3 = .ok (.getfield 197, 3) := by decide +kernel
theorem dX11_isMetre_6 : decode cX11_isMetre 6 = .ok (.iconst 1, 1) := by decide +kernel
theorem dX11_isMetre_7 : decode cX11_isMetre 7 = .ok (.isub, 1) := by decide +kernel
theorem dX11_isMetre_8 : decode cX11_isMetre 8 = .ok (.invokestatic 84, 3) := by decide +kernel
theorem dX11_isMetre_11 : decode cX11_isMetre 11 = .ok (.ireturn, 1) := by decide +kernel
theorem dX11_dropMetre_0 : decode cX11_dropMetre 0 = .ok (.aload_n 0, 1) := by decide +kernel
theorem dX11_dropMetre_1 : decode cX11_dropMetre 1 = .ok (.aload_n 0, 1) := by decide +kernel
theorem dX11_dropMetre_2 : decode cX11_dropMetre 2 = .ok (.iload_n 1, 1) := by decide +kernel
theorem dX11_dropMetre_3 : decode cX11_dropMetre 3 = .ok (.invokevirtual 200, 3) := by decide +kernel
theorem dX11_dropMetre_6 : decode cX11_dropMetre 6 = .ok (.ifCond .eq 7, 3) := by decide +kernel
theorem dX11_dropMetre_9 : decode cX11_dropMetre 9 = .ok (.iconst 0, 1) := by decide +kernel
theorem dX11_dropMetre_10 : decode cX11_dropMetre 10 = .ok (.goto 4, 3) := by decide +kernel
theorem dX11_dropMetre_13 : decode cX11_dropMetre 13 = .ok (.iconst 1, 1) := by decide +kernel
theorem dX11_dropMetre_14 : decode cX11_dropMetre 14 = .ok (.putfield 78, 3) := by decide +kernel
theorem dX11_dropMetre_17 : decode cX11_dropMetre 17 = .ok (.aload_n 0, 1) := by decide +kernel
theorem dX11_dropMetre_18 : decode cX11_dropMetre 18 = .ok (.getfield 78, 3) := by decide +kernel
theorem dX11_dropMetre_21 : decode cX11_dropMetre 21 = .ok (.ifCond .le 5, 3) := by decide +kernel
theorem dX11_dropMetre_24 : decode cX11_dropMetre 24 = .ok (.iconst 0, 1) := by decide +kernel
theorem dX11_dropMetre_25 : decode cX11_dropMetre 25 = .ok (.ireturn, 1) := by decide +kernel
theorem dX11_dropMetre_26 : decode cX11_dropMetre 26 = .ok (.aload_n 0, 1) := by decide +kernel
theorem dX11_dropMetre_27 : decode cX11_dropMetre 27 = .ok (.dup, 1) := by decide +kernel
theorem dX11_dropMetre_28 : decode cX11_dropMetre 28 = .ok (.getfield 197, 3) := by decide +kernel
theorem dX11_dropMetre_31 : decode cX11_dropMetre 31 = .ok (.iconst 1, 1) := by decide +kernel
theorem dX11_dropMetre_32 : decode cX11_dropMetre 32 = .ok (.isub, 1) := by decide +kernel
theorem dX11_dropMetre_33 : decode cX11_dropMetre 33 = .ok (.putfield 197, 3) := by decide +kernel
theorem dX11_dropMetre_36 : decode cX11_dropMetre 36 = .ok (.iload_n 1, 1) := by decide +kernel
theorem dX11_dropMetre_37 : decode cX11_dropMetre 37 = .ok (.istore_n 2, 1) := by decide +kernel
theorem dX11_dropMetre_38 : decode cX11_dropMetre 38 = .ok (.iload_n 2, 1) := by decide +kernel
theorem dX11_dropMetre_39 : decode cX11_dropMetre 39 = .ok (.aload_n 0, 1) := by decide +kernel
theorem dX11_dropMetre_40 : decode cX11_dropMetre 40 = .ok (.getfield 197, 3) := by decide +kernel
theorem dX11_dropMetre_43 : decode cX11_dropMetre 43 = .ok (.if_icmp .ge 61, 3) := by decide +kernel
theorem dX11_dropMetre_46 : decode cX11_dropMetre 46 = .ok (.aload_n 0, 1) := by decide +kernel
theorem dX11_dropMetre_47 : decode cX11_dropMetre 47 = .ok (.getfield 45, 3) := by decide +kernel
theorem dX11_dropMetre_50 : decode cX11_dropMetre 50 = .ok (.iload_n 2, 1) := by decide +kernel
theorem dX11_dropMetre_51 : decode cX11_dropMetre 51 = .ok (.aload_n 0, 1) := by decide +kernel
theorem dX11_dropMetre_52 : decode cX11_dropMetre 52 = .ok (.getfield 45, 3) := by decide +kernel
theorem dX11_dropMetre_55 : decode cX11_dropMetre 55 = .ok (.iload_n 2, 1) := by decide +kernel
theorem dX11_dropMetre_56 : decode cX11_dropMetre 56 = .ok (.iconst 1, 1) := by decide +kernel
theorem dX11_dropMetre_57 : decode cX11_dropMetre 57 = .ok (.iadd, 1) := by decide +kernel
theorem dX11_dropMetre_58 : decode cX11_dropMetre 58 = .ok (.iaload, 1) := by decide +kernel
theorem dX11_dropMetre_59 : decode cX11_dropMetre 59 = .ok (.iastore, 1) := by decide +kernel
theorem dX11_dropMetre_60 : decode cX11_dropMetre 60 = .ok (.iconst 0, 1) := by decide +kernel
theorem dX11_dropMetre_61 : decode cX11_dropMetre 61 = .ok (.istore_n 3, 1) := by decide +kernel
theorem dX11_dropMetre_62 : decode cX11_dropMetre 62 = .ok (.iload_n 3, 1) := by decide +kernel
theorem dX11_dropMetre_63 : decode cX11_dropMetre 63 = .ok (.bipush 24, 2) := by decide +kernel
theorem dX11_dropMetre_65 : decode cX11_dropMetre 65 = .ok (.if_icmp .ge 33, 3) := by decide +kernel
theorem dX11_dropMetre_68 : decode cX11_dropMetre 68 = .ok (.aload_n 0, 1) := by decide +kernel
theorem dX11_dropMetre_69 : decode cX11_dropMetre 69 = .ok (.getfield 48, 3) := by decide +kernel
theorem dX11_dropMetre_72 : decode cX11_dropMetre 72 = .ok (.bipush 24, 2) := by decide +kernel
theorem dX11_dropMetre_74 : decode cX11_dropMetre 74 = .ok (.iload_n 2, 1) := by decide +kernel
theorem dX11_dropMetre_75 : decode cX11_dropMetre 75 = .ok (.imul, 1) := by decide +kernel
theorem dX11_dropMetre_76 : decode cX11_dropMetre 76 = .ok (.iload_n 3, 1) := by decide +kernel
theorem dX11_dropMetre_77 : decode cX11_dropMetre 77 = .ok (.iadd, 1) := by decide +kernel
theorem dX11_dropMetre_78 : decode cX11_dropMetre 78 = .ok (.aload_n 0, 1) := by decide +kernel
theorem dX11_dropMetre_79 : decode cX11_dropMetre 79 = .ok (.getfield 48, 3) := by decide +kernel
theorem dX11_dropMetre_82 : decode cX11_dropMetre 82 = .ok (.bipush 24, 2) := by decide +kernel
theorem dX11_dropMetre_84 : decode cX11_dropMetre 84 = .ok (.iload_n 2, 1) := by decide +kernel
theorem dX11_dropMetre_85 : decode cX11_dropMetre 85 = .ok (.iconst 1, 1) := by decide +kernel
theorem dX11_dropMetre_86 : decode cX11_dropMetre 86 = .ok (.iadd, 1) := by decide +kernel
theorem dX11_dropMetre_87 : decode cX11_dropMetre 87 = .ok (.imul, 1) := by decide +kernel
theorem dX11_dropMetre_88 : decode cX11_dropMetre 88 = .ok (.iload_n 3, 1) := by decide +kernel
theorem dX11_dropMetre_89 : decode cX11_dropMetre 89 = .ok (.iadd, 1) := by decide +kernel
theorem dX11_dropMetre_90 : decode cX11_dropMetre 90 = .ok (.iaload, 1) := by decide +kernel
theorem dX11_dropMetre_91 : decode cX11_dropMetre 91 = .ok (.iastore, 1) := by decide +kernel
theorem dX11_dropMetre_92 : decode cX11_dropMetre 92 = .ok (.iinc 3 1, 3) := by decide +kernel
theorem dX11_dropMetre_95 : decode cX11_dropMetre 95 = .ok (.goto (-33), 3) := by decide +kernel
theorem dX11_dropMetre_98 : decode cX11_dropMetre 98 = .ok (.iinc 2 1, 3) := by decide +kernel
theorem dX11_dropMetre_101 : decode cX11_dropMetre 101 = .ok (.goto (-63), 3) := by decide +kernel
theorem dX11_dropMetre_104 : decode cX11_dropMetre 104 = .ok (.aload_n 0, 1) := by decide +kernel
theorem dX11_dropMetre_105 : decode cX11_dropMetre 105 = .ok (.getfield 197, 3) := by decide +kernel
theorem dX11_dropMetre_108 : decode cX11_dropMetre 108 = .ok (.ireturn, 1) := by decide +kernel
theorem dX11_classOf_0 : decode cX11_classOf 0 = .ok (.iload_n 0, 1) := by decide +kernel
theorem dX11_classOf_1 : decode cX11_classOf 1 = .ok (.iconst 3, 1) := by decide +kernel
theorem dX11_classOf_2 : decode cX11_classOf 2 = .ok (.if_icmp .ge 9, 3) := by decide +kernel
theorem dX11_classOf_5 : decode cX11_classOf 5 = .ok (.iconst 2, 1) := by decide +kernel
theorem dX11_classOf_6 : decode cX11_classOf 6 = .ok (.iload_n 0, 1) := by decide +kernel
theorem dX11_classOf_7 : decode cX11_classOf 7 = .ok (.imul, 1) := by decide +kernel
theorem dX11_classOf_8 : decode cX11_classOf 8 = .ok (.goto 8, 3) := by decide +kernel
theorem dX11_classOf_11 : decode cX11_classOf 11 = .ok (.iconst 2, 1) := by decide +kernel
theorem dX11_classOf_12 : decode cX11_classOf 12 = .ok (.iload_n 0, 1) := by decide +kernel
theorem dX11_classOf_13 : decode cX11_classOf 13 = .ok (.imul, 1) := by decide +kernel
theorem dX11_classOf_14 : decode cX11_classOf 14 = .ok (.iconst 1, 1) := by decide +kernel
theorem dX11_classOf_15 : decode cX11_classOf 15 = .ok (.isub, 1) := by decide +kernel
theorem dX11_classOf_16 : decode cX11_classOf 16 = .ok (.ireturn, 1) := by decide +kernel
theorem dX11_ownDegree_0 : decode cX11_ownDegree 0 = .ok (.iconst (-1), 1) := by decide +kernel
theorem dX11_ownDegree_1 : decode cX11_ownDegree 1 = .ok (.istore_n 2, 1) := by decide +kernel
theorem dX11_ownDegree_2 : decode cX11_ownDegree 2 = .ok (.iconst 0, 1) := by decide +kernel
theorem dX11_ownDegree_3 : decode cX11_ownDegree 3 = .ok (.istore_n 3, 1) := by decide +kernel
theorem dX11_ownDegree_4 : decode cX11_ownDegree 4 = .ok (.iload_n 3, 1) := by decide +kernel
theorem dX11_ownDegree_5 : decode cX11_ownDegree 5 = .ok (.bipush 7, 2) := by decide +kernel
theorem dX11_ownDegree_7 : decode cX11_ownDegree 7 = .ok (.if_icmp .ge 34, 3) := by decide +kernel
theorem dX11_ownDegree_10 : decode cX11_ownDegree 10 = .ok (.aload_n 0, 1) := by decide +kernel
theorem dX11_ownDegree_11 : decode cX11_ownDegree 11 = .ok (.getfield 140, 3) := by decide +kernel
theorem dX11_ownDegree_14 : decode cX11_ownDegree 14 = .ok (.iload_n 3, 1) := by decide +kernel
theorem dX11_ownDegree_15 : decode cX11_ownDegree 15 = .ok (.invokestatic 203, 3) := by decide +kernel
theorem dX11_ownDegree_18 : decode cX11_ownDegree 18 = .ok (.iadd, 1) := by decide +kernel
theorem dX11_ownDegree_19 : decode cX11_ownDegree 19 = .ok (.bipush 12, 2) := by decide +kernel
theorem dX11_ownDegree_21 : decode cX11_ownDegree 21 = .ok (.irem, 1) := by decide +kernel
theorem dX11_ownDegree_22 : decode cX11_ownDegree 22 = .ok (.iload_n 1, 1) := by decide +kernel
theorem dX11_ownDegree_23 : decode cX11_ownDegree 23 = .ok (.bipush 12, 2) := by decide +kernel
theorem dX11_ownDegree_25 : decode cX11_ownDegree 25 = .ok (.irem, 1) := by decide +kernel
theorem dX11_ownDegree_26 : decode cX11_ownDegree 26 = .ok (.if_icmp .ne 7, 3) := by decide +kernel
theorem dX11_ownDegree_29 : decode cX11_ownDegree 29 = .ok (.iload_n 3, 1) := by decide +kernel
theorem dX11_ownDegree_30 : decode cX11_ownDegree 30 = .ok (.goto 4, 3) := by decide +kernel
theorem dX11_ownDegree_33 : decode cX11_ownDegree 33 = .ok (.iload_n 2, 1) := by decide +kernel
theorem dX11_ownDegree_34 : decode cX11_ownDegree 34 = .ok (.istore_n 2, 1) := by decide +kernel
theorem dX11_ownDegree_35 : decode cX11_ownDegree 35 = .ok (.iinc 3 1, 3) := by decide +kernel
theorem dX11_ownDegree_38 : decode cX11_ownDegree 38 = .ok (.goto (-34), 3) := by decide +kernel
theorem dX11_ownDegree_41 : decode cX11_ownDegree 41 = .ok (.iload_n 2, 1) := by decide +kernel
theorem dX11_ownDegree_42 : decode cX11_ownDegree 42 = .ok (.ireturn, 1) := by decide +kernel
theorem dX11_isRaised_0 : decode cX11_isRaised 0 = .ok (.aload_n 0, 1) := by decide +kernel
theorem dX11_isRaised_1 : decode cX11_isRaised 1 = .ok (.iload_n 1, 1) := by decide +kernel
theorem dX11_isRaised_2 : decode cX11_isRaised 2 = .ok (.invokevirtual 206, 3) := by decide +kernel
theorem dX11_isRaised_5 : decode cX11_isRaised 5 = .ok (.iconst (-1), 1) := by decide +kernel
theorem dX11_isRaised_6 : decode cX11_isRaised 6 = .ok (.if_icmp .ne 7, 3) := by decide +kernel
theorem dX11_isRaised_9 : decode cX11_isRaised 9 = .ok (.iconst 1, 1) := by decide +kernel
theorem dX11_isRaised_10 : decode cX11_isRaised 10 = .ok (.goto 4, 3) := by decide +kernel
theorem dX11_isRaised_13 : decode cX11_isRaised 13 = .ok (.iconst 0, 1) := by decide +kernel
theorem dX11_isRaised_14 : decode cX11_isRaised 14 = .ok (.ireturn, 1) := by decide +kernel
theorem dX11_degree_0 : decode cX11_degree 0 = .ok (.aload_n 0, 1) := by decide +kernel
theorem dX11_degree_1 : decode cX11_degree 1 = .ok (.aload_n 0, 1) := by decide +kernel
theorem dX11_degree_2 : decode cX11_degree 2 = .ok (.iload_n 1, 1) := by decide +kernel
theorem dX11_degree_3 : decode cX11_degree 3 = .ok (.invokevirtual 209, 3) := by decide +kernel
theorem dX11_degree_6 : decode cX11_degree 6 = .ok (.ifCond .eq 9, 3) := by decide +kernel
theorem dX11_degree_9 : decode cX11_degree 9 = .ok (.iload_n 1, 1) := by decide +kernel
theorem dX11_degree_10 : decode cX11_degree 10 = .ok (.iconst 1, 1) := by decide +kernel
theorem dX11_degree_11 : decode cX11_degree 11 = .ok (.isub, 1) := by decide +kernel
theorem dX11_degree_12 : decode cX11_degree 12 = .ok (.goto 4, 3) := by decide +kernel
theorem dX11_degree_15 : decode cX11_degree 15 = .ok (.iload_n 1, 1) := by decide +kernel
theorem dX11_degree_16 : decode cX11_degree 16 = .ok (.invokevirtual 206, 3) := by decide +kernel
theorem dX11_degree_19 : decode cX11_degree 19 = .ok (.ireturn, 1) := by decide +kernel
theorem dX11_tonicLetter_0 : decode cX11_tonicLetter 0 = .ok (.aload_n 0, 1) := by decide +kernel
theorem dX11_tonicLetter_1 : decode cX11_tonicLetter 1 = .ok (.getfield 140, 3) := by decide +kernel
theorem dX11_tonicLetter_4 : decode cX11_tonicLetter 4 = .ok (.tableswitch 68 0 9 #[56, 58, 58, 60, 60, 62, 64, 64, 66, 66], 56) := by decide +kernel
theorem dX11_tonicLetter_60 : decode cX11_tonicLetter 60 = .ok (.iconst 0, 1) := by decide +kernel
theorem dX11_tonicLetter_61 : decode cX11_tonicLetter 61 = .ok (.ireturn, 1) := by decide +kernel
theorem dX11_tonicLetter_62 : decode cX11_tonicLetter 62 = .ok (.iconst 1, 1) := by decide +kernel
theorem dX11_tonicLetter_63 : decode cX11_tonicLetter 63 = .ok (.ireturn, 1) := by decide +kernel
theorem dX11_tonicLetter_64 : decode cX11_tonicLetter 64 = .ok (.iconst 2, 1) := by decide +kernel
theorem dX11_tonicLetter_65 : decode cX11_tonicLetter 65 = .ok (.ireturn, 1) := by decide +kernel
theorem dX11_tonicLetter_66 : decode cX11_tonicLetter 66 = .ok (.iconst 3, 1) := by decide +kernel
theorem dX11_tonicLetter_67 : decode cX11_tonicLetter 67 = .ok (.ireturn, 1) := by decide +kernel
theorem dX11_tonicLetter_68 : decode cX11_tonicLetter 68 = .ok (.iconst 4, 1) := by decide +kernel
theorem dX11_tonicLetter_69 : decode cX11_tonicLetter 69 = .ok (.ireturn, 1) := by decide +kernel
theorem dX11_tonicLetter_70 : decode cX11_tonicLetter 70 = .ok (.iconst 5, 1) := by decide +kernel
theorem dX11_tonicLetter_71 : decode cX11_tonicLetter 71 = .ok (.ireturn, 1) := by decide +kernel
theorem dX11_tonicLetter_72 : decode cX11_tonicLetter 72 = .ok (.bipush 6, 2) := by decide +kernel
theorem dX11_tonicLetter_74 : decode cX11_tonicLetter 74 = .ok (.ireturn, 1) := by decide +kernel
theorem dX11_step_0 : decode cX11_step 0 = .ok (.aload_n 0, 1) := by decide +kernel
theorem dX11_step_1 : decode cX11_step 1 = .ok (.iload_n 1, 1) := by decide +kernel
theorem dX11_step_2 : decode cX11_step 2 = .ok (.invokevirtual 209, 3) := by decide +kernel
theorem dX11_step_5 : decode cX11_step 5 = .ok (.ifCond .eq 9, 3) := by decide +kernel
theorem dX11_step_8 : decode cX11_step 8 = .ok (.iload_n 1, 1) := by decide +kernel
theorem dX11_step_9 : decode cX11_step 9 = .ok (.iconst 1, 1) := by decide +kernel
theorem dX11_step_10 : decode cX11_step 10 = .ok (.isub, 1) := by decide +kernel
theorem dX11_step_11 : decode cX11_step 11 = .ok (.goto 4, 3) := by decide +kernel
theorem dX11_step_14 : decode cX11_step 14 = .ok (.iload_n 1, 1) := by decide +kernel
theorem dX11_step_15 : decode cX11_step 15 = .ok (.istore_n 2, 1) := by decide +kernel
theorem dX11_step_16 : decode cX11_step 16 = .ok (.aload_n 0, 1) := by decide +kernel
theorem dX11_step_17 : decode cX11_step 17 = .ok (.invokevirtual 212, 3) := by decide +kernel
theorem dX11_step_20 : decode cX11_step 20 = .ok (.aload_n 0, 1) := by decide +kernel
theorem dX11_step_21 : decode cX11_step 21 = .ok (.iload_n 1, 1) := by decide +kernel
theorem dX11_step_22 : decode cX11_step 22 = .ok (.invokevirtual 215, 3) := by decide +kernel
theorem dX11_step_25 : decode cX11_step 25 = .ok (.iadd, 1) := by decide +kernel
theorem dX11_step_26 : decode cX11_step 26 = .ok (.bipush 7, 2) := by decide +kernel
theorem dX11_step_28 : decode cX11_step 28 = .ok (.irem, 1) := by decide +kernel
theorem dX11_step_29 : decode cX11_step 29 = .ok (.istore_n 3, 1) := by decide +kernel
theorem dX11_step_30 : decode cX11_step 30 = .ok (.iconst 0, 1) := by decide +kernel
theorem dX11_step_31 : decode cX11_step 31 = .ok (.istore 4, 2) := by decide +kernel
theorem dX11_step_33 : decode cX11_step 33 = .ok (.iload_n 3, 1) := by decide +kernel
theorem dX11_step_34 : decode cX11_step 34 = .ok (.invokestatic 203, 3) := by decide +kernel
theorem dX11_step_37 : decode cX11_step 37 = .ok (.bipush 12, 2) := by decide +kernel
theorem dX11_step_39 : decode cX11_step 39 = .ok (.iload 4, 2) := by decide +kernel
theorem dX11_step_41 : decode cX11_step 41 = .ok (.imul, 1) := by decide +kernel
theorem dX11_step_42 : decode cX11_step 42 = .ok (.iadd, 1) := by decide +kernel
theorem dX11_step_43 : decode cX11_step 43 = .ok (.iload_n 2, 1) := by decide +kernel
theorem dX11_step_44 : decode cX11_step 44 = .ok (.iconst 2, 1) := by decide +kernel
theorem dX11_step_45 : decode cX11_step 45 = .ok (.isub, 1) := by decide +kernel
theorem dX11_step_46 : decode cX11_step 46 = .ok (.if_icmp .ge 9, 3) := by decide +kernel
theorem dX11_step_49 : decode cX11_step 49 = .ok (.iinc 4 1, 3) := by decide +kernel
theorem dX11_step_52 : decode cX11_step 52 = .ok (.goto (-19), 3) := by decide +kernel
theorem dX11_step_55 : decode cX11_step 55 = .ok (.bipush 7, 2) := by decide +kernel
theorem dX11_step_57 : decode cX11_step 57 = .ok (.iload 4, 2) := by decide +kernel
theorem dX11_step_59 : decode cX11_step 59 = .ok (.imul, 1) := by decide +kernel
theorem dX11_step_60 : decode cX11_step 60 = .ok (.iload_n 3, 1) := by decide +kernel
theorem dX11_step_61 : decode cX11_step 61 = .ok (.iadd, 1) := by decide +kernel
theorem dX11_step_62 : decode cX11_step 62 = .ok (.ireturn, 1) := by decide +kernel
theorem dX11_ledgers_0 : decode cX11_ledgers 0 = .ok (.iload_n 1, 1) := by decide +kernel
theorem dX11_ledgers_1 : decode cX11_ledgers 1 = .ok (.iconst 2, 1) := by decide +kernel
theorem dX11_ledgers_2 : decode cX11_ledgers 2 = .ok (.if_icmp .ge 8, 3) := by decide +kernel
theorem dX11_ledgers_5 : decode cX11_ledgers 5 = .ok (.bipush 37, 2) := by decide +kernel
theorem dX11_ledgers_7 : decode cX11_ledgers 7 = .ok (.goto 5, 3) := by decide +kernel
theorem dX11_ledgers_10 : decode cX11_ledgers 10 = .ok (.bipush 25, 2) := by decide +kernel
theorem dX11_ledgers_12 : decode cX11_ledgers 12 = .ok (.istore_n 3, 1) := by decide +kernel
theorem dX11_ledgers_13 : decode cX11_ledgers 13 = .ok (.aload_n 0, 1) := by decide +kernel
theorem dX11_ledgers_14 : decode cX11_ledgers 14 = .ok (.iload_n 2, 1) := by decide +kernel
theorem dX11_ledgers_15 : decode cX11_ledgers 15 = .ok (.invokevirtual 218, 3) := by decide +kernel
theorem dX11_ledgers_18 : decode cX11_ledgers 18 = .ok (.istore 4, 2) := by decide +kernel
theorem dX11_ledgers_20 : decode cX11_ledgers 20 = .ok (.iload 4, 2) := by decide +kernel
theorem dX11_ledgers_22 : decode cX11_ledgers 22 = .ok (.iload_n 3, 1) := by decide +kernel
theorem dX11_ledgers_23 : decode cX11_ledgers 23 = .ok (.bipush 8, 2) := by decide +kernel
theorem dX11_ledgers_25 : decode cX11_ledgers 25 = .ok (.iadd, 1) := by decide +kernel
theorem dX11_ledgers_26 : decode cX11_ledgers 26 = .ok (.if_icmp .le 15, 3) := by decide +kernel
theorem dX11_ledgers_29 : decode cX11_ledgers 29 = .ok (.iload 4, 2) := by decide +kernel
theorem dX11_ledgers_31 : decode cX11_ledgers 31 = .ok (.iload_n 3, 1) := by decide +kernel
theorem dX11_ledgers_32 : decode cX11_ledgers 32 = .ok (.isub, 1) := by decide +kernel
theorem dX11_ledgers_33 : decode cX11_ledgers 33 = .ok (.bipush 8, 2) := by decide +kernel
theorem dX11_ledgers_35 : decode cX11_ledgers 35 = .ok (.isub, 1) := by decide +kernel
theorem dX11_ledgers_36 : decode cX11_ledgers 36 = .ok (.iconst 2, 1) := by decide +kernel
theorem dX11_ledgers_37 : decode cX11_ledgers 37 = .ok (.idiv, 1) := by decide +kernel
theorem dX11_ledgers_38 : decode cX11_ledgers 38 = .ok (.goto 19, 3) := by decide +kernel
theorem dX11_ledgers_41 : decode cX11_ledgers 41 = .ok (.iload 4, 2) := by decide +kernel
theorem dX11_ledgers_43 : decode cX11_ledgers 43 = .ok (.iload_n 3, 1) := by decide +kernel
theorem dX11_ledgers_44 : decode cX11_ledgers 44 = .ok (.if_icmp .ge 12, 3) := by decide +kernel
theorem dX11_ledgers_47 : decode cX11_ledgers 47 = .ok (.iload_n 3, 1) := by decide +kernel
theorem dX11_ledgers_48 : decode cX11_ledgers 48 = .ok (.iload 4, 2) := by decide +kernel
theorem dX11_ledgers_50 : decode cX11_ledgers 50 = .ok (.isub, 1) := by decide +kernel
theorem dX11_ledgers_51 : decode cX11_ledgers 51 = .ok (.iconst 2, 1) := by decide +kernel
theorem dX11_ledgers_52 : decode cX11_ledgers 52 = .ok (.idiv, 1) := by decide +kernel
theorem dX11_ledgers_53 : decode cX11_ledgers 53 = .ok (.goto 4, 3) := by decide +kernel
theorem dX11_ledgers_56 : decode cX11_ledgers 56 = .ok (.iconst 0, 1) := by decide +kernel
theorem dX11_ledgers_57 : decode cX11_ledgers 57 = .ok (.ireturn, 1) := by decide +kernel
theorem dX11_pitch_0 : decode cX11_pitch 0 = .ok (.aload_n 0, 1) := by decide +kernel
theorem dX11_pitch_1 : decode cX11_pitch 1 = .ok (.getfield 13, 3) := by decide +kernel
theorem dX11_pitch_4 : decode cX11_pitch 4 = .ok (.iconst 4, 1) := by decide +kernel
theorem dX11_pitch_5 : decode cX11_pitch 5 = .ok (.iload_n 1, 1) := by decide +kernel
theorem dX11_pitch_6 : decode cX11_pitch 6 = .ok (.imul, 1) := by decide +kernel
theorem dX11_pitch_7 : decode cX11_pitch 7 = .ok (.iload_n 2, 1) := by decide +kernel
theorem dX11_pitch_8 : decode cX11_pitch 8 = .ok (.iadd, 1) := by decide +kernel
theorem dX11_pitch_9 : decode cX11_pitch 9 = .ok (.iaload, 1) := by decide +kernel
theorem dX11_pitch_10 : decode cX11_pitch 10 = .ok (.ireturn, 1) := by decide +kernel
theorem dX11_headsNow_0 : decode cX11_headsNow 0 = .ok (.aload_n 0, 1) := by decide +kernel
theorem dX11_headsNow_1 : decode cX11_headsNow 1 = .ok (.iload_n 1, 1) := by decide +kernel
theorem dX11_headsNow_2 : decode cX11_headsNow 2 = .ok (.iconst 2, 1) := by decide +kernel
theorem dX11_headsNow_3 : decode cX11_headsNow 3 = .ok (.iload_n 2, 1) := by decide +kernel
theorem dX11_headsNow_4 : decode cX11_headsNow 4 = .ok (.imul, 1) := by decide +kernel
theorem dX11_headsNow_5 : decode cX11_headsNow 5 = .ok (.invokevirtual 221, 3) := by decide +kernel
theorem dX11_headsNow_8 : decode cX11_headsNow 8 = .ok (.istore_n 3, 1) := by decide +kernel
theorem dX11_headsNow_9 : decode cX11_headsNow 9 = .ok (.aload_n 0, 1) := by decide +kernel
theorem dX11_headsNow_10 : decode cX11_headsNow 10 = .ok (.iload_n 1, 1) := by decide +kernel
theorem dX11_headsNow_11 : decode cX11_headsNow 11 = .ok (.iconst 2, 1) := by decide +kernel
theorem dX11_headsNow_12 : decode cX11_headsNow 12 = .ok (.iload_n 2, 1) := by decide +kernel
theorem dX11_headsNow_13 : decode cX11_headsNow 13 = .ok (.imul, 1) := by decide +kernel
theorem dX11_headsNow_14 : decode cX11_headsNow 14 = .ok (.iconst 1, 1) := by decide +kernel
theorem dX11_headsNow_15 : decode cX11_headsNow 15 = .ok (.iadd, 1) := by decide +kernel
theorem dX11_headsNow_16 : decode cX11_headsNow 16 = .ok (.invokevirtual 221, 3) := by decide +kernel
theorem dX11_headsNow_19 : decode cX11_headsNow 19 = .ok (.istore 4, 2) := by decide +kernel
theorem dX11_headsNow_21 : decode cX11_headsNow 21 = .ok (.aload_n 0, 1) := by decide +kernel
theorem dX11_headsNow_22 : decode cX11_headsNow 22 = .ok (.iload_n 3, 1) := by decide +kernel
theorem dX11_headsNow_23 : decode cX11_headsNow 23 = .ok (.invokevirtual 218, 3) := by decide +kernel
theorem dX11_headsNow_26 : decode cX11_headsNow 26 = .ok (.aload_n 0, 1) := by decide +kernel
theorem dX11_headsNow_27 : decode cX11_headsNow 27 = .ok (.iload 4, 2) := by decide +kernel
theorem dX11_headsNow_29 : decode cX11_headsNow 29 = .ok (.invokevirtual 218, 3) := by decide +kernel
theorem dX11_headsNow_32 : decode cX11_headsNow 32 = .ok (.isub, 1) := by decide +kernel
theorem dX11_headsNow_33 : decode cX11_headsNow 33 = .ok (.istore 5, 2) := by decide +kernel
theorem dX11_headsNow_35 : decode cX11_headsNow 35 = .ok (.iload_n 3, 1) := by decide +kernel
theorem dX11_headsNow_36 : decode cX11_headsNow 36 = .ok (.iload 4, 2) := by decide +kernel
theorem dX11_headsNow_38 : decode cX11_headsNow 38 = .ok (.if_icmp .ne 5, 3) := by decide +kernel
theorem dX11_headsNow_41 : decode cX11_headsNow 41 = .ok (.iconst 1, 1) := by decide +kernel
theorem dX11_headsNow_42 : decode cX11_headsNow 42 = .ok (.ireturn, 1) := by decide +kernel
theorem dX11_headsNow_43 : decode cX11_headsNow 43 = .ok (.iload 5, 2) := by decide +kernel
theorem dX11_headsNow_45 : decode cX11_headsNow 45 = .ok (.iconst (-1), 1) := by decide +kernel
theorem dX11_headsNow_46 : decode cX11_headsNow 46 = .ok (.iconst 1, 1) := by decide +kernel
theorem dX11_headsNow_47 : decode cX11_headsNow 47 = .ok (.invokestatic 84, 3) := by decide +kernel
theorem dX11_headsNow_50 : decode cX11_headsNow 50 = .ok (.ifCond .eq 7, 3) := by decide +kernel
theorem dX11_headsNow_53 : decode cX11_headsNow 53 = .ok (.iconst 2, 1) := by decide +kernel
theorem dX11_headsNow_54 : decode cX11_headsNow 54 = .ok (.goto 4, 3) := by decide +kernel
theorem dX11_headsNow_57 : decode cX11_headsNow 57 = .ok (.iconst 0, 1) := by decide +kernel
theorem dX11_headsNow_58 : decode cX11_headsNow 58 = .ok (.iload 4, 2) := by decide +kernel
theorem dX11_headsNow_60 : decode cX11_headsNow 60 = .ok (.iload_n 3, 1) := by decide +kernel
theorem dX11_headsNow_61 : decode cX11_headsNow 61 = .ok (.if_icmp .le 7, 3) := by decide +kernel
theorem dX11_headsNow_64 : decode cX11_headsNow 64 = .ok (.iconst 4, 1) := by decide +kernel
theorem dX11_headsNow_65 : decode cX11_headsNow 65 = .ok (.goto 4, 3) := by decide +kernel
theorem dX11_headsNow_68 : decode cX11_headsNow 68 = .ok (.iconst 0, 1) := by decide +kernel
theorem dX11_headsNow_69 : decode cX11_headsNow 69 = .ok (.iadd, 1) := by decide +kernel
theorem dX11_headsNow_70 : decode cX11_headsNow 70 = .ok (.ireturn, 1) := by decide +kernel
theorem dX11_isParallel_0 : decode cX11_isParallel 0 = .ok (.aload_n 0, 1) := by decide +kernel
theorem dX11_isParallel_1 : decode cX11_isParallel 1 = .ok (.iload_n 1, 1) := by decide +kernel
theorem dX11_isParallel_2 : decode cX11_isParallel 2 = .ok (.iload_n 2, 1) := by decide +kernel
theorem dX11_isParallel_3 : decode cX11_isParallel 3 = .ok (.invokevirtual 221, 3) := by decide +kernel
theorem dX11_isParallel_6 : decode cX11_isParallel 6 = .ok (.aload_n 0, 1) := by decide +kernel
theorem dX11_isParallel_7 : decode cX11_isParallel 7 = .ok (.iload_n 1, 1) := by decide +kernel
theorem dX11_isParallel_8 : decode cX11_isParallel 8 = .ok (.iconst 1, 1) := by decide +kernel
theorem dX11_isParallel_9 : decode cX11_isParallel 9 = .ok (.isub, 1) := by decide +kernel
theorem dX11_isParallel_10 : decode cX11_isParallel 10 = .ok (.iload_n 2, 1) := by decide +kernel
theorem dX11_isParallel_11 : decode cX11_isParallel 11 = .ok (.invokevirtual 221, 3) := by decide +kernel
theorem dX11_isParallel_14 : decode cX11_isParallel 14 = .ok (.isub, 1) := by decide +kernel
theorem dX11_isParallel_15 : decode cX11_isParallel 15 = .ok (.istore 4, 2) := by decide +kernel
theorem dX11_isParallel_17 : decode cX11_isParallel 17 = .ok (.aload_n 0, 1) := by decide +kernel
theorem dX11_isParallel_18 : decode cX11_isParallel 18 = .ok (.iload_n 1, 1) := by decide +kernel
theorem dX11_isParallel_19 : decode cX11_isParallel 19 = .ok (.iload_n 3, 1) := by decide +kernel
theorem dX11_isParallel_20 : decode cX11_isParallel 20 = .ok (.invokevirtual 221, 3) := by decide +kernel
theorem dX11_isParallel_23 : decode cX11_isParallel 23 = .ok (.aload_n 0, 1) := by decide +kernel
theorem dX11_isParallel_24 : decode cX11_isParallel 24 = .ok (.iload_n 1, 1) := by decide +kernel
theorem dX11_isParallel_25 : decode cX11_isParallel 25 = .ok (.iconst 1, 1) := by decide +kernel
theorem dX11_isParallel_26 : decode cX11_isParallel 26 = .ok (.isub, 1) := by decide +kernel
theorem dX11_isParallel_27 : decode cX11_isParallel 27 = .ok (.iload_n 3, 1) := by decide +kernel
theorem dX11_isParallel_28 : decode cX11_isParallel 28 = .ok (.invokevirtual 221, 3) := by decide +kernel
theorem dX11_isParallel_31 : decode cX11_isParallel 31 = .ok (.isub, 1) := by decide +kernel
theorem dX11_isParallel_32 : decode cX11_isParallel 32 = .ok (.istore 5, 2) := by decide +kernel
theorem dX11_isParallel_34 : decode cX11_isParallel 34 = .ok (.aload_n 0, 1) := by decide +kernel
theorem dX11_isParallel_35 : decode cX11_isParallel 35 = .ok (.iload_n 1, 1) := by decide +kernel
theorem dX11_isParallel_36 : decode cX11_isParallel 36 = .ok (.iconst 1, 1) := by decide +kernel
theorem dX11_isParallel_37 : decode cX11_isParallel 37 = .ok (.isub, 1) := by decide +kernel
theorem dX11_isParallel_38 : decode cX11_isParallel 38 = .ok (.iload_n 2, 1) := by decide +kernel
theorem dX11_isParallel_39 : decode cX11_isParallel 39 = .ok (.invokevirtual 221, 3) := by decide +kernel
theorem dX11_isParallel_42 : decode cX11_isParallel 42 = .ok (.aload_n 0, 1) := by decide +kernel
theorem dX11_isParallel_43 : decode cX11_isParallel 43 = .ok (.iload_n 1, 1) := by decide +kernel
theorem dX11_isParallel_44 : decode cX11_isParallel 44 = .ok (.iconst 1, 1) := by decide +kernel
theorem dX11_isParallel_45 : decode cX11_isParallel 45 = .ok (.isub, 1) := by decide +kernel
theorem dX11_isParallel_46 : decode cX11_isParallel 46 = .ok (.iload_n 3, 1) := by decide +kernel
theorem dX11_isParallel_47 : decode cX11_isParallel 47 = .ok (.invokevirtual 221, 3) := by decide +kernel
theorem dX11_isParallel_50 : decode cX11_isParallel 50 = .ok (.isub, 1) := by decide +kernel
theorem dX11_isParallel_51 : decode cX11_isParallel 51 = .ok (.bipush 60, 2) := by decide +kernel
theorem dX11_isParallel_53 : decode cX11_isParallel 53 = .ok (.iadd, 1) := by decide +kernel
theorem dX11_isParallel_54 : decode cX11_isParallel 54 = .ok (.bipush 12, 2) := by decide +kernel
theorem dX11_isParallel_56 : decode cX11_isParallel 56 = .ok (.irem, 1) := by decide +kernel
theorem dX11_isParallel_57 : decode cX11_isParallel 57 = .ok (.istore 6, 2) := by decide +kernel
theorem dX11_isParallel_59 : decode cX11_isParallel 59 = .ok (.aload_n 0, 1) := by decide +kernel
theorem dX11_isParallel_60 : decode cX11_isParallel 60 = .ok (.iload_n 1, 1) := by decide +kernel
theorem dX11_isParallel_61 : decode cX11_isParallel 61 = .ok (.iload_n 2, 1) := by decide +kernel
theorem dX11_isParallel_62 : decode cX11_isParallel 62 = .ok (.invokevirtual 221, 3) := by decide +kernel
theorem dX11_isParallel_65 : decode cX11_isParallel 65 = .ok (.aload_n 0, 1) := by decide +kernel
theorem dX11_isParallel_66 : decode cX11_isParallel 66 = .ok (.iload_n 1, 1) := by decide +kernel
theorem dX11_isParallel_67 : decode cX11_isParallel 67 = .ok (.iload_n 3, 1) := by decide +kernel
theorem dX11_isParallel_68 : decode cX11_isParallel 68 = .ok (.invokevirtual 221, 3) := by decide +kernel
theorem dX11_isParallel_71 : decode cX11_isParallel 71 = .ok (.isub, 1) := by decide +kernel
theorem dX11_isParallel_72 : decode cX11_isParallel 72 = .ok (.bipush 60, 2) := by decide +kernel
theorem dX11_isParallel_74 : decode cX11_isParallel 74 = .ok (.iadd, 1) := by decide +kernel
theorem dX11_isParallel_75 : decode cX11_isParallel 75 = .ok (.bipush 12, 2) := by decide +kernel
theorem dX11_isParallel_77 : decode cX11_isParallel 77 = .ok (.irem, 1) := by decide +kernel
theorem dX11_isParallel_78 : decode cX11_isParallel 78 = .ok (.istore 7, 2) := by decide +kernel
theorem dX11_isParallel_80 : decode cX11_isParallel 80 = .ok (.iload 4, 2) := by decide +kernel
theorem dX11_isParallel_82 : decode cX11_isParallel 82 = .ok (.ifCond .le 8, 3) := by decide +kernel
theorem dX11_isParallel_85 : decode cX11_isParallel 85 = .ok (.iload 5, 2) := by decide +kernel
theorem dX11_isParallel_87 : decode cX11_isParallel 87 = .ok (.ifCond .gt 13, 3) := by decide +kernel
theorem dX11_isParallel_90 : decode cX11_isParallel 90 = .ok (.iload 4, 2) := by decide +kernel
theorem dX11_isParallel_92 : decode cX11_isParallel 92 = .ok (.ifCond .ge 31, 3) := by decide +kernel
theorem dX11_isParallel_95 : decode cX11_isParallel 95 = .ok (.iload 5, 2) := by decide +kernel
theorem dX11_isParallel_97 : decode cX11_isParallel 97 = .ok (.ifCond .ge 26, 3) := by decide +kernel
theorem dX11_isParallel_100 : decode cX11_isParallel 100 = .ok (.iload 6, 2) := by decide +kernel
theorem dX11_isParallel_102 : decode cX11_isParallel 102 = .ok (.iload 7, 2) := by decide +kernel
theorem dX11_isParallel_104 : decode cX11_isParallel 104 = .ok (.if_icmp .ne 19, 3) := by decide +kernel
theorem dX11_isParallel_107 : decode cX11_isParallel 107 = .ok (.iload 7, 2) := by decide +kernel
theorem dX11_isParallel_109 : decode cX11_isParallel 109 = .ok (.ifCond .eq 10, 3) := by decide +kernel
theorem dX11_isParallel_112 : decode cX11_isParallel 112 = .ok (.iload 7, 2) := by decide +kernel
theorem dX11_isParallel_114 : decode cX11_isParallel 114 = .ok (.bipush 7, 2) := by decide +kernel
theorem dX11_isParallel_116 : decode cX11_isParallel 116 = .ok (.if_icmp .ne 7, 3) := by decide +kernel
theorem dX11_isParallel_119 : decode cX11_isParallel 119 = .ok (.iconst 1, 1) := by decide +kernel
theorem dX11_isParallel_120 : decode cX11_isParallel 120 = .ok (.goto 4, 3) := by decide +kernel
theorem dX11_isParallel_123 : decode cX11_isParallel 123 = .ok (.iconst 0, 1) := by decide +kernel
theorem dX11_isParallel_124 : decode cX11_isParallel 124 = .ok (.ireturn, 1) := by decide +kernel
theorem dX11_parallels_0 : decode cX11_parallels 0 = .ok (.iconst 0, 1) := by decide +kernel
theorem dX11_parallels_1 : decode cX11_parallels 1 = .ok (.istore_n 2, 1) := by decide +kernel
theorem dX11_parallels_2 : decode cX11_parallels 2 = .ok (.iconst 0, 1) := by decide +kernel
theorem dX11_parallels_3 : decode cX11_parallels 3 = .ok (.istore_n 3, 1) := by decide +kernel
theorem dX11_parallels_4 : decode cX11_parallels 4 = .ok (.iconst 0, 1) := by decide +kernel
theorem dX11_parallels_5 : decode cX11_parallels 5 = .ok (.istore 4, 2) := by decide +kernel
theorem dX11_parallels_7 : decode cX11_parallels 7 = .ok (.iload 4, 2) := by decide +kernel
theorem dX11_parallels_9 : decode cX11_parallels 9 = .ok (.iconst 4, 1) := by decide +kernel
theorem dX11_parallels_10 : decode cX11_parallels 10 = .ok (.if_icmp .ge 56, 3) := by decide +kernel
theorem dX11_parallels_13 : decode cX11_parallels 13 = .ok (.iload 4, 2) := by decide +kernel
theorem dX11_parallels_15 : decode cX11_parallels 15 = .ok (.iconst 1, 1) := by decide +kernel
theorem dX11_parallels_16 : decode cX11_parallels 16 = .ok (.iadd, 1) := by decide +kernel
theorem dX11_parallels_17 : decode cX11_parallels 17 = .ok (.istore 5, 2) := by decide +kernel
theorem dX11_parallels_19 : decode cX11_parallels 19 = .ok (.iload 5, 2) := by decide +kernel
theorem dX11_parallels_21 : decode cX11_parallels 21 = .ok (.iconst 4, 1) := by decide +kernel
theorem dX11_parallels_22 : decode cX11_parallels 22 = .ok (.if_icmp .ge 38, 3) := by decide +kernel
theorem dX11_parallels_25 : decode cX11_parallels 25 = .ok (.iload_n 2, 1) := by decide +kernel
theorem dX11_parallels_26 : decode cX11_parallels 26 = .ok (.iload_n 1, 1) := by decide +kernel
theorem dX11_parallels_27 : decode cX11_parallels 27 = .ok (.ifCond .le 21, 3) := by decide +kernel
theorem dX11_parallels_30 : decode cX11_parallels 30 = .ok (.aload_n 0, 1) := by decide +kernel
theorem dX11_parallels_31 : decode cX11_parallels 31 = .ok (.iload_n 1, 1) := by decide +kernel
theorem dX11_parallels_32 : decode cX11_parallels 32 = .ok (.iload 4, 2) := by decide +kernel
theorem dX11_parallels_34 : decode cX11_parallels 34 = .ok (.iload 5, 2) := by decide +kernel
theorem dX11_parallels_36 : decode cX11_parallels 36 = .ok (.invokevirtual 224, 3) := by decide +kernel
theorem dX11_parallels_39 : decode cX11_parallels 39 = .ok (.ifCond .eq 9, 3) := by decide +kernel
theorem dX11_parallels_42 : decode cX11_parallels 42 = .ok (.iconst 1, 1) := by decide +kernel
theorem dX11_parallels_43 : decode cX11_parallels 43 = .ok (.iload_n 3, 1) := by decide +kernel
theorem dX11_parallels_44 : decode cX11_parallels 44 = .ok (.ishl, 1) := by decide +kernel
theorem dX11_parallels_45 : decode cX11_parallels 45 = .ok (.goto 4, 3) := by decide +kernel
theorem dX11_parallels_48 : decode cX11_parallels 48 = .ok (.iconst 0, 1) := by decide +kernel
theorem dX11_parallels_49 : decode cX11_parallels 49 = .ok (.ior, 1) := by decide +kernel
theorem dX11_parallels_50 : decode cX11_parallels 50 = .ok (.istore_n 2, 1) := by decide +kernel
theorem dX11_parallels_51 : decode cX11_parallels 51 = .ok (.iinc 3 1, 3) := by decide +kernel
theorem dX11_parallels_54 : decode cX11_parallels 54 = .ok (.iinc 5 1, 3) := by decide +kernel
theorem dX11_parallels_57 : decode cX11_parallels 57 = .ok (.goto (-38), 3) := by decide +kernel
theorem dX11_parallels_60 : decode cX11_parallels 60 = .ok (.iinc 4 1, 3) := by decide +kernel
theorem dX11_parallels_63 : decode cX11_parallels 63 = .ok (.goto (-56), 3) := by decide +kernel
theorem dX11_parallels_66 : decode cX11_parallels 66 = .ok (.iload_n 2, 1) := by decide +kernel
theorem dX11_parallels_67 : decode cX11_parallels 67 = .ok (.ireturn, 1) := by decide +kernel
theorem dX11_place_0 : decode cX11_place 0 = .ok (.iconst 0, 1) := by decide +kernel
theorem dX11_place_1 : decode cX11_place 1 = .ok (.istore_n 2, 1) := by decide +kernel
theorem dX11_place_2 : decode cX11_place 2 = .ok (.iconst 0, 1) := by decide +kernel
theorem dX11_place_3 : decode cX11_place 3 = .ok (.istore_n 3, 1) := by decide +kernel
theorem dX11_place_4 : decode cX11_place 4 = .ok (.iload_n 3, 1) := by decide +kernel
theorem dX11_place_5 : decode cX11_place 5 = .ok (.iload_n 1, 1) := by decide +kernel
theorem dX11_place_6 : decode cX11_place 6 = .ok (.if_icmp .ge 18, 3) := by decide +kernel
theorem dX11_place_9 : decode cX11_place 9 = .ok (.iload_n 2, 1) := by decide +kernel
theorem dX11_place_10 : decode cX11_place 10 = .ok (.aload_n 0, 1) := by decide +kernel
theorem dX11_place_11 : decode cX11_place 11 = .ok (.getfield 7, 3) := by decide +kernel
theorem dX11_place_14 : decode cX11_place 14 = .ok (.iload_n 3, 1) := by decide +kernel
theorem dX11_place_15 : decode cX11_place 15 = .ok (.iaload, 1) := by decide +kernel
theorem dX11_place_16 : decode cX11_place 16 = .ok (.iadd, 1) := by decide +kernel
theorem dX11_place_17 : decode cX11_place 17 = .ok (.istore_n 2, 1) := by decide +kernel
theorem dX11_place_18 : decode cX11_place 18 = .ok (.iinc 3 1, 3) := by decide +kernel
theorem dX11_place_21 : decode cX11_place 21 = .ok (.goto (-17), 3) := by decide +kernel
theorem dX11_place_24 : decode cX11_place 24 = .ok (.iload_n 2, 1) := by decide +kernel
theorem dX11_place_25 : decode cX11_place 25 = .ok (.ireturn, 1) := by decide +kernel
theorem dX11_barOf_0 : decode cX11_barOf 0 = .ok (.aload_n 0, 1) := by decide +kernel
theorem dX11_barOf_1 : decode cX11_barOf 1 = .ok (.iload_n 1, 1) := by decide +kernel
theorem dX11_barOf_2 : decode cX11_barOf 2 = .ok (.invokevirtual 227, 3) := by decide +kernel
theorem dX11_barOf_5 : decode cX11_barOf 5 = .ok (.istore_n 2, 1) := by decide +kernel
theorem dX11_barOf_6 : decode cX11_barOf 6 = .ok (.iload_n 2, 1) := by decide +kernel
theorem dX11_barOf_7 : decode cX11_barOf 7 = .ok (.aload_n 0, 1) := by decide +kernel
theorem dX11_barOf_8 : decode cX11_barOf 8 = .ok (.getfield 143, 3) := by decide +kernel
theorem dX11_barOf_11 : decode cX11_barOf 11 = .ok (.if_icmp .ge 7, 3) := by decide +kernel
theorem dX11_barOf_14 : decode cX11_barOf 14 = .ok (.iconst 0, 1) := by decide +kernel
theorem dX11_barOf_15 : decode cX11_barOf 15 = .ok (.goto 16, 3) := by decide +kernel
theorem dX11_barOf_18 : decode cX11_barOf 18 = .ok (.iconst 1, 1) := by decide +kernel
theorem dX11_barOf_19 : decode cX11_barOf 19 = .ok (.iload_n 2, 1) := by decide +kernel
theorem dX11_barOf_20 : decode cX11_barOf 20 = .ok (.aload_n 0, 1) := by decide +kernel
theorem dX11_barOf_21 : decode cX11_barOf 21 = .ok (.getfield 143, 3) := by decide +kernel
theorem dX11_barOf_24 : decode cX11_barOf 24 = .ok (.isub, 1) := by decide +kernel
theorem dX11_barOf_25 : decode cX11_barOf 25 = .ok (.aload_n 0, 1) := by decide +kernel
theorem dX11_barOf_26 : decode cX11_barOf 26 = .ok (.getfield 32, 3) := by decide +kernel
theorem dX11_barOf_29 : decode cX11_barOf 29 = .ok (.idiv, 1) := by decide +kernel
theorem dX11_barOf_30 : decode cX11_barOf 30 = .ok (.iadd, 1) := by decide +kernel
theorem dX11_barOf_31 : decode cX11_barOf 31 = .ok (.ireturn, 1) := by decide +kernel
theorem dX11_inBar_0 : decode cX11_inBar 0 = .ok (.aload_n 0, 1) := by decide +kernel
theorem dX11_inBar_1 : decode cX11_inBar 1 = .ok (.iload_n 1, 1) := by decide +kernel
theorem dX11_inBar_2 : decode cX11_inBar 2 = .ok (.invokevirtual 227, 3) := by decide +kernel
theorem dX11_inBar_5 : decode cX11_inBar 5 = .ok (.istore_n 2, 1) := by decide +kernel
theorem dX11_inBar_6 : decode cX11_inBar 6 = .ok (.iload_n 2, 1) := by decide +kernel
theorem dX11_inBar_7 : decode cX11_inBar 7 = .ok (.aload_n 0, 1) := by decide +kernel
theorem dX11_inBar_8 : decode cX11_inBar 8 = .ok (.getfield 143, 3) := by decide +kernel
theorem dX11_inBar_11 : decode cX11_inBar 11 = .ok (.if_icmp .ge 7, 3) := by decide +kernel
theorem dX11_inBar_14 : decode cX11_inBar 14 = .ok (.iload_n 2, 1) := by decide +kernel
theorem dX11_inBar_15 : decode cX11_inBar 15 = .ok (.goto 14, 3) := by decide +kernel
theorem dX11_inBar_18 : decode cX11_inBar 18 = .ok (.iload_n 2, 1) := by decide +kernel
theorem dX11_inBar_19 : decode cX11_inBar 19 = .ok (.aload_n 0, 1) := by decide +kernel
theorem dX11_inBar_20 : decode cX11_inBar 20 = .ok (.getfield 143, 3) := by decide +kernel
theorem dX11_inBar_23 : decode cX11_inBar 23 = .ok (.isub, 1) := by decide +kernel
theorem dX11_inBar_24 : decode cX11_inBar 24 = .ok (.aload_n 0, 1) := by decide +kernel
theorem dX11_inBar_25 : decode cX11_inBar 25 = .ok (.getfield 32, 3) := by decide +kernel
theorem dX11_inBar_28 : decode cX11_inBar 28 = .ok (.irem, 1) := by decide +kernel
theorem dX11_inBar_29 : decode cX11_inBar 29 = .ok (.ireturn, 1) := by decide +kernel
theorem dX11_goesOver_0 : decode cX11_goesOver 0 = .ok (.aload_n 0, 1) := by decide +kernel
theorem dX11_goesOver_1 : decode cX11_goesOver 1 = .ok (.iload_n 1, 1) := by decide +kernel
theorem dX11_goesOver_2 : decode cX11_goesOver 2 = .ok (.invokevirtual 230, 3) := by decide +kernel
theorem dX11_goesOver_5 : decode cX11_goesOver 5 = .ok (.aload_n 0, 1) := by decide +kernel
theorem dX11_goesOver_6 : decode cX11_goesOver 6 = .ok (.getfield 7, 3) := by decide +kernel
theorem dX11_goesOver_9 : decode cX11_goesOver 9 = .ok (.iload_n 1, 1) := by decide +kernel
theorem dX11_goesOver_10 : decode cX11_goesOver 10 = .ok (.iaload, 1) := by decide +kernel
theorem dX11_goesOver_11 : decode cX11_goesOver 11 = .ok (.iadd, 1) := by decide +kernel
theorem dX11_goesOver_12 : decode cX11_goesOver 12 = .ok (.aload_n 0, 1) := by decide +kernel
theorem dX11_goesOver_13 : decode cX11_goesOver 13 = .ok (.iload_n 1, 1) := by decide +kernel
theorem dX11_goesOver_14 : decode cX11_goesOver 14 = .ok (.invokevirtual 233, 3) := by decide +kernel
theorem dX11_goesOver_17 : decode cX11_goesOver 17 = .ok (.ifCond .ne 10, 3) := by decide +kernel
theorem dX11_goesOver_20 : decode cX11_goesOver 20 = .ok (.aload_n 0, 1) := by decide +kernel
theorem dX11_goesOver_21 : decode cX11_goesOver 21 = .ok (.getfield 143, 3) := by decide +kernel
theorem dX11_goesOver_24 : decode cX11_goesOver 24 = .ok (.goto 7, 3) := by decide +kernel
theorem dX11_goesOver_27 : decode cX11_goesOver 27 = .ok (.aload_n 0, 1) := by decide +kernel
theorem dX11_goesOver_28 : decode cX11_goesOver 28 = .ok (.getfield 32, 3) := by decide +kernel
theorem dX11_goesOver_31 : decode cX11_goesOver 31 = .ok (.if_icmp .le 7, 3) := by decide +kernel
theorem dX11_goesOver_34 : decode cX11_goesOver 34 = .ok (.iconst 1, 1) := by decide +kernel
theorem dX11_goesOver_35 : decode cX11_goesOver 35 = .ok (.goto 4, 3) := by decide +kernel
theorem dX11_goesOver_38 : decode cX11_goesOver 38 = .ok (.iconst 0, 1) := by decide +kernel
theorem dX11_goesOver_39 : decode cX11_goesOver 39 = .ok (.ireturn, 1) := by decide +kernel
theorem dX11_noteNow_0 : decode cX11_noteNow 0 = .ok (.iload_n 2, 1) := by decide +kernel
theorem dX11_noteNow_1 : decode cX11_noteNow 1 = .ok (.tableswitch 122 0 7 #[47, 54, 68, 75, 89, 95, 101, 115], 47) := by decide +kernel
theorem dX11_noteNow_48 : decode cX11_noteNow 48 = .ok (.aload_n 0, 1) := by decide +kernel
theorem dX11_noteNow_49 : decode cX11_noteNow 49 = .ok (.getfield 7, 3) := by decide +kernel
theorem dX11_noteNow_52 : decode cX11_noteNow 52 = .ok (.iload_n 1, 1) := by decide +kernel
theorem dX11_noteNow_53 : decode cX11_noteNow 53 = .ok (.iaload, 1) := by decide +kernel
theorem dX11_noteNow_54 : decode cX11_noteNow 54 = .ok (.ireturn, 1) := by decide +kernel
theorem dX11_noteNow_55 : decode cX11_noteNow 55 = .ok (.aload_n 0, 1) := by decide +kernel
theorem dX11_noteNow_56 : decode cX11_noteNow 56 = .ok (.iload_n 1, 1) := by decide +kernel
theorem dX11_noteNow_57 : decode cX11_noteNow 57 = .ok (.invokevirtual 104, 3) := by decide +kernel
theorem dX11_noteNow_60 : decode cX11_noteNow 60 = .ok (.ifCond .eq 7, 3) := by decide +kernel
theorem dX11_noteNow_63 : decode cX11_noteNow 63 = .ok (.iconst 1, 1) := by decide +kernel
theorem dX11_noteNow_64 : decode cX11_noteNow 64 = .ok (.goto 4, 3) := by decide +kernel
theorem dX11_noteNow_67 : decode cX11_noteNow 67 = .ok (.iconst 0, 1) := by decide +kernel
theorem dX11_noteNow_68 : decode cX11_noteNow 68 = .ok (.ireturn, 1) := by decide +kernel
theorem dX11_noteNow_69 : decode cX11_noteNow 69 = .ok (.aload_n 0, 1) := by decide +kernel
theorem dX11_noteNow_70 : decode cX11_noteNow 70 = .ok (.getfield 60, 3) := by decide +kernel
theorem dX11_noteNow_73 : decode cX11_noteNow 73 = .ok (.iload_n 1, 1) := by decide +kernel
theorem dX11_noteNow_74 : decode cX11_noteNow 74 = .ok (.iaload, 1) := by decide +kernel
theorem dX11_noteNow_75 : decode cX11_noteNow 75 = .ok (.ireturn, 1) := by decide +kernel
theorem dX11_noteNow_76 : decode cX11_noteNow 76 = .ok (.iload_n 1, 1) := by decide +kernel
theorem dX11_noteNow_77 : decode cX11_noteNow 77 = .ok (.aload_n 0, 1) := by decide +kernel
theorem dX11_noteNow_78 : decode cX11_noteNow 78 = .ok (.getfield 54, 3) := by decide +kernel
theorem dX11_noteNow_81 : decode cX11_noteNow 81 = .ok (.aload_n 0, 1) := by decide +kernel
theorem dX11_noteNow_82 : decode cX11_noteNow 82 = .ok (.getfield 60, 3) := by decide +kernel
theorem dX11_noteNow_85 : decode cX11_noteNow 85 = .ok (.iload_n 1, 1) := by decide +kernel
theorem dX11_noteNow_86 : decode cX11_noteNow 86 = .ok (.iaload, 1) := by decide +kernel
theorem dX11_noteNow_87 : decode cX11_noteNow 87 = .ok (.iaload, 1) := by decide +kernel
theorem dX11_noteNow_88 : decode cX11_noteNow 88 = .ok (.isub, 1) := by decide +kernel
theorem dX11_noteNow_89 : decode cX11_noteNow 89 = .ok (.ireturn, 1) := by decide +kernel
theorem dX11_noteNow_90 : decode cX11_noteNow 90 = .ok (.aload_n 0, 1) := by decide +kernel
theorem dX11_noteNow_91 : decode cX11_noteNow 91 = .ok (.iload_n 1, 1) := by decide +kernel
theorem dX11_noteNow_92 : decode cX11_noteNow 92 = .ok (.invokevirtual 233, 3) := by decide +kernel
theorem dX11_noteNow_95 : decode cX11_noteNow 95 = .ok (.ireturn, 1) := by decide +kernel
theorem dX11_noteNow_96 : decode cX11_noteNow 96 = .ok (.aload_n 0, 1) := by decide +kernel
theorem dX11_noteNow_97 : decode cX11_noteNow 97 = .ok (.iload_n 1, 1) := by decide +kernel
theorem dX11_noteNow_98 : decode cX11_noteNow 98 = .ok (.invokevirtual 230, 3) := by decide +kernel
theorem dX11_noteNow_101 : decode cX11_noteNow 101 = .ok (.ireturn, 1) := by decide +kernel
theorem dX11_noteNow_102 : decode cX11_noteNow 102 = .ok (.aload_n 0, 1) := by decide +kernel
theorem dX11_noteNow_103 : decode cX11_noteNow 103 = .ok (.iload_n 1, 1) := by decide +kernel
theorem dX11_noteNow_104 : decode cX11_noteNow 104 = .ok (.invokevirtual 236, 3) := by decide +kernel
theorem dX11_noteNow_107 : decode cX11_noteNow 107 = .ok (.ifCond .eq 7, 3) := by decide +kernel
theorem dX11_noteNow_110 : decode cX11_noteNow 110 = .ok (.iconst 1, 1) := by decide +kernel
theorem dX11_noteNow_111 : decode cX11_noteNow 111 = .ok (.goto 4, 3) := by decide +kernel
theorem dX11_noteNow_114 : decode cX11_noteNow 114 = .ok (.iconst 0, 1) := by decide +kernel
theorem dX11_noteNow_115 : decode cX11_noteNow 115 = .ok (.ireturn, 1) := by decide +kernel
theorem dX11_noteNow_116 : decode cX11_noteNow 116 = .ok (.aload_n 0, 1) := by decide +kernel
theorem dX11_noteNow_117 : decode cX11_noteNow 117 = .ok (.getfield 66, 3) := by decide +kernel
theorem dX11_noteNow_120 : decode cX11_noteNow 120 = .ok (.iload_n 1, 1) := by decide +kernel
theorem dX11_noteNow_121 : decode cX11_noteNow 121 = .ok (.iaload, 1) := by decide +kernel
theorem dX11_noteNow_122 : decode cX11_noteNow 122 = .ok (.ireturn, 1) := by decide +kernel
theorem dX11_noteNow_123 : decode cX11_noteNow 123 = .ok (.aload_n 0, 1) := by decide +kernel
theorem dX11_noteNow_124 : decode cX11_noteNow 124 = .ok (.iload_n 1, 1) := by decide +kernel
theorem dX11_noteNow_125 : decode cX11_noteNow 125 = .ok (.invokevirtual 239, 3) := by decide +kernel
theorem dX11_noteNow_128 : decode cX11_noteNow 128 = .ok (.ireturn, 1) := by decide +kernel
theorem dX11_note_0 : decode cX11_note 0 = .ok (.aload_n 0, 1) := by decide +kernel
theorem dX11_note_1 : decode cX11_note 1 = .ok (.aload_n 0, 1) := by decide +kernel
theorem dX11_note_2 : decode cX11_note 2 = .ok (.iload_n 1, 1) := by decide +kernel
theorem dX11_note_3 : decode cX11_note 3 = .ok (.invokevirtual 152, 3) := by decide +kernel
theorem dX11_note_6 : decode cX11_note 6 = .ok (.ifCond .ne 7, 3) := by decide +kernel
theorem dX11_note_9 : decode cX11_note 9 = .ok (.iconst 1, 1) := by decide +kernel
theorem dX11_note_10 : decode cX11_note 10 = .ok (.goto 18, 3) := by decide +kernel
theorem dX11_note_13 : decode cX11_note 13 = .ok (.iload_n 2, 1) := by decide +kernel
theorem dX11_note_14 : decode cX11_note 14 = .ok (.iconst 0, 1) := by decide +kernel
theorem dX11_note_15 : decode cX11_note 15 = .ok (.bipush 8, 2) := by decide +kernel
theorem dX11_note_17 : decode cX11_note 17 = .ok (.invokestatic 84, 3) := by decide +kernel
theorem dX11_note_20 : decode cX11_note 20 = .ok (.ifCond .eq 7, 3) := by decide +kernel
theorem dX11_note_23 : decode cX11_note 23 = .ok (.iconst 0, 1) := by decide +kernel
theorem dX11_note_24 : decode cX11_note 24 = .ok (.goto 4, 3) := by decide +kernel
theorem dX11_note_27 : decode cX11_note 27 = .ok (.iconst 2, 1) := by decide +kernel
theorem dX11_note_28 : decode cX11_note 28 = .ok (.putfield 78, 3) := by decide +kernel
theorem dX11_note_31 : decode cX11_note 31 = .ok (.aload_n 0, 1) := by decide +kernel
theorem dX11_note_32 : decode cX11_note 32 = .ok (.getfield 78, 3) := by decide +kernel
theorem dX11_note_35 : decode cX11_note 35 = .ok (.ifCond .le 5, 3) := by decide +kernel
theorem dX11_note_38 : decode cX11_note 38 = .ok (.iconst 0, 1) := by decide +kernel
theorem dX11_note_39 : decode cX11_note 39 = .ok (.ireturn, 1) := by decide +kernel
theorem dX11_note_40 : decode cX11_note 40 = .ok (.aload_n 0, 1) := by decide +kernel
theorem dX11_note_41 : decode cX11_note 41 = .ok (.invokevirtual 165, 3) := by decide +kernel
theorem dX11_note_44 : decode cX11_note 44 = .ok (.aload_n 0, 1) := by decide +kernel
theorem dX11_note_45 : decode cX11_note 45 = .ok (.iload_n 1, 1) := by decide +kernel
theorem dX11_note_46 : decode cX11_note 46 = .ok (.iload_n 2, 1) := by decide +kernel
theorem dX11_note_47 : decode cX11_note 47 = .ok (.invokevirtual 242, 3) := by decide +kernel
theorem dX11_note_50 : decode cX11_note 50 = .ok (.ireturn, 1) := by decide +kernel
theorem dX11_shape_0 : decode cX11_shape 0 = .ok (.aload_n 0, 1) := by decide +kernel
theorem dX11_shape_1 : decode cX11_shape 1 = .ok (.iload_n 1, 1) := by decide +kernel
theorem dX11_shape_2 : decode cX11_shape 2 = .ok (.invokevirtual 215, 3) := by decide +kernel
theorem dX11_shape_5 : decode cX11_shape 5 = .ok (.istore_n 2, 1) := by decide +kernel
theorem dX11_shape_6 : decode cX11_shape 6 = .ok (.aload_n 0, 1) := by decide +kernel
theorem dX11_shape_7 : decode cX11_shape 7 = .ok (.iload_n 1, 1) := by decide +kernel
theorem dX11_shape_8 : decode cX11_shape 8 = .ok (.invokevirtual 209, 3) := by decide +kernel
theorem dX11_shape_11 : decode cX11_shape 11 = .ok (.ifCond .eq 7, 3) := by decide +kernel
theorem dX11_shape_14 : decode cX11_shape 14 = .ok (.iconst (-1), 1) := by decide +kernel
theorem dX11_shape_15 : decode cX11_shape 15 = .ok (.goto 16, 3) := by decide +kernel
theorem dX11_shape_18 : decode cX11_shape 18 = .ok (.iload_n 2, 1) := by decide +kernel
theorem dX11_shape_19 : decode cX11_shape 19 = .ok (.bipush 6, 2) := by decide +kernel
theorem dX11_shape_21 : decode cX11_shape 21 = .ok (.if_icmp .ne 7, 3) := by decide +kernel
theorem dX11_shape_24 : decode cX11_shape 24 = .ok (.iconst 3, 1) := by decide +kernel
theorem dX11_shape_25 : decode cX11_shape 25 = .ok (.goto 6, 3) := by decide +kernel
theorem dX11_shape_28 : decode cX11_shape 28 = .ok (.iload_n 2, 1) := by decide +kernel
theorem dX11_shape_29 : decode cX11_shape 29 = .ok (.iconst 3, 1) := by decide +kernel
theorem dX11_shape_30 : decode cX11_shape 30 = .ok (.irem, 1) := by decide +kernel
theorem dX11_shape_31 : decode cX11_shape 31 = .ok (.ireturn, 1) := by decide +kernel
theorem dX11_partNow_0 : decode cX11_partNow 0 = .ok (.aload_n 0, 1) := by decide +kernel
theorem dX11_partNow_1 : decode cX11_partNow 1 = .ok (.iload_n 1, 1) := by decide +kernel
theorem dX11_partNow_2 : decode cX11_partNow 2 = .ok (.iload_n 2, 1) := by decide +kernel
theorem dX11_partNow_3 : decode cX11_partNow 3 = .ok (.invokevirtual 221, 3) := by decide +kernel
theorem dX11_partNow_6 : decode cX11_partNow 6 = .ok (.istore 4, 2) := by decide +kernel
theorem dX11_partNow_8 : decode cX11_partNow 8 = .ok (.iload_n 3, 1) := by decide +kernel
theorem dX11_partNow_9 : decode cX11_partNow 9 = .ok (.tableswitch 74 0 4 #[35, 38, 45, 52, 67], 35) := by decide +kernel
theorem dX11_partNow_44 : decode cX11_partNow 44 = .ok (.iload 4, 2) := by decide +kernel
theorem dX11_partNow_46 : decode cX11_partNow 46 = .ok (.ireturn, 1) := by decide +kernel
theorem dX11_partNow_47 : decode cX11_partNow 47 = .ok (.aload_n 0, 1) := by decide +kernel
theorem dX11_partNow_48 : decode cX11_partNow 48 = .ok (.iload 4, 2) := by decide +kernel
theorem dX11_partNow_50 : decode cX11_partNow 50 = .ok (.invokevirtual 215, 3) := by decide +kernel
theorem dX11_partNow_53 : decode cX11_partNow 53 = .ok (.ireturn, 1) := by decide +kernel
theorem dX11_partNow_54 : decode cX11_partNow 54 = .ok (.aload_n 0, 1) := by decide +kernel
theorem dX11_partNow_55 : decode cX11_partNow 55 = .ok (.iload 4, 2) := by decide +kernel
theorem dX11_partNow_57 : decode cX11_partNow 57 = .ok (.invokevirtual 218, 3) := by decide +kernel
theorem dX11_partNow_60 : decode cX11_partNow 60 = .ok (.ireturn, 1) := by decide +kernel
theorem dX11_partNow_61 : decode cX11_partNow 61 = .ok (.aload_n 0, 1) := by decide +kernel
theorem dX11_partNow_62 : decode cX11_partNow 62 = .ok (.iload 4, 2) := by decide +kernel
theorem dX11_partNow_64 : decode cX11_partNow 64 = .ok (.invokevirtual 209, 3) := by decide +kernel
theorem dX11_partNow_67 : decode cX11_partNow 67 = .ok (.ifCond .eq 7, 3) := by decide +kernel
theorem dX11_partNow_70 : decode cX11_partNow 70 = .ok (.iconst 1, 1) := by decide +kernel
theorem dX11_partNow_71 : decode cX11_partNow 71 = .ok (.goto 4, 3) := by decide +kernel
theorem dX11_partNow_74 : decode cX11_partNow 74 = .ok (.iconst 0, 1) := by decide +kernel
theorem dX11_partNow_75 : decode cX11_partNow 75 = .ok (.ireturn, 1) := by decide +kernel
theorem dX11_partNow_76 : decode cX11_partNow 76 = .ok (.aload_n 0, 1) := by decide +kernel
theorem dX11_partNow_77 : decode cX11_partNow 77 = .ok (.iload 4, 2) := by decide +kernel
theorem dX11_partNow_79 : decode cX11_partNow 79 = .ok (.invokevirtual 245, 3) := by decide +kernel
theorem dX11_partNow_82 : decode cX11_partNow 82 = .ok (.ireturn, 1) := by decide +kernel
theorem dX11_partNow_83 : decode cX11_partNow 83 = .ok (.aload_n 0, 1) := by decide +kernel
theorem dX11_partNow_84 : decode cX11_partNow 84 = .ok (.iload_n 2, 1) := by decide +kernel
theorem dX11_partNow_85 : decode cX11_partNow 85 = .ok (.iload 4, 2) := by decide +kernel
theorem dX11_partNow_87 : decode cX11_partNow 87 = .ok (.invokevirtual 248, 3) := by decide +kernel
theorem dX11_partNow_90 : decode cX11_partNow 90 = .ok (.ireturn, 1) := by decide +kernel
theorem dX11_part_0 : decode cX11_part 0 = .ok (.aload_n 0, 1) := by decide +kernel
theorem dX11_part_1 : decode cX11_part 1 = .ok (.aload_n 0, 1) := by decide +kernel
theorem dX11_part_2 : decode cX11_part 2 = .ok (.iload_n 1, 1) := by decide +kernel
theorem dX11_part_3 : decode cX11_part 3 = .ok (.iload_n 2, 1) := by decide +kernel
theorem dX11_part_4 : decode cX11_part 4 = .ok (.invokevirtual 155, 3) := by decide +kernel
theorem dX11_part_7 : decode cX11_part 7 = .ok (.ifCond .ne 7, 3) := by decide +kernel
theorem dX11_part_10 : decode cX11_part 10 = .ok (.iconst 1, 1) := by decide +kernel
theorem dX11_part_11 : decode cX11_part 11 = .ok (.goto 17, 3) := by decide +kernel
theorem dX11_part_14 : decode cX11_part 14 = .ok (.iload_n 3, 1) := by decide +kernel
theorem dX11_part_15 : decode cX11_part 15 = .ok (.iconst 0, 1) := by decide +kernel
theorem dX11_part_16 : decode cX11_part 16 = .ok (.iconst 5, 1) := by decide +kernel
theorem dX11_part_17 : decode cX11_part 17 = .ok (.invokestatic 84, 3) := by decide +kernel
theorem dX11_part_20 : decode cX11_part 20 = .ok (.ifCond .eq 7, 3) := by decide +kernel
theorem dX11_part_23 : decode cX11_part 23 = .ok (.iconst 0, 1) := by decide +kernel
theorem dX11_part_24 : decode cX11_part 24 = .ok (.goto 4, 3) := by decide +kernel
theorem dX11_part_27 : decode cX11_part 27 = .ok (.iconst 2, 1) := by decide +kernel
theorem dX11_part_28 : decode cX11_part 28 = .ok (.putfield 78, 3) := by decide +kernel
theorem dX11_part_31 : decode cX11_part 31 = .ok (.aload_n 0, 1) := by decide +kernel
theorem dX11_part_32 : decode cX11_part 32 = .ok (.getfield 78, 3) := by decide +kernel
theorem dX11_part_35 : decode cX11_part 35 = .ok (.ifCond .le 7, 3) := by decide +kernel
theorem dX11_part_38 : decode cX11_part 38 = .ok (.iconst 0, 1) := by decide +kernel
theorem dX11_part_39 : decode cX11_part 39 = .ok (.goto 10, 3) := by decide +kernel
theorem dX11_part_42 : decode cX11_part 42 = .ok (.aload_n 0, 1) := by decide +kernel
theorem dX11_part_43 : decode cX11_part 43 = .ok (.iload_n 1, 1) := by decide +kernel
theorem dX11_part_44 : decode cX11_part 44 = .ok (.iload_n 2, 1) := by decide +kernel
theorem dX11_part_45 : decode cX11_part 45 = .ok (.iload_n 3, 1) := by decide +kernel
theorem dX11_part_46 : decode cX11_part 46 = .ok (.invokevirtual 251, 3) := by decide +kernel
theorem dX11_part_49 : decode cX11_part 49 = .ok (.ireturn, 1) := by decide +kernel
theorem dX11_heads_0 : decode cX11_heads 0 = .ok (.aload_n 0, 1) := by decide +kernel
theorem dX11_heads_1 : decode cX11_heads 1 = .ok (.aload_n 0, 1) := by decide +kernel
theorem dX11_heads_2 : decode cX11_heads 2 = .ok (.iload_n 1, 1) := by decide +kernel
theorem dX11_heads_3 : decode cX11_heads 3 = .ok (.invokevirtual 152, 3) := by decide +kernel
theorem dX11_heads_6 : decode cX11_heads 6 = .ok (.ifCond .eq 16, 3) := by decide +kernel
theorem dX11_heads_9 : decode cX11_heads 9 = .ok (.iload_n 2, 1) := by decide +kernel
theorem dX11_heads_10 : decode cX11_heads 10 = .ok (.iconst 0, 1) := by decide +kernel
theorem dX11_heads_11 : decode cX11_heads 11 = .ok (.iconst 1, 1) := by decide +kernel
theorem dX11_heads_12 : decode cX11_heads 12 = .ok (.invokestatic 84, 3) := by decide +kernel
theorem dX11_heads_15 : decode cX11_heads 15 = .ok (.ifCond .eq 7, 3) := by decide +kernel
theorem dX11_heads_18 : decode cX11_heads 18 = .ok (.iconst 0, 1) := by decide +kernel
theorem dX11_heads_19 : decode cX11_heads 19 = .ok (.goto 4, 3) := by decide +kernel
theorem dX11_heads_22 : decode cX11_heads 22 = .ok (.iconst 1, 1) := by decide +kernel
theorem dX11_heads_23 : decode cX11_heads 23 = .ok (.putfield 78, 3) := by decide +kernel
theorem dX11_heads_26 : decode cX11_heads 26 = .ok (.aload_n 0, 1) := by decide +kernel
theorem dX11_heads_27 : decode cX11_heads 27 = .ok (.getfield 78, 3) := by decide +kernel
theorem dX11_heads_30 : decode cX11_heads 30 = .ok (.ifCond .le 7, 3) := by decide +kernel
theorem dX11_heads_33 : decode cX11_heads 33 = .ok (.iconst 0, 1) := by decide +kernel
theorem dX11_heads_34 : decode cX11_heads 34 = .ok (.goto 9, 3) := by decide +kernel
theorem dX11_heads_37 : decode cX11_heads 37 = .ok (.aload_n 0, 1) := by decide +kernel
theorem dX11_heads_38 : decode cX11_heads 38 = .ok (.iload_n 1, 1) := by decide +kernel
theorem dX11_heads_39 : decode cX11_heads 39 = .ok (.iload_n 2, 1) := by decide +kernel
theorem dX11_heads_40 : decode cX11_heads 40 = .ok (.invokevirtual 255, 3) := by decide +kernel
theorem dX11_heads_43 : decode cX11_heads 43 = .ok (.ireturn, 1) := by decide +kernel
theorem dX11_timesSung_0 : decode cX11_timesSung 0 = .ok (.iconst 0, 1) := by decide +kernel
theorem dX11_timesSung_1 : decode cX11_timesSung 1 = .ok (.istore_n 2, 1) := by decide +kernel
theorem dX11_timesSung_2 : decode cX11_timesSung 2 = .ok (.iconst 0, 1) := by decide +kernel
theorem dX11_timesSung_3 : decode cX11_timesSung 3 = .ok (.istore_n 3, 1) := by decide +kernel
theorem dX11_timesSung_4 : decode cX11_timesSung 4 = .ok (.iload_n 3, 1) := by decide +kernel
theorem dX11_timesSung_5 : decode cX11_timesSung 5 = .ok (.aload_n 0, 1) := by decide +kernel
theorem dX11_timesSung_6 : decode cX11_timesSung 6 = .ok (.getfield 91, 3) := by decide +kernel
theorem dX11_timesSung_9 : decode cX11_timesSung 9 = .ok (.if_icmp .ge 27, 3) := by decide +kernel
theorem dX11_timesSung_12 : decode cX11_timesSung 12 = .ok (.iload_n 2, 1) := by decide +kernel
theorem dX11_timesSung_13 : decode cX11_timesSung 13 = .ok (.aload_n 0, 1) := by decide +kernel
theorem dX11_timesSung_14 : decode cX11_timesSung 14 = .ok (.getfield 63, 3) := by decide +kernel
theorem dX11_timesSung_17 : decode cX11_timesSung 17 = .ok (.iload_n 3, 1) := by decide +kernel
theorem dX11_timesSung_18 : decode cX11_timesSung 18 = .ok (.iaload, 1) := by decide +kernel
theorem dX11_timesSung_19 : decode cX11_timesSung 19 = .ok (.iload_n 1, 1) := by decide +kernel
theorem dX11_timesSung_20 : decode cX11_timesSung 20 = .ok (.if_icmp .ne 7, 3) := by decide +kernel
theorem dX11_timesSung_23 : decode cX11_timesSung 23 = .ok (.iconst 1, 1) := by decide +kernel
theorem dX11_timesSung_24 : decode cX11_timesSung 24 = .ok (.goto 4, 3) := by decide +kernel
theorem dX11_timesSung_27 : decode cX11_timesSung 27 = .ok (.iconst 0, 1) := by decide +kernel
theorem dX11_timesSung_28 : decode cX11_timesSung 28 = .ok (.iadd, 1) := by decide +kernel
theorem dX11_timesSung_29 : decode cX11_timesSung 29 = .ok (.istore_n 2, 1) := by decide +kernel
theorem dX11_timesSung_30 : decode cX11_timesSung 30 = .ok (.iinc 3 1, 3) := by decide +kernel
theorem dX11_timesSung_33 : decode cX11_timesSung 33 = .ok (.goto (-29), 3) := by decide +kernel
theorem dX11_timesSung_36 : decode cX11_timesSung 36 = .ok (.iload_n 2, 1) := by decide +kernel
theorem dX11_timesSung_37 : decode cX11_timesSung 37 = .ok (.ireturn, 1) := by decide +kernel
theorem dX11_phraseNow_0 : decode cX11_phraseNow 0 = .ok (.iload_n 2, 1) := by decide +kernel
theorem dX11_phraseNow_1 : decode cX11_phraseNow 1 = .ok (.tableswitch 69 0 4 #[35, 42, 49, 55, 62], 35) := by decide +kernel
theorem dX11_phraseNow_36 : decode cX11_phraseNow 36 = .ok (.aload_n 0, 1) := by decide +kernel
theorem dX11_phraseNow_37 : decode cX11_phraseNow 37 = .ok (.getfield 54, 3) := by decide +kernel
theorem dX11_phraseNow_40 : decode cX11_phraseNow 40 = .ok (.iload_n 1, 1) := by decide +kernel
theorem dX11_phraseNow_41 : decode cX11_phraseNow 41 = .ok (.iaload, 1) := by decide +kernel
theorem dX11_phraseNow_42 : decode cX11_phraseNow 42 = .ok (.ireturn, 1) := by decide +kernel
theorem dX11_phraseNow_43 : decode cX11_phraseNow 43 = .ok (.aload_n 0, 1) := by decide +kernel
theorem dX11_phraseNow_44 : decode cX11_phraseNow 44 = .ok (.getfield 57, 3) := by decide +kernel
theorem dX11_phraseNow_47 : decode cX11_phraseNow 47 = .ok (.iload_n 1, 1) := by decide +kernel
theorem dX11_phraseNow_48 : decode cX11_phraseNow 48 = .ok (.iaload, 1) := by decide +kernel
theorem dX11_phraseNow_49 : decode cX11_phraseNow 49 = .ok (.ireturn, 1) := by decide +kernel
theorem dX11_phraseNow_50 : decode cX11_phraseNow 50 = .ok (.aload_n 0, 1) := by decide +kernel
theorem dX11_phraseNow_51 : decode cX11_phraseNow 51 = .ok (.iload_n 1, 1) := by decide +kernel
theorem dX11_phraseNow_52 : decode cX11_phraseNow 52 = .ok (.invokevirtual 121, 3) := by decide +kernel
theorem dX11_phraseNow_55 : decode cX11_phraseNow 55 = .ok (.ireturn, 1) := by decide +kernel
theorem dX11_phraseNow_56 : decode cX11_phraseNow 56 = .ok (.aload_n 0, 1) := by decide +kernel
theorem dX11_phraseNow_57 : decode cX11_phraseNow 57 = .ok (.getfield 69, 3) := by decide +kernel
theorem dX11_phraseNow_60 : decode cX11_phraseNow 60 = .ok (.iload_n 1, 1) := by decide +kernel
theorem dX11_phraseNow_61 : decode cX11_phraseNow 61 = .ok (.iaload, 1) := by decide +kernel
theorem dX11_phraseNow_62 : decode cX11_phraseNow 62 = .ok (.ireturn, 1) := by decide +kernel
theorem dX11_phraseNow_63 : decode cX11_phraseNow 63 = .ok (.aload_n 0, 1) := by decide +kernel
theorem dX11_phraseNow_64 : decode cX11_phraseNow 64 = .ok (.getfield 72, 3) := by decide +kernel
theorem dX11_phraseNow_67 : decode cX11_phraseNow 67 = .ok (.iload_n 1, 1) := by decide +kernel
theorem dX11_phraseNow_68 : decode cX11_phraseNow 68 = .ok (.iaload, 1) := by decide +kernel
theorem dX11_phraseNow_69 : decode cX11_phraseNow 69 = .ok (.ireturn, 1) := by decide +kernel
theorem dX11_phraseNow_70 : decode cX11_phraseNow 70 = .ok (.aload_n 0, 1) := by decide +kernel
theorem dX11_phraseNow_71 : decode cX11_phraseNow 71 = .ok (.iload_n 1, 1) := by decide +kernel
theorem dX11_phraseNow_72 : decode cX11_phraseNow 72 = .ok (.invokevirtual 258, 3) := by decide +kernel
theorem dX11_phraseNow_75 : decode cX11_phraseNow 75 = .ok (.ireturn, 1) := by decide +kernel
theorem dX11_phrase_0 : decode cX11_phrase 0 = .ok (.aload_n 0, 1) := by decide +kernel
theorem dX11_phrase_1 : decode cX11_phrase 1 = .ok (.invokevirtual 165, 3) := by decide +kernel
theorem dX11_phrase_4 : decode cX11_phrase 4 = .ok (.aload_n 0, 1) := by decide +kernel
theorem dX11_phrase_5 : decode cX11_phrase 5 = .ok (.iload_n 1, 1) := by decide +kernel
theorem dX11_phrase_6 : decode cX11_phrase 6 = .ok (.iconst 0, 1) := by decide +kernel
theorem dX11_phrase_7 : decode cX11_phrase 7 = .ok (.aload_n 0, 1) := by decide +kernel
theorem dX11_phrase_8 : decode cX11_phrase 8 = .ok (.getfield 88, 3) := by decide +kernel
theorem dX11_phrase_11 : decode cX11_phrase 11 = .ok (.iconst 1, 1) := by decide +kernel
theorem dX11_phrase_12 : decode cX11_phrase 12 = .ok (.isub, 1) := by decide +kernel
theorem dX11_phrase_13 : decode cX11_phrase 13 = .ok (.invokestatic 84, 3) := by decide +kernel
theorem dX11_phrase_16 : decode cX11_phrase 16 = .ok (.ifCond .ne 7, 3) := by decide +kernel
theorem dX11_phrase_19 : decode cX11_phrase 19 = .ok (.iconst 1, 1) := by decide +kernel
theorem dX11_phrase_20 : decode cX11_phrase 20 = .ok (.goto 17, 3) := by decide +kernel
theorem dX11_phrase_23 : decode cX11_phrase 23 = .ok (.iload_n 2, 1) := by decide +kernel
theorem dX11_phrase_24 : decode cX11_phrase 24 = .ok (.iconst 0, 1) := by decide +kernel
theorem dX11_phrase_25 : decode cX11_phrase 25 = .ok (.iconst 5, 1) := by decide +kernel
theorem dX11_phrase_26 : decode cX11_phrase 26 = .ok (.invokestatic 84, 3) := by decide +kernel
theorem dX11_phrase_29 : decode cX11_phrase 29 = .ok (.ifCond .eq 7, 3) := by decide +kernel
theorem dX11_phrase_32 : decode cX11_phrase 32 = .ok (.iconst 0, 1) := by decide +kernel
theorem dX11_phrase_33 : decode cX11_phrase 33 = .ok (.goto 4, 3) := by decide +kernel
theorem dX11_phrase_36 : decode cX11_phrase 36 = .ok (.iconst 2, 1) := by decide +kernel
theorem dX11_phrase_37 : decode cX11_phrase 37 = .ok (.putfield 78, 3) := by decide +kernel
theorem dX11_phrase_40 : decode cX11_phrase 40 = .ok (.aload_n 0, 1) := by decide +kernel
theorem dX11_phrase_41 : decode cX11_phrase 41 = .ok (.getfield 78, 3) := by decide +kernel
theorem dX11_phrase_44 : decode cX11_phrase 44 = .ok (.ifCond .le 7, 3) := by decide +kernel
theorem dX11_phrase_47 : decode cX11_phrase 47 = .ok (.iconst 0, 1) := by decide +kernel
theorem dX11_phrase_48 : decode cX11_phrase 48 = .ok (.goto 9, 3) := by decide +kernel
theorem dX11_phrase_51 : decode cX11_phrase 51 = .ok (.aload_n 0, 1) := by decide +kernel
theorem dX11_phrase_52 : decode cX11_phrase 52 = .ok (.iload_n 1, 1) := by decide +kernel
theorem dX11_phrase_53 : decode cX11_phrase 53 = .ok (.iload_n 2, 1) := by decide +kernel
theorem dX11_phrase_54 : decode cX11_phrase 54 = .ok (.invokevirtual 261, 3) := by decide +kernel
theorem dX11_phrase_57 : decode cX11_phrase 57 = .ok (.ireturn, 1) := by decide +kernel
theorem dX11_sung_0 : decode cX11_sung 0 = .ok (.aload_n 0, 1) := by decide +kernel
theorem dX11_sung_1 : decode cX11_sung 1 = .ok (.invokevirtual 131, 3) := by decide +kernel
theorem dX11_sung_4 : decode cX11_sung 4 = .ok (.aload_n 0, 1) := by decide +kernel
theorem dX11_sung_5 : decode cX11_sung 5 = .ok (.iload_n 1, 1) := by decide +kernel
theorem dX11_sung_6 : decode cX11_sung 6 = .ok (.iconst 0, 1) := by decide +kernel
theorem dX11_sung_7 : decode cX11_sung 7 = .ok (.aload_n 0, 1) := by decide +kernel
theorem dX11_sung_8 : decode cX11_sung 8 = .ok (.getfield 91, 3) := by decide +kernel
theorem dX11_sung_11 : decode cX11_sung 11 = .ok (.iconst 1, 1) := by decide +kernel
theorem dX11_sung_12 : decode cX11_sung 12 = .ok (.isub, 1) := by decide +kernel
theorem dX11_sung_13 : decode cX11_sung 13 = .ok (.invokestatic 84, 3) := by decide +kernel
theorem dX11_sung_16 : decode cX11_sung 16 = .ok (.ifCond .eq 7, 3) := by decide +kernel
theorem dX11_sung_19 : decode cX11_sung 19 = .ok (.iconst 0, 1) := by decide +kernel
theorem dX11_sung_20 : decode cX11_sung 20 = .ok (.goto 4, 3) := by decide +kernel
theorem dX11_sung_23 : decode cX11_sung 23 = .ok (.iconst 1, 1) := by decide +kernel
theorem dX11_sung_24 : decode cX11_sung 24 = .ok (.putfield 78, 3) := by decide +kernel
theorem dX11_sung_27 : decode cX11_sung 27 = .ok (.aload_n 0, 1) := by decide +kernel
theorem dX11_sung_28 : decode cX11_sung 28 = .ok (.getfield 78, 3) := by decide +kernel
theorem dX11_sung_31 : decode cX11_sung 31 = .ok (.ifCond .le 7, 3) := by decide +kernel
theorem dX11_sung_34 : decode cX11_sung 34 = .ok (.iconst 0, 1) := by decide +kernel
theorem dX11_sung_35 : decode cX11_sung 35 = .ok (.goto 9, 3) := by decide +kernel
theorem dX11_sung_38 : decode cX11_sung 38 = .ok (.aload_n 0, 1) := by decide +kernel
theorem dX11_sung_39 : decode cX11_sung 39 = .ok (.getfield 63, 3) := by decide +kernel
theorem dX11_sung_42 : decode cX11_sung 42 = .ok (.iload_n 1, 1) := by decide +kernel
theorem dX11_sung_43 : decode cX11_sung 43 = .ok (.iaload, 1) := by decide +kernel
theorem dX11_sung_44 : decode cX11_sung 44 = .ok (.ireturn, 1) := by decide +kernel
theorem dX11_fit_0 : decode cX11_fit 0 = .ok (.aload_n 0, 1) := by decide +kernel
theorem dX11_fit_1 : decode cX11_fit 1 = .ok (.iload_n 1, 1) := by decide +kernel
theorem dX11_fit_2 : decode cX11_fit 2 = .ok (.iconst 0, 1) := by decide +kernel
theorem dX11_fit_3 : decode cX11_fit 3 = .ok (.iconst 3, 1) := by decide +kernel
theorem dX11_fit_4 : decode cX11_fit 4 = .ok (.invokestatic 84, 3) := by decide +kernel
theorem dX11_fit_7 : decode cX11_fit 7 = .ok (.ifCond .eq 7, 3) := by decide +kernel
theorem dX11_fit_10 : decode cX11_fit 10 = .ok (.iconst 0, 1) := by decide +kernel
theorem dX11_fit_11 : decode cX11_fit 11 = .ok (.goto 4, 3) := by decide +kernel
theorem dX11_fit_14 : decode cX11_fit 14 = .ok (.iconst 1, 1) := by decide +kernel
theorem dX11_fit_15 : decode cX11_fit 15 = .ok (.putfield 78, 3) := by decide +kernel
theorem dX11_fit_18 : decode cX11_fit 18 = .ok (.aload_n 0, 1) := by decide +kernel
theorem dX11_fit_19 : decode cX11_fit 19 = .ok (.getfield 78, 3) := by decide +kernel
theorem dX11_fit_22 : decode cX11_fit 22 = .ok (.ifCond .le 5, 3) := by decide +kernel
theorem dX11_fit_25 : decode cX11_fit 25 = .ok (.iconst 0, 1) := by decide +kernel
theorem dX11_fit_26 : decode cX11_fit 26 = .ok (.ireturn, 1) := by decide +kernel
theorem dX11_fit_27 : decode cX11_fit 27 = .ok (.aload_n 0, 1) := by decide +kernel
theorem dX11_fit_28 : decode cX11_fit 28 = .ok (.invokevirtual 131, 3) := by decide +kernel
theorem dX11_fit_31 : decode cX11_fit 31 = .ok (.aload_n 0, 1) := by decide +kernel
theorem dX11_fit_32 : decode cX11_fit 32 = .ok (.iload_n 1, 1) := by decide +kernel
theorem dX11_fit_33 : decode cX11_fit 33 = .ok (.invokevirtual 264, 3) := by decide +kernel
theorem dX11_fit_36 : decode cX11_fit 36 = .ok (.ireturn, 1) := by decide +kernel
theorem dX11_lineNow_0 : decode cX11_lineNow 0 = .ok (.iload_n 2, 1) := by decide +kernel
theorem dX11_lineNow_1 : decode cX11_lineNow 1 = .ok (.iconst 2, 1) := by decide +kernel
theorem dX11_lineNow_2 : decode cX11_lineNow 2 = .ok (.if_icmp .ne 11, 3) := by decide +kernel
theorem dX11_lineNow_5 : decode cX11_lineNow 5 = .ok (.aload_n 0, 1) := by decide +kernel
theorem dX11_lineNow_6 : decode cX11_lineNow 6 = .ok (.iload_n 1, 1) := by decide +kernel
theorem dX11_lineNow_7 : decode cX11_lineNow 7 = .ok (.invokevirtual 267, 3) := by decide +kernel
theorem dX11_lineNow_10 : decode cX11_lineNow 10 = .ok (.goto 9, 3) := by decide +kernel
theorem dX11_lineNow_13 : decode cX11_lineNow 13 = .ok (.aload_n 0, 1) := by decide +kernel
theorem dX11_lineNow_14 : decode cX11_lineNow 14 = .ok (.iload_n 1, 1) := by decide +kernel
theorem dX11_lineNow_15 : decode cX11_lineNow 15 = .ok (.iload_n 2, 1) := by decide +kernel
theorem dX11_lineNow_16 : decode cX11_lineNow 16 = .ok (.invokevirtual 118, 3) := by decide +kernel
theorem dX11_lineNow_19 : decode cX11_lineNow 19 = .ok (.ireturn, 1) := by decide +kernel
theorem dX11_line_0 : decode cX11_line 0 = .ok (.aload_n 0, 1) := by decide +kernel
theorem dX11_line_1 : decode cX11_line 1 = .ok (.iload_n 1, 1) := by decide +kernel
theorem dX11_line_2 : decode cX11_line 2 = .ok (.iload_n 2, 1) := by decide +kernel
theorem dX11_line_3 : decode cX11_line 3 = .ok (.invokestatic 194, 3) := by decide +kernel
theorem dX11_line_6 : decode cX11_line 6 = .ok (.ifCond .ne 7, 3) := by decide +kernel
theorem dX11_line_9 : decode cX11_line 9 = .ok (.iconst 1, 1) := by decide +kernel
theorem dX11_line_10 : decode cX11_line 10 = .ok (.goto 17, 3) := by decide +kernel
theorem dX11_line_13 : decode cX11_line 13 = .ok (.iload_n 3, 1) := by decide +kernel
theorem dX11_line_14 : decode cX11_line 14 = .ok (.iconst 0, 1) := by decide +kernel
theorem dX11_line_15 : decode cX11_line 15 = .ok (.iconst 2, 1) := by decide +kernel
theorem dX11_line_16 : decode cX11_line 16 = .ok (.invokestatic 84, 3) := by decide +kernel
theorem dX11_line_19 : decode cX11_line 19 = .ok (.ifCond .eq 7, 3) := by decide +kernel
theorem dX11_line_22 : decode cX11_line 22 = .ok (.iconst 0, 1) := by decide +kernel
theorem dX11_line_23 : decode cX11_line 23 = .ok (.goto 4, 3) := by decide +kernel
theorem dX11_line_26 : decode cX11_line 26 = .ok (.iconst 2, 1) := by decide +kernel
theorem dX11_line_27 : decode cX11_line 27 = .ok (.putfield 78, 3) := by decide +kernel
theorem dX11_line_30 : decode cX11_line 30 = .ok (.aload_n 0, 1) := by decide +kernel
theorem dX11_line_31 : decode cX11_line 31 = .ok (.getfield 78, 3) := by decide +kernel
theorem dX11_line_34 : decode cX11_line 34 = .ok (.ifCond .le 7, 3) := by decide +kernel
theorem dX11_line_37 : decode cX11_line 37 = .ok (.iconst 0, 1) := by decide +kernel
theorem dX11_line_38 : decode cX11_line 38 = .ok (.goto 14, 3) := by decide +kernel
theorem dX11_line_41 : decode cX11_line 41 = .ok (.aload_n 0, 1) := by decide +kernel
theorem dX11_line_42 : decode cX11_line 42 = .ok (.bipush 24, 2) := by decide +kernel
theorem dX11_line_44 : decode cX11_line 44 = .ok (.iload_n 1, 1) := by decide +kernel
theorem dX11_line_45 : decode cX11_line 45 = .ok (.imul, 1) := by decide +kernel
theorem dX11_line_46 : decode cX11_line 46 = .ok (.iload_n 2, 1) := by decide +kernel
theorem dX11_line_47 : decode cX11_line 47 = .ok (.iadd, 1) := by decide +kernel
theorem dX11_line_48 : decode cX11_line 48 = .ok (.iload_n 3, 1) := by decide +kernel
theorem dX11_line_49 : decode cX11_line 49 = .ok (.invokevirtual 270, 3) := by decide +kernel
theorem dX11_line_52 : decode cX11_line 52 = .ok (.ireturn, 1) := by decide +kernel
theorem dX11_belowNow_0 : decode cX11_belowNow 0 = .ok (.bipush 24, 2) := by decide +kernel
theorem dX11_belowNow_2 : decode cX11_belowNow 2 = .ok (.iload_n 1, 1) := by decide +kernel
theorem dX11_belowNow_3 : decode cX11_belowNow 3 = .ok (.imul, 1) := by decide +kernel
theorem dX11_belowNow_4 : decode cX11_belowNow 4 = .ok (.iload_n 2, 1) := by decide +kernel
theorem dX11_belowNow_5 : decode cX11_belowNow 5 = .ok (.iadd, 1) := by decide +kernel
theorem dX11_belowNow_6 : decode cX11_belowNow 6 = .ok (.istore 5, 2) := by decide +kernel
theorem dX11_belowNow_8 : decode cX11_belowNow 8 = .ok (.aload_n 0, 1) := by decide +kernel
theorem dX11_belowNow_9 : decode cX11_belowNow 9 = .ok (.iload_n 3, 1) := by decide +kernel
theorem dX11_belowNow_10 : decode cX11_belowNow 10 = .ok (.invokevirtual 125, 3) := by decide +kernel
theorem dX11_belowNow_13 : decode cX11_belowNow 13 = .ok (.istore 6, 2) := by decide +kernel
theorem dX11_belowNow_15 : decode cX11_belowNow 15 = .ok (.iload_n 2, 1) := by decide +kernel
theorem dX11_belowNow_16 : decode cX11_belowNow 16 = .ok (.bipush 24, 2) := by decide +kernel
theorem dX11_belowNow_18 : decode cX11_belowNow 18 = .ok (.if_icmp .ge 23, 3) := by decide +kernel
theorem dX11_belowNow_21 : decode cX11_belowNow 21 = .ok (.aload_n 0, 1) := by decide +kernel
theorem dX11_belowNow_22 : decode cX11_belowNow 22 = .ok (.iload_n 3, 1) := by decide +kernel
theorem dX11_belowNow_23 : decode cX11_belowNow 23 = .ok (.invokevirtual 104, 3) := by decide +kernel
theorem dX11_belowNow_26 : decode cX11_belowNow 26 = .ok (.ifCond .ne 15, 3) := by decide +kernel
theorem dX11_belowNow_29 : decode cX11_belowNow 29 = .ok (.iload 6, 2) := by decide +kernel
theorem dX11_belowNow_31 : decode cX11_belowNow 31 = .ok (.aload_n 0, 1) := by decide +kernel
theorem dX11_belowNow_32 : decode cX11_belowNow 32 = .ok (.iload 5, 2) := by decide +kernel
theorem dX11_belowNow_34 : decode cX11_belowNow 34 = .ok (.iconst 0, 1) := by decide +kernel
theorem dX11_belowNow_35 : decode cX11_belowNow 35 = .ok (.invokevirtual 118, 3) := by decide +kernel
theorem dX11_belowNow_38 : decode cX11_belowNow 38 = .ok (.if_icmp .lt 5, 3) := by decide +kernel
theorem dX11_belowNow_41 : decode cX11_belowNow 41 = .ok (.iconst (-1), 1) := by decide +kernel
theorem dX11_belowNow_42 : decode cX11_belowNow 42 = .ok (.ireturn, 1) := by decide +kernel
theorem dX11_belowNow_43 : decode cX11_belowNow 43 = .ok (.aload_n 0, 1) := by decide +kernel
theorem dX11_belowNow_44 : decode cX11_belowNow 44 = .ok (.iload 5, 2) := by decide +kernel
theorem dX11_belowNow_46 : decode cX11_belowNow 46 = .ok (.iload 6, 2) := by decide +kernel
theorem dX11_belowNow_48 : decode cX11_belowNow 48 = .ok (.invokevirtual 115, 3) := by decide +kernel
theorem dX11_belowNow_51 : decode cX11_belowNow 51 = .ok (.istore 7, 2) := by decide +kernel
theorem dX11_belowNow_53 : decode cX11_belowNow 53 = .ok (.iload 7, 2) := by decide +kernel
theorem dX11_belowNow_55 : decode cX11_belowNow 55 = .ok (.aload_n 0, 1) := by decide +kernel
theorem dX11_belowNow_56 : decode cX11_belowNow 56 = .ok (.iload 5, 2) := by decide +kernel
theorem dX11_belowNow_58 : decode cX11_belowNow 58 = .ok (.iload 6, 2) := by decide +kernel
theorem dX11_belowNow_60 : decode cX11_belowNow 60 = .ok (.invokevirtual 128, 3) := by decide +kernel
theorem dX11_belowNow_63 : decode cX11_belowNow 63 = .ok (.iadd, 1) := by decide +kernel
theorem dX11_belowNow_64 : decode cX11_belowNow 64 = .ok (.istore 8, 2) := by decide +kernel
theorem dX11_belowNow_66 : decode cX11_belowNow 66 = .ok (.iload 4, 2) := by decide +kernel
theorem dX11_belowNow_68 : decode cX11_belowNow 68 = .ok (.tableswitch 46 0 2 #[28, 31, 37], 28) := by decide +kernel
theorem dX11_belowNow_96 : decode cX11_belowNow 96 = .ok (.iload 6, 2) := by decide +kernel
theorem dX11_belowNow_98 : decode cX11_belowNow 98 = .ok (.ireturn, 1) := by decide +kernel
theorem dX11_belowNow_99 : decode cX11_belowNow 99 = .ok (.iload 8, 2) := by decide +kernel
theorem dX11_belowNow_101 : decode cX11_belowNow 101 = .ok (.iload 7, 2) := by decide +kernel
theorem dX11_belowNow_103 : decode cX11_belowNow 103 = .ok (.isub, 1) := by decide +kernel
theorem dX11_belowNow_104 : decode cX11_belowNow 104 = .ok (.ireturn, 1) := by decide +kernel
theorem dX11_belowNow_105 : decode cX11_belowNow 105 = .ok (.aload_n 0, 1) := by decide +kernel
theorem dX11_belowNow_106 : decode cX11_belowNow 106 = .ok (.iload 5, 2) := by decide +kernel
theorem dX11_belowNow_108 : decode cX11_belowNow 108 = .ok (.iload 7, 2) := by decide +kernel
theorem dX11_belowNow_110 : decode cX11_belowNow 110 = .ok (.invokevirtual 108, 3) := by decide +kernel
theorem dX11_belowNow_113 : decode cX11_belowNow 113 = .ok (.ireturn, 1) := by decide +kernel
theorem dX11_belowNow_114 : decode cX11_belowNow 114 = .ok (.iload 8, 2) := by decide +kernel
theorem dX11_belowNow_116 : decode cX11_belowNow 116 = .ok (.aload_n 0, 1) := by decide +kernel
theorem dX11_belowNow_117 : decode cX11_belowNow 117 = .ok (.getfield 39, 3) := by decide +kernel
theorem dX11_belowNow_120 : decode cX11_belowNow 120 = .ok (.iload 5, 2) := by decide +kernel
theorem dX11_belowNow_122 : decode cX11_belowNow 122 = .ok (.iaload, 1) := by decide +kernel
theorem dX11_belowNow_123 : decode cX11_belowNow 123 = .ok (.if_icmp .ge 20, 3) := by decide +kernel
theorem dX11_belowNow_126 : decode cX11_belowNow 126 = .ok (.aload_n 0, 1) := by decide +kernel
theorem dX11_belowNow_127 : decode cX11_belowNow 127 = .ok (.iload 5, 2) := by decide +kernel
theorem dX11_belowNow_129 : decode cX11_belowNow 129 = .ok (.iload 8, 2) := by decide +kernel
theorem dX11_belowNow_131 : decode cX11_belowNow 131 = .ok (.invokevirtual 108, 3) := by decide +kernel
theorem dX11_belowNow_134 : decode cX11_belowNow 134 = .ok (.bipush 45, 2) := by decide +kernel
theorem dX11_belowNow_136 : decode cX11_belowNow 136 = .ok (.if_icmp .ne 7, 3) := by decide +kernel
theorem dX11_belowNow_139 : decode cX11_belowNow 139 = .ok (.iconst 1, 1) := by decide +kernel
theorem dX11_belowNow_140 : decode cX11_belowNow 140 = .ok (.goto 4, 3) := by decide +kernel
theorem dX11_belowNow_143 : decode cX11_belowNow 143 = .ok (.iconst 0, 1) := by decide +kernel
theorem dX11_belowNow_144 : decode cX11_belowNow 144 = .ok (.ireturn, 1) := by decide +kernel
theorem dX11_below_0 : decode cX11_below 0 = .ok (.aload_n 0, 1) := by decide +kernel
theorem dX11_below_1 : decode cX11_below 1 = .ok (.invokevirtual 131, 3) := by decide +kernel
theorem dX11_below_4 : decode cX11_below 4 = .ok (.iload_n 1, 1) := by decide +kernel
theorem dX11_below_5 : decode cX11_below 5 = .ok (.iconst 0, 1) := by decide +kernel
theorem dX11_below_6 : decode cX11_below 6 = .ok (.iconst 3, 1) := by decide +kernel
theorem dX11_below_7 : decode cX11_below 7 = .ok (.invokestatic 84, 3) := by decide +kernel
theorem dX11_below_10 : decode cX11_below 10 = .ok (.ifCond .eq 21, 3) := by decide +kernel
theorem dX11_below_13 : decode cX11_below 13 = .ok (.iload_n 2, 1) := by decide +kernel
theorem dX11_below_14 : decode cX11_below 14 = .ok (.iconst 0, 1) := by decide +kernel
theorem dX11_below_15 : decode cX11_below 15 = .ok (.aload_n 0, 1) := by decide +kernel
theorem dX11_below_16 : decode cX11_below 16 = .ok (.getfield 91, 3) := by decide +kernel
theorem dX11_below_19 : decode cX11_below 19 = .ok (.iconst 1, 1) := by decide +kernel
theorem dX11_below_20 : decode cX11_below 20 = .ok (.isub, 1) := by decide +kernel
theorem dX11_below_21 : decode cX11_below 21 = .ok (.invokestatic 84, 3) := by decide +kernel
theorem dX11_below_24 : decode cX11_below 24 = .ok (.ifCond .eq 7, 3) := by decide +kernel
theorem dX11_below_27 : decode cX11_below 27 = .ok (.iconst 1, 1) := by decide +kernel
theorem dX11_below_28 : decode cX11_below 28 = .ok (.goto 4, 3) := by decide +kernel
theorem dX11_below_31 : decode cX11_below 31 = .ok (.iconst 0, 1) := by decide +kernel
theorem dX11_below_32 : decode cX11_below 32 = .ok (.istore 5, 2) := by decide +kernel
theorem dX11_below_34 : decode cX11_below 34 = .ok (.iload 5, 2) := by decide +kernel
theorem dX11_below_36 : decode cX11_below 36 = .ok (.ifCond .eq 38, 3) := by decide +kernel
theorem dX11_below_39 : decode cX11_below 39 = .ok (.iload_n 3, 1) := by decide +kernel
theorem dX11_below_40 : decode cX11_below 40 = .ok (.iconst 0, 1) := by decide +kernel
theorem dX11_below_41 : decode cX11_below 41 = .ok (.aload_n 0, 1) := by decide +kernel
theorem dX11_below_42 : decode cX11_below 42 = .ok (.getfield 57, 3) := by decide +kernel
theorem dX11_below_45 : decode cX11_below 45 = .ok (.aload_n 0, 1) := by decide +kernel
theorem dX11_below_46 : decode cX11_below 46 = .ok (.getfield 63, 3) := by decide +kernel
theorem dX11_below_49 : decode cX11_below 49 = .ok (.iload_n 2, 1) := by decide +kernel
theorem dX11_below_50 : decode cX11_below 50 = .ok (.iaload, 1) := by decide +kernel
theorem dX11_below_51 : decode cX11_below 51 = .ok (.iaload, 1) := by decide +kernel
theorem dX11_below_52 : decode cX11_below 52 = .ok (.aload_n 0, 1) := by decide +kernel
theorem dX11_below_53 : decode cX11_below 53 = .ok (.getfield 54, 3) := by decide +kernel
theorem dX11_below_56 : decode cX11_below 56 = .ok (.aload_n 0, 1) := by decide +kernel
theorem dX11_below_57 : decode cX11_below 57 = .ok (.getfield 63, 3) := by decide +kernel
theorem dX11_below_60 : decode cX11_below 60 = .ok (.iload_n 2, 1) := by decide +kernel
theorem dX11_below_61 : decode cX11_below 61 = .ok (.iaload, 1) := by decide +kernel
theorem dX11_below_62 : decode cX11_below 62 = .ok (.iaload, 1) := by decide +kernel
theorem dX11_below_63 : decode cX11_below 63 = .ok (.isub, 1) := by decide +kernel
theorem dX11_below_64 : decode cX11_below 64 = .ok (.invokestatic 84, 3) := by decide +kernel
theorem dX11_below_67 : decode cX11_below 67 = .ok (.ifCond .eq 7, 3) := by decide +kernel
theorem dX11_below_70 : decode cX11_below 70 = .ok (.iconst 1, 1) := by decide +kernel
theorem dX11_below_71 : decode cX11_below 71 = .ok (.goto 4, 3) := by decide +kernel
theorem dX11_below_74 : decode cX11_below 74 = .ok (.iconst 0, 1) := by decide +kernel
theorem dX11_below_75 : decode cX11_below 75 = .ok (.istore 5, 2) := by decide +kernel
theorem dX11_below_77 : decode cX11_below 77 = .ok (.aload_n 0, 1) := by decide +kernel
theorem dX11_below_78 : decode cX11_below 78 = .ok (.iload 5, 2) := by decide +kernel
theorem dX11_below_80 : decode cX11_below 80 = .ok (.ifCond .ne 7, 3) := by decide +kernel
theorem dX11_below_83 : decode cX11_below 83 = .ok (.iconst 1, 1) := by decide +kernel
theorem dX11_below_84 : decode cX11_below 84 = .ok (.goto 18, 3) := by decide +kernel
theorem dX11_below_87 : decode cX11_below 87 = .ok (.iload 4, 2) := by decide +kernel
theorem dX11_below_89 : decode cX11_below 89 = .ok (.iconst 0, 1) := by decide +kernel
theorem dX11_below_90 : decode cX11_below 90 = .ok (.iconst 3, 1) := by decide +kernel
theorem dX11_below_91 : decode cX11_below 91 = .ok (.invokestatic 84, 3) := by decide +kernel
theorem dX11_below_94 : decode cX11_below 94 = .ok (.ifCond .eq 7, 3) := by decide +kernel
theorem dX11_below_97 : decode cX11_below 97 = .ok (.iconst 0, 1) := by decide +kernel
theorem dX11_below_98 : decode cX11_below 98 = .ok (.goto 4, 3) := by decide +kernel
theorem dX11_below_101 : decode cX11_below 101 = .ok (.iconst 2, 1) := by decide +kernel
theorem dX11_below_102 : decode cX11_below 102 = .ok (.putfield 78, 3) := by decide +kernel
theorem dX11_below_105 : decode cX11_below 105 = .ok (.aload_n 0, 1) := by decide +kernel
theorem dX11_below_106 : decode cX11_below 106 = .ok (.getfield 78, 3) := by decide +kernel
theorem dX11_below_109 : decode cX11_below 109 = .ok (.ifCond .le 7, 3) := by decide +kernel
theorem dX11_below_112 : decode cX11_below 112 = .ok (.iconst 0, 1) := by decide +kernel
theorem dX11_below_113 : decode cX11_below 113 = .ok (.goto 24, 3) := by decide +kernel
theorem dX11_below_116 : decode cX11_below 116 = .ok (.aload_n 0, 1) := by decide +kernel
theorem dX11_below_117 : decode cX11_below 117 = .ok (.iload_n 1, 1) := by decide +kernel
theorem dX11_below_118 : decode cX11_below 118 = .ok (.iload_n 2, 1) := by decide +kernel
theorem dX11_below_119 : decode cX11_below 119 = .ok (.aload_n 0, 1) := by decide +kernel
theorem dX11_below_120 : decode cX11_below 120 = .ok (.getfield 54, 3) := by decide +kernel
theorem dX11_below_123 : decode cX11_below 123 = .ok (.aload_n 0, 1) := by decide +kernel
theorem dX11_below_124 : decode cX11_below 124 = .ok (.getfield 63, 3) := by decide +kernel
theorem dX11_below_127 : decode cX11_below 127 = .ok (.iload_n 2, 1) := by decide +kernel
theorem dX11_below_128 : decode cX11_below 128 = .ok (.iaload, 1) := by decide +kernel
theorem dX11_below_129 : decode cX11_below 129 = .ok (.iaload, 1) := by decide +kernel
theorem dX11_below_130 : decode cX11_below 130 = .ok (.iload_n 3, 1) := by decide +kernel
theorem dX11_below_131 : decode cX11_below 131 = .ok (.iadd, 1) := by decide +kernel
theorem dX11_below_132 : decode cX11_below 132 = .ok (.iload 4, 2) := by decide +kernel
theorem dX11_below_134 : decode cX11_below 134 = .ok (.invokevirtual 273, 3) := by decide +kernel
theorem dX11_below_137 : decode cX11_below 137 = .ok (.ireturn, 1) := by decide +kernel
theorem dX11_distanceNow_0 : decode cX11_distanceNow 0 = .ok (.aload_n 0, 1) := by decide +kernel
theorem dX11_distanceNow_1 : decode cX11_distanceNow 1 = .ok (.getfield 45, 3) := by decide +kernel
theorem dX11_distanceNow_4 : decode cX11_distanceNow 4 = .ok (.iload_n 1, 1) := by decide +kernel
theorem dX11_distanceNow_5 : decode cX11_distanceNow 5 = .ok (.iaload, 1) := by decide +kernel
theorem dX11_distanceNow_6 : decode cX11_distanceNow 6 = .ok (.aload_n 0, 1) := by decide +kernel
theorem dX11_distanceNow_7 : decode cX11_distanceNow 7 = .ok (.getfield 91, 3) := by decide +kernel
theorem dX11_distanceNow_10 : decode cX11_distanceNow 10 = .ok (.if_icmp .eq 5, 3) := by decide +kernel
theorem dX11_distanceNow_13 : decode cX11_distanceNow 13 = .ok (.iconst (-1), 1) := by decide +kernel
theorem dX11_distanceNow_14 : decode cX11_distanceNow 14 = .ok (.ireturn, 1) := by decide +kernel
theorem dX11_distanceNow_15 : decode cX11_distanceNow 15 = .ok (.iconst 0, 1) := by decide +kernel
theorem dX11_distanceNow_16 : decode cX11_distanceNow 16 = .ok (.istore_n 2, 1) := by decide +kernel
theorem dX11_distanceNow_17 : decode cX11_distanceNow 17 = .ok (.iconst 0, 1) := by decide +kernel
theorem dX11_distanceNow_18 : decode cX11_distanceNow 18 = .ok (.istore_n 3, 1) := by decide +kernel
theorem dX11_distanceNow_19 : decode cX11_distanceNow 19 = .ok (.iload_n 3, 1) := by decide +kernel
theorem dX11_distanceNow_20 : decode cX11_distanceNow 20 = .ok (.aload_n 0, 1) := by decide +kernel
theorem dX11_distanceNow_21 : decode cX11_distanceNow 21 = .ok (.getfield 91, 3) := by decide +kernel
theorem dX11_distanceNow_24 : decode cX11_distanceNow 24 = .ok (.if_icmp .ge 49, 3) := by decide +kernel
theorem dX11_distanceNow_27 : decode cX11_distanceNow 27 = .ok (.aload_n 0, 1) := by decide +kernel
theorem dX11_distanceNow_28 : decode cX11_distanceNow 28 = .ok (.getfield 48, 3) := by decide +kernel
theorem dX11_distanceNow_31 : decode cX11_distanceNow 31 = .ok (.bipush 24, 2) := by decide +kernel
theorem dX11_distanceNow_33 : decode cX11_distanceNow 33 = .ok (.iload_n 1, 1) := by decide +kernel
theorem dX11_distanceNow_34 : decode cX11_distanceNow 34 = .ok (.imul, 1) := by decide +kernel
theorem dX11_distanceNow_35 : decode cX11_distanceNow 35 = .ok (.iload_n 3, 1) := by decide +kernel
theorem dX11_distanceNow_36 : decode cX11_distanceNow 36 = .ok (.iadd, 1) := by decide +kernel
theorem dX11_distanceNow_37 : decode cX11_distanceNow 37 = .ok (.iaload, 1) := by decide +kernel
theorem dX11_distanceNow_38 : decode cX11_distanceNow 38 = .ok (.aload_n 0, 1) := by decide +kernel
theorem dX11_distanceNow_39 : decode cX11_distanceNow 39 = .ok (.aload_n 0, 1) := by decide +kernel
theorem dX11_distanceNow_40 : decode cX11_distanceNow 40 = .ok (.getfield 63, 3) := by decide +kernel
theorem dX11_distanceNow_43 : decode cX11_distanceNow 43 = .ok (.iload_n 3, 1) := by decide +kernel
theorem dX11_distanceNow_44 : decode cX11_distanceNow 44 = .ok (.iaload, 1) := by decide +kernel
theorem dX11_distanceNow_45 : decode cX11_distanceNow 45 = .ok (.invokevirtual 121, 3) := by decide +kernel
theorem dX11_distanceNow_48 : decode cX11_distanceNow 48 = .ok (.isub, 1) := by decide +kernel
theorem dX11_distanceNow_49 : decode cX11_distanceNow 49 = .ok (.istore 4, 2) := by decide +kernel
theorem dX11_distanceNow_51 : decode cX11_distanceNow 51 = .ok (.iload_n 2, 1) := by decide +kernel
theorem dX11_distanceNow_52 : decode cX11_distanceNow 52 = .ok (.iload 4, 2) := by decide +kernel
theorem dX11_distanceNow_54 : decode cX11_distanceNow 54 = .ok (.ifCond .ge 9, 3) := by decide +kernel
theorem dX11_distanceNow_57 : decode cX11_distanceNow 57 = .ok (.iload 4, 2) := by decide +kernel
theorem dX11_distanceNow_59 : decode cX11_distanceNow 59 = .ok (.ineg, 1) := by decide +kernel
theorem dX11_distanceNow_60 : decode cX11_distanceNow 60 = .ok (.goto 5, 3) := by decide +kernel
theorem dX11_distanceNow_63 : decode cX11_distanceNow 63 = .ok (.iload 4, 2) := by decide +kernel
theorem dX11_distanceNow_65 : decode cX11_distanceNow 65 = .ok (.iadd, 1) := by decide +kernel
theorem dX11_distanceNow_66 : decode cX11_distanceNow 66 = .ok (.istore_n 2, 1) := by decide +kernel
theorem dX11_distanceNow_67 : decode cX11_distanceNow 67 = .ok (.iinc 3 1, 3) := by decide +kernel
theorem dX11_distanceNow_70 : decode cX11_distanceNow 70 = .ok (.goto (-51), 3) := by decide +kernel
theorem dX11_distanceNow_73 : decode cX11_distanceNow 73 = .ok (.iload_n 2, 1) := by decide +kernel
theorem dX11_distanceNow_74 : decode cX11_distanceNow 74 = .ok (.ireturn, 1) := by decide +kernel
theorem dX11_distance_0 : decode cX11_distance 0 = .ok (.aload_n 0, 1) := by decide +kernel
theorem dX11_distance_1 : decode cX11_distance 1 = .ok (.aload_n 0, 1) := by decide +kernel
theorem dX11_distance_2 : decode cX11_distance 2 = .ok (.iload_n 1, 1) := by decide +kernel
theorem dX11_distance_3 : decode cX11_distance 3 = .ok (.invokevirtual 200, 3) := by decide +kernel
theorem dX11_distance_6 : decode cX11_distance 6 = .ok (.ifCond .eq 7, 3) := by decide +kernel
theorem dX11_distance_9 : decode cX11_distance 9 = .ok (.iconst 0, 1) := by decide +kernel
theorem dX11_distance_10 : decode cX11_distance 10 = .ok (.goto 4, 3) := by decide +kernel
theorem dX11_distance_13 : decode cX11_distance 13 = .ok (.iconst 1, 1) := by decide +kernel
theorem dX11_distance_14 : decode cX11_distance 14 = .ok (.putfield 78, 3) := by decide +kernel
theorem dX11_distance_17 : decode cX11_distance 17 = .ok (.aload_n 0, 1) := by decide +kernel
theorem dX11_distance_18 : decode cX11_distance 18 = .ok (.getfield 78, 3) := by decide +kernel
theorem dX11_distance_21 : decode cX11_distance 21 = .ok (.ifCond .le 5, 3) := by decide +kernel
theorem dX11_distance_24 : decode cX11_distance 24 = .ok (.iconst 0, 1) := by decide +kernel
theorem dX11_distance_25 : decode cX11_distance 25 = .ok (.ireturn, 1) := by decide +kernel
theorem dX11_distance_26 : decode cX11_distance 26 = .ok (.aload_n 0, 1) := by decide +kernel
theorem dX11_distance_27 : decode cX11_distance 27 = .ok (.invokevirtual 131, 3) := by decide +kernel
theorem dX11_distance_30 : decode cX11_distance 30 = .ok (.aload_n 0, 1) := by decide +kernel
theorem dX11_distance_31 : decode cX11_distance 31 = .ok (.iload_n 1, 1) := by decide +kernel
theorem dX11_distance_32 : decode cX11_distance 32 = .ok (.invokevirtual 277, 3) := by decide +kernel
theorem dX11_distance_35 : decode cX11_distance 35 = .ok (.ireturn, 1) := by decide +kernel
theorem dX11_nearestNow_0 : decode cX11_nearestNow 0 = .ok (.iconst (-1), 1) := by decide +kernel
theorem dX11_nearestNow_1 : decode cX11_nearestNow 1 = .ok (.istore_n 1, 1) := by decide +kernel
theorem dX11_nearestNow_2 : decode cX11_nearestNow 2 = .ok (.iconst 0, 1) := by decide +kernel
theorem dX11_nearestNow_3 : decode cX11_nearestNow 3 = .ok (.istore_n 2, 1) := by decide +kernel
theorem dX11_nearestNow_4 : decode cX11_nearestNow 4 = .ok (.iload_n 2, 1) := by decide +kernel
theorem dX11_nearestNow_5 : decode cX11_nearestNow 5 = .ok (.aload_n 0, 1) := by decide +kernel
theorem dX11_nearestNow_6 : decode cX11_nearestNow 6 = .ok (.getfield 197, 3) := by decide +kernel
theorem dX11_nearestNow_9 : decode cX11_nearestNow 9 = .ok (.if_icmp .ge 40, 3) := by decide +kernel
theorem dX11_nearestNow_12 : decode cX11_nearestNow 12 = .ok (.aload_n 0, 1) := by decide +kernel
theorem dX11_nearestNow_13 : decode cX11_nearestNow 13 = .ok (.iload_n 2, 1) := by decide +kernel
theorem dX11_nearestNow_14 : decode cX11_nearestNow 14 = .ok (.invokevirtual 277, 3) := by decide +kernel
theorem dX11_nearestNow_17 : decode cX11_nearestNow 17 = .ok (.istore_n 3, 1) := by decide +kernel
theorem dX11_nearestNow_18 : decode cX11_nearestNow 18 = .ok (.iload_n 3, 1) := by decide +kernel
theorem dX11_nearestNow_19 : decode cX11_nearestNow 19 = .ok (.iconst (-1), 1) := by decide +kernel
theorem dX11_nearestNow_20 : decode cX11_nearestNow 20 = .ok (.if_icmp .eq 21, 3) := by decide +kernel
theorem dX11_nearestNow_23 : decode cX11_nearestNow 23 = .ok (.iload_n 1, 1) := by decide +kernel
theorem dX11_nearestNow_24 : decode cX11_nearestNow 24 = .ok (.iconst (-1), 1) := by decide +kernel
theorem dX11_nearestNow_25 : decode cX11_nearestNow 25 = .ok (.if_icmp .eq 12, 3) := by decide +kernel
theorem dX11_nearestNow_28 : decode cX11_nearestNow 28 = .ok (.iload_n 3, 1) := by decide +kernel
theorem dX11_nearestNow_29 : decode cX11_nearestNow 29 = .ok (.aload_n 0, 1) := by decide +kernel
theorem dX11_nearestNow_30 : decode cX11_nearestNow 30 = .ok (.iload_n 1, 1) := by decide +kernel
theorem dX11_nearestNow_31 : decode cX11_nearestNow 31 = .ok (.invokevirtual 277, 3) := by decide +kernel
theorem dX11_nearestNow_34 : decode cX11_nearestNow 34 = .ok (.if_icmp .ge 7, 3) := by decide +kernel
theorem dX11_nearestNow_37 : decode cX11_nearestNow 37 = .ok (.iload_n 2, 1) := by decide +kernel
theorem dX11_nearestNow_38 : decode cX11_nearestNow 38 = .ok (.goto 4, 3) := by decide +kernel
theorem dX11_nearestNow_41 : decode cX11_nearestNow 41 = .ok (.iload_n 1, 1) := by decide +kernel
theorem dX11_nearestNow_42 : decode cX11_nearestNow 42 = .ok (.istore_n 1, 1) := by decide +kernel
theorem dX11_nearestNow_43 : decode cX11_nearestNow 43 = .ok (.iinc 2 1, 3) := by decide +kernel
theorem dX11_nearestNow_46 : decode cX11_nearestNow 46 = .ok (.goto (-42), 3) := by decide +kernel
theorem dX11_nearestNow_49 : decode cX11_nearestNow 49 = .ok (.iload_n 1, 1) := by decide +kernel
theorem dX11_nearestNow_50 : decode cX11_nearestNow 50 = .ok (.ireturn, 1) := by decide +kernel
theorem dX11_nearest_0 : decode cX11_nearest 0 = .ok (.aload_n 0, 1) := by decide +kernel
theorem dX11_nearest_1 : decode cX11_nearest 1 = .ok (.iconst 0, 1) := by decide +kernel
theorem dX11_nearest_2 : decode cX11_nearest 2 = .ok (.putfield 78, 3) := by decide +kernel
theorem dX11_nearest_5 : decode cX11_nearest 5 = .ok (.aload_n 0, 1) := by decide +kernel
theorem dX11_nearest_6 : decode cX11_nearest 6 = .ok (.invokevirtual 131, 3) := by decide +kernel
theorem dX11_nearest_9 : decode cX11_nearest 9 = .ok (.aload_n 0, 1) := by decide +kernel
theorem dX11_nearest_10 : decode cX11_nearest 10 = .ok (.invokevirtual 280, 3) := by decide +kernel
theorem dX11_nearest_13 : decode cX11_nearest 13 = .ok (.ireturn, 1) := by decide +kernel
theorem dX11_metre_0 : decode cX11_metre 0 = .ok (.aload_n 0, 1) := by decide +kernel
theorem dX11_metre_1 : decode cX11_metre 1 = .ok (.aload_n 0, 1) := by decide +kernel
theorem dX11_metre_2 : decode cX11_metre 2 = .ok (.iload_n 1, 1) := by decide +kernel
theorem dX11_metre_3 : decode cX11_metre 3 = .ok (.invokevirtual 200, 3) := by decide +kernel
theorem dX11_metre_6 : decode cX11_metre 6 = .ok (.ifCond .eq 7, 3) := by decide +kernel
theorem dX11_metre_9 : decode cX11_metre 9 = .ok (.iconst 0, 1) := by decide +kernel
theorem dX11_metre_10 : decode cX11_metre 10 = .ok (.goto 4, 3) := by decide +kernel
theorem dX11_metre_13 : decode cX11_metre 13 = .ok (.iconst 1, 1) := by decide +kernel
theorem dX11_metre_14 : decode cX11_metre 14 = .ok (.putfield 78, 3) := by decide +kernel
theorem dX11_metre_17 : decode cX11_metre 17 = .ok (.aload_n 0, 1) := by decide +kernel
theorem dX11_metre_18 : decode cX11_metre 18 = .ok (.getfield 78, 3) := by decide +kernel
theorem dX11_metre_21 : decode cX11_metre 21 = .ok (.ifCond .le 5, 3) := by decide +kernel
theorem dX11_metre_24 : decode cX11_metre 24 = .ok (.iconst 0, 1) := by decide +kernel
theorem dX11_metre_25 : decode cX11_metre 25 = .ok (.ireturn, 1) := by decide +kernel
theorem dX11_metre_26 : decode cX11_metre 26 = .ok (.iload_n 2, 1) := by decide +kernel
theorem dX11_metre_27 : decode cX11_metre 27 = .ok (.iconst 0, 1) := by decide +kernel
theorem dX11_metre_28 : decode cX11_metre 28 = .ok (.aload_n 0, 1) := by decide +kernel
theorem dX11_metre_29 : decode cX11_metre 29 = .ok (.getfield 45, 3) := by decide +kernel
theorem dX11_metre_32 : decode cX11_metre 32 = .ok (.iload_n 1, 1) := by decide +kernel
theorem dX11_metre_33 : decode cX11_metre 33 = .ok (.iaload, 1) := by decide +kernel
theorem dX11_metre_34 : decode cX11_metre 34 = .ok (.iconst 1, 1) := by decide +kernel
theorem dX11_metre_35 : decode cX11_metre 35 = .ok (.isub, 1) := by decide +kernel
theorem dX11_metre_36 : decode cX11_metre 36 = .ok (.invokestatic 84, 3) := by decide +kernel
theorem dX11_metre_39 : decode cX11_metre 39 = .ok (.ifCond .eq 17, 3) := by decide +kernel
theorem dX11_metre_42 : decode cX11_metre 42 = .ok (.aload_n 0, 1) := by decide +kernel
theorem dX11_metre_43 : decode cX11_metre 43 = .ok (.getfield 48, 3) := by decide +kernel
theorem dX11_metre_46 : decode cX11_metre 46 = .ok (.bipush 24, 2) := by decide +kernel
theorem dX11_metre_48 : decode cX11_metre 48 = .ok (.iload_n 1, 1) := by decide +kernel
theorem dX11_metre_49 : decode cX11_metre 49 = .ok (.imul, 1) := by decide +kernel
theorem dX11_metre_50 : decode cX11_metre 50 = .ok (.iload_n 2, 1) := by decide +kernel
theorem dX11_metre_51 : decode cX11_metre 51 = .ok (.iadd, 1) := by decide +kernel
theorem dX11_metre_52 : decode cX11_metre 52 = .ok (.iaload, 1) := by decide +kernel
theorem dX11_metre_53 : decode cX11_metre 53 = .ok (.goto 4, 3) := by decide +kernel
theorem dX11_metre_56 : decode cX11_metre 56 = .ok (.iconst (-1), 1) := by decide +kernel
theorem dX11_metre_57 : decode cX11_metre 57 = .ok (.ireturn, 1) := by decide +kernel
theorem dX11_fitting_0 : decode cX11_fitting 0 = .ok (.iconst 0, 1) := by decide +kernel
theorem dX11_fitting_1 : decode cX11_fitting 1 = .ok (.istore_n 1, 1) := by decide +kernel
theorem dX11_fitting_2 : decode cX11_fitting 2 = .ok (.iconst 0, 1) := by decide +kernel
theorem dX11_fitting_3 : decode cX11_fitting 3 = .ok (.istore_n 2, 1) := by decide +kernel
theorem dX11_fitting_4 : decode cX11_fitting 4 = .ok (.iload_n 2, 1) := by decide +kernel
theorem dX11_fitting_5 : decode cX11_fitting 5 = .ok (.iconst 4, 1) := by decide +kernel
theorem dX11_fitting_6 : decode cX11_fitting 6 = .ok (.if_icmp .ge 28, 3) := by decide +kernel
theorem dX11_fitting_9 : decode cX11_fitting 9 = .ok (.iload_n 1, 1) := by decide +kernel
theorem dX11_fitting_10 : decode cX11_fitting 10 = .ok (.aload_n 0, 1) := by decide +kernel
theorem dX11_fitting_11 : decode cX11_fitting 11 = .ok (.iload_n 2, 1) := by decide +kernel
theorem dX11_fitting_12 : decode cX11_fitting 12 = .ok (.invokevirtual 264, 3) := by decide +kernel
theorem dX11_fitting_15 : decode cX11_fitting 15 = .ok (.iconst (-1), 1) := by decide +kernel
theorem dX11_fitting_16 : decode cX11_fitting 16 = .ok (.if_icmp .ne 9, 3) := by decide +kernel
theorem dX11_fitting_19 : decode cX11_fitting 19 = .ok (.iconst 1, 1) := by decide +kernel
theorem dX11_fitting_20 : decode cX11_fitting 20 = .ok (.iload_n 2, 1) := by decide +kernel
theorem dX11_fitting_21 : decode cX11_fitting 21 = .ok (.ishl, 1) := by decide +kernel
theorem dX11_fitting_22 : decode cX11_fitting 22 = .ok (.goto 4, 3) := by decide +kernel
theorem dX11_fitting_25 : decode cX11_fitting 25 = .ok (.iconst 0, 1) := by decide +kernel
theorem dX11_fitting_26 : decode cX11_fitting 26 = .ok (.ior, 1) := by decide +kernel
theorem dX11_fitting_27 : decode cX11_fitting 27 = .ok (.istore_n 1, 1) := by decide +kernel
theorem dX11_fitting_28 : decode cX11_fitting 28 = .ok (.iinc 2 1, 3) := by decide +kernel
theorem dX11_fitting_31 : decode cX11_fitting 31 = .ok (.goto (-27), 3) := by decide +kernel
theorem dX11_fitting_34 : decode cX11_fitting 34 = .ok (.iload_n 1, 1) := by decide +kernel
theorem dX11_fitting_35 : decode cX11_fitting 35 = .ok (.ireturn, 1) := by decide +kernel
theorem dX11_faulty_0 : decode cX11_faulty 0 = .ok (.iconst 0, 1) := by decide +kernel
theorem dX11_faulty_1 : decode cX11_faulty 1 = .ok (.istore_n 1, 1) := by decide +kernel
theorem dX11_faulty_2 : decode cX11_faulty 2 = .ok (.iconst 0, 1) := by decide +kernel
theorem dX11_faulty_3 : decode cX11_faulty 3 = .ok (.istore_n 2, 1) := by decide +kernel
theorem dX11_faulty_4 : decode cX11_faulty 4 = .ok (.iload_n 2, 1) := by decide +kernel
theorem dX11_faulty_5 : decode cX11_faulty 5 = .ok (.aload_n 0, 1) := by decide +kernel
theorem dX11_faulty_6 : decode cX11_faulty 6 = .ok (.getfield 81, 3) := by decide +kernel
theorem dX11_faulty_9 : decode cX11_faulty 9 = .ok (.if_icmp .ge 25, 3) := by decide +kernel
theorem dX11_faulty_12 : decode cX11_faulty 12 = .ok (.iload_n 1, 1) := by decide +kernel
theorem dX11_faulty_13 : decode cX11_faulty 13 = .ok (.aload_n 0, 1) := by decide +kernel
theorem dX11_faulty_14 : decode cX11_faulty 14 = .ok (.iload_n 2, 1) := by decide +kernel
theorem dX11_faulty_15 : decode cX11_faulty 15 = .ok (.invokevirtual 239, 3) := by decide +kernel
theorem dX11_faulty_18 : decode cX11_faulty 18 = .ok (.ifCond .ne 7, 3) := by decide +kernel
theorem dX11_faulty_21 : decode cX11_faulty 21 = .ok (.iconst 0, 1) := by decide +kernel
theorem dX11_faulty_22 : decode cX11_faulty 22 = .ok (.goto 4, 3) := by decide +kernel
theorem dX11_faulty_25 : decode cX11_faulty 25 = .ok (.iconst 1, 1) := by decide +kernel
theorem dX11_faulty_26 : decode cX11_faulty 26 = .ok (.iadd, 1) := by decide +kernel
theorem dX11_faulty_27 : decode cX11_faulty 27 = .ok (.istore_n 1, 1) := by decide +kernel
theorem dX11_faulty_28 : decode cX11_faulty 28 = .ok (.iinc 2 1, 3) := by decide +kernel
theorem dX11_faulty_31 : decode cX11_faulty 31 = .ok (.goto (-27), 3) := by decide +kernel
theorem dX11_faulty_34 : decode cX11_faulty 34 = .ok (.iload_n 1, 1) := by decide +kernel
theorem dX11_faulty_35 : decode cX11_faulty 35 = .ok (.ireturn, 1) := by decide +kernel
theorem dX11_counted_0 : decode cX11_counted 0 = .ok (.iload_n 1, 1) := by decide +kernel
theorem dX11_counted_1 : decode cX11_counted 1 = .ok (.tableswitch 153 0 12 #[67, 72, 77, 82, 87, 92, 97, 102, 111, 133, 138, 143, 148], 67) := by decide +kernel
theorem dX11_counted_68 : decode cX11_counted 68 = .ok (.aload_n 0, 1) := by decide +kernel
theorem dX11_counted_69 : decode cX11_counted 69 = .ok (.getfield 81, 3) := by decide +kernel
theorem dX11_counted_72 : decode cX11_counted 72 = .ok (.ireturn, 1) := by decide +kernel
theorem dX11_counted_73 : decode cX11_counted 73 = .ok (.aload_n 0, 1) := by decide +kernel
theorem dX11_counted_74 : decode cX11_counted 74 = .ok (.getfield 140, 3) := by decide +kernel
theorem dX11_counted_77 : decode cX11_counted 77 = .ok (.ireturn, 1) := by decide +kernel
theorem dX11_counted_78 : decode cX11_counted 78 = .ok (.aload_n 0, 1) := by decide +kernel
theorem dX11_counted_79 : decode cX11_counted 79 = .ok (.getfield 88, 3) := by decide +kernel
theorem dX11_counted_82 : decode cX11_counted 82 = .ok (.ireturn, 1) := by decide +kernel
theorem dX11_counted_83 : decode cX11_counted 83 = .ok (.aload_n 0, 1) := by decide +kernel
theorem dX11_counted_84 : decode cX11_counted 84 = .ok (.getfield 91, 3) := by decide +kernel
theorem dX11_counted_87 : decode cX11_counted 87 = .ok (.ireturn, 1) := by decide +kernel
theorem dX11_counted_88 : decode cX11_counted 88 = .ok (.aload_n 0, 1) := by decide +kernel
theorem dX11_counted_89 : decode cX11_counted 89 = .ok (.getfield 97, 3) := by decide +kernel
theorem dX11_counted_92 : decode cX11_counted 92 = .ok (.ireturn, 1) := by decide +kernel
theorem dX11_counted_93 : decode cX11_counted 93 = .ok (.aload_n 0, 1) := by decide +kernel
theorem dX11_counted_94 : decode cX11_counted 94 = .ok (.getfield 32, 3) := by decide +kernel
theorem dX11_counted_97 : decode cX11_counted 97 = .ok (.ireturn, 1) := by decide +kernel
theorem dX11_counted_98 : decode cX11_counted 98 = .ok (.aload_n 0, 1) := by decide +kernel
theorem dX11_counted_99 : decode cX11_counted 99 = .ok (.getfield 143, 3) := by decide +kernel
theorem dX11_counted_102 : decode cX11_counted 102 = .ok (.ireturn, 1) := by decide +kernel
theorem dX11_counted_103 : decode cX11_counted 103 = .ok (.aload_n 0, 1) := by decide +kernel
theorem dX11_counted_104 : decode cX11_counted 104 = .ok (.aload_n 0, 1) := by decide +kernel
theorem dX11_counted_105 : decode cX11_counted 105 = .ok (.getfield 81, 3) := by decide +kernel
theorem dX11_counted_108 : decode cX11_counted 108 = .ok (.invokevirtual 227, 3) := by decide +kernel
theorem dX11_counted_111 : decode cX11_counted 111 = .ok (.ireturn, 1) := by decide +kernel
theorem dX11_counted_112 : decode cX11_counted 112 = .ok (.aload_n 0, 1) := by decide +kernel
theorem dX11_counted_113 : decode cX11_counted 113 = .ok (.aload_n 0, 1) := by decide +kernel
theorem dX11_counted_114 : decode cX11_counted 114 = .ok (.getfield 81, 3) := by decide +kernel
theorem dX11_counted_117 : decode cX11_counted 117 = .ok (.invokevirtual 227, 3) := by decide +kernel
theorem dX11_counted_120 : decode cX11_counted 120 = .ok (.aload_n 0, 1) := by decide +kernel
theorem dX11_counted_121 : decode cX11_counted 121 = .ok (.getfield 32, 3) := by decide +kernel
theorem dX11_counted_124 : decode cX11_counted 124 = .ok (.irem, 1) := by decide +kernel
theorem dX11_counted_125 : decode cX11_counted 125 = .ok (.ifCond .ne 7, 3) := by decide +kernel
theorem dX11_counted_128 : decode cX11_counted 128 = .ok (.iconst 1, 1) := by decide +kernel
theorem dX11_counted_129 : decode cX11_counted 129 = .ok (.goto 4, 3) := by decide +kernel
theorem dX11_counted_132 : decode cX11_counted 132 = .ok (.iconst 0, 1) := by decide +kernel
theorem dX11_counted_133 : decode cX11_counted 133 = .ok (.ireturn, 1) := by decide +kernel
theorem dX11_counted_134 : decode cX11_counted 134 = .ok (.aload_n 0, 1) := by decide +kernel
theorem dX11_counted_135 : decode cX11_counted 135 = .ok (.getfield 36, 3) := by decide +kernel
theorem dX11_counted_138 : decode cX11_counted 138 = .ok (.ireturn, 1) := by decide +kernel
theorem dX11_counted_139 : decode cX11_counted 139 = .ok (.aload_n 0, 1) := by decide +kernel
theorem dX11_counted_140 : decode cX11_counted 140 = .ok (.getfield 137, 3) := by decide +kernel
theorem dX11_counted_143 : decode cX11_counted 143 = .ok (.ireturn, 1) := by decide +kernel
theorem dX11_counted_144 : decode cX11_counted 144 = .ok (.aload_n 0, 1) := by decide +kernel
theorem dX11_counted_145 : decode cX11_counted 145 = .ok (.getfield 197, 3) := by decide +kernel
theorem dX11_counted_148 : decode cX11_counted 148 = .ok (.ireturn, 1) := by decide +kernel
theorem dX11_counted_149 : decode cX11_counted 149 = .ok (.aload_n 0, 1) := by decide +kernel
theorem dX11_counted_150 : decode cX11_counted 150 = .ok (.invokevirtual 283, 3) := by decide +kernel
theorem dX11_counted_153 : decode cX11_counted 153 = .ok (.ireturn, 1) := by decide +kernel
theorem dX11_counted_154 : decode cX11_counted 154 = .ok (.aload_n 0, 1) := by decide +kernel
theorem dX11_counted_155 : decode cX11_counted 155 = .ok (.invokevirtual 286, 3) := by decide +kernel
theorem dX11_counted_158 : decode cX11_counted 158 = .ok (.ireturn, 1) := by decide +kernel
theorem dX11_count_0 : decode cX11_count 0 = .ok (.aload_n 0, 1) := by decide +kernel
theorem dX11_count_1 : decode cX11_count 1 = .ok (.iload_n 1, 1) := by decide +kernel
theorem dX11_count_2 : decode cX11_count 2 = .ok (.iconst 0, 1) := by decide +kernel
theorem dX11_count_3 : decode cX11_count 3 = .ok (.bipush 13, 2) := by decide +kernel
theorem dX11_count_5 : decode cX11_count 5 = .ok (.invokestatic 84, 3) := by decide +kernel
theorem dX11_count_8 : decode cX11_count 8 = .ok (.ifCond .eq 7, 3) := by decide +kernel
theorem dX11_count_11 : decode cX11_count 11 = .ok (.iconst 0, 1) := by decide +kernel
theorem dX11_count_12 : decode cX11_count 12 = .ok (.goto 4, 3) := by decide +kernel
theorem dX11_count_15 : decode cX11_count 15 = .ok (.iconst 1, 1) := by decide +kernel
theorem dX11_count_16 : decode cX11_count 16 = .ok (.putfield 78, 3) := by decide +kernel
theorem dX11_count_19 : decode cX11_count 19 = .ok (.aload_n 0, 1) := by decide +kernel
theorem dX11_count_20 : decode cX11_count 20 = .ok (.getfield 78, 3) := by decide +kernel
theorem dX11_count_23 : decode cX11_count 23 = .ok (.ifCond .le 5, 3) := by decide +kernel
theorem dX11_count_26 : decode cX11_count 26 = .ok (.iconst 0, 1) := by decide +kernel
theorem dX11_count_27 : decode cX11_count 27 = .ok (.ireturn, 1) := by decide +kernel
theorem dX11_count_28 : decode cX11_count 28 = .ok (.aload_n 0, 1) := by decide +kernel
theorem dX11_count_29 : decode cX11_count 29 = .ok (.invokevirtual 165, 3) := by decide +kernel
theorem dX11_count_32 : decode cX11_count 32 = .ok (.aload_n 0, 1) := by decide +kernel
theorem dX11_count_33 : decode cX11_count 33 = .ok (.iload_n 1, 1) := by decide +kernel
theorem dX11_count_34 : decode cX11_count 34 = .ok (.invokevirtual 289, 3) := by decide +kernel
theorem dX11_count_37 : decode cX11_count 37 = .ok (.ireturn, 1) := by decide +kernel
theorem dX11_meanNow_0 : decode cX11_meanNow 0 = .ok (.iconst 0, 1) := by decide +kernel
theorem dX11_meanNow_1 : decode cX11_meanNow 1 = .ok (.istore_n 1, 1) := by decide +kernel
theorem dX11_meanNow_2 : decode cX11_meanNow 2 = .ok (.iconst 0, 1) := by decide +kernel
theorem dX11_meanNow_3 : decode cX11_meanNow 3 = .ok (.istore_n 2, 1) := by decide +kernel
theorem dX11_meanNow_4 : decode cX11_meanNow 4 = .ok (.iload_n 2, 1) := by decide +kernel
theorem dX11_meanNow_5 : decode cX11_meanNow 5 = .ok (.aload_n 0, 1) := by decide +kernel
theorem dX11_meanNow_6 : decode cX11_meanNow 6 = .ok (.getfield 81, 3) := by decide +kernel
theorem dX11_meanNow_9 : decode cX11_meanNow 9 = .ok (.if_icmp .ge 18, 3) := by decide +kernel
theorem dX11_meanNow_12 : decode cX11_meanNow 12 = .ok (.iload_n 1, 1) := by decide +kernel
theorem dX11_meanNow_13 : decode cX11_meanNow 13 = .ok (.aload_n 0, 1) := by decide +kernel
theorem dX11_meanNow_14 : decode cX11_meanNow 14 = .ok (.getfield 66, 3) := by decide +kernel
theorem dX11_meanNow_17 : decode cX11_meanNow 17 = .ok (.iload_n 2, 1) := by decide +kernel
theorem dX11_meanNow_18 : decode cX11_meanNow 18 = .ok (.iaload, 1) := by decide +kernel
theorem dX11_meanNow_19 : decode cX11_meanNow 19 = .ok (.iadd, 1) := by decide +kernel
theorem dX11_meanNow_20 : decode cX11_meanNow 20 = .ok (.istore_n 1, 1) := by decide +kernel
theorem dX11_meanNow_21 : decode cX11_meanNow 21 = .ok (.iinc 2 1, 3) := by decide +kernel
theorem dX11_meanNow_24 : decode cX11_meanNow 24 = .ok (.goto (-20), 3) := by decide +kernel
theorem dX11_meanNow_27 : decode cX11_meanNow 27 = .ok (.aload_n 0, 1) := by decide +kernel
theorem dX11_meanNow_28 : decode cX11_meanNow 28 = .ok (.getfield 137, 3) := by decide +kernel
theorem dX11_meanNow_31 : decode cX11_meanNow 31 = .ok (.ifCond .ne 7, 3) := by decide +kernel
theorem dX11_meanNow_34 : decode cX11_meanNow 34 = .ok (.dconst 0, 1) := by decide +kernel
theorem dX11_meanNow_35 : decode cX11_meanNow 35 = .ok (.goto 11, 3) := by decide +kernel
theorem dX11_meanNow_38 : decode cX11_meanNow 38 = .ok (.iload_n 1, 1) := by decide +kernel
theorem dX11_meanNow_39 : decode cX11_meanNow 39 = .ok (.i2d, 1) := by decide +kernel
theorem dX11_meanNow_40 : decode cX11_meanNow 40 = .ok (.aload_n 0, 1) := by decide +kernel
theorem dX11_meanNow_41 : decode cX11_meanNow 41 = .ok (.getfield 137, 3) := by decide +kernel
theorem dX11_meanNow_44 : decode cX11_meanNow 44 = .ok (.i2d, 1) := by decide +kernel
theorem dX11_meanNow_45 : decode cX11_meanNow 45 = .ok (.ddiv, 1) := by decide +kernel
theorem dX11_meanNow_46 : decode cX11_meanNow 46 = .ok (.dreturn, 1) := by decide +kernel
theorem dX11_meanWidth_0 : decode cX11_meanWidth 0 = .ok (.aload_n 0, 1) := by decide +kernel
theorem dX11_meanWidth_1 : decode cX11_meanWidth 1 = .ok (.iconst 0, 1) := by decide +kernel
theorem dX11_meanWidth_2 : decode cX11_meanWidth 2 = .ok (.putfield 78, 3) := by decide +kernel
theorem dX11_meanWidth_5 : decode cX11_meanWidth 5 = .ok (.aload_n 0, 1) := by decide +kernel
theorem dX11_meanWidth_6 : decode cX11_meanWidth 6 = .ok (.invokevirtual 165, 3) := by decide +kernel
theorem dX11_meanWidth_9 : decode cX11_meanWidth 9 = .ok (.aload_n 0, 1) := by decide +kernel
theorem dX11_meanWidth_10 : decode cX11_meanWidth 10 = .ok (.invokevirtual 292, 3) := by decide +kernel
theorem dX11_meanWidth_13 : decode cX11_meanWidth 13 = .ok (.dreturn, 1) := by decide +kernel
theorem dX11_mix_0 : decode cX11_mix 0 = .ok (.aload_n 0, 1) := by decide +kernel
theorem dX11_mix_1 : decode cX11_mix 1 = .ok (.ldc2_w 296, 3) := by decide +kernel
theorem dX11_mix_4 : decode cX11_mix 4 = .ok (.aload_n 0, 1) := by decide +kernel
theorem dX11_mix_5 : decode cX11_mix 5 = .ok (.getfield 298, 3) := by decide +kernel
theorem dX11_mix_8 : decode cX11_mix 8 = .ok (.lmul, 1) := by decide +kernel
theorem dX11_mix_9 : decode cX11_mix 9 = .ok (.lload_n 1, 1) := by decide +kernel
theorem dX11_mix_10 : decode cX11_mix 10 = .ok (.ladd, 1) := by decide +kernel
theorem dX11_mix_11 : decode cX11_mix 11 = .ok (.putfield 298, 3) := by decide +kernel
theorem dX11_mix_14 : decode cX11_mix 14 = .ok (.return_, 1) := by decide +kernel
theorem dX11_mixNote_0 : decode cX11_mixNote 0 = .ok (.iconst 0, 1) := by decide +kernel
theorem dX11_mixNote_1 : decode cX11_mixNote 1 = .ok (.istore_n 2, 1) := by decide +kernel
theorem dX11_mixNote_2 : decode cX11_mixNote 2 = .ok (.iload_n 2, 1) := by decide +kernel
theorem dX11_mixNote_3 : decode cX11_mixNote 3 = .ok (.bipush 9, 2) := by decide +kernel
theorem dX11_mixNote_5 : decode cX11_mixNote 5 = .ok (.if_icmp .ge 20, 3) := by decide +kernel
theorem dX11_mixNote_8 : decode cX11_mixNote 8 = .ok (.aload_n 0, 1) := by decide +kernel
theorem dX11_mixNote_9 : decode cX11_mixNote 9 = .ok (.aload_n 0, 1) := by decide +kernel
theorem dX11_mixNote_10 : decode cX11_mixNote 10 = .ok (.iload_n 1, 1) := by decide +kernel
theorem dX11_mixNote_11 : decode cX11_mixNote 11 = .ok (.iload_n 2, 1) := by decide +kernel
theorem dX11_mixNote_12 : decode cX11_mixNote 12 = .ok (.invokevirtual 242, 3) := by decide +kernel
theorem dX11_mixNote_15 : decode cX11_mixNote 15 = .ok (.i2l, 1) := by decide +kernel
theorem dX11_mixNote_16 : decode cX11_mixNote 16 = .ok (.invokevirtual 302, 3) := by decide +kernel
theorem dX11_mixNote_19 : decode cX11_mixNote 19 = .ok (.iinc 2 1, 3) := by decide +kernel
theorem dX11_mixNote_22 : decode cX11_mixNote 22 = .ok (.goto (-20), 3) := by decide +kernel
theorem dX11_mixNote_25 : decode cX11_mixNote 25 = .ok (.iconst 0, 1) := by decide +kernel
theorem dX11_mixNote_26 : decode cX11_mixNote 26 = .ok (.istore_n 2, 1) := by decide +kernel
theorem dX11_mixNote_27 : decode cX11_mixNote 27 = .ok (.iload_n 2, 1) := by decide +kernel
theorem dX11_mixNote_28 : decode cX11_mixNote 28 = .ok (.bipush 24, 2) := by decide +kernel
theorem dX11_mixNote_30 : decode cX11_mixNote 30 = .ok (.if_icmp .ge 27, 3) := by decide +kernel
theorem dX11_mixNote_33 : decode cX11_mixNote 33 = .ok (.aload_n 0, 1) := by decide +kernel
theorem dX11_mixNote_34 : decode cX11_mixNote 34 = .ok (.aload_n 0, 1) := by decide +kernel
theorem dX11_mixNote_35 : decode cX11_mixNote 35 = .ok (.iload_n 1, 1) := by decide +kernel
theorem dX11_mixNote_36 : decode cX11_mixNote 36 = .ok (.iload_n 2, 1) := by decide +kernel
theorem dX11_mixNote_37 : decode cX11_mixNote 37 = .ok (.bipush 6, 2) := by decide +kernel
theorem dX11_mixNote_39 : decode cX11_mixNote 39 = .ok (.idiv, 1) := by decide +kernel
theorem dX11_mixNote_40 : decode cX11_mixNote 40 = .ok (.iload_n 2, 1) := by decide +kernel
theorem dX11_mixNote_41 : decode cX11_mixNote 41 = .ok (.bipush 6, 2) := by decide +kernel
theorem dX11_mixNote_43 : decode cX11_mixNote 43 = .ok (.irem, 1) := by decide +kernel
theorem dX11_mixNote_44 : decode cX11_mixNote 44 = .ok (.invokevirtual 251, 3) := by decide +kernel
theorem dX11_mixNote_47 : decode cX11_mixNote 47 = .ok (.i2l, 1) := by decide +kernel
theorem dX11_mixNote_48 : decode cX11_mixNote 48 = .ok (.invokevirtual 302, 3) := by decide +kernel
theorem dX11_mixNote_51 : decode cX11_mixNote 51 = .ok (.iinc 2 1, 3) := by decide +kernel
theorem dX11_mixNote_54 : decode cX11_mixNote 54 = .ok (.goto (-27), 3) := by decide +kernel
theorem dX11_mixNote_57 : decode cX11_mixNote 57 = .ok (.aload_n 0, 1) := by decide +kernel
theorem dX11_mixNote_58 : decode cX11_mixNote 58 = .ok (.aload_n 0, 1) := by decide +kernel
theorem dX11_mixNote_59 : decode cX11_mixNote 59 = .ok (.iload_n 1, 1) := by decide +kernel
theorem dX11_mixNote_60 : decode cX11_mixNote 60 = .ok (.iconst 0, 1) := by decide +kernel
theorem dX11_mixNote_61 : decode cX11_mixNote 61 = .ok (.invokevirtual 255, 3) := by decide +kernel
theorem dX11_mixNote_64 : decode cX11_mixNote 64 = .ok (.i2l, 1) := by decide +kernel
theorem dX11_mixNote_65 : decode cX11_mixNote 65 = .ok (.invokevirtual 302, 3) := by decide +kernel
theorem dX11_mixNote_68 : decode cX11_mixNote 68 = .ok (.aload_n 0, 1) := by decide +kernel
theorem dX11_mixNote_69 : decode cX11_mixNote 69 = .ok (.aload_n 0, 1) := by decide +kernel
theorem dX11_mixNote_70 : decode cX11_mixNote 70 = .ok (.iload_n 1, 1) := by decide +kernel
theorem dX11_mixNote_71 : decode cX11_mixNote 71 = .ok (.iconst 1, 1) := by decide +kernel
theorem dX11_mixNote_72 : decode cX11_mixNote 72 = .ok (.invokevirtual 255, 3) := by decide +kernel
theorem dX11_mixNote_75 : decode cX11_mixNote 75 = .ok (.i2l, 1) := by decide +kernel
theorem dX11_mixNote_76 : decode cX11_mixNote 76 = .ok (.invokevirtual 302, 3) := by decide +kernel
theorem dX11_mixNote_79 : decode cX11_mixNote 79 = .ok (.return_, 1) := by decide +kernel
theorem dX11_mixVerses_0 : decode cX11_mixVerses 0 = .ok (.iconst 0, 1) := by decide +kernel
theorem dX11_mixVerses_1 : decode cX11_mixVerses 1 = .ok (.istore_n 1, 1) := by decide +kernel
theorem dX11_mixVerses_2 : decode cX11_mixVerses 2 = .ok (.iload_n 1, 1) := by decide +kernel
theorem dX11_mixVerses_3 : decode cX11_mixVerses 3 = .ok (.iconst 4, 1) := by decide +kernel
theorem dX11_mixVerses_4 : decode cX11_mixVerses 4 = .ok (.if_icmp .ge 53, 3) := by decide +kernel
theorem dX11_mixVerses_7 : decode cX11_mixVerses 7 = .ok (.aload_n 0, 1) := by decide +kernel
theorem dX11_mixVerses_8 : decode cX11_mixVerses 8 = .ok (.aload_n 0, 1) := by decide +kernel
theorem dX11_mixVerses_9 : decode cX11_mixVerses 9 = .ok (.iload_n 1, 1) := by decide +kernel
theorem dX11_mixVerses_10 : decode cX11_mixVerses 10 = .ok (.invokevirtual 264, 3) := by decide +kernel
theorem dX11_mixVerses_13 : decode cX11_mixVerses 13 = .ok (.i2l, 1) := by decide +kernel
theorem dX11_mixVerses_14 : decode cX11_mixVerses 14 = .ok (.invokevirtual 302, 3) := by decide +kernel
theorem dX11_mixVerses_17 : decode cX11_mixVerses 17 = .ok (.iconst 0, 1) := by decide +kernel
theorem dX11_mixVerses_18 : decode cX11_mixVerses 18 = .ok (.istore_n 2, 1) := by decide +kernel
theorem dX11_mixVerses_19 : decode cX11_mixVerses 19 = .ok (.iload_n 2, 1) := by decide +kernel
theorem dX11_mixVerses_20 : decode cX11_mixVerses 20 = .ok (.bipush 72, 2) := by decide +kernel
theorem dX11_mixVerses_22 : decode cX11_mixVerses 22 = .ok (.if_icmp .ge 29, 3) := by decide +kernel
theorem dX11_mixVerses_25 : decode cX11_mixVerses 25 = .ok (.aload_n 0, 1) := by decide +kernel
theorem dX11_mixVerses_26 : decode cX11_mixVerses 26 = .ok (.aload_n 0, 1) := by decide +kernel
theorem dX11_mixVerses_27 : decode cX11_mixVerses 27 = .ok (.bipush 24, 2) := by decide +kernel
theorem dX11_mixVerses_29 : decode cX11_mixVerses 29 = .ok (.iload_n 1, 1) := by decide +kernel
theorem dX11_mixVerses_30 : decode cX11_mixVerses 30 = .ok (.imul, 1) := by decide +kernel
theorem dX11_mixVerses_31 : decode cX11_mixVerses 31 = .ok (.iload_n 2, 1) := by decide +kernel
theorem dX11_mixVerses_32 : decode cX11_mixVerses 32 = .ok (.iconst 3, 1) := by decide +kernel
theorem dX11_mixVerses_33 : decode cX11_mixVerses 33 = .ok (.idiv, 1) := by decide +kernel
theorem dX11_mixVerses_34 : decode cX11_mixVerses 34 = .ok (.iadd, 1) := by decide +kernel
theorem dX11_mixVerses_35 : decode cX11_mixVerses 35 = .ok (.iload_n 2, 1) := by decide +kernel
theorem dX11_mixVerses_36 : decode cX11_mixVerses 36 = .ok (.iconst 3, 1) := by decide +kernel
theorem dX11_mixVerses_37 : decode cX11_mixVerses 37 = .ok (.irem, 1) := by decide +kernel
theorem dX11_mixVerses_38 : decode cX11_mixVerses 38 = .ok (.invokevirtual 270, 3) := by decide +kernel
theorem dX11_mixVerses_41 : decode cX11_mixVerses 41 = .ok (.i2l, 1) := by decide +kernel
theorem dX11_mixVerses_42 : decode cX11_mixVerses 42 = .ok (.invokevirtual 302, 3) := by decide +kernel
theorem dX11_mixVerses_45 : decode cX11_mixVerses 45 = .ok (.iinc 2 1, 3) := by decide +kernel
theorem dX11_mixVerses_48 : decode cX11_mixVerses 48 = .ok (.goto (-29), 3) := by decide +kernel
theorem dX11_mixVerses_51 : decode cX11_mixVerses 51 = .ok (.iinc 1 1, 3) := by decide +kernel
theorem dX11_mixVerses_54 : decode cX11_mixVerses 54 = .ok (.goto (-52), 3) := by decide +kernel
theorem dX11_mixVerses_57 : decode cX11_mixVerses 57 = .ok (.aload_n 0, 1) := by decide +kernel
theorem dX11_mixVerses_58 : decode cX11_mixVerses 58 = .ok (.getfield 91, 3) := by decide +kernel
theorem dX11_mixVerses_61 : decode cX11_mixVerses 61 = .ok (.ifCond .ne 7, 3) := by decide +kernel
theorem dX11_mixVerses_64 : decode cX11_mixVerses 64 = .ok (.iconst 0, 1) := by decide +kernel
theorem dX11_mixVerses_65 : decode cX11_mixVerses 65 = .ok (.goto 28, 3) := by decide +kernel
theorem dX11_mixVerses_68 : decode cX11_mixVerses 68 = .ok (.aload_n 0, 1) := by decide +kernel
theorem dX11_mixVerses_69 : decode cX11_mixVerses 69 = .ok (.getfield 57, 3) := by decide +kernel
theorem dX11_mixVerses_72 : decode cX11_mixVerses 72 = .ok (.aload_n 0, 1) := by decide +kernel
theorem dX11_mixVerses_73 : decode cX11_mixVerses 73 = .ok (.getfield 63, 3) := by decide +kernel
theorem dX11_mixVerses_76 : decode cX11_mixVerses 76 = .ok (.iconst 0, 1) := by decide +kernel
theorem dX11_mixVerses_77 : decode cX11_mixVerses 77 = .ok (.iaload, 1) := by decide +kernel
theorem dX11_mixVerses_78 : decode cX11_mixVerses 78 = .ok (.iaload, 1) := by decide +kernel
theorem dX11_mixVerses_79 : decode cX11_mixVerses 79 = .ok (.aload_n 0, 1) := by decide +kernel
theorem dX11_mixVerses_80 : decode cX11_mixVerses 80 = .ok (.getfield 54, 3) := by decide +kernel
theorem dX11_mixVerses_83 : decode cX11_mixVerses 83 = .ok (.aload_n 0, 1) := by decide +kernel
theorem dX11_mixVerses_84 : decode cX11_mixVerses 84 = .ok (.getfield 63, 3) := by decide +kernel
theorem dX11_mixVerses_87 : decode cX11_mixVerses 87 = .ok (.iconst 0, 1) := by decide +kernel
theorem dX11_mixVerses_88 : decode cX11_mixVerses 88 = .ok (.iaload, 1) := by decide +kernel
theorem dX11_mixVerses_89 : decode cX11_mixVerses 89 = .ok (.iaload, 1) := by decide +kernel
theorem dX11_mixVerses_90 : decode cX11_mixVerses 90 = .ok (.isub, 1) := by decide +kernel
theorem dX11_mixVerses_91 : decode cX11_mixVerses 91 = .ok (.iconst 1, 1) := by decide +kernel
theorem dX11_mixVerses_92 : decode cX11_mixVerses 92 = .ok (.iadd, 1) := by decide +kernel
theorem dX11_mixVerses_93 : decode cX11_mixVerses 93 = .ok (.istore_n 1, 1) := by decide +kernel
theorem dX11_mixVerses_94 : decode cX11_mixVerses 94 = .ok (.iconst 0, 1) := by decide +kernel
theorem dX11_mixVerses_95 : decode cX11_mixVerses 95 = .ok (.istore_n 2, 1) := by decide +kernel
theorem dX11_mixVerses_96 : decode cX11_mixVerses 96 = .ok (.iload_n 2, 1) := by decide +kernel
theorem dX11_mixVerses_97 : decode cX11_mixVerses 97 = .ok (.iconst 4, 1) := by decide +kernel
theorem dX11_mixVerses_98 : decode cX11_mixVerses 98 = .ok (.iload_n 1, 1) := by decide +kernel
theorem dX11_mixVerses_99 : decode cX11_mixVerses 99 = .ok (.imul, 1) := by decide +kernel
theorem dX11_mixVerses_100 : decode cX11_mixVerses 100 = .ok (.iconst 4, 1) := by decide +kernel
theorem dX11_mixVerses_101 : decode cX11_mixVerses 101 = .ok (.imul, 1) := by decide +kernel
theorem dX11_mixVerses_102 : decode cX11_mixVerses 102 = .ok (.if_icmp .ge 44, 3) := by decide +kernel
theorem dX11_mixVerses_105 : decode cX11_mixVerses 105 = .ok (.aload_n 0, 1) := by decide +kernel
theorem dX11_mixVerses_106 : decode cX11_mixVerses 106 = .ok (.aload_n 0, 1) := by decide +kernel
theorem dX11_mixVerses_107 : decode cX11_mixVerses 107 = .ok (.iload_n 2, 1) := by decide +kernel
theorem dX11_mixVerses_108 : decode cX11_mixVerses 108 = .ok (.iconst 4, 1) := by decide +kernel
theorem dX11_mixVerses_109 : decode cX11_mixVerses 109 = .ok (.idiv, 1) := by decide +kernel
theorem dX11_mixVerses_110 : decode cX11_mixVerses 110 = .ok (.iload_n 1, 1) := by decide +kernel
theorem dX11_mixVerses_111 : decode cX11_mixVerses 111 = .ok (.idiv, 1) := by decide +kernel
theorem dX11_mixVerses_112 : decode cX11_mixVerses 112 = .ok (.iconst 0, 1) := by decide +kernel
theorem dX11_mixVerses_113 : decode cX11_mixVerses 113 = .ok (.aload_n 0, 1) := by decide +kernel
theorem dX11_mixVerses_114 : decode cX11_mixVerses 114 = .ok (.getfield 54, 3) := by decide +kernel
theorem dX11_mixVerses_117 : decode cX11_mixVerses 117 = .ok (.aload_n 0, 1) := by decide +kernel
theorem dX11_mixVerses_118 : decode cX11_mixVerses 118 = .ok (.getfield 63, 3) := by decide +kernel
theorem dX11_mixVerses_121 : decode cX11_mixVerses 121 = .ok (.iconst 0, 1) := by decide +kernel
theorem dX11_mixVerses_122 : decode cX11_mixVerses 122 = .ok (.iaload, 1) := by decide +kernel
theorem dX11_mixVerses_123 : decode cX11_mixVerses 123 = .ok (.iaload, 1) := by decide +kernel
theorem dX11_mixVerses_124 : decode cX11_mixVerses 124 = .ok (.iload_n 2, 1) := by decide +kernel
theorem dX11_mixVerses_125 : decode cX11_mixVerses 125 = .ok (.iconst 4, 1) := by decide +kernel
theorem dX11_mixVerses_126 : decode cX11_mixVerses 126 = .ok (.idiv, 1) := by decide +kernel
theorem dX11_mixVerses_127 : decode cX11_mixVerses 127 = .ok (.iload_n 1, 1) := by decide +kernel
theorem dX11_mixVerses_128 : decode cX11_mixVerses 128 = .ok (.irem, 1) := by decide +kernel
theorem dX11_mixVerses_129 : decode cX11_mixVerses 129 = .ok (.iadd, 1) := by decide +kernel
theorem dX11_mixVerses_130 : decode cX11_mixVerses 130 = .ok (.iload_n 2, 1) := by decide +kernel
theorem dX11_mixVerses_131 : decode cX11_mixVerses 131 = .ok (.iconst 4, 1) := by decide +kernel
theorem dX11_mixVerses_132 : decode cX11_mixVerses 132 = .ok (.irem, 1) := by decide +kernel
theorem dX11_mixVerses_133 : decode cX11_mixVerses 133 = .ok (.invokevirtual 273, 3) := by decide +kernel
theorem dX11_mixVerses_136 : decode cX11_mixVerses 136 = .ok (.i2l, 1) := by decide +kernel
theorem dX11_mixVerses_137 : decode cX11_mixVerses 137 = .ok (.invokevirtual 302, 3) := by decide +kernel
theorem dX11_mixVerses_140 : decode cX11_mixVerses 140 = .ok (.iinc 2 1, 3) := by decide +kernel
theorem dX11_mixVerses_143 : decode cX11_mixVerses 143 = .ok (.goto (-47), 3) := by decide +kernel
theorem dX11_mixVerses_146 : decode cX11_mixVerses 146 = .ok (.return_, 1) := by decide +kernel
theorem dX11_digest_0 : decode cX11_digest 0 = .ok (.aload_n 0, 1) := by decide +kernel
theorem dX11_digest_1 : decode cX11_digest 1 = .ok (.iconst 0, 1) := by decide +kernel
theorem dX11_digest_2 : decode cX11_digest 2 = .ok (.putfield 78, 3) := by decide +kernel
theorem dX11_digest_5 : decode cX11_digest 5 = .ok (.aload_n 0, 1) := by decide +kernel
theorem dX11_digest_6 : decode cX11_digest 6 = .ok (.ldc2_w 306, 3) := by decide +kernel
theorem dX11_digest_9 : decode cX11_digest 9 = .ok (.putfield 298, 3) := by decide +kernel
theorem dX11_digest_12 : decode cX11_digest 12 = .ok (.aload_n 0, 1) := by decide +kernel
theorem dX11_digest_13 : decode cX11_digest 13 = .ok (.invokevirtual 165, 3) := by decide +kernel
theorem dX11_digest_16 : decode cX11_digest 16 = .ok (.iconst 0, 1) := by decide +kernel
theorem dX11_digest_17 : decode cX11_digest 17 = .ok (.istore_n 1, 1) := by decide +kernel
theorem dX11_digest_18 : decode cX11_digest 18 = .ok (.iload_n 1, 1) := by decide +kernel
theorem dX11_digest_19 : decode cX11_digest 19 = .ok (.bipush 14, 2) := by decide +kernel
theorem dX11_digest_21 : decode cX11_digest 21 = .ok (.if_icmp .ge 19, 3) := by decide +kernel
theorem dX11_digest_24 : decode cX11_digest 24 = .ok (.aload_n 0, 1) := by decide +kernel
theorem dX11_digest_25 : decode cX11_digest 25 = .ok (.aload_n 0, 1) := by decide +kernel
theorem dX11_digest_26 : decode cX11_digest 26 = .ok (.iload_n 1, 1) := by decide +kernel
theorem dX11_digest_27 : decode cX11_digest 27 = .ok (.invokevirtual 289, 3) := by decide +kernel
theorem dX11_digest_30 : decode cX11_digest 30 = .ok (.i2l, 1) := by decide +kernel
theorem dX11_digest_31 : decode cX11_digest 31 = .ok (.invokevirtual 302, 3) := by decide +kernel
theorem dX11_digest_34 : decode cX11_digest 34 = .ok (.iinc 1 1, 3) := by decide +kernel
theorem dX11_digest_37 : decode cX11_digest 37 = .ok (.goto (-19), 3) := by decide +kernel
theorem dX11_digest_40 : decode cX11_digest 40 = .ok (.iconst 0, 1) := by decide +kernel
theorem dX11_digest_41 : decode cX11_digest 41 = .ok (.istore_n 1, 1) := by decide +kernel
theorem dX11_digest_42 : decode cX11_digest 42 = .ok (.iload_n 1, 1) := by decide +kernel
theorem dX11_digest_43 : decode cX11_digest 43 = .ok (.aload_n 0, 1) := by decide +kernel
theorem dX11_digest_44 : decode cX11_digest 44 = .ok (.getfield 81, 3) := by decide +kernel
theorem dX11_digest_47 : decode cX11_digest 47 = .ok (.if_icmp .ge 14, 3) := by decide +kernel
theorem dX11_digest_50 : decode cX11_digest 50 = .ok (.aload_n 0, 1) := by decide +kernel
theorem dX11_digest_51 : decode cX11_digest 51 = .ok (.iload_n 1, 1) := by decide +kernel
theorem dX11_digest_52 : decode cX11_digest 52 = .ok (.invokevirtual 308, 3) := by decide +kernel
theorem dX11_digest_55 : decode cX11_digest 55 = .ok (.iinc 1 1, 3) := by decide +kernel
theorem dX11_digest_58 : decode cX11_digest 58 = .ok (.goto (-16), 3) := by decide +kernel
theorem dX11_digest_61 : decode cX11_digest 61 = .ok (.iconst 0, 1) := by decide +kernel
theorem dX11_digest_62 : decode cX11_digest 62 = .ok (.istore_n 1, 1) := by decide +kernel
theorem dX11_digest_63 : decode cX11_digest 63 = .ok (.iload_n 1, 1) := by decide +kernel
theorem dX11_digest_64 : decode cX11_digest 64 = .ok (.bipush 6, 2) := by decide +kernel
theorem dX11_digest_66 : decode cX11_digest 66 = .ok (.aload_n 0, 1) := by decide +kernel
theorem dX11_digest_67 : decode cX11_digest 67 = .ok (.getfield 88, 3) := by decide +kernel
theorem dX11_digest_70 : decode cX11_digest 70 = .ok (.imul, 1) := by decide +kernel
theorem dX11_digest_71 : decode cX11_digest 71 = .ok (.if_icmp .ge 26, 3) := by decide +kernel
theorem dX11_digest_74 : decode cX11_digest 74 = .ok (.aload_n 0, 1) := by decide +kernel
theorem dX11_digest_75 : decode cX11_digest 75 = .ok (.aload_n 0, 1) := by decide +kernel
theorem dX11_digest_76 : decode cX11_digest 76 = .ok (.iload_n 1, 1) := by decide +kernel
theorem dX11_digest_77 : decode cX11_digest 77 = .ok (.bipush 6, 2) := by decide +kernel
theorem dX11_digest_79 : decode cX11_digest 79 = .ok (.idiv, 1) := by decide +kernel
theorem dX11_digest_80 : decode cX11_digest 80 = .ok (.iload_n 1, 1) := by decide +kernel
theorem dX11_digest_81 : decode cX11_digest 81 = .ok (.bipush 6, 2) := by decide +kernel
theorem dX11_digest_83 : decode cX11_digest 83 = .ok (.irem, 1) := by decide +kernel
theorem dX11_digest_84 : decode cX11_digest 84 = .ok (.invokevirtual 261, 3) := by decide +kernel
theorem dX11_digest_87 : decode cX11_digest 87 = .ok (.i2l, 1) := by decide +kernel
theorem dX11_digest_88 : decode cX11_digest 88 = .ok (.invokevirtual 302, 3) := by decide +kernel
theorem dX11_digest_91 : decode cX11_digest 91 = .ok (.iinc 1 1, 3) := by decide +kernel
theorem dX11_digest_94 : decode cX11_digest 94 = .ok (.goto (-31), 3) := by decide +kernel
theorem dX11_digest_97 : decode cX11_digest 97 = .ok (.iconst 0, 1) := by decide +kernel
theorem dX11_digest_98 : decode cX11_digest 98 = .ok (.istore_n 1, 1) := by decide +kernel
theorem dX11_digest_99 : decode cX11_digest 99 = .ok (.iload_n 1, 1) := by decide +kernel
theorem dX11_digest_100 : decode cX11_digest 100 = .ok (.aload_n 0, 1) := by decide +kernel
theorem dX11_digest_101 : decode cX11_digest 101 = .ok (.getfield 91, 3) := by decide +kernel
theorem dX11_digest_104 : decode cX11_digest 104 = .ok (.if_icmp .ge 20, 3) := by decide +kernel
theorem dX11_digest_107 : decode cX11_digest 107 = .ok (.aload_n 0, 1) := by decide +kernel
theorem dX11_digest_108 : decode cX11_digest 108 = .ok (.aload_n 0, 1) := by decide +kernel
theorem dX11_digest_109 : decode cX11_digest 109 = .ok (.getfield 63, 3) := by decide +kernel
theorem dX11_digest_112 : decode cX11_digest 112 = .ok (.iload_n 1, 1) := by decide +kernel
theorem dX11_digest_113 : decode cX11_digest 113 = .ok (.iaload, 1) := by decide +kernel
theorem dX11_digest_114 : decode cX11_digest 114 = .ok (.i2l, 1) := by decide +kernel
theorem dX11_digest_115 : decode cX11_digest 115 = .ok (.invokevirtual 302, 3) := by decide +kernel
theorem dX11_digest_118 : decode cX11_digest 118 = .ok (.iinc 1 1, 3) := by decide +kernel
theorem dX11_digest_121 : decode cX11_digest 121 = .ok (.goto (-22), 3) := by decide +kernel
theorem dX11_digest_124 : decode cX11_digest 124 = .ok (.aload_n 0, 1) := by decide +kernel
theorem dX11_digest_125 : decode cX11_digest 125 = .ok (.invokevirtual 312, 3) := by decide +kernel
theorem dX11_digest_128 : decode cX11_digest 128 = .ok (.iconst 0, 1) := by decide +kernel
theorem dX11_digest_129 : decode cX11_digest 129 = .ok (.istore_n 1, 1) := by decide +kernel
theorem dX11_digest_130 : decode cX11_digest 130 = .ok (.iload_n 1, 1) := by decide +kernel
theorem dX11_digest_131 : decode cX11_digest 131 = .ok (.aload_n 0, 1) := by decide +kernel
theorem dX11_digest_132 : decode cX11_digest 132 = .ok (.getfield 197, 3) := by decide +kernel
theorem dX11_digest_135 : decode cX11_digest 135 = .ok (.if_icmp .ge 53, 3) := by decide +kernel
theorem dX11_digest_138 : decode cX11_digest 138 = .ok (.aload_n 0, 1) := by decide +kernel
theorem dX11_digest_139 : decode cX11_digest 139 = .ok (.aload_n 0, 1) := by decide +kernel
theorem dX11_digest_140 : decode cX11_digest 140 = .ok (.iload_n 1, 1) := by decide +kernel
theorem dX11_digest_141 : decode cX11_digest 141 = .ok (.invokevirtual 277, 3) := by decide +kernel
theorem dX11_digest_144 : decode cX11_digest 144 = .ok (.i2l, 1) := by decide +kernel
theorem dX11_digest_145 : decode cX11_digest 145 = .ok (.invokevirtual 302, 3) := by decide +kernel
theorem dX11_digest_148 : decode cX11_digest 148 = .ok (.iconst 0, 1) := by decide +kernel
theorem dX11_digest_149 : decode cX11_digest 149 = .ok (.istore_n 2, 1) := by decide +kernel
theorem dX11_digest_150 : decode cX11_digest 150 = .ok (.iload_n 2, 1) := by decide +kernel
theorem dX11_digest_151 : decode cX11_digest 151 = .ok (.aload_n 0, 1) := by decide +kernel
theorem dX11_digest_152 : decode cX11_digest 152 = .ok (.getfield 45, 3) := by decide +kernel
theorem dX11_digest_155 : decode cX11_digest 155 = .ok (.iload_n 1, 1) := by decide +kernel
theorem dX11_digest_156 : decode cX11_digest 156 = .ok (.iaload, 1) := by decide +kernel
theorem dX11_digest_157 : decode cX11_digest 157 = .ok (.if_icmp .ge 25, 3) := by decide +kernel
theorem dX11_digest_160 : decode cX11_digest 160 = .ok (.aload_n 0, 1) := by decide +kernel
theorem dX11_digest_161 : decode cX11_digest 161 = .ok (.aload_n 0, 1) := by decide +kernel
theorem dX11_digest_162 : decode cX11_digest 162 = .ok (.getfield 48, 3) := by decide +kernel
theorem dX11_digest_165 : decode cX11_digest 165 = .ok (.bipush 24, 2) := by decide +kernel
theorem dX11_digest_167 : decode cX11_digest 167 = .ok (.iload_n 1, 1) := by decide +kernel
theorem dX11_digest_168 : decode cX11_digest 168 = .ok (.imul, 1) := by decide +kernel
theorem dX11_digest_169 : decode cX11_digest 169 = .ok (.iload_n 2, 1) := by decide +kernel
theorem dX11_digest_170 : decode cX11_digest 170 = .ok (.iadd, 1) := by decide +kernel
theorem dX11_digest_171 : decode cX11_digest 171 = .ok (.iaload, 1) := by decide +kernel
theorem dX11_digest_172 : decode cX11_digest 172 = .ok (.i2l, 1) := by decide +kernel
theorem dX11_digest_173 : decode cX11_digest 173 = .ok (.invokevirtual 302, 3) := by decide +kernel
theorem dX11_digest_176 : decode cX11_digest 176 = .ok (.iinc 2 1, 3) := by decide +kernel
theorem dX11_digest_179 : decode cX11_digest 179 = .ok (.goto (-29), 3) := by decide +kernel
theorem dX11_digest_182 : decode cX11_digest 182 = .ok (.iinc 1 1, 3) := by decide +kernel
theorem dX11_digest_185 : decode cX11_digest 185 = .ok (.goto (-55), 3) := by decide +kernel
theorem dX11_digest_188 : decode cX11_digest 188 = .ok (.aload_n 0, 1) := by decide +kernel
theorem dX11_digest_189 : decode cX11_digest 189 = .ok (.aload_n 0, 1) := by decide +kernel
theorem dX11_digest_190 : decode cX11_digest 190 = .ok (.invokevirtual 280, 3) := by decide +kernel
theorem dX11_digest_193 : decode cX11_digest 193 = .ok (.i2l, 1) := by decide +kernel
theorem dX11_digest_194 : decode cX11_digest 194 = .ok (.invokevirtual 302, 3) := by decide +kernel
theorem dX11_digest_197 : decode cX11_digest 197 = .ok (.aload_n 0, 1) := by decide +kernel
theorem dX11_digest_198 : decode cX11_digest 198 = .ok (.aload_n 0, 1) := by decide +kernel
theorem dX11_digest_199 : decode cX11_digest 199 = .ok (.invokevirtual 292, 3) := by decide +kernel
theorem dX11_digest_202 : decode cX11_digest 202 = .ok (.invokestatic 315, 3) := by decide +kernel
theorem dX11_digest_205 : decode cX11_digest 205 = .ok (.invokevirtual 302, 3) := by decide +kernel
theorem dX11_digest_208 : decode cX11_digest 208 = .ok (.aload_n 0, 1) := by decide +kernel
theorem dX11_digest_209 : decode cX11_digest 209 = .ok (.aload_n 0, 1) := by decide +kernel
theorem dX11_digest_210 : decode cX11_digest 210 = .ok (.getfield 168, 3) := by decide +kernel
theorem dX11_digest_213 : decode cX11_digest 213 = .ok (.i2l, 1) := by decide +kernel
theorem dX11_digest_214 : decode cX11_digest 214 = .ok (.invokevirtual 302, 3) := by decide +kernel
theorem dX11_digest_217 : decode cX11_digest 217 = .ok (.iconst 0, 1) := by decide +kernel
theorem dX11_digest_218 : decode cX11_digest 218 = .ok (.istore_n 1, 1) := by decide +kernel
theorem dX11_digest_219 : decode cX11_digest 219 = .ok (.iload_n 1, 1) := by decide +kernel
theorem dX11_digest_220 : decode cX11_digest 220 = .ok (.aload_n 0, 1) := by decide +kernel
theorem dX11_digest_221 : decode cX11_digest 221 = .ok (.getfield 168, 3) := by decide +kernel
theorem dX11_digest_224 : decode cX11_digest 224 = .ok (.if_icmp .ge 20, 3) := by decide +kernel
theorem dX11_digest_227 : decode cX11_digest 227 = .ok (.aload_n 0, 1) := by decide +kernel
theorem dX11_digest_228 : decode cX11_digest 228 = .ok (.aload_n 0, 1) := by decide +kernel
theorem dX11_digest_229 : decode cX11_digest 229 = .ok (.getfield 51, 3) := by decide +kernel
theorem dX11_digest_232 : decode cX11_digest 232 = .ok (.iload_n 1, 1) := by decide +kernel
theorem dX11_digest_233 : decode cX11_digest 233 = .ok (.iaload, 1) := by decide +kernel
theorem dX11_digest_234 : decode cX11_digest 234 = .ok (.i2l, 1) := by decide +kernel
theorem dX11_digest_235 : decode cX11_digest 235 = .ok (.invokevirtual 302, 3) := by decide +kernel
theorem dX11_digest_238 : decode cX11_digest 238 = .ok (.iinc 1 1, 3) := by decide +kernel
theorem dX11_digest_241 : decode cX11_digest 241 = .ok (.goto (-22), 3) := by decide +kernel
theorem dX11_digest_244 : decode cX11_digest 244 = .ok (.aload_n 0, 1) := by decide +kernel
theorem dX11_digest_245 : decode cX11_digest 245 = .ok (.getfield 298, 3) := by decide +kernel
theorem dX11_digest_248 : decode cX11_digest 248 = .ok (.lreturn, 1) := by decide +kernel
