theorem dL_line_162 : decode cL_line 162 = .ok (.iadd, 1) := by decide +kernel
theorem dL_line_163 : decode cL_line 163 = .ok (.goto 22, 3) := by decide +kernel
theorem dL_line_166 : decode cL_line 166 = .ok (.iload_n 2, 1) := by decide +kernel
theorem dL_line_167 : decode cL_line 167 = .ok (.iload 12, 2) := by decide +kernel
theorem dL_line_169 : decode cL_line 169 = .ok (.ishr, 1) := by decide +kernel
theorem dL_line_170 : decode cL_line 170 = .ok (.bipush 9, 2) := by decide +kernel
theorem dL_line_172 : decode cL_line 172 = .ok (.invokestatic 99, 3) := by decide +kernel
theorem dL_line_175 : decode cL_line 175 = .ok (.ifCond .ne 8, 3) := by decide +kernel
theorem dL_line_178 : decode cL_line 178 = .ok (.bipush 39, 2) := by decide +kernel
theorem dL_line_180 : decode cL_line 180 = .ok (.goto 5, 3) := by decide +kernel
theorem dL_line_183 : decode cL_line 183 = .ok (.bipush 77, 2) := by decide +kernel
theorem dL_line_185 : decode cL_line 185 = .ok (.invokevirtual 120, 3) := by decide +kernel
theorem dL_line_188 : decode cL_line 188 = .ok (.iinc 7 1, 3) := by decide +kernel
theorem dL_line_191 : decode cL_line 191 = .ok (.iload 7, 2) := by decide +kernel
theorem dL_line_193 : decode cL_line 193 = .ok (.if_icmp .eq 5, 3) := by decide +kernel
theorem dL_line_196 : decode cL_line 196 = .ok (.iconst 0, 1) := by decide +kernel
theorem dL_line_197 : decode cL_line 197 = .ok (.ireturn, 1) := by decide +kernel
theorem dL_line_198 : decode cL_line 198 = .ok (.iinc 12 1, 3) := by decide +kernel
theorem dL_line_201 : decode cL_line 201 = .ok (.goto (-56), 3) := by decide +kernel
theorem dL_line_204 : decode cL_line 204 = .ok (.iload 9, 2) := by decide +kernel
theorem dL_line_206 : decode cL_line 206 = .ok (.iload 6, 2) := by decide +kernel
theorem dL_line_208 : decode cL_line 208 = .ok (.iconst 1, 1) := by decide +kernel
theorem dL_line_209 : decode cL_line 209 = .ok (.isub, 1) := by decide +kernel
theorem dL_line_210 : decode cL_line 210 = .ok (.if_icmp .ne 6, 3) := by decide +kernel
theorem dL_line_213 : decode cL_line 213 = .ok (.goto 39, 3) := by decide +kernel
theorem dL_line_216 : decode cL_line 216 = .ok (.aload_n 0, 1) := by decide +kernel
theorem dL_line_217 : decode cL_line 217 = .ok (.iload 11, 2) := by decide +kernel
theorem dL_line_219 : decode cL_line 219 = .ok (.ifCond .eq 8, 3) := by decide +kernel
theorem dL_line_222 : decode cL_line 222 = .ok (.bipush 32, 2) := by decide +kernel
theorem dL_line_224 : decode cL_line 224 = .ok (.goto 5, 3) := by decide +kernel
theorem dL_line_227 : decode cL_line 227 = .ok (.bipush 45, 2) := by decide +kernel
theorem dL_line_229 : decode cL_line 229 = .ok (.invokevirtual 120, 3) := by decide +kernel
theorem dL_line_232 : decode cL_line 232 = .ok (.iinc 7 1, 3) := by decide +kernel
theorem dL_line_235 : decode cL_line 235 = .ok (.iload 7, 2) := by decide +kernel
theorem dL_line_237 : decode cL_line 237 = .ok (.if_icmp .ne 13, 3) := by decide +kernel
theorem dL_line_240 : decode cL_line 240 = .ok (.aload_n 0, 1) := by decide +kernel
theorem dL_line_241 : decode cL_line 241 = .ok (.iconst 0, 1) := by decide +kernel
theorem dL_line_242 : decode cL_line 242 = .ok (.invokevirtual 123, 3) := by decide +kernel
theorem dL_line_245 : decode cL_line 245 = .ok (.iload 7, 2) := by decide +kernel
theorem dL_line_247 : decode cL_line 247 = .ok (.if_icmp .eq 5, 3) := by decide +kernel
theorem dL_line_250 : decode cL_line 250 = .ok (.iconst 0, 1) := by decide +kernel
theorem dL_line_251 : decode cL_line 251 = .ok (.ireturn, 1) := by decide +kernel
theorem dL_line_252 : decode cL_line 252 = .ok (.iinc 9 1, 3) := by decide +kernel
theorem dL_line_255 : decode cL_line 255 = .ok (.goto (-212), 3) := by decide +kernel
theorem dL_line_258 : decode cL_line 258 = .ok (.aload_n 3, 1) := by decide +kernel
theorem dL_line_259 : decode cL_line 259 = .ok (.bipush 8, 2) := by decide +kernel
theorem dL_line_261 : decode cL_line 261 = .ok (.iload 4, 2) := by decide +kernel
theorem dL_line_263 : decode cL_line 263 = .ok (.imul, 1) := by decide +kernel
theorem dL_line_264 : decode cL_line 264 = .ok (.iload 5, 2) := by decide +kernel
theorem dL_line_266 : decode cL_line 266 = .ok (.iadd, 1) := by decide +kernel
theorem dL_line_267 : decode cL_line 267 = .ok (.iload 8, 2) := by decide +kernel
theorem dL_line_269 : decode cL_line 269 = .ok (.iastore, 1) := by decide +kernel
theorem dL_line_270 : decode cL_line 270 = .ok (.aload_n 0, 1) := by decide +kernel
theorem dL_line_271 : decode cL_line 271 = .ok (.iconst 0, 1) := by decide +kernel
theorem dL_line_272 : decode cL_line 272 = .ok (.invokevirtual 123, 3) := by decide +kernel
theorem dL_line_275 : decode cL_line 275 = .ok (.iload 7, 2) := by decide +kernel
theorem dL_line_277 : decode cL_line 277 = .ok (.if_icmp .ne 27, 3) := by decide +kernel
theorem dL_line_280 : decode cL_line 280 = .ok (.aload_n 0, 1) := by decide +kernel
theorem dL_line_281 : decode cL_line 281 = .ok (.iload 4, 2) := by decide +kernel
theorem dL_line_283 : decode cL_line 283 = .ok (.iload 5, 2) := by decide +kernel
theorem dL_line_285 : decode cL_line 285 = .ok (.invokevirtual 142, 3) := by decide +kernel
theorem dL_line_288 : decode cL_line 288 = .ok (.iload 6, 2) := by decide +kernel
theorem dL_line_290 : decode cL_line 290 = .ok (.if_icmp .ne 14, 3) := by decide +kernel
theorem dL_line_293 : decode cL_line 293 = .ok (.aload_n 0, 1) := by decide +kernel
theorem dL_line_294 : decode cL_line 294 = .ok (.invokevirtual 116, 3) := by decide +kernel
theorem dL_line_297 : decode cL_line 297 = .ok (.ifCond .ne 7, 3) := by decide +kernel
theorem dL_line_300 : decode cL_line 300 = .ok (.iconst 1, 1) := by decide +kernel
theorem dL_line_301 : decode cL_line 301 = .ok (.goto 4, 3) := by decide +kernel
theorem dL_line_304 : decode cL_line 304 = .ok (.iconst 0, 1) := by decide +kernel
theorem dL_line_305 : decode cL_line 305 = .ok (.ireturn, 1) := by decide +kernel
theorem dL_act_0 : decode cL_act 0 = .ok (.iload_n 1, 1) := by decide +kernel
theorem dL_act_1 : decode cL_act 1 = .ok (.bipush 6, 2) := by decide +kernel
theorem dL_act_3 : decode cL_act 3 = .ok (.if_icmp .lt 10, 3) := by decide +kernel
theorem dL_act_6 : decode cL_act 6 = .ok (.aload 4, 2) := by decide +kernel
theorem dL_act_8 : decode cL_act 8 = .ok (.iconst 1, 1) := by decide +kernel
theorem dL_act_9 : decode cL_act 9 = .ok (.iaload, 1) := by decide +kernel
theorem dL_act_10 : decode cL_act 10 = .ok (.ifCond .ne 198, 3) := by decide +kernel
theorem dL_act_13 : decode cL_act 13 = .ok (.aload 4, 2) := by decide +kernel
theorem dL_act_15 : decode cL_act 15 = .ok (.iconst 1, 1) := by decide +kernel
theorem dL_act_16 : decode cL_act 16 = .ok (.iaload, 1) := by decide +kernel
theorem dL_act_17 : decode cL_act 17 = .ok (.bipush 12, 2) := by decide +kernel
theorem dL_act_19 : decode cL_act 19 = .ok (.if_icmp .ne 5, 3) := by decide +kernel
theorem dL_act_22 : decode cL_act 22 = .ok (.iconst 1, 1) := by decide +kernel
theorem dL_act_23 : decode cL_act 23 = .ok (.ireturn, 1) := by decide +kernel
theorem dL_act_24 : decode cL_act 24 = .ok (.iconst 5, 1) := by decide +kernel
theorem dL_act_25 : decode cL_act 25 = .ok (.aload 4, 2) := by decide +kernel
theorem dL_act_27 : decode cL_act 27 = .ok (.iconst 1, 1) := by decide +kernel
theorem dL_act_28 : decode cL_act 28 = .ok (.iaload, 1) := by decide +kernel
theorem dL_act_29 : decode cL_act 29 = .ok (.imul, 1) := by decide +kernel
theorem dL_act_30 : decode cL_act 30 = .ok (.istore 8, 2) := by decide +kernel
theorem dL_act_32 : decode cL_act 32 = .ok (.aload 5, 2) := by decide +kernel
theorem dL_act_34 : decode cL_act 34 = .ok (.iload 8, 2) := by decide +kernel
theorem dL_act_36 : decode cL_act 36 = .ok (.iconst 4, 1) := by decide +kernel
theorem dL_act_37 : decode cL_act 37 = .ok (.iconst 1, 1) := by decide +kernel
theorem dL_act_38 : decode cL_act 38 = .ok (.iload_n 2, 1) := by decide +kernel
theorem dL_act_39 : decode cL_act 39 = .ok (.iconst 4, 1) := by decide +kernel
theorem dL_act_40 : decode cL_act 40 = .ok (.invokestatic 99, 3) := by decide +kernel
theorem dL_act_43 : decode cL_act 43 = .ok (.iadd, 1) := by decide +kernel
theorem dL_act_44 : decode cL_act 44 = .ok (.imul, 1) := by decide +kernel
theorem dL_act_45 : decode cL_act 45 = .ok (.iastore, 1) := by decide +kernel
theorem dL_act_46 : decode cL_act 46 = .ok (.iconst 0, 1) := by decide +kernel
theorem dL_act_47 : decode cL_act 47 = .ok (.istore 9, 2) := by decide +kernel
theorem dL_act_49 : decode cL_act 49 = .ok (.iload 9, 2) := by decide +kernel
theorem dL_act_51 : decode cL_act 51 = .ok (.iconst 4, 1) := by decide +kernel
theorem dL_act_52 : decode cL_act 52 = .ok (.if_icmp .ge 85, 3) := by decide +kernel
theorem dL_act_55 : decode cL_act 55 = .ok (.aload 5, 2) := by decide +kernel
theorem dL_act_57 : decode cL_act 57 = .ok (.iload 8, 2) := by decide +kernel
theorem dL_act_59 : decode cL_act 59 = .ok (.iconst 1, 1) := by decide +kernel
theorem dL_act_60 : decode cL_act 60 = .ok (.iadd, 1) := by decide +kernel
theorem dL_act_61 : decode cL_act 61 = .ok (.iload 9, 2) := by decide +kernel
theorem dL_act_63 : decode cL_act 63 = .ok (.iadd, 1) := by decide +kernel
theorem dL_act_64 : decode cL_act 64 = .ok (.aload 4, 2) := by decide +kernel
theorem dL_act_66 : decode cL_act 66 = .ok (.iconst 1, 1) := by decide +kernel
theorem dL_act_67 : decode cL_act 67 = .ok (.iaload, 1) := by decide +kernel
theorem dL_act_68 : decode cL_act 68 = .ok (.ifCond .le 45, 3) := by decide +kernel
theorem dL_act_71 : decode cL_act 71 = .ok (.iload_n 2, 1) := by decide +kernel
theorem dL_act_72 : decode cL_act 72 = .ok (.iload 9, 2) := by decide +kernel
theorem dL_act_74 : decode cL_act 74 = .ok (.iconst 4, 1) := by decide +kernel
theorem dL_act_75 : decode cL_act 75 = .ok (.iadd, 1) := by decide +kernel
theorem dL_act_76 : decode cL_act 76 = .ok (.ishr, 1) := by decide +kernel
theorem dL_act_77 : decode cL_act 77 = .ok (.iconst 3, 1) := by decide +kernel
theorem dL_act_78 : decode cL_act 78 = .ok (.invokestatic 99, 3) := by decide +kernel
theorem dL_act_81 : decode cL_act 81 = .ok (.ifCond .le 32, 3) := by decide +kernel
theorem dL_act_84 : decode cL_act 84 = .ok (.aload 5, 2) := by decide +kernel
theorem dL_act_86 : decode cL_act 86 = .ok (.iload 8, 2) := by decide +kernel
theorem dL_act_88 : decode cL_act 88 = .ok (.iconst 4, 1) := by decide +kernel
theorem dL_act_89 : decode cL_act 89 = .ok (.isub, 1) := by decide +kernel
theorem dL_act_90 : decode cL_act 90 = .ok (.iload 9, 2) := by decide +kernel
theorem dL_act_92 : decode cL_act 92 = .ok (.iadd, 1) := by decide +kernel
theorem dL_act_93 : decode cL_act 93 = .ok (.iaload, 1) := by decide +kernel
theorem dL_act_94 : decode cL_act 94 = .ok (.iload_n 3, 1) := by decide +kernel
theorem dL_act_95 : decode cL_act 95 = .ok (.iconst 3, 1) := by decide +kernel
theorem dL_act_96 : decode cL_act 96 = .ok (.iload 9, 2) := by decide +kernel
theorem dL_act_98 : decode cL_act 98 = .ok (.imul, 1) := by decide +kernel
theorem dL_act_99 : decode cL_act 99 = .ok (.ishr, 1) := by decide +kernel
theorem dL_act_100 : decode cL_act 100 = .ok (.bipush 9, 2) := by decide +kernel
theorem dL_act_102 : decode cL_act 102 = .ok (.invokestatic 99, 3) := by decide +kernel
theorem dL_act_105 : decode cL_act 105 = .ok (.iconst 4, 1) := by decide +kernel
theorem dL_act_106 : decode cL_act 106 = .ok (.isub, 1) := by decide +kernel
theorem dL_act_107 : decode cL_act 107 = .ok (.invokestatic 145, 3) := by decide +kernel
theorem dL_act_110 : decode cL_act 110 = .ok (.goto 20, 3) := by decide +kernel
theorem dL_act_113 : decode cL_act 113 = .ok (.bipush 36, 2) := by decide +kernel
theorem dL_act_115 : decode cL_act 115 = .ok (.iload_n 3, 1) := by decide +kernel
theorem dL_act_116 : decode cL_act 116 = .ok (.iconst 5, 1) := by decide +kernel
theorem dL_act_117 : decode cL_act 117 = .ok (.iload 9, 2) := by decide +kernel
theorem dL_act_119 : decode cL_act 119 = .ok (.imul, 1) := by decide +kernel
theorem dL_act_120 : decode cL_act 120 = .ok (.ishr, 1) := by decide +kernel
theorem dL_act_121 : decode cL_act 121 = .ok (.iload 9, 2) := by decide +kernel
theorem dL_act_123 : decode cL_act 123 = .ok (.iadd, 1) := by decide +kernel
theorem dL_act_124 : decode cL_act 124 = .ok (.bipush 49, 2) := by decide +kernel
theorem dL_act_126 : decode cL_act 126 = .ok (.invokestatic 99, 3) := by decide +kernel
theorem dL_act_129 : decode cL_act 129 = .ok (.iadd, 1) := by decide +kernel
theorem dL_act_130 : decode cL_act 130 = .ok (.iastore, 1) := by decide +kernel
theorem dL_act_131 : decode cL_act 131 = .ok (.iinc 9 1, 3) := by decide +kernel
theorem dL_act_134 : decode cL_act 134 = .ok (.goto (-85), 3) := by decide +kernel
theorem dL_act_137 : decode cL_act 137 = .ok (.aload 4, 2) := by decide +kernel
theorem dL_act_139 : decode cL_act 139 = .ok (.iconst 1, 1) := by decide +kernel
theorem dL_act_140 : decode cL_act 140 = .ok (.dup2, 1) := by decide +kernel
theorem dL_act_141 : decode cL_act 141 = .ok (.iaload, 1) := by decide +kernel
theorem dL_act_142 : decode cL_act 142 = .ok (.iconst 1, 1) := by decide +kernel
theorem dL_act_143 : decode cL_act 143 = .ok (.iadd, 1) := by decide +kernel
theorem dL_act_144 : decode cL_act 144 = .ok (.iastore, 1) := by decide +kernel
theorem dL_act_145 : decode cL_act 145 = .ok (.aload 4, 2) := by decide +kernel
theorem dL_act_147 : decode cL_act 147 = .ok (.aload 5, 2) := by decide +kernel
theorem dL_act_149 : decode cL_act 149 = .ok (.aload 6, 2) := by decide +kernel
theorem dL_act_151 : decode cL_act 151 = .ok (.invokestatic 148, 3) := by decide +kernel
theorem dL_act_154 : decode cL_act 154 = .ok (.aload_n 0, 1) := by decide +kernel
theorem dL_act_155 : decode cL_act 155 = .ok (.aload 5, 2) := by decide +kernel
theorem dL_act_157 : decode cL_act 157 = .ok (.iload 8, 2) := by decide +kernel
theorem dL_act_159 : decode cL_act 159 = .ok (.iaload, 1) := by decide +kernel
theorem dL_act_160 : decode cL_act 160 = .ok (.iconst 2, 1) := by decide +kernel
theorem dL_act_161 : decode cL_act 161 = .ok (.ishr, 1) := by decide +kernel
theorem dL_act_162 : decode cL_act 162 = .ok (.aload 5, 2) := by decide +kernel
theorem dL_act_164 : decode cL_act 164 = .ok (.iload 8, 2) := by decide +kernel
theorem dL_act_166 : decode cL_act 166 = .ok (.iconst 1, 1) := by decide +kernel
theorem dL_act_167 : decode cL_act 167 = .ok (.iadd, 1) := by decide +kernel
theorem dL_act_168 : decode cL_act 168 = .ok (.iaload, 1) := by decide +kernel
theorem dL_act_169 : decode cL_act 169 = .ok (.aload 5, 2) := by decide +kernel
theorem dL_act_171 : decode cL_act 171 = .ok (.iload 8, 2) := by decide +kernel
theorem dL_act_173 : decode cL_act 173 = .ok (.iconst 2, 1) := by decide +kernel
theorem dL_act_174 : decode cL_act 174 = .ok (.iadd, 1) := by decide +kernel
theorem dL_act_175 : decode cL_act 175 = .ok (.iaload, 1) := by decide +kernel
theorem dL_act_176 : decode cL_act 176 = .ok (.aload 5, 2) := by decide +kernel
theorem dL_act_178 : decode cL_act 178 = .ok (.iload 8, 2) := by decide +kernel
theorem dL_act_180 : decode cL_act 180 = .ok (.iconst 3, 1) := by decide +kernel
theorem dL_act_181 : decode cL_act 181 = .ok (.iadd, 1) := by decide +kernel
theorem dL_act_182 : decode cL_act 182 = .ok (.iaload, 1) := by decide +kernel
theorem dL_act_183 : decode cL_act 183 = .ok (.aload 5, 2) := by decide +kernel
theorem dL_act_185 : decode cL_act 185 = .ok (.iload 8, 2) := by decide +kernel
theorem dL_act_187 : decode cL_act 187 = .ok (.iconst 4, 1) := by decide +kernel
theorem dL_act_188 : decode cL_act 188 = .ok (.iadd, 1) := by decide +kernel
theorem dL_act_189 : decode cL_act 189 = .ok (.iaload, 1) := by decide +kernel
theorem dL_act_190 : decode cL_act 190 = .ok (.invokevirtual 152, 3) := by decide +kernel
theorem dL_act_193 : decode cL_act 193 = .ok (.aload 4, 2) := by decide +kernel
theorem dL_act_195 : decode cL_act 195 = .ok (.iconst 1, 1) := by decide +kernel
theorem dL_act_196 : decode cL_act 196 = .ok (.iaload, 1) := by decide +kernel
theorem dL_act_197 : decode cL_act 197 = .ok (.iconst 1, 1) := by decide +kernel
theorem dL_act_198 : decode cL_act 198 = .ok (.isub, 1) := by decide +kernel
theorem dL_act_199 : decode cL_act 199 = .ok (.if_icmp .ne 7, 3) := by decide +kernel
theorem dL_act_202 : decode cL_act 202 = .ok (.iconst 1, 1) := by decide +kernel
theorem dL_act_203 : decode cL_act 203 = .ok (.goto 4, 3) := by decide +kernel
theorem dL_act_206 : decode cL_act 206 = .ok (.iconst 0, 1) := by decide +kernel
theorem dL_act_207 : decode cL_act 207 = .ok (.ireturn, 1) := by decide +kernel
theorem dL_act_208 : decode cL_act 208 = .ok (.iload_n 2, 1) := by decide +kernel
theorem dL_act_209 : decode cL_act 209 = .ok (.aload 4, 2) := by decide +kernel
theorem dL_act_211 : decode cL_act 211 = .ok (.iconst 1, 1) := by decide +kernel
theorem dL_act_212 : decode cL_act 212 = .ok (.iaload, 1) := by decide +kernel
theorem dL_act_213 : decode cL_act 213 = .ok (.invokestatic 99, 3) := by decide +kernel
theorem dL_act_216 : decode cL_act 216 = .ok (.istore 8, 2) := by decide +kernel
theorem dL_act_218 : decode cL_act 218 = .ok (.iload_n 1, 1) := by decide +kernel
theorem dL_act_219 : decode cL_act 219 = .ok (.bipush 10, 2) := by decide +kernel
theorem dL_act_221 : decode cL_act 221 = .ok (.if_icmp .ge 119, 3) := by decide +kernel
theorem dL_act_224 : decode cL_act 224 = .ok (.iload_n 3, 1) := by decide +kernel
theorem dL_act_225 : decode cL_act 225 = .ok (.iconst 2, 1) := by decide +kernel
theorem dL_act_226 : decode cL_act 226 = .ok (.invokestatic 99, 3) := by decide +kernel
theorem dL_act_229 : decode cL_act 229 = .ok (.ifCond .ne 7, 3) := by decide +kernel
theorem dL_act_232 : decode cL_act 232 = .ok (.iconst 1, 1) := by decide +kernel
theorem dL_act_233 : decode cL_act 233 = .ok (.goto 4, 3) := by decide +kernel
theorem dL_act_236 : decode cL_act 236 = .ok (.iconst 0, 1) := by decide +kernel
theorem dL_act_237 : decode cL_act 237 = .ok (.istore 9, 2) := by decide +kernel
theorem dL_act_239 : decode cL_act 239 = .ok (.iload_n 3, 1) := by decide +kernel
theorem dL_act_240 : decode cL_act 240 = .ok (.iconst 1, 1) := by decide +kernel
theorem dL_act_241 : decode cL_act 241 = .ok (.ishr, 1) := by decide +kernel
theorem dL_act_242 : decode cL_act 242 = .ok (.iconst 4, 1) := by decide +kernel
theorem dL_act_243 : decode cL_act 243 = .ok (.invokestatic 99, 3) := by decide +kernel
theorem dL_act_246 : decode cL_act 246 = .ok (.ifCond .le 7, 3) := by decide +kernel
theorem dL_act_249 : decode cL_act 249 = .ok (.iconst 1, 1) := by decide +kernel
theorem dL_act_250 : decode cL_act 250 = .ok (.goto 4, 3) := by decide +kernel
theorem dL_act_253 : decode cL_act 253 = .ok (.iconst 0, 1) := by decide +kernel
theorem dL_act_254 : decode cL_act 254 = .ok (.istore 10, 2) := by decide +kernel
theorem dL_act_256 : decode cL_act 256 = .ok (.iload 9, 2) := by decide +kernel
theorem dL_act_258 : decode cL_act 258 = .ok (.ifCond .eq 7, 3) := by decide +kernel
theorem dL_act_261 : decode cL_act 261 = .ok (.iconst 2, 1) := by decide +kernel
theorem dL_act_262 : decode cL_act 262 = .ok (.goto 4, 3) := by decide +kernel
theorem dL_act_265 : decode cL_act 265 = .ok (.iconst 1, 1) := by decide +kernel
theorem dL_act_266 : decode cL_act 266 = .ok (.istore 11, 2) := by decide +kernel
theorem dL_act_268 : decode cL_act 268 = .ok (.aload 5, 2) := by decide +kernel
theorem dL_act_270 : decode cL_act 270 = .ok (.iconst 5, 1) := by decide +kernel
theorem dL_act_271 : decode cL_act 271 = .ok (.iload 8, 2) := by decide +kernel
theorem dL_act_273 : decode cL_act 273 = .ok (.imul, 1) := by decide +kernel
theorem dL_act_274 : decode cL_act 274 = .ok (.iload 10, 2) := by decide +kernel
theorem dL_act_276 : decode cL_act 276 = .ok (.ifCond .eq 16, 3) := by decide +kernel
theorem dL_act_279 : decode cL_act 279 = .ok (.aload 5, 2) := by decide +kernel
theorem dL_act_281 : decode cL_act 281 = .ok (.iconst 5, 1) := by decide +kernel
theorem dL_act_282 : decode cL_act 282 = .ok (.iload 8, 2) := by decide +kernel
theorem dL_act_284 : decode cL_act 284 = .ok (.imul, 1) := by decide +kernel
theorem dL_act_285 : decode cL_act 285 = .ok (.iaload, 1) := by decide +kernel
theorem dL_act_286 : decode cL_act 286 = .ok (.iload 11, 2) := by decide +kernel
theorem dL_act_288 : decode cL_act 288 = .ok (.ior, 1) := by decide +kernel
theorem dL_act_289 : decode cL_act 289 = .ok (.goto 15, 3) := by decide +kernel
theorem dL_act_292 : decode cL_act 292 = .ok (.aload 5, 2) := by decide +kernel
theorem dL_act_294 : decode cL_act 294 = .ok (.iconst 5, 1) := by decide +kernel
theorem dL_act_295 : decode cL_act 295 = .ok (.iload 8, 2) := by decide +kernel
theorem dL_act_297 : decode cL_act 297 = .ok (.imul, 1) := by decide +kernel
theorem dL_act_298 : decode cL_act 298 = .ok (.iaload, 1) := by decide +kernel
theorem dL_act_299 : decode cL_act 299 = .ok (.iload 11, 2) := by decide +kernel
theorem dL_act_301 : decode cL_act 301 = .ok (.iconst (-1), 1) := by decide +kernel
theorem dL_act_302 : decode cL_act 302 = .ok (.ixor, 1) := by decide +kernel
theorem dL_act_303 : decode cL_act 303 = .ok (.iand, 1) := by decide +kernel
theorem dL_act_304 : decode cL_act 304 = .ok (.iastore, 1) := by decide +kernel
theorem dL_act_305 : decode cL_act 305 = .ok (.aload 4, 2) := by decide +kernel
theorem dL_act_307 : decode cL_act 307 = .ok (.aload 5, 2) := by decide +kernel
theorem dL_act_309 : decode cL_act 309 = .ok (.aload 6, 2) := by decide +kernel
theorem dL_act_311 : decode cL_act 311 = .ok (.invokestatic 148, 3) := by decide +kernel
theorem dL_act_314 : decode cL_act 314 = .ok (.aload_n 0, 1) := by decide +kernel
theorem dL_act_315 : decode cL_act 315 = .ok (.iload 8, 2) := by decide +kernel
theorem dL_act_317 : decode cL_act 317 = .ok (.iload 9, 2) := by decide +kernel
theorem dL_act_319 : decode cL_act 319 = .ok (.iload 10, 2) := by decide +kernel
theorem dL_act_321 : decode cL_act 321 = .ok (.invokevirtual 156, 3) := by decide +kernel
theorem dL_act_324 : decode cL_act 324 = .ok (.aload 4, 2) := by decide +kernel
theorem dL_act_326 : decode cL_act 326 = .ok (.aload 5, 2) := by decide +kernel
theorem dL_act_328 : decode cL_act 328 = .ok (.invokestatic 21, 3) := by decide +kernel
theorem dL_act_331 : decode cL_act 331 = .ok (.if_icmp .ne 7, 3) := by decide +kernel
theorem dL_act_334 : decode cL_act 334 = .ok (.iconst 1, 1) := by decide +kernel
theorem dL_act_335 : decode cL_act 335 = .ok (.goto 4, 3) := by decide +kernel
theorem dL_act_338 : decode cL_act 338 = .ok (.iconst 0, 1) := by decide +kernel
theorem dL_act_339 : decode cL_act 339 = .ok (.ireturn, 1) := by decide +kernel
theorem dL_act_340 : decode cL_act 340 = .ok (.iload_n 1, 1) := by decide +kernel
theorem dL_act_341 : decode cL_act 341 = .ok (.bipush 10, 2) := by decide +kernel
theorem dL_act_343 : decode cL_act 343 = .ok (.if_icmp .ne 37, 3) := by decide +kernel
theorem dL_act_346 : decode cL_act 346 = .ok (.aload 4, 2) := by decide +kernel
theorem dL_act_348 : decode cL_act 348 = .ok (.iconst 1, 1) := by decide +kernel
theorem dL_act_349 : decode cL_act 349 = .ok (.dup2, 1) := by decide +kernel
theorem dL_act_350 : decode cL_act 350 = .ok (.iaload, 1) := by decide +kernel
theorem dL_act_351 : decode cL_act 351 = .ok (.iconst 1, 1) := by decide +kernel
theorem dL_act_352 : decode cL_act 352 = .ok (.isub, 1) := by decide +kernel
theorem dL_act_353 : decode cL_act 353 = .ok (.iastore, 1) := by decide +kernel
theorem dL_act_354 : decode cL_act 354 = .ok (.aload 4, 2) := by decide +kernel
theorem dL_act_356 : decode cL_act 356 = .ok (.aload 5, 2) := by decide +kernel
theorem dL_act_358 : decode cL_act 358 = .ok (.aload 6, 2) := by decide +kernel
theorem dL_act_360 : decode cL_act 360 = .ok (.invokestatic 148, 3) := by decide +kernel
theorem dL_act_363 : decode cL_act 363 = .ok (.aload_n 0, 1) := by decide +kernel
theorem dL_act_364 : decode cL_act 364 = .ok (.invokevirtual 160, 3) := by decide +kernel
theorem dL_act_367 : decode cL_act 367 = .ok (.aload 4, 2) := by decide +kernel
theorem dL_act_369 : decode cL_act 369 = .ok (.iconst 1, 1) := by decide +kernel
theorem dL_act_370 : decode cL_act 370 = .ok (.iaload, 1) := by decide +kernel
theorem dL_act_371 : decode cL_act 371 = .ok (.if_icmp .ne 7, 3) := by decide +kernel
theorem dL_act_374 : decode cL_act 374 = .ok (.iconst 1, 1) := by decide +kernel
theorem dL_act_375 : decode cL_act 375 = .ok (.goto 4, 3) := by decide +kernel
theorem dL_act_378 : decode cL_act 378 = .ok (.iconst 0, 1) := by decide +kernel
theorem dL_act_379 : decode cL_act 379 = .ok (.ireturn, 1) := by decide +kernel
theorem dL_act_380 : decode cL_act 380 = .ok (.iload_n 1, 1) := by decide +kernel
theorem dL_act_381 : decode cL_act 381 = .ok (.bipush 11, 2) := by decide +kernel
theorem dL_act_383 : decode cL_act 383 = .ok (.if_icmp .ne 78, 3) := by decide +kernel
theorem dL_act_386 : decode cL_act 386 = .ok (.iload_n 3, 1) := by decide +kernel
theorem dL_act_387 : decode cL_act 387 = .ok (.iconst 4, 1) := by decide +kernel
theorem dL_act_388 : decode cL_act 388 = .ok (.invokestatic 99, 3) := by decide +kernel
theorem dL_act_391 : decode cL_act 391 = .ok (.istore 9, 2) := by decide +kernel
theorem dL_act_393 : decode cL_act 393 = .ok (.aload 5, 2) := by decide +kernel
theorem dL_act_395 : decode cL_act 395 = .ok (.iconst 5, 1) := by decide +kernel
theorem dL_act_396 : decode cL_act 396 = .ok (.iload 8, 2) := by decide +kernel
theorem dL_act_398 : decode cL_act 398 = .ok (.imul, 1) := by decide +kernel
theorem dL_act_399 : decode cL_act 399 = .ok (.iconst 1, 1) := by decide +kernel
theorem dL_act_400 : decode cL_act 400 = .ok (.iadd, 1) := by decide +kernel
theorem dL_act_401 : decode cL_act 401 = .ok (.iload 9, 2) := by decide +kernel
theorem dL_act_403 : decode cL_act 403 = .ok (.iadd, 1) := by decide +kernel
theorem dL_act_404 : decode cL_act 404 = .ok (.iaload, 1) := by decide +kernel
theorem dL_act_405 : decode cL_act 405 = .ok (.istore 10, 2) := by decide +kernel
theorem dL_act_407 : decode cL_act 407 = .ok (.aload 5, 2) := by decide +kernel
theorem dL_act_409 : decode cL_act 409 = .ok (.iconst 5, 1) := by decide +kernel
theorem dL_act_410 : decode cL_act 410 = .ok (.iload 8, 2) := by decide +kernel
theorem dL_act_412 : decode cL_act 412 = .ok (.imul, 1) := by decide +kernel
theorem dL_act_413 : decode cL_act 413 = .ok (.iconst 1, 1) := by decide +kernel
theorem dL_act_414 : decode cL_act 414 = .ok (.iadd, 1) := by decide +kernel
theorem dL_act_415 : decode cL_act 415 = .ok (.iload 9, 2) := by decide +kernel
theorem dL_act_417 : decode cL_act 417 = .ok (.iadd, 1) := by decide +kernel
theorem dL_act_418 : decode cL_act 418 = .ok (.bipush 36, 2) := by decide +kernel
theorem dL_act_420 : decode cL_act 420 = .ok (.iload_n 3, 1) := by decide +kernel
theorem dL_act_421 : decode cL_act 421 = .ok (.iconst 2, 1) := by decide +kernel
theorem dL_act_422 : decode cL_act 422 = .ok (.ishr, 1) := by decide +kernel
theorem dL_act_423 : decode cL_act 423 = .ok (.bipush 49, 2) := by decide +kernel
theorem dL_act_425 : decode cL_act 425 = .ok (.invokestatic 99, 3) := by decide +kernel
theorem dL_act_428 : decode cL_act 428 = .ok (.iadd, 1) := by decide +kernel
theorem dL_act_429 : decode cL_act 429 = .ok (.iastore, 1) := by decide +kernel
theorem dL_act_430 : decode cL_act 430 = .ok (.aload_n 0, 1) := by decide +kernel
theorem dL_act_431 : decode cL_act 431 = .ok (.iload 8, 2) := by decide +kernel
theorem dL_act_433 : decode cL_act 433 = .ok (.iload 9, 2) := by decide +kernel
theorem dL_act_435 : decode cL_act 435 = .ok (.aload 5, 2) := by decide +kernel
theorem dL_act_437 : decode cL_act 437 = .ok (.iconst 5, 1) := by decide +kernel
theorem dL_act_438 : decode cL_act 438 = .ok (.iload 8, 2) := by decide +kernel
theorem dL_act_440 : decode cL_act 440 = .ok (.imul, 1) := by decide +kernel
theorem dL_act_441 : decode cL_act 441 = .ok (.iconst 1, 1) := by decide +kernel
theorem dL_act_442 : decode cL_act 442 = .ok (.iadd, 1) := by decide +kernel
theorem dL_act_443 : decode cL_act 443 = .ok (.iload 9, 2) := by decide +kernel
theorem dL_act_445 : decode cL_act 445 = .ok (.iadd, 1) := by decide +kernel
theorem dL_act_446 : decode cL_act 446 = .ok (.iaload, 1) := by decide +kernel
theorem dL_act_447 : decode cL_act 447 = .ok (.invokevirtual 163, 3) := by decide +kernel
theorem dL_act_450 : decode cL_act 450 = .ok (.iload 10, 2) := by decide +kernel
theorem dL_act_452 : decode cL_act 452 = .ok (.if_icmp .ne 7, 3) := by decide +kernel
theorem dL_act_455 : decode cL_act 455 = .ok (.iconst 1, 1) := by decide +kernel
theorem dL_act_456 : decode cL_act 456 = .ok (.goto 4, 3) := by decide +kernel
theorem dL_act_459 : decode cL_act 459 = .ok (.iconst 0, 1) := by decide +kernel
theorem dL_act_460 : decode cL_act 460 = .ok (.ireturn, 1) := by decide +kernel
theorem dL_act_461 : decode cL_act 461 = .ok (.iload_n 1, 1) := by decide +kernel
theorem dL_act_462 : decode cL_act 462 = .ok (.bipush 12, 2) := by decide +kernel
theorem dL_act_464 : decode cL_act 464 = .ok (.if_icmp .ne 70, 3) := by decide +kernel
theorem dL_act_467 : decode cL_act 467 = .ok (.aload 4, 2) := by decide +kernel
theorem dL_act_469 : decode cL_act 469 = .ok (.iconst 2, 1) := by decide +kernel
theorem dL_act_470 : decode cL_act 470 = .ok (.iaload, 1) := by decide +kernel
theorem dL_act_471 : decode cL_act 471 = .ok (.istore 9, 2) := by decide +kernel
theorem dL_act_473 : decode cL_act 473 = .ok (.aload 4, 2) := by decide +kernel
theorem dL_act_475 : decode cL_act 475 = .ok (.iconst 2, 1) := by decide +kernel
theorem dL_act_476 : decode cL_act 476 = .ok (.iconst 2, 1) := by decide +kernel
theorem dL_act_477 : decode cL_act 477 = .ok (.iload_n 2, 1) := by decide +kernel
theorem dL_act_478 : decode cL_act 478 = .ok (.iload_n 3, 1) := by decide +kernel
theorem dL_act_479 : decode cL_act 479 = .ok (.iconst 3, 1) := by decide +kernel
theorem dL_act_480 : decode cL_act 480 = .ok (.invokestatic 99, 3) := by decide +kernel
theorem dL_act_483 : decode cL_act 483 = .ok (.ifCond .ne 8, 3) := by decide +kernel
theorem dL_act_486 : decode cL_act 486 = .ok (.bipush 23, 2) := by decide +kernel
theorem dL_act_488 : decode cL_act 488 = .ok (.goto 4, 3) := by decide +kernel
theorem dL_act_491 : decode cL_act 491 = .ok (.iconst 4, 1) := by decide +kernel
theorem dL_act_492 : decode cL_act 492 = .ok (.invokestatic 99, 3) := by decide +kernel
theorem dL_act_495 : decode cL_act 495 = .ok (.iadd, 1) := by decide +kernel
theorem dL_act_496 : decode cL_act 496 = .ok (.iastore, 1) := by decide +kernel
theorem dL_act_497 : decode cL_act 497 = .ok (.aload 4, 2) := by decide +kernel
theorem dL_act_499 : decode cL_act 499 = .ok (.iconst 3, 1) := by decide +kernel
theorem dL_act_500 : decode cL_act 500 = .ok (.iload_n 3, 1) := by decide +kernel
theorem dL_act_501 : decode cL_act 501 = .ok (.iconst 2, 1) := by decide +kernel
theorem dL_act_502 : decode cL_act 502 = .ok (.ishr, 1) := by decide +kernel
theorem dL_act_503 : decode cL_act 503 = .ok (.aload 4, 2) := by decide +kernel
theorem dL_act_505 : decode cL_act 505 = .ok (.iconst 2, 1) := by decide +kernel
theorem dL_act_506 : decode cL_act 506 = .ok (.iaload, 1) := by decide +kernel
theorem dL_act_507 : decode cL_act 507 = .ok (.invokestatic 99, 3) := by decide +kernel
theorem dL_act_510 : decode cL_act 510 = .ok (.iastore, 1) := by decide +kernel
theorem dL_act_511 : decode cL_act 511 = .ok (.aload_n 0, 1) := by decide +kernel
theorem dL_act_512 : decode cL_act 512 = .ok (.aload 4, 2) := by decide +kernel
theorem dL_act_514 : decode cL_act 514 = .ok (.iconst 2, 1) := by decide +kernel
theorem dL_act_515 : decode cL_act 515 = .ok (.iaload, 1) := by decide +kernel
theorem dL_act_516 : decode cL_act 516 = .ok (.aload 4, 2) := by decide +kernel
theorem dL_act_518 : decode cL_act 518 = .ok (.iconst 3, 1) := by decide +kernel
theorem dL_act_519 : decode cL_act 519 = .ok (.iaload, 1) := by decide +kernel
theorem dL_act_520 : decode cL_act 520 = .ok (.invokevirtual 166, 3) := by decide +kernel
theorem dL_act_523 : decode cL_act 523 = .ok (.iload 9, 2) := by decide +kernel
theorem dL_act_525 : decode cL_act 525 = .ok (.if_icmp .ne 7, 3) := by decide +kernel
theorem dL_act_528 : decode cL_act 528 = .ok (.iconst 1, 1) := by decide +kernel
theorem dL_act_529 : decode cL_act 529 = .ok (.goto 4, 3) := by decide +kernel
theorem dL_act_532 : decode cL_act 532 = .ok (.iconst 0, 1) := by decide +kernel
theorem dL_act_533 : decode cL_act 533 = .ok (.ireturn, 1) := by decide +kernel
theorem dL_act_534 : decode cL_act 534 = .ok (.iload_n 1, 1) := by decide +kernel
theorem dL_act_535 : decode cL_act 535 = .ok (.bipush 15, 2) := by decide +kernel
