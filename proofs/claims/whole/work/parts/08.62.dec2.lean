theorem dX12_peek_0 : decode cX12_peek 0 = .ok (.aload_n 0, 1) := by decide +kernel
theorem dX12_peek_1 : decode cX12_peek 1 = .ok (.getfield 21, 3) := by decide +kernel
theorem dX12_peek_4 : decode cX12_peek 4 = .ok (.aload_n 0, 1) := by decide +kernel
theorem dX12_peek_5 : decode cX12_peek 5 = .ok (.getfield 18, 3) := by decide +kernel
theorem dX12_peek_8 : decode cX12_peek 8 = .ok (.if_icmp .ge 19, 3) := by decide +kernel
theorem dX12_peek_11 : decode cX12_peek 11 = .ok (.aload_n 0, 1) := by decide +kernel
theorem dX12_peek_12 : decode cX12_peek 12 = .ok (.getfield 14, 3) := by decide +kernel
theorem dX12_peek_15 : decode cX12_peek 15 = .ok (.aload_n 0, 1) := by decide +kernel
theorem dX12_peek_16 : decode cX12_peek 16 = .ok (.getfield 21, 3) := by decide +kernel
theorem dX12_peek_19 : decode cX12_peek 19 = .ok (.baload, 1) := by decide +kernel
theorem dX12_peek_20 : decode cX12_peek 20 = .ok (.sipush 255, 3) := by decide +kernel
theorem dX12_peek_23 : decode cX12_peek 23 = .ok (.iand, 1) := by decide +kernel
theorem dX12_peek_24 : decode cX12_peek 24 = .ok (.goto 4, 3) := by decide +kernel
theorem dX12_peek_27 : decode cX12_peek 27 = .ok (.iconst (-1), 1) := by decide +kernel
theorem dX12_peek_28 : decode cX12_peek 28 = .ok (.ireturn, 1) := by decide +kernel
theorem dX12_isSmall_0 : decode cX12_isSmall 0 = .ok (.iload_n 0, 1) := by decide +kernel
theorem dX12_isSmall_1 : decode cX12_isSmall 1 = .ok (.bipush 97, 2) := by decide +kernel
theorem dX12_isSmall_3 : decode cX12_isSmall 3 = .ok (.if_icmp .lt 13, 3) := by decide +kernel
theorem dX12_isSmall_6 : decode cX12_isSmall 6 = .ok (.iload_n 0, 1) := by decide +kernel
theorem dX12_isSmall_7 : decode cX12_isSmall 7 = .ok (.bipush 122, 2) := by decide +kernel
theorem dX12_isSmall_9 : decode cX12_isSmall 9 = .ok (.if_icmp .gt 7, 3) := by decide +kernel
theorem dX12_isSmall_12 : decode cX12_isSmall 12 = .ok (.iconst 1, 1) := by decide +kernel
theorem dX12_isSmall_13 : decode cX12_isSmall 13 = .ok (.goto 4, 3) := by decide +kernel
theorem dX12_isSmall_16 : decode cX12_isSmall 16 = .ok (.iconst 0, 1) := by decide +kernel
theorem dX12_isSmall_17 : decode cX12_isSmall 17 = .ok (.ireturn, 1) := by decide +kernel
theorem dX12_isDigit_0 : decode cX12_isDigit 0 = .ok (.iload_n 0, 1) := by decide +kernel
theorem dX12_isDigit_1 : decode cX12_isDigit 1 = .ok (.bipush 48, 2) := by decide +kernel
theorem dX12_isDigit_3 : decode cX12_isDigit 3 = .ok (.if_icmp .lt 13, 3) := by decide +kernel
theorem dX12_isDigit_6 : decode cX12_isDigit 6 = .ok (.iload_n 0, 1) := by decide +kernel
theorem dX12_isDigit_7 : decode cX12_isDigit 7 = .ok (.bipush 57, 2) := by decide +kernel
theorem dX12_isDigit_9 : decode cX12_isDigit 9 = .ok (.if_icmp .gt 7, 3) := by decide +kernel
theorem dX12_isDigit_12 : decode cX12_isDigit 12 = .ok (.iconst 1, 1) := by decide +kernel
theorem dX12_isDigit_13 : decode cX12_isDigit 13 = .ok (.goto 4, 3) := by decide +kernel
theorem dX12_isDigit_16 : decode cX12_isDigit 16 = .ok (.iconst 0, 1) := by decide +kernel
theorem dX12_isDigit_17 : decode cX12_isDigit 17 = .ok (.ireturn, 1) := by decide +kernel
theorem dX12_next_0 : decode cX12_next 0 = .ok (.aload_n 0, 1) := by decide +kernel
theorem dX12_next_1 : decode cX12_next 1 = .ok (.invokevirtual 160, 3) := by decide +kernel
theorem dX12_next_4 : decode cX12_next 4 = .ok (.bipush 32, 2) := by decide +kernel
theorem dX12_next_6 : decode cX12_next 6 = .ok (.if_icmp .eq 12, 3) := by decide +kernel
theorem dX12_next_9 : decode cX12_next 9 = .ok (.aload_n 0, 1) := by decide +kernel
theorem dX12_next_10 : decode cX12_next 10 = .ok (.invokevirtual 160, 3) := by decide +kernel
theorem dX12_next_13 : decode cX12_next 13 = .ok (.bipush 10, 2) := by decide +kernel
theorem dX12_next_15 : decode cX12_next 15 = .ok (.if_icmp .ne 16, 3) := by decide +kernel
theorem dX12_next_18 : decode cX12_next 18 = .ok (.aload_n 0, 1) := by decide +kernel
theorem dX12_next_19 : decode cX12_next 19 = .ok (.dup, 1) := by decide +kernel
theorem dX12_next_20 : decode cX12_next 20 = .ok (.getfield 21, 3) := by decide +kernel
theorem dX12_next_23 : decode cX12_next 23 = .ok (.iconst 1, 1) := by decide +kernel
theorem dX12_next_24 : decode cX12_next 24 = .ok (.iadd, 1) := by decide +kernel
theorem dX12_next_25 : decode cX12_next 25 = .ok (.putfield 21, 3) := by decide +kernel
theorem dX12_next_28 : decode cX12_next 28 = .ok (.goto (-28), 3) := by decide +kernel
theorem dX12_next_31 : decode cX12_next 31 = .ok (.aload_n 0, 1) := by decide +kernel
theorem dX12_next_32 : decode cX12_next 32 = .ok (.aload_n 0, 1) := by decide +kernel
theorem dX12_next_33 : decode cX12_next 33 = .ok (.getfield 21, 3) := by decide +kernel
theorem dX12_next_36 : decode cX12_next 36 = .ok (.putfield 164, 3) := by decide +kernel
theorem dX12_next_39 : decode cX12_next 39 = .ok (.aload_n 0, 1) := by decide +kernel
theorem dX12_next_40 : decode cX12_next 40 = .ok (.iconst 0, 1) := by decide +kernel
theorem dX12_next_41 : decode cX12_next 41 = .ok (.putfield 167, 3) := by decide +kernel
theorem dX12_next_44 : decode cX12_next 44 = .ok (.aload_n 0, 1) := by decide +kernel
theorem dX12_next_45 : decode cX12_next 45 = .ok (.getfield 18, 3) := by decide +kernel
theorem dX12_next_48 : decode cX12_next 48 = .ok (.aload_n 0, 1) := by decide +kernel
theorem dX12_next_49 : decode cX12_next 49 = .ok (.getfield 24, 3) := by decide +kernel
theorem dX12_next_52 : decode cX12_next 52 = .ok (.if_icmp .le 28, 3) := by decide +kernel
theorem dX12_next_55 : decode cX12_next 55 = .ok (.aload_n 0, 1) := by decide +kernel
theorem dX12_next_56 : decode cX12_next 56 = .ok (.getfield 21, 3) := by decide +kernel
theorem dX12_next_59 : decode cX12_next 59 = .ok (.aload_n 0, 1) := by decide +kernel
theorem dX12_next_60 : decode cX12_next 60 = .ok (.getfield 24, 3) := by decide +kernel
theorem dX12_next_63 : decode cX12_next 63 = .ok (.if_icmp .lt 17, 3) := by decide +kernel
theorem dX12_next_66 : decode cX12_next 66 = .ok (.aload_n 0, 1) := by decide +kernel
theorem dX12_next_67 : decode cX12_next 67 = .ok (.aload_n 0, 1) := by decide +kernel
theorem dX12_next_68 : decode cX12_next 68 = .ok (.getfield 24, 3) := by decide +kernel
theorem dX12_next_71 : decode cX12_next 71 = .ok (.putfield 164, 3) := by decide +kernel
theorem dX12_next_74 : decode cX12_next 74 = .ok (.aload_n 0, 1) := by decide +kernel
theorem dX12_next_75 : decode cX12_next 75 = .ok (.iconst 4, 1) := by decide +kernel
theorem dX12_next_76 : decode cX12_next 76 = .ok (.putfield 170, 3) := by decide +kernel
theorem dX12_next_79 : decode cX12_next 79 = .ok (.return_, 1) := by decide +kernel
theorem dX12_next_80 : decode cX12_next 80 = .ok (.aload_n 0, 1) := by decide +kernel
theorem dX12_next_81 : decode cX12_next 81 = .ok (.invokevirtual 160, 3) := by decide +kernel
theorem dX12_next_84 : decode cX12_next 84 = .ok (.istore_n 1, 1) := by decide +kernel
theorem dX12_next_85 : decode cX12_next 85 = .ok (.iload_n 1, 1) := by decide +kernel
theorem dX12_next_86 : decode cX12_next 86 = .ok (.ifCond .ge 9, 3) := by decide +kernel
theorem dX12_next_89 : decode cX12_next 89 = .ok (.aload_n 0, 1) := by decide +kernel
theorem dX12_next_90 : decode cX12_next 90 = .ok (.iconst 0, 1) := by decide +kernel
theorem dX12_next_91 : decode cX12_next 91 = .ok (.putfield 170, 3) := by decide +kernel
theorem dX12_next_94 : decode cX12_next 94 = .ok (.return_, 1) := by decide +kernel
theorem dX12_next_95 : decode cX12_next 95 = .ok (.iload_n 1, 1) := by decide +kernel
theorem dX12_next_96 : decode cX12_next 96 = .ok (.invokestatic 173, 3) := by decide +kernel
theorem dX12_next_99 : decode cX12_next 99 = .ok (.ifCond .ne 41, 3) := by decide +kernel
theorem dX12_next_102 : decode cX12_next 102 = .ok (.iload_n 1, 1) := by decide +kernel
theorem dX12_next_103 : decode cX12_next 103 = .ok (.invokestatic 177, 3) := by decide +kernel
theorem dX12_next_106 : decode cX12_next 106 = .ok (.ifCond .ne 34, 3) := by decide +kernel
theorem dX12_next_109 : decode cX12_next 109 = .ok (.aload_n 0, 1) := by decide +kernel
theorem dX12_next_110 : decode cX12_next 110 = .ok (.iload_n 1, 1) := by decide +kernel
theorem dX12_next_111 : decode cX12_next 111 = .ok (.bipush 59, 2) := by decide +kernel
theorem dX12_next_113 : decode cX12_next 113 = .ok (.if_icmp .ne 7, 3) := by decide +kernel
theorem dX12_next_116 : decode cX12_next 116 = .ok (.iconst 3, 1) := by decide +kernel
theorem dX12_next_117 : decode cX12_next 117 = .ok (.goto 4, 3) := by decide +kernel
theorem dX12_next_120 : decode cX12_next 120 = .ok (.iconst 4, 1) := by decide +kernel
theorem dX12_next_121 : decode cX12_next 121 = .ok (.putfield 170, 3) := by decide +kernel
theorem dX12_next_124 : decode cX12_next 124 = .ok (.aload_n 0, 1) := by decide +kernel
theorem dX12_next_125 : decode cX12_next 125 = .ok (.iload_n 1, 1) := by decide +kernel
theorem dX12_next_126 : decode cX12_next 126 = .ok (.putfield 180, 3) := by decide +kernel
theorem dX12_next_129 : decode cX12_next 129 = .ok (.aload_n 0, 1) := by decide +kernel
theorem dX12_next_130 : decode cX12_next 130 = .ok (.dup, 1) := by decide +kernel
theorem dX12_next_131 : decode cX12_next 131 = .ok (.getfield 21, 3) := by decide +kernel
theorem dX12_next_134 : decode cX12_next 134 = .ok (.iconst 1, 1) := by decide +kernel
theorem dX12_next_135 : decode cX12_next 135 = .ok (.iadd, 1) := by decide +kernel
theorem dX12_next_136 : decode cX12_next 136 = .ok (.putfield 21, 3) := by decide +kernel
theorem dX12_next_139 : decode cX12_next 139 = .ok (.return_, 1) := by decide +kernel
theorem dX12_next_140 : decode cX12_next 140 = .ok (.iload_n 1, 1) := by decide +kernel
theorem dX12_next_141 : decode cX12_next 141 = .ok (.invokestatic 173, 3) := by decide +kernel
theorem dX12_next_144 : decode cX12_next 144 = .ok (.istore_n 2, 1) := by decide +kernel
theorem dX12_next_145 : decode cX12_next 145 = .ok (.iconst 1, 1) := by decide +kernel
theorem dX12_next_146 : decode cX12_next 146 = .ok (.istore_n 3, 1) := by decide +kernel
theorem dX12_next_147 : decode cX12_next 147 = .ok (.aload_n 0, 1) := by decide +kernel
theorem dX12_next_148 : decode cX12_next 148 = .ok (.lconst 0, 1) := by decide +kernel
theorem dX12_next_149 : decode cX12_next 149 = .ok (.putfield 183, 3) := by decide +kernel
theorem dX12_next_152 : decode cX12_next 152 = .ok (.aload_n 0, 1) := by decide +kernel
theorem dX12_next_153 : decode cX12_next 153 = .ok (.iconst 0, 1) := by decide +kernel
theorem dX12_next_154 : decode cX12_next 154 = .ok (.putfield 180, 3) := by decide +kernel
theorem dX12_next_157 : decode cX12_next 157 = .ok (.aload_n 0, 1) := by decide +kernel
theorem dX12_next_158 : decode cX12_next 158 = .ok (.invokevirtual 160, 3) := by decide +kernel
theorem dX12_next_161 : decode cX12_next 161 = .ok (.invokestatic 173, 3) := by decide +kernel
theorem dX12_next_164 : decode cX12_next 164 = .ok (.ifCond .ne 13, 3) := by decide +kernel
theorem dX12_next_167 : decode cX12_next 167 = .ok (.aload_n 0, 1) := by decide +kernel
theorem dX12_next_168 : decode cX12_next 168 = .ok (.invokevirtual 160, 3) := by decide +kernel
theorem dX12_next_171 : decode cX12_next 171 = .ok (.invokestatic 177, 3) := by decide +kernel
theorem dX12_next_174 : decode cX12_next 174 = .ok (.ifCond .eq 100, 3) := by decide +kernel
theorem dX12_next_177 : decode cX12_next 177 = .ok (.iload_n 3, 1) := by decide +kernel
theorem dX12_next_178 : decode cX12_next 178 = .ok (.ifCond .eq 18, 3) := by decide +kernel
theorem dX12_next_181 : decode cX12_next 181 = .ok (.aload_n 0, 1) := by decide +kernel
theorem dX12_next_182 : decode cX12_next 182 = .ok (.invokevirtual 160, 3) := by decide +kernel
theorem dX12_next_185 : decode cX12_next 185 = .ok (.invokestatic 173, 3) := by decide +kernel
theorem dX12_next_188 : decode cX12_next 188 = .ok (.iload_n 2, 1) := by decide +kernel
theorem dX12_next_189 : decode cX12_next 189 = .ok (.if_icmp .ne 7, 3) := by decide +kernel
theorem dX12_next_192 : decode cX12_next 192 = .ok (.iconst 1, 1) := by decide +kernel
theorem dX12_next_193 : decode cX12_next 193 = .ok (.goto 4, 3) := by decide +kernel
theorem dX12_next_196 : decode cX12_next 196 = .ok (.iconst 0, 1) := by decide +kernel
theorem dX12_next_197 : decode cX12_next 197 = .ok (.istore_n 3, 1) := by decide +kernel
theorem dX12_next_198 : decode cX12_next 198 = .ok (.aload_n 0, 1) := by decide +kernel
theorem dX12_next_199 : decode cX12_next 199 = .ok (.getfield 167, 3) := by decide +kernel
theorem dX12_next_202 : decode cX12_next 202 = .ok (.bipush 7, 2) := by decide +kernel
theorem dX12_next_204 : decode cX12_next 204 = .ok (.if_icmp .ge 20, 3) := by decide +kernel
theorem dX12_next_207 : decode cX12_next 207 = .ok (.aload_n 0, 1) := by decide +kernel
theorem dX12_next_208 : decode cX12_next 208 = .ok (.aload_n 0, 1) := by decide +kernel
theorem dX12_next_209 : decode cX12_next 209 = .ok (.getfield 183, 3) := by decide +kernel
theorem dX12_next_212 : decode cX12_next 212 = .ok (.bipush 8, 2) := by decide +kernel
theorem dX12_next_214 : decode cX12_next 214 = .ok (.lshl, 1) := by decide +kernel
theorem dX12_next_215 : decode cX12_next 215 = .ok (.aload_n 0, 1) := by decide +kernel
theorem dX12_next_216 : decode cX12_next 216 = .ok (.invokevirtual 160, 3) := by decide +kernel
theorem dX12_next_219 : decode cX12_next 219 = .ok (.i2l, 1) := by decide +kernel
theorem dX12_next_220 : decode cX12_next 220 = .ok (.lor, 1) := by decide +kernel
theorem dX12_next_221 : decode cX12_next 221 = .ok (.putfield 183, 3) := by decide +kernel
theorem dX12_next_224 : decode cX12_next 224 = .ok (.aload_n 0, 1) := by decide +kernel
theorem dX12_next_225 : decode cX12_next 225 = .ok (.getfield 167, 3) := by decide +kernel
theorem dX12_next_228 : decode cX12_next 228 = .ok (.iconst 2, 1) := by decide +kernel
theorem dX12_next_229 : decode cX12_next 229 = .ok (.if_icmp .ge 22, 3) := by decide +kernel
theorem dX12_next_232 : decode cX12_next 232 = .ok (.aload_n 0, 1) := by decide +kernel
theorem dX12_next_233 : decode cX12_next 233 = .ok (.bipush 10, 2) := by decide +kernel
theorem dX12_next_235 : decode cX12_next 235 = .ok (.aload_n 0, 1) := by decide +kernel
theorem dX12_next_236 : decode cX12_next 236 = .ok (.getfield 180, 3) := by decide +kernel
theorem dX12_next_239 : decode cX12_next 239 = .ok (.imul, 1) := by decide +kernel
theorem dX12_next_240 : decode cX12_next 240 = .ok (.aload_n 0, 1) := by decide +kernel
theorem dX12_next_241 : decode cX12_next 241 = .ok (.invokevirtual 160, 3) := by decide +kernel
theorem dX12_next_244 : decode cX12_next 244 = .ok (.iadd, 1) := by decide +kernel
theorem dX12_next_245 : decode cX12_next 245 = .ok (.bipush 48, 2) := by decide +kernel
theorem dX12_next_247 : decode cX12_next 247 = .ok (.isub, 1) := by decide +kernel
theorem dX12_next_248 : decode cX12_next 248 = .ok (.putfield 180, 3) := by decide +kernel
theorem dX12_next_251 : decode cX12_next 251 = .ok (.aload_n 0, 1) := by decide +kernel
theorem dX12_next_252 : decode cX12_next 252 = .ok (.dup, 1) := by decide +kernel
theorem dX12_next_253 : decode cX12_next 253 = .ok (.getfield 167, 3) := by decide +kernel
theorem dX12_next_256 : decode cX12_next 256 = .ok (.iconst 1, 1) := by decide +kernel
theorem dX12_next_257 : decode cX12_next 257 = .ok (.iadd, 1) := by decide +kernel
theorem dX12_next_258 : decode cX12_next 258 = .ok (.putfield 167, 3) := by decide +kernel
theorem dX12_next_261 : decode cX12_next 261 = .ok (.aload_n 0, 1) := by decide +kernel
theorem dX12_next_262 : decode cX12_next 262 = .ok (.dup, 1) := by decide +kernel
theorem dX12_next_263 : decode cX12_next 263 = .ok (.getfield 21, 3) := by decide +kernel
theorem dX12_next_266 : decode cX12_next 266 = .ok (.iconst 1, 1) := by decide +kernel
theorem dX12_next_267 : decode cX12_next 267 = .ok (.iadd, 1) := by decide +kernel
theorem dX12_next_268 : decode cX12_next 268 = .ok (.putfield 21, 3) := by decide +kernel
theorem dX12_next_271 : decode cX12_next 271 = .ok (.goto (-114), 3) := by decide +kernel
theorem dX12_next_274 : decode cX12_next 274 = .ok (.aload_n 0, 1) := by decide +kernel
theorem dX12_next_275 : decode cX12_next 275 = .ok (.iload_n 3, 1) := by decide +kernel
theorem dX12_next_276 : decode cX12_next 276 = .ok (.ifCond .eq 20, 3) := by decide +kernel
theorem dX12_next_279 : decode cX12_next 279 = .ok (.aload_n 0, 1) := by decide +kernel
theorem dX12_next_280 : decode cX12_next 280 = .ok (.getfield 167, 3) := by decide +kernel
theorem dX12_next_283 : decode cX12_next 283 = .ok (.iload_n 2, 1) := by decide +kernel
theorem dX12_next_284 : decode cX12_next 284 = .ok (.ifCond .eq 8, 3) := by decide +kernel
theorem dX12_next_287 : decode cX12_next 287 = .ok (.bipush 7, 2) := by decide +kernel
theorem dX12_next_289 : decode cX12_next 289 = .ok (.goto 4, 3) := by decide +kernel
theorem dX12_next_292 : decode cX12_next 292 = .ok (.iconst 2, 1) := by decide +kernel
theorem dX12_next_293 : decode cX12_next 293 = .ok (.if_icmp .le 7, 3) := by decide +kernel
theorem dX12_next_296 : decode cX12_next 296 = .ok (.iconst 4, 1) := by decide +kernel
theorem dX12_next_297 : decode cX12_next 297 = .ok (.goto 12, 3) := by decide +kernel
theorem dX12_next_300 : decode cX12_next 300 = .ok (.iload_n 2, 1) := by decide +kernel
theorem dX12_next_301 : decode cX12_next 301 = .ok (.ifCond .eq 7, 3) := by decide +kernel
theorem dX12_next_304 : decode cX12_next 304 = .ok (.iconst 1, 1) := by decide +kernel
theorem dX12_next_305 : decode cX12_next 305 = .ok (.goto 4, 3) := by decide +kernel
theorem dX12_next_308 : decode cX12_next 308 = .ok (.iconst 2, 1) := by decide +kernel
theorem dX12_next_309 : decode cX12_next 309 = .ok (.putfield 170, 3) := by decide +kernel
theorem dX12_next_312 : decode cX12_next 312 = .ok (.return_, 1) := by decide +kernel
theorem dX12_bad_0 : decode cX12_bad 0 = .ok (.aload_n 0, 1) := by decide +kernel
theorem dX12_bad_1 : decode cX12_bad 1 = .ok (.iload_n 1, 1) := by decide +kernel
theorem dX12_bad_2 : decode cX12_bad 2 = .ok (.putfield 187, 3) := by decide +kernel
theorem dX12_bad_5 : decode cX12_bad 5 = .ok (.aload_n 0, 1) := by decide +kernel
theorem dX12_bad_6 : decode cX12_bad 6 = .ok (.aload_n 0, 1) := by decide +kernel
theorem dX12_bad_7 : decode cX12_bad 7 = .ok (.getfield 164, 3) := by decide +kernel
theorem dX12_bad_10 : decode cX12_bad 10 = .ok (.putfield 190, 3) := by decide +kernel
theorem dX12_bad_13 : decode cX12_bad 13 = .ok (.iconst 0, 1) := by decide +kernel
theorem dX12_bad_14 : decode cX12_bad 14 = .ok (.ireturn, 1) := by decide +kernel
theorem dX12_isWord_0 : decode cX12_isWord 0 = .ok (.aload_n 0, 1) := by decide +kernel
theorem dX12_isWord_1 : decode cX12_isWord 1 = .ok (.getfield 170, 3) := by decide +kernel
theorem dX12_isWord_4 : decode cX12_isWord 4 = .ok (.iconst 1, 1) := by decide +kernel
theorem dX12_isWord_5 : decode cX12_isWord 5 = .ok (.if_icmp .ne 16, 3) := by decide +kernel
theorem dX12_isWord_8 : decode cX12_isWord 8 = .ok (.aload_n 0, 1) := by decide +kernel
theorem dX12_isWord_9 : decode cX12_isWord 9 = .ok (.getfield 183, 3) := by decide +kernel
theorem dX12_isWord_12 : decode cX12_isWord 12 = .ok (.lload_n 1, 1) := by decide +kernel
theorem dX12_isWord_13 : decode cX12_isWord 13 = .ok (.lcmp, 1) := by decide +kernel
theorem dX12_isWord_14 : decode cX12_isWord 14 = .ok (.ifCond .ne 7, 3) := by decide +kernel
theorem dX12_isWord_17 : decode cX12_isWord 17 = .ok (.iconst 1, 1) := by decide +kernel
theorem dX12_isWord_18 : decode cX12_isWord 18 = .ok (.goto 4, 3) := by decide +kernel
theorem dX12_isWord_21 : decode cX12_isWord 21 = .ok (.iconst 0, 1) := by decide +kernel
theorem dX12_isWord_22 : decode cX12_isWord 22 = .ok (.ireturn, 1) := by decide +kernel
theorem dX12_isSign_0 : decode cX12_isSign 0 = .ok (.aload_n 0, 1) := by decide +kernel
theorem dX12_isSign_1 : decode cX12_isSign 1 = .ok (.getfield 170, 3) := by decide +kernel
theorem dX12_isSign_4 : decode cX12_isSign 4 = .ok (.iconst 3, 1) := by decide +kernel
theorem dX12_isSign_5 : decode cX12_isSign 5 = .ok (.if_icmp .ne 15, 3) := by decide +kernel
theorem dX12_isSign_8 : decode cX12_isSign 8 = .ok (.aload_n 0, 1) := by decide +kernel
theorem dX12_isSign_9 : decode cX12_isSign 9 = .ok (.getfield 180, 3) := by decide +kernel
theorem dX12_isSign_12 : decode cX12_isSign 12 = .ok (.iload_n 1, 1) := by decide +kernel
theorem dX12_isSign_13 : decode cX12_isSign 13 = .ok (.if_icmp .ne 7, 3) := by decide +kernel
theorem dX12_isSign_16 : decode cX12_isSign 16 = .ok (.iconst 1, 1) := by decide +kernel
theorem dX12_isSign_17 : decode cX12_isSign 17 = .ok (.goto 4, 3) := by decide +kernel
theorem dX12_isSign_20 : decode cX12_isSign 20 = .ok (.iconst 0, 1) := by decide +kernel
theorem dX12_isSign_21 : decode cX12_isSign 21 = .ok (.ireturn, 1) := by decide +kernel
theorem dX12_sign_0 : decode cX12_sign 0 = .ok (.aload_n 0, 1) := by decide +kernel
theorem dX12_sign_1 : decode cX12_sign 1 = .ok (.iload_n 1, 1) := by decide +kernel
theorem dX12_sign_2 : decode cX12_sign 2 = .ok (.invokevirtual 193, 3) := by decide +kernel
theorem dX12_sign_5 : decode cX12_sign 5 = .ok (.ifCond .ne 9, 3) := by decide +kernel
theorem dX12_sign_8 : decode cX12_sign 8 = .ok (.aload_n 0, 1) := by decide +kernel
theorem dX12_sign_9 : decode cX12_sign 9 = .ok (.iconst 1, 1) := by decide +kernel
theorem dX12_sign_10 : decode cX12_sign 10 = .ok (.invokevirtual 196, 3) := by decide +kernel
theorem dX12_sign_13 : decode cX12_sign 13 = .ok (.ireturn, 1) := by decide +kernel
theorem dX12_sign_14 : decode cX12_sign 14 = .ok (.aload_n 0, 1) := by decide +kernel
theorem dX12_sign_15 : decode cX12_sign 15 = .ok (.invokevirtual 199, 3) := by decide +kernel
theorem dX12_sign_18 : decode cX12_sign 18 = .ok (.iconst 1, 1) := by decide +kernel
theorem dX12_sign_19 : decode cX12_sign 19 = .ok (.ireturn, 1) := by decide +kernel
theorem dX12_isName_0 : decode cX12_isName 0 = .ok (.aload_n 0, 1) := by decide +kernel
theorem dX12_isName_1 : decode cX12_isName 1 = .ok (.getfield 170, 3) := by decide +kernel
theorem dX12_isName_4 : decode cX12_isName 4 = .ok (.iconst 1, 1) := by decide +kernel
theorem dX12_isName_5 : decode cX12_isName 5 = .ok (.if_icmp .ne 7, 3) := by decide +kernel
theorem dX12_isName_8 : decode cX12_isName 8 = .ok (.iconst 1, 1) := by decide +kernel
theorem dX12_isName_9 : decode cX12_isName 9 = .ok (.goto 4, 3) := by decide +kernel
theorem dX12_isName_12 : decode cX12_isName 12 = .ok (.iconst 0, 1) := by decide +kernel
theorem dX12_isName_13 : decode cX12_isName 13 = .ok (.istore_n 1, 1) := by decide +kernel
theorem dX12_isName_14 : decode cX12_isName 14 = .ok (.iconst 0, 1) := by decide +kernel
theorem dX12_isName_15 : decode cX12_isName 15 = .ok (.istore_n 2, 1) := by decide +kernel
theorem dX12_isName_16 : decode cX12_isName 16 = .ok (.iload_n 2, 1) := by decide +kernel
theorem dX12_isName_17 : decode cX12_isName 17 = .ok (.bipush 17, 2) := by decide +kernel
theorem dX12_isName_19 : decode cX12_isName 19 = .ok (.if_icmp .ge 33, 3) := by decide +kernel
theorem dX12_isName_22 : decode cX12_isName 22 = .ok (.iload_n 1, 1) := by decide +kernel
theorem dX12_isName_23 : decode cX12_isName 23 = .ok (.ifCond .eq 21, 3) := by decide +kernel
theorem dX12_isName_26 : decode cX12_isName 26 = .ok (.aload_n 0, 1) := by decide +kernel
theorem dX12_isName_27 : decode cX12_isName 27 = .ok (.getfield 183, 3) := by decide +kernel
theorem dX12_isName_30 : decode cX12_isName 30 = .ok (.aload_n 0, 1) := by decide +kernel
theorem dX12_isName_31 : decode cX12_isName 31 = .ok (.getfield 47, 3) := by decide +kernel
theorem dX12_isName_34 : decode cX12_isName 34 = .ok (.iload_n 2, 1) := by decide +kernel
theorem dX12_isName_35 : decode cX12_isName 35 = .ok (.laload, 1) := by decide +kernel
theorem dX12_isName_36 : decode cX12_isName 36 = .ok (.lcmp, 1) := by decide +kernel
theorem dX12_isName_37 : decode cX12_isName 37 = .ok (.ifCond .eq 7, 3) := by decide +kernel
theorem dX12_isName_40 : decode cX12_isName 40 = .ok (.iconst 1, 1) := by decide +kernel
theorem dX12_isName_41 : decode cX12_isName 41 = .ok (.goto 4, 3) := by decide +kernel
theorem dX12_isName_44 : decode cX12_isName 44 = .ok (.iconst 0, 1) := by decide +kernel
theorem dX12_isName_45 : decode cX12_isName 45 = .ok (.istore_n 1, 1) := by decide +kernel
theorem dX12_isName_46 : decode cX12_isName 46 = .ok (.iinc 2 1, 3) := by decide +kernel
theorem dX12_isName_49 : decode cX12_isName 49 = .ok (.goto (-33), 3) := by decide +kernel
theorem dX12_isName_52 : decode cX12_isName 52 = .ok (.iload_n 1, 1) := by decide +kernel
theorem dX12_isName_53 : decode cX12_isName 53 = .ok (.ireturn, 1) := by decide +kernel
theorem dX12_takes_0 : decode cX12_takes 0 = .ok (.aload_n 0, 1) := by decide +kernel
theorem dX12_takes_1 : decode cX12_takes 1 = .ok (.getfield 170, 3) := by decide +kernel
theorem dX12_takes_4 : decode cX12_takes 4 = .ok (.iconst 2, 1) := by decide +kernel
theorem dX12_takes_5 : decode cX12_takes 5 = .ok (.if_icmp .eq 9, 3) := by decide +kernel
theorem dX12_takes_8 : decode cX12_takes 8 = .ok (.aload_n 0, 1) := by decide +kernel
theorem dX12_takes_9 : decode cX12_takes 9 = .ok (.iconst 1, 1) := by decide +kernel
theorem dX12_takes_10 : decode cX12_takes 10 = .ok (.invokevirtual 196, 3) := by decide +kernel
theorem dX12_takes_13 : decode cX12_takes 13 = .ok (.ireturn, 1) := by decide +kernel
theorem dX12_takes_14 : decode cX12_takes 14 = .ok (.aload_n 0, 1) := by decide +kernel
theorem dX12_takes_15 : decode cX12_takes 15 = .ok (.getfield 180, 3) := by decide +kernel
theorem dX12_takes_18 : decode cX12_takes 18 = .ok (.iload_n 1, 1) := by decide +kernel
theorem dX12_takes_19 : decode cX12_takes 19 = .ok (.iload_n 2, 1) := by decide +kernel
theorem dX12_takes_20 : decode cX12_takes 20 = .ok (.invokestatic 202, 3) := by decide +kernel
theorem dX12_takes_23 : decode cX12_takes 23 = .ok (.ifCond .ne 9, 3) := by decide +kernel
theorem dX12_takes_26 : decode cX12_takes 26 = .ok (.aload_n 0, 1) := by decide +kernel
theorem dX12_takes_27 : decode cX12_takes 27 = .ok (.iconst 2, 1) := by decide +kernel
theorem dX12_takes_28 : decode cX12_takes 28 = .ok (.invokevirtual 196, 3) := by decide +kernel
theorem dX12_takes_31 : decode cX12_takes 31 = .ok (.ireturn, 1) := by decide +kernel
theorem dX12_takes_32 : decode cX12_takes 32 = .ok (.aload_n 0, 1) := by decide +kernel
theorem dX12_takes_33 : decode cX12_takes 33 = .ok (.aload_n 0, 1) := by decide +kernel
theorem dX12_takes_34 : decode cX12_takes 34 = .ok (.getfield 180, 3) := by decide +kernel
theorem dX12_takes_37 : decode cX12_takes 37 = .ok (.putfield 206, 3) := by decide +kernel
theorem dX12_takes_40 : decode cX12_takes 40 = .ok (.aload_n 0, 1) := by decide +kernel
theorem dX12_takes_41 : decode cX12_takes 41 = .ok (.invokevirtual 199, 3) := by decide +kernel
theorem dX12_takes_44 : decode cX12_takes 44 = .ok (.iconst 1, 1) := by decide +kernel
theorem dX12_takes_45 : decode cX12_takes 45 = .ok (.ireturn, 1) := by decide +kernel
theorem dX12_find_0 : decode cX12_find 0 = .ok (.iconst 0, 1) := by decide +kernel
theorem dX12_find_1 : decode cX12_find 1 = .ok (.istore_n 3, 1) := by decide +kernel
theorem dX12_find_2 : decode cX12_find 2 = .ok (.iload_n 3, 1) := by decide +kernel
theorem dX12_find_3 : decode cX12_find 3 = .ok (.iload_n 2, 1) := by decide +kernel
theorem dX12_find_4 : decode cX12_find 4 = .ok (.if_icmp .ge 27, 3) := by decide +kernel
theorem dX12_find_7 : decode cX12_find 7 = .ok (.aload_n 0, 1) := by decide +kernel
theorem dX12_find_8 : decode cX12_find 8 = .ok (.getfield 43, 3) := by decide +kernel
theorem dX12_find_11 : decode cX12_find 11 = .ok (.iload_n 1, 1) := by decide +kernel
theorem dX12_find_12 : decode cX12_find 12 = .ok (.iload_n 3, 1) := by decide +kernel
theorem dX12_find_13 : decode cX12_find 13 = .ok (.iadd, 1) := by decide +kernel
theorem dX12_find_14 : decode cX12_find 14 = .ok (.laload, 1) := by decide +kernel
theorem dX12_find_15 : decode cX12_find 15 = .ok (.aload_n 0, 1) := by decide +kernel
theorem dX12_find_16 : decode cX12_find 16 = .ok (.getfield 183, 3) := by decide +kernel
theorem dX12_find_19 : decode cX12_find 19 = .ok (.lcmp, 1) := by decide +kernel
theorem dX12_find_20 : decode cX12_find 20 = .ok (.ifCond .ne 5, 3) := by decide +kernel
theorem dX12_find_23 : decode cX12_find 23 = .ok (.iload_n 3, 1) := by decide +kernel
theorem dX12_find_24 : decode cX12_find 24 = .ok (.ireturn, 1) := by decide +kernel
theorem dX12_find_25 : decode cX12_find 25 = .ok (.iinc 3 1, 3) := by decide +kernel
theorem dX12_find_28 : decode cX12_find 28 = .ok (.goto (-26), 3) := by decide +kernel
theorem dX12_find_31 : decode cX12_find 31 = .ok (.iconst (-1), 1) := by decide +kernel
theorem dX12_find_32 : decode cX12_find 32 = .ok (.ireturn, 1) := by decide +kernel
theorem dX12_takesName_0 : decode cX12_takesName 0 = .ok (.aload_n 0, 1) := by decide +kernel
theorem dX12_takesName_1 : decode cX12_takesName 1 = .ok (.invokevirtual 209, 3) := by decide +kernel
theorem dX12_takesName_4 : decode cX12_takesName 4 = .ok (.ifCond .ne 9, 3) := by decide +kernel
theorem dX12_takesName_7 : decode cX12_takesName 7 = .ok (.aload_n 0, 1) := by decide +kernel
theorem dX12_takesName_8 : decode cX12_takesName 8 = .ok (.iconst 1, 1) := by decide +kernel
theorem dX12_takesName_9 : decode cX12_takesName 9 = .ok (.invokevirtual 196, 3) := by decide +kernel
theorem dX12_takesName_12 : decode cX12_takesName 12 = .ok (.ireturn, 1) := by decide +kernel
theorem dX12_takesName_13 : decode cX12_takesName 13 = .ok (.aload_n 0, 1) := by decide +kernel
theorem dX12_takesName_14 : decode cX12_takesName 14 = .ok (.aload_n 0, 1) := by decide +kernel
theorem dX12_takesName_15 : decode cX12_takesName 15 = .ok (.iload_n 1, 1) := by decide +kernel
theorem dX12_takesName_16 : decode cX12_takesName 16 = .ok (.iload_n 2, 1) := by decide +kernel
theorem dX12_takesName_17 : decode cX12_takesName 17 = .ok (.invokevirtual 213, 3) := by decide +kernel
theorem dX12_takesName_20 : decode cX12_takesName 20 = .ok (.putfield 206, 3) := by decide +kernel
theorem dX12_takesName_23 : decode cX12_takesName 23 = .ok (.aload_n 0, 1) := by decide +kernel
theorem dX12_takesName_24 : decode cX12_takesName 24 = .ok (.getfield 206, 3) := by decide +kernel
theorem dX12_takesName_27 : decode cX12_takesName 27 = .ok (.ifCond .ge 9, 3) := by decide +kernel
theorem dX12_takesName_30 : decode cX12_takesName 30 = .ok (.aload_n 0, 1) := by decide +kernel
theorem dX12_takesName_31 : decode cX12_takesName 31 = .ok (.iconst 3, 1) := by decide +kernel
theorem dX12_takesName_32 : decode cX12_takesName 32 = .ok (.invokevirtual 196, 3) := by decide +kernel
theorem dX12_takesName_35 : decode cX12_takesName 35 = .ok (.ireturn, 1) := by decide +kernel
theorem dX12_takesName_36 : decode cX12_takesName 36 = .ok (.aload_n 0, 1) := by decide +kernel
theorem dX12_takesName_37 : decode cX12_takesName 37 = .ok (.invokevirtual 199, 3) := by decide +kernel
theorem dX12_takesName_40 : decode cX12_takesName 40 = .ok (.iconst 1, 1) := by decide +kernel
theorem dX12_takesName_41 : decode cX12_takesName 41 = .ok (.ireturn, 1) := by decide +kernel
theorem dX12_fresh_0 : decode cX12_fresh 0 = .ok (.aload_n 0, 1) := by decide +kernel
theorem dX12_fresh_1 : decode cX12_fresh 1 = .ok (.invokevirtual 209, 3) := by decide +kernel
theorem dX12_fresh_4 : decode cX12_fresh 4 = .ok (.ifCond .ne 9, 3) := by decide +kernel
theorem dX12_fresh_7 : decode cX12_fresh 7 = .ok (.aload_n 0, 1) := by decide +kernel
theorem dX12_fresh_8 : decode cX12_fresh 8 = .ok (.iconst 1, 1) := by decide +kernel
theorem dX12_fresh_9 : decode cX12_fresh 9 = .ok (.invokevirtual 196, 3) := by decide +kernel
theorem dX12_fresh_12 : decode cX12_fresh 12 = .ok (.ireturn, 1) := by decide +kernel
theorem dX12_fresh_13 : decode cX12_fresh 13 = .ok (.aload_n 0, 1) := by decide +kernel
theorem dX12_fresh_14 : decode cX12_fresh 14 = .ok (.bipush 15, 2) := by decide +kernel
theorem dX12_fresh_16 : decode cX12_fresh 16 = .ok (.aload_n 0, 1) := by decide +kernel
theorem dX12_fresh_17 : decode cX12_fresh 17 = .ok (.getfield 37, 3) := by decide +kernel
theorem dX12_fresh_20 : decode cX12_fresh 20 = .ok (.iconst 0, 1) := by decide +kernel
theorem dX12_fresh_21 : decode cX12_fresh 21 = .ok (.iaload, 1) := by decide +kernel
theorem dX12_fresh_22 : decode cX12_fresh 22 = .ok (.invokevirtual 213, 3) := by decide +kernel
theorem dX12_fresh_25 : decode cX12_fresh 25 = .ok (.ifCond .ge 18, 3) := by decide +kernel
theorem dX12_fresh_28 : decode cX12_fresh 28 = .ok (.aload_n 0, 1) := by decide +kernel
theorem dX12_fresh_29 : decode cX12_fresh 29 = .ok (.bipush 24, 2) := by decide +kernel
theorem dX12_fresh_31 : decode cX12_fresh 31 = .ok (.aload_n 0, 1) := by decide +kernel
theorem dX12_fresh_32 : decode cX12_fresh 32 = .ok (.getfield 37, 3) := by decide +kernel
theorem dX12_fresh_35 : decode cX12_fresh 35 = .ok (.iconst 1, 1) := by decide +kernel
theorem dX12_fresh_36 : decode cX12_fresh 36 = .ok (.iaload, 1) := by decide +kernel
theorem dX12_fresh_37 : decode cX12_fresh 37 = .ok (.invokevirtual 213, 3) := by decide +kernel
theorem dX12_fresh_40 : decode cX12_fresh 40 = .ok (.ifCond .lt 9, 3) := by decide +kernel
theorem dX12_fresh_43 : decode cX12_fresh 43 = .ok (.aload_n 0, 1) := by decide +kernel
theorem dX12_fresh_44 : decode cX12_fresh 44 = .ok (.iconst 3, 1) := by decide +kernel
theorem dX12_fresh_45 : decode cX12_fresh 45 = .ok (.invokevirtual 196, 3) := by decide +kernel
theorem dX12_fresh_48 : decode cX12_fresh 48 = .ok (.ireturn, 1) := by decide +kernel
theorem dX12_fresh_49 : decode cX12_fresh 49 = .ok (.aload_n 0, 1) := by decide +kernel
theorem dX12_fresh_50 : decode cX12_fresh 50 = .ok (.getfield 43, 3) := by decide +kernel
theorem dX12_fresh_53 : decode cX12_fresh 53 = .ok (.iload_n 1, 1) := by decide +kernel
theorem dX12_fresh_54 : decode cX12_fresh 54 = .ok (.aload_n 0, 1) := by decide +kernel
theorem dX12_fresh_55 : decode cX12_fresh 55 = .ok (.getfield 183, 3) := by decide +kernel
theorem dX12_fresh_58 : decode cX12_fresh 58 = .ok (.lastore, 1) := by decide +kernel
theorem dX12_fresh_59 : decode cX12_fresh 59 = .ok (.aload_n 0, 1) := by decide +kernel
theorem dX12_fresh_60 : decode cX12_fresh 60 = .ok (.invokevirtual 199, 3) := by decide +kernel
theorem dX12_fresh_63 : decode cX12_fresh 63 = .ok (.iconst 1, 1) := by decide +kernel
theorem dX12_fresh_64 : decode cX12_fresh 64 = .ok (.ireturn, 1) := by decide +kernel
theorem dX12_portLine_0 : decode cX12_portLine 0 = .ok (.aload_n 0, 1) := by decide +kernel
theorem dX12_portLine_1 : decode cX12_portLine 1 = .ok (.ldc2_w 126, 3) := by decide +kernel
theorem dX12_portLine_4 : decode cX12_portLine 4 = .ok (.invokevirtual 217, 3) := by decide +kernel
theorem dX12_portLine_7 : decode cX12_portLine 7 = .ok (.ifCond .eq 124, 3) := by decide +kernel
theorem dX12_portLine_10 : decode cX12_portLine 10 = .ok (.aload_n 0, 1) := by decide +kernel
theorem dX12_portLine_11 : decode cX12_portLine 11 = .ok (.getfield 37, 3) := by decide +kernel
theorem dX12_portLine_14 : decode cX12_portLine 14 = .ok (.iconst 0, 1) := by decide +kernel
theorem dX12_portLine_15 : decode cX12_portLine 15 = .ok (.iaload, 1) := by decide +kernel
theorem dX12_portLine_16 : decode cX12_portLine 16 = .ok (.istore_n 1, 1) := by decide +kernel
theorem dX12_portLine_17 : decode cX12_portLine 17 = .ok (.iload_n 1, 1) := by decide +kernel
theorem dX12_portLine_18 : decode cX12_portLine 18 = .ok (.bipush 9, 2) := by decide +kernel
theorem dX12_portLine_20 : decode cX12_portLine 20 = .ok (.if_icmp .ne 9, 3) := by decide +kernel
theorem dX12_portLine_23 : decode cX12_portLine 23 = .ok (.aload_n 0, 1) := by decide +kernel
theorem dX12_portLine_24 : decode cX12_portLine 24 = .ok (.iconst 4, 1) := by decide +kernel
theorem dX12_portLine_25 : decode cX12_portLine 25 = .ok (.invokevirtual 196, 3) := by decide +kernel
theorem dX12_portLine_28 : decode cX12_portLine 28 = .ok (.ireturn, 1) := by decide +kernel
theorem dX12_portLine_29 : decode cX12_portLine 29 = .ok (.aload_n 0, 1) := by decide +kernel
theorem dX12_portLine_30 : decode cX12_portLine 30 = .ok (.invokevirtual 199, 3) := by decide +kernel
theorem dX12_portLine_33 : decode cX12_portLine 33 = .ok (.aload_n 0, 1) := by decide +kernel
theorem dX12_portLine_34 : decode cX12_portLine 34 = .ok (.bipush 15, 2) := by decide +kernel
theorem dX12_portLine_36 : decode cX12_portLine 36 = .ok (.iload_n 1, 1) := by decide +kernel
theorem dX12_portLine_37 : decode cX12_portLine 37 = .ok (.iadd, 1) := by decide +kernel
theorem dX12_portLine_38 : decode cX12_portLine 38 = .ok (.invokevirtual 221, 3) := by decide +kernel
theorem dX12_portLine_41 : decode cX12_portLine 41 = .ok (.ifCond .ne 5, 3) := by decide +kernel
theorem dX12_portLine_44 : decode cX12_portLine 44 = .ok (.iconst 0, 1) := by decide +kernel
theorem dX12_portLine_45 : decode cX12_portLine 45 = .ok (.ireturn, 1) := by decide +kernel
theorem dX12_portLine_46 : decode cX12_portLine 46 = .ok (.aload_n 0, 1) := by decide +kernel
theorem dX12_portLine_47 : decode cX12_portLine 47 = .ok (.iconst 1, 1) := by decide +kernel
theorem dX12_portLine_48 : decode cX12_portLine 48 = .ok (.bipush 99, 2) := by decide +kernel
theorem dX12_portLine_50 : decode cX12_portLine 50 = .ok (.invokevirtual 224, 3) := by decide +kernel
theorem dX12_portLine_53 : decode cX12_portLine 53 = .ok (.ifCond .ne 5, 3) := by decide +kernel
theorem dX12_portLine_56 : decode cX12_portLine 56 = .ok (.iconst 0, 1) := by decide +kernel
theorem dX12_portLine_57 : decode cX12_portLine 57 = .ok (.ireturn, 1) := by decide +kernel
theorem dX12_portLine_58 : decode cX12_portLine 58 = .ok (.aload_n 0, 1) := by decide +kernel
theorem dX12_portLine_59 : decode cX12_portLine 59 = .ok (.getfield 37, 3) := by decide +kernel
theorem dX12_portLine_62 : decode cX12_portLine 62 = .ok (.iconst 4, 1) := by decide +kernel
theorem dX12_portLine_63 : decode cX12_portLine 63 = .ok (.iload_n 1, 1) := by decide +kernel
theorem dX12_portLine_64 : decode cX12_portLine 64 = .ok (.iadd, 1) := by decide +kernel
theorem dX12_portLine_65 : decode cX12_portLine 65 = .ok (.aload_n 0, 1) := by decide +kernel
theorem dX12_portLine_66 : decode cX12_portLine 66 = .ok (.getfield 206, 3) := by decide +kernel
theorem dX12_portLine_69 : decode cX12_portLine 69 = .ok (.iastore, 1) := by decide +kernel
theorem dX12_portLine_70 : decode cX12_portLine 70 = .ok (.aload_n 0, 1) := by decide +kernel
theorem dX12_portLine_71 : decode cX12_portLine 71 = .ok (.getfield 37, 3) := by decide +kernel
theorem dX12_portLine_74 : decode cX12_portLine 74 = .ok (.bipush 13, 2) := by decide +kernel
theorem dX12_portLine_76 : decode cX12_portLine 76 = .ok (.iload_n 1, 1) := by decide +kernel
theorem dX12_portLine_77 : decode cX12_portLine 77 = .ok (.iadd, 1) := by decide +kernel
theorem dX12_portLine_78 : decode cX12_portLine 78 = .ok (.iconst (-1), 1) := by decide +kernel
theorem dX12_portLine_79 : decode cX12_portLine 79 = .ok (.iastore, 1) := by decide +kernel
theorem dX12_portLine_80 : decode cX12_portLine 80 = .ok (.aload_n 0, 1) := by decide +kernel
theorem dX12_portLine_81 : decode cX12_portLine 81 = .ok (.ldc2_w 128, 3) := by decide +kernel
theorem dX12_portLine_84 : decode cX12_portLine 84 = .ok (.invokevirtual 217, 3) := by decide +kernel
theorem dX12_portLine_87 : decode cX12_portLine 87 = .ok (.ifCond .eq 32, 3) := by decide +kernel
theorem dX12_portLine_90 : decode cX12_portLine 90 = .ok (.aload_n 0, 1) := by decide +kernel
theorem dX12_portLine_91 : decode cX12_portLine 91 = .ok (.invokevirtual 199, 3) := by decide +kernel
theorem dX12_portLine_94 : decode cX12_portLine 94 = .ok (.aload_n 0, 1) := by decide +kernel
theorem dX12_portLine_95 : decode cX12_portLine 95 = .ok (.bipush 15, 2) := by decide +kernel
theorem dX12_portLine_97 : decode cX12_portLine 97 = .ok (.iload_n 1, 1) := by decide +kernel
theorem dX12_portLine_98 : decode cX12_portLine 98 = .ok (.invokevirtual 228, 3) := by decide +kernel
theorem dX12_portLine_101 : decode cX12_portLine 101 = .ok (.ifCond .ne 5, 3) := by decide +kernel
theorem dX12_portLine_104 : decode cX12_portLine 104 = .ok (.iconst 0, 1) := by decide +kernel
theorem dX12_portLine_105 : decode cX12_portLine 105 = .ok (.ireturn, 1) := by decide +kernel
theorem dX12_portLine_106 : decode cX12_portLine 106 = .ok (.aload_n 0, 1) := by decide +kernel
theorem dX12_portLine_107 : decode cX12_portLine 107 = .ok (.getfield 37, 3) := by decide +kernel
theorem dX12_portLine_110 : decode cX12_portLine 110 = .ok (.bipush 13, 2) := by decide +kernel
theorem dX12_portLine_112 : decode cX12_portLine 112 = .ok (.iload_n 1, 1) := by decide +kernel
theorem dX12_portLine_113 : decode cX12_portLine 113 = .ok (.iadd, 1) := by decide +kernel
theorem dX12_portLine_114 : decode cX12_portLine 114 = .ok (.aload_n 0, 1) := by decide +kernel
theorem dX12_portLine_115 : decode cX12_portLine 115 = .ok (.getfield 206, 3) := by decide +kernel
theorem dX12_portLine_118 : decode cX12_portLine 118 = .ok (.iastore, 1) := by decide +kernel
theorem dX12_portLine_119 : decode cX12_portLine 119 = .ok (.aload_n 0, 1) := by decide +kernel
theorem dX12_portLine_120 : decode cX12_portLine 120 = .ok (.getfield 37, 3) := by decide +kernel
theorem dX12_portLine_123 : decode cX12_portLine 123 = .ok (.iconst 0, 1) := by decide +kernel
theorem dX12_portLine_124 : decode cX12_portLine 124 = .ok (.dup2, 1) := by decide +kernel
theorem dX12_portLine_125 : decode cX12_portLine 125 = .ok (.iaload, 1) := by decide +kernel
theorem dX12_portLine_126 : decode cX12_portLine 126 = .ok (.iconst 1, 1) := by decide +kernel
theorem dX12_portLine_127 : decode cX12_portLine 127 = .ok (.iadd, 1) := by decide +kernel
theorem dX12_portLine_128 : decode cX12_portLine 128 = .ok (.iastore, 1) := by decide +kernel
theorem dX12_portLine_129 : decode cX12_portLine 129 = .ok (.iconst 1, 1) := by decide +kernel
theorem dX12_portLine_130 : decode cX12_portLine 130 = .ok (.ireturn, 1) := by decide +kernel
theorem dX12_portLine_131 : decode cX12_portLine 131 = .ok (.aload_n 0, 1) := by decide +kernel
theorem dX12_portLine_132 : decode cX12_portLine 132 = .ok (.ldc2_w 130, 3) := by decide +kernel
theorem dX12_portLine_135 : decode cX12_portLine 135 = .ok (.invokevirtual 217, 3) := by decide +kernel
theorem dX12_portLine_138 : decode cX12_portLine 138 = .ok (.ifCond .eq 158, 3) := by decide +kernel
theorem dX12_portLine_141 : decode cX12_portLine 141 = .ok (.aload_n 0, 1) := by decide +kernel
theorem dX12_portLine_142 : decode cX12_portLine 142 = .ok (.getfield 37, 3) := by decide +kernel
theorem dX12_portLine_145 : decode cX12_portLine 145 = .ok (.iconst 1, 1) := by decide +kernel
theorem dX12_portLine_146 : decode cX12_portLine 146 = .ok (.iaload, 1) := by decide +kernel
theorem dX12_portLine_147 : decode cX12_portLine 147 = .ok (.istore_n 1, 1) := by decide +kernel
theorem dX12_portLine_148 : decode cX12_portLine 148 = .ok (.iload_n 1, 1) := by decide +kernel
theorem dX12_portLine_149 : decode cX12_portLine 149 = .ok (.bipush 6, 2) := by decide +kernel
theorem dX12_portLine_151 : decode cX12_portLine 151 = .ok (.if_icmp .ne 9, 3) := by decide +kernel
theorem dX12_portLine_154 : decode cX12_portLine 154 = .ok (.aload_n 0, 1) := by decide +kernel
theorem dX12_portLine_155 : decode cX12_portLine 155 = .ok (.iconst 4, 1) := by decide +kernel
theorem dX12_portLine_156 : decode cX12_portLine 156 = .ok (.invokevirtual 196, 3) := by decide +kernel
theorem dX12_portLine_159 : decode cX12_portLine 159 = .ok (.ireturn, 1) := by decide +kernel
theorem dX12_portLine_160 : decode cX12_portLine 160 = .ok (.aload_n 0, 1) := by decide +kernel
theorem dX12_portLine_161 : decode cX12_portLine 161 = .ok (.invokevirtual 199, 3) := by decide +kernel
theorem dX12_portLine_164 : decode cX12_portLine 164 = .ok (.aload_n 0, 1) := by decide +kernel
theorem dX12_portLine_165 : decode cX12_portLine 165 = .ok (.bipush 24, 2) := by decide +kernel
theorem dX12_portLine_167 : decode cX12_portLine 167 = .ok (.iload_n 1, 1) := by decide +kernel
theorem dX12_portLine_168 : decode cX12_portLine 168 = .ok (.iadd, 1) := by decide +kernel
theorem dX12_portLine_169 : decode cX12_portLine 169 = .ok (.invokevirtual 221, 3) := by decide +kernel
theorem dX12_portLine_172 : decode cX12_portLine 172 = .ok (.ifCond .ne 5, 3) := by decide +kernel
theorem dX12_portLine_175 : decode cX12_portLine 175 = .ok (.iconst 0, 1) := by decide +kernel
theorem dX12_portLine_176 : decode cX12_portLine 176 = .ok (.ireturn, 1) := by decide +kernel
theorem dX12_portLine_177 : decode cX12_portLine 177 = .ok (.aload_n 0, 1) := by decide +kernel
theorem dX12_portLine_178 : decode cX12_portLine 178 = .ok (.iconst 1, 1) := by decide +kernel
theorem dX12_portLine_179 : decode cX12_portLine 179 = .ok (.bipush 9, 2) := by decide +kernel
theorem dX12_portLine_181 : decode cX12_portLine 181 = .ok (.invokevirtual 224, 3) := by decide +kernel
theorem dX12_portLine_184 : decode cX12_portLine 184 = .ok (.ifCond .ne 5, 3) := by decide +kernel
theorem dX12_portLine_187 : decode cX12_portLine 187 = .ok (.iconst 0, 1) := by decide +kernel
theorem dX12_portLine_188 : decode cX12_portLine 188 = .ok (.ireturn, 1) := by decide +kernel
theorem dX12_portLine_189 : decode cX12_portLine 189 = .ok (.aload_n 0, 1) := by decide +kernel
theorem dX12_portLine_190 : decode cX12_portLine 190 = .ok (.getfield 37, 3) := by decide +kernel
theorem dX12_portLine_193 : decode cX12_portLine 193 = .ok (.bipush 22, 2) := by decide +kernel
theorem dX12_portLine_195 : decode cX12_portLine 195 = .ok (.iload_n 1, 1) := by decide +kernel
theorem dX12_portLine_196 : decode cX12_portLine 196 = .ok (.iadd, 1) := by decide +kernel
theorem dX12_portLine_197 : decode cX12_portLine 197 = .ok (.aload_n 0, 1) := by decide +kernel
theorem dX12_portLine_198 : decode cX12_portLine 198 = .ok (.getfield 206, 3) := by decide +kernel
theorem dX12_portLine_201 : decode cX12_portLine 201 = .ok (.iastore, 1) := by decide +kernel
theorem dX12_portLine_202 : decode cX12_portLine 202 = .ok (.aload_n 0, 1) := by decide +kernel
theorem dX12_portLine_203 : decode cX12_portLine 203 = .ok (.getfield 37, 3) := by decide +kernel
theorem dX12_portLine_206 : decode cX12_portLine 206 = .ok (.bipush 28, 2) := by decide +kernel
theorem dX12_portLine_208 : decode cX12_portLine 208 = .ok (.iload_n 1, 1) := by decide +kernel
theorem dX12_portLine_209 : decode cX12_portLine 209 = .ok (.iadd, 1) := by decide +kernel
theorem dX12_portLine_210 : decode cX12_portLine 210 = .ok (.aload_n 0, 1) := by decide +kernel
theorem dX12_portLine_211 : decode cX12_portLine 211 = .ok (.ldc2_w 132, 3) := by decide +kernel
theorem dX12_portLine_214 : decode cX12_portLine 214 = .ok (.invokevirtual 217, 3) := by decide +kernel
theorem dX12_portLine_217 : decode cX12_portLine 217 = .ok (.ifCond .eq 7, 3) := by decide +kernel
theorem dX12_portLine_220 : decode cX12_portLine 220 = .ok (.iconst 1, 1) := by decide +kernel
theorem dX12_portLine_221 : decode cX12_portLine 221 = .ok (.goto 46, 3) := by decide +kernel
theorem dX12_portLine_224 : decode cX12_portLine 224 = .ok (.aload_n 0, 1) := by decide +kernel
theorem dX12_portLine_225 : decode cX12_portLine 225 = .ok (.ldc2_w 134, 3) := by decide +kernel
theorem dX12_portLine_228 : decode cX12_portLine 228 = .ok (.invokevirtual 217, 3) := by decide +kernel
theorem dX12_portLine_231 : decode cX12_portLine 231 = .ok (.ifCond .eq 7, 3) := by decide +kernel
theorem dX12_portLine_234 : decode cX12_portLine 234 = .ok (.iconst 2, 1) := by decide +kernel
theorem dX12_portLine_235 : decode cX12_portLine 235 = .ok (.goto 32, 3) := by decide +kernel
theorem dX12_portLine_238 : decode cX12_portLine 238 = .ok (.aload_n 0, 1) := by decide +kernel
theorem dX12_portLine_239 : decode cX12_portLine 239 = .ok (.ldc2_w 136, 3) := by decide +kernel
theorem dX12_portLine_242 : decode cX12_portLine 242 = .ok (.invokevirtual 217, 3) := by decide +kernel
theorem dX12_portLine_245 : decode cX12_portLine 245 = .ok (.ifCond .eq 7, 3) := by decide +kernel
theorem dX12_portLine_248 : decode cX12_portLine 248 = .ok (.iconst 3, 1) := by decide +kernel
theorem dX12_portLine_249 : decode cX12_portLine 249 = .ok (.goto 18, 3) := by decide +kernel
theorem dX12_portLine_252 : decode cX12_portLine 252 = .ok (.aload_n 0, 1) := by decide +kernel
theorem dX12_portLine_253 : decode cX12_portLine 253 = .ok (.ldc2_w 138, 3) := by decide +kernel
theorem dX12_portLine_256 : decode cX12_portLine 256 = .ok (.invokevirtual 217, 3) := by decide +kernel
theorem dX12_portLine_259 : decode cX12_portLine 259 = .ok (.ifCond .eq 7, 3) := by decide +kernel
theorem dX12_portLine_262 : decode cX12_portLine 262 = .ok (.iconst 4, 1) := by decide +kernel
theorem dX12_portLine_263 : decode cX12_portLine 263 = .ok (.goto 4, 3) := by decide +kernel
theorem dX12_portLine_266 : decode cX12_portLine 266 = .ok (.iconst 0, 1) := by decide +kernel
theorem dX12_portLine_267 : decode cX12_portLine 267 = .ok (.iastore, 1) := by decide +kernel
theorem dX12_portLine_268 : decode cX12_portLine 268 = .ok (.aload_n 0, 1) := by decide +kernel
theorem dX12_portLine_269 : decode cX12_portLine 269 = .ok (.getfield 37, 3) := by decide +kernel
theorem dX12_portLine_272 : decode cX12_portLine 272 = .ok (.bipush 28, 2) := by decide +kernel
theorem dX12_portLine_274 : decode cX12_portLine 274 = .ok (.iload_n 1, 1) := by decide +kernel
theorem dX12_portLine_275 : decode cX12_portLine 275 = .ok (.iadd, 1) := by decide +kernel
theorem dX12_portLine_276 : decode cX12_portLine 276 = .ok (.iaload, 1) := by decide +kernel
theorem dX12_portLine_277 : decode cX12_portLine 277 = .ok (.ifCond .le 7, 3) := by decide +kernel
theorem dX12_portLine_280 : decode cX12_portLine 280 = .ok (.aload_n 0, 1) := by decide +kernel
theorem dX12_portLine_281 : decode cX12_portLine 281 = .ok (.invokevirtual 199, 3) := by decide +kernel
theorem dX12_portLine_284 : decode cX12_portLine 284 = .ok (.aload_n 0, 1) := by decide +kernel
theorem dX12_portLine_285 : decode cX12_portLine 285 = .ok (.getfield 37, 3) := by decide +kernel
theorem dX12_portLine_288 : decode cX12_portLine 288 = .ok (.iconst 1, 1) := by decide +kernel
theorem dX12_portLine_289 : decode cX12_portLine 289 = .ok (.dup2, 1) := by decide +kernel
theorem dX12_portLine_290 : decode cX12_portLine 290 = .ok (.iaload, 1) := by decide +kernel
theorem dX12_portLine_291 : decode cX12_portLine 291 = .ok (.iconst 1, 1) := by decide +kernel
theorem dX12_portLine_292 : decode cX12_portLine 292 = .ok (.iadd, 1) := by decide +kernel
theorem dX12_portLine_293 : decode cX12_portLine 293 = .ok (.iastore, 1) := by decide +kernel
theorem dX12_portLine_294 : decode cX12_portLine 294 = .ok (.iconst 1, 1) := by decide +kernel
theorem dX12_portLine_295 : decode cX12_portLine 295 = .ok (.ireturn, 1) := by decide +kernel
theorem dX12_portLine_296 : decode cX12_portLine 296 = .ok (.aload_n 0, 1) := by decide +kernel
theorem dX12_portLine_297 : decode cX12_portLine 297 = .ok (.ldc2_w 140, 3) := by decide +kernel
theorem dX12_portLine_300 : decode cX12_portLine 300 = .ok (.invokevirtual 217, 3) := by decide +kernel
theorem dX12_portLine_303 : decode cX12_portLine 303 = .ok (.istore_n 1, 1) := by decide +kernel
theorem dX12_portLine_304 : decode cX12_portLine 304 = .ok (.iload_n 1, 1) := by decide +kernel
theorem dX12_portLine_305 : decode cX12_portLine 305 = .ok (.ifCond .ne 19, 3) := by decide +kernel
theorem dX12_portLine_308 : decode cX12_portLine 308 = .ok (.aload_n 0, 1) := by decide +kernel
theorem dX12_portLine_309 : decode cX12_portLine 309 = .ok (.ldc2_w 142, 3) := by decide +kernel
theorem dX12_portLine_312 : decode cX12_portLine 312 = .ok (.invokevirtual 217, 3) := by decide +kernel
theorem dX12_portLine_315 : decode cX12_portLine 315 = .ok (.ifCond .ne 9, 3) := by decide +kernel
theorem dX12_portLine_318 : decode cX12_portLine 318 = .ok (.aload_n 0, 1) := by decide +kernel
theorem dX12_portLine_319 : decode cX12_portLine 319 = .ok (.iconst 1, 1) := by decide +kernel
theorem dX12_portLine_320 : decode cX12_portLine 320 = .ok (.invokevirtual 196, 3) := by decide +kernel
theorem dX12_portLine_323 : decode cX12_portLine 323 = .ok (.ireturn, 1) := by decide +kernel
theorem dX12_portLine_324 : decode cX12_portLine 324 = .ok (.iload_n 1, 1) := by decide +kernel
theorem dX12_portLine_325 : decode cX12_portLine 325 = .ok (.ifCond .eq 13, 3) := by decide +kernel
theorem dX12_portLine_328 : decode cX12_portLine 328 = .ok (.aload_n 0, 1) := by decide +kernel
theorem dX12_portLine_329 : decode cX12_portLine 329 = .ok (.getfield 231, 3) := by decide +kernel
theorem dX12_portLine_332 : decode cX12_portLine 332 = .ok (.ifCond .eq 19, 3) := by decide +kernel
theorem dX12_portLine_335 : decode cX12_portLine 335 = .ok (.goto 10, 3) := by decide +kernel
theorem dX12_portLine_338 : decode cX12_portLine 338 = .ok (.aload_n 0, 1) := by decide +kernel
theorem dX12_portLine_339 : decode cX12_portLine 339 = .ok (.getfield 235, 3) := by decide +kernel
theorem dX12_portLine_342 : decode cX12_portLine 342 = .ok (.ifCond .eq 9, 3) := by decide +kernel
theorem dX12_portLine_345 : decode cX12_portLine 345 = .ok (.aload_n 0, 1) := by decide +kernel
theorem dX12_portLine_346 : decode cX12_portLine 346 = .ok (.iconst 3, 1) := by decide +kernel
theorem dX12_portLine_347 : decode cX12_portLine 347 = .ok (.invokevirtual 196, 3) := by decide +kernel
theorem dX12_portLine_350 : decode cX12_portLine 350 = .ok (.ireturn, 1) := by decide +kernel
theorem dX12_portLine_351 : decode cX12_portLine 351 = .ok (.aload_n 0, 1) := by decide +kernel
theorem dX12_portLine_352 : decode cX12_portLine 352 = .ok (.aload_n 0, 1) := by decide +kernel
theorem dX12_portLine_353 : decode cX12_portLine 353 = .ok (.getfield 231, 3) := by decide +kernel
theorem dX12_portLine_356 : decode cX12_portLine 356 = .ok (.ifCond .ne 7, 3) := by decide +kernel
theorem dX12_portLine_359 : decode cX12_portLine 359 = .ok (.iload_n 1, 1) := by decide +kernel
theorem dX12_portLine_360 : decode cX12_portLine 360 = .ok (.ifCond .eq 7, 3) := by decide +kernel
theorem dX12_portLine_363 : decode cX12_portLine 363 = .ok (.iconst 1, 1) := by decide +kernel
theorem dX12_portLine_364 : decode cX12_portLine 364 = .ok (.goto 4, 3) := by decide +kernel
theorem dX12_portLine_367 : decode cX12_portLine 367 = .ok (.iconst 0, 1) := by decide +kernel
theorem dX12_portLine_368 : decode cX12_portLine 368 = .ok (.putfield 231, 3) := by decide +kernel
theorem dX12_portLine_371 : decode cX12_portLine 371 = .ok (.aload_n 0, 1) := by decide +kernel
theorem dX12_portLine_372 : decode cX12_portLine 372 = .ok (.aload_n 0, 1) := by decide +kernel
theorem dX12_portLine_373 : decode cX12_portLine 373 = .ok (.getfield 235, 3) := by decide +kernel
theorem dX12_portLine_376 : decode cX12_portLine 376 = .ok (.ifCond .ne 7, 3) := by decide +kernel
theorem dX12_portLine_379 : decode cX12_portLine 379 = .ok (.iload_n 1, 1) := by decide +kernel
theorem dX12_portLine_380 : decode cX12_portLine 380 = .ok (.ifCond .ne 7, 3) := by decide +kernel
theorem dX12_portLine_383 : decode cX12_portLine 383 = .ok (.iconst 1, 1) := by decide +kernel
theorem dX12_portLine_384 : decode cX12_portLine 384 = .ok (.goto 4, 3) := by decide +kernel
theorem dX12_portLine_387 : decode cX12_portLine 387 = .ok (.iconst 0, 1) := by decide +kernel
theorem dX12_portLine_388 : decode cX12_portLine 388 = .ok (.putfield 235, 3) := by decide +kernel
theorem dX12_portLine_391 : decode cX12_portLine 391 = .ok (.aload_n 0, 1) := by decide +kernel
theorem dX12_portLine_392 : decode cX12_portLine 392 = .ok (.invokevirtual 199, 3) := by decide +kernel
theorem dX12_portLine_395 : decode cX12_portLine 395 = .ok (.aload_n 0, 1) := by decide +kernel
theorem dX12_portLine_396 : decode cX12_portLine 396 = .ok (.iconst 0, 1) := by decide +kernel
theorem dX12_portLine_397 : decode cX12_portLine 397 = .ok (.bipush 9, 2) := by decide +kernel
theorem dX12_portLine_399 : decode cX12_portLine 399 = .ok (.invokevirtual 224, 3) := by decide +kernel
theorem dX12_portLine_402 : decode cX12_portLine 402 = .ok (.ifCond .ne 5, 3) := by decide +kernel
theorem dX12_portLine_405 : decode cX12_portLine 405 = .ok (.iconst 0, 1) := by decide +kernel
theorem dX12_portLine_406 : decode cX12_portLine 406 = .ok (.ireturn, 1) := by decide +kernel
theorem dX12_portLine_407 : decode cX12_portLine 407 = .ok (.aload_n 0, 1) := by decide +kernel
theorem dX12_portLine_408 : decode cX12_portLine 408 = .ok (.getfield 37, 3) := by decide +kernel
theorem dX12_portLine_411 : decode cX12_portLine 411 = .ok (.iload_n 1, 1) := by decide +kernel
theorem dX12_portLine_412 : decode cX12_portLine 412 = .ok (.ifCond .eq 7, 3) := by decide +kernel
theorem dX12_portLine_415 : decode cX12_portLine 415 = .ok (.iconst 2, 1) := by decide +kernel
theorem dX12_portLine_416 : decode cX12_portLine 416 = .ok (.goto 4, 3) := by decide +kernel
theorem dX12_portLine_419 : decode cX12_portLine 419 = .ok (.iconst 3, 1) := by decide +kernel
theorem dX12_portLine_420 : decode cX12_portLine 420 = .ok (.aload_n 0, 1) := by decide +kernel
theorem dX12_portLine_421 : decode cX12_portLine 421 = .ok (.getfield 206, 3) := by decide +kernel
theorem dX12_portLine_424 : decode cX12_portLine 424 = .ok (.iastore, 1) := by decide +kernel
theorem dX12_portLine_425 : decode cX12_portLine 425 = .ok (.iconst 1, 1) := by decide +kernel
theorem dX12_portLine_426 : decode cX12_portLine 426 = .ok (.ireturn, 1) := by decide +kernel
theorem dX12_port_0 : decode cX12_port 0 = .ok (.aload_n 0, 1) := by decide +kernel
theorem dX12_port_1 : decode cX12_port 1 = .ok (.iconst 0, 1) := by decide +kernel
theorem dX12_port_2 : decode cX12_port 2 = .ok (.putfield 1, 3) := by decide +kernel
theorem dX12_port_5 : decode cX12_port 5 = .ok (.aload_n 0, 1) := by decide +kernel
theorem dX12_port_6 : decode cX12_port 6 = .ok (.sipush 600, 3) := by decide +kernel
theorem dX12_port_9 : decode cX12_port 9 = .ok (.invokevirtual 238, 3) := by decide +kernel
theorem dX12_port_12 : decode cX12_port 12 = .ok (.aload_n 0, 1) := by decide +kernel
theorem dX12_port_13 : decode cX12_port 13 = .ok (.iconst 0, 1) := by decide +kernel
theorem dX12_port_14 : decode cX12_port 14 = .ok (.putfield 187, 3) := by decide +kernel
theorem dX12_port_17 : decode cX12_port 17 = .ok (.aload_n 0, 1) := by decide +kernel
theorem dX12_port_18 : decode cX12_port 18 = .ok (.iconst 0, 1) := by decide +kernel
theorem dX12_port_19 : decode cX12_port 19 = .ok (.putfield 241, 3) := by decide +kernel
theorem dX12_port_22 : decode cX12_port 22 = .ok (.aload_n 0, 1) := by decide +kernel
theorem dX12_port_23 : decode cX12_port 23 = .ok (.iconst 0, 1) := by decide +kernel
theorem dX12_port_24 : decode cX12_port 24 = .ok (.putfield 231, 3) := by decide +kernel
theorem dX12_port_27 : decode cX12_port 27 = .ok (.aload_n 0, 1) := by decide +kernel
theorem dX12_port_28 : decode cX12_port 28 = .ok (.iconst 0, 1) := by decide +kernel
theorem dX12_port_29 : decode cX12_port 29 = .ok (.putfield 235, 3) := by decide +kernel
theorem dX12_port_32 : decode cX12_port 32 = .ok (.iconst 0, 1) := by decide +kernel
theorem dX12_port_33 : decode cX12_port 33 = .ok (.istore_n 1, 1) := by decide +kernel
theorem dX12_port_34 : decode cX12_port 34 = .ok (.iload_n 1, 1) := by decide +kernel
theorem dX12_port_35 : decode cX12_port 35 = .ok (.bipush 34, 2) := by decide +kernel
theorem dX12_port_37 : decode cX12_port 37 = .ok (.if_icmp .ge 16, 3) := by decide +kernel
theorem dX12_port_40 : decode cX12_port 40 = .ok (.aload_n 0, 1) := by decide +kernel
theorem dX12_port_41 : decode cX12_port 41 = .ok (.getfield 37, 3) := by decide +kernel
theorem dX12_port_44 : decode cX12_port 44 = .ok (.iload_n 1, 1) := by decide +kernel
theorem dX12_port_45 : decode cX12_port 45 = .ok (.iconst 0, 1) := by decide +kernel
theorem dX12_port_46 : decode cX12_port 46 = .ok (.iastore, 1) := by decide +kernel
theorem dX12_port_47 : decode cX12_port 47 = .ok (.iinc 1 1, 3) := by decide +kernel
theorem dX12_port_50 : decode cX12_port 50 = .ok (.goto (-16), 3) := by decide +kernel
theorem dX12_port_53 : decode cX12_port 53 = .ok (.aload_n 0, 1) := by decide +kernel
theorem dX12_port_54 : decode cX12_port 54 = .ok (.getfield 37, 3) := by decide +kernel
theorem dX12_port_57 : decode cX12_port 57 = .ok (.iconst 2, 1) := by decide +kernel
theorem dX12_port_58 : decode cX12_port 58 = .ok (.iconst 1, 1) := by decide +kernel
theorem dX12_port_59 : decode cX12_port 59 = .ok (.iastore, 1) := by decide +kernel
theorem dX12_port_60 : decode cX12_port 60 = .ok (.aload_n 0, 1) := by decide +kernel
theorem dX12_port_61 : decode cX12_port 61 = .ok (.invokevirtual 199, 3) := by decide +kernel
theorem dX12_port_64 : decode cX12_port 64 = .ok (.aload_n 0, 1) := by decide +kernel
theorem dX12_port_65 : decode cX12_port 65 = .ok (.getfield 170, 3) := by decide +kernel
theorem dX12_port_68 : decode cX12_port 68 = .ok (.ifCond .eq 39, 3) := by decide +kernel
theorem dX12_port_71 : decode cX12_port 71 = .ok (.aload_n 0, 1) := by decide +kernel
theorem dX12_port_72 : decode cX12_port 72 = .ok (.invokevirtual 244, 3) := by decide +kernel
theorem dX12_port_75 : decode cX12_port 75 = .ok (.ifCond .eq 12, 3) := by decide +kernel
theorem dX12_port_78 : decode cX12_port 78 = .ok (.aload_n 0, 1) := by decide +kernel
theorem dX12_port_79 : decode cX12_port 79 = .ok (.bipush 59, 2) := by decide +kernel
theorem dX12_port_81 : decode cX12_port 81 = .ok (.invokevirtual 247, 3) := by decide +kernel
theorem dX12_port_84 : decode cX12_port 84 = .ok (.ifCond .ne 10, 3) := by decide +kernel
theorem dX12_port_87 : decode cX12_port 87 = .ok (.iconst (-1), 1) := by decide +kernel
theorem dX12_port_88 : decode cX12_port 88 = .ok (.aload_n 0, 1) := by decide +kernel
theorem dX12_port_89 : decode cX12_port 89 = .ok (.getfield 190, 3) := by decide +kernel
theorem dX12_port_92 : decode cX12_port 92 = .ok (.isub, 1) := by decide +kernel
theorem dX12_port_93 : decode cX12_port 93 = .ok (.ireturn, 1) := by decide +kernel
theorem dX12_port_94 : decode cX12_port 94 = .ok (.aload_n 0, 1) := by decide +kernel
theorem dX12_port_95 : decode cX12_port 95 = .ok (.dup, 1) := by decide +kernel
theorem dX12_port_96 : decode cX12_port 96 = .ok (.getfield 241, 3) := by decide +kernel
theorem dX12_port_99 : decode cX12_port 99 = .ok (.iconst 1, 1) := by decide +kernel
theorem dX12_port_100 : decode cX12_port 100 = .ok (.iadd, 1) := by decide +kernel
theorem dX12_port_101 : decode cX12_port 101 = .ok (.putfield 241, 3) := by decide +kernel
theorem dX12_port_104 : decode cX12_port 104 = .ok (.goto (-40), 3) := by decide +kernel
theorem dX12_port_107 : decode cX12_port 107 = .ok (.iconst 0, 1) := by decide +kernel
theorem dX12_port_108 : decode cX12_port 108 = .ok (.istore_n 1, 1) := by decide +kernel
theorem dX12_port_109 : decode cX12_port 109 = .ok (.iload_n 1, 1) := by decide +kernel
theorem dX12_port_110 : decode cX12_port 110 = .ok (.sipush 787, 3) := by decide +kernel
theorem dX12_port_113 : decode cX12_port 113 = .ok (.if_icmp .ge 31, 3) := by decide +kernel
theorem dX12_port_116 : decode cX12_port 116 = .ok (.aload_n 0, 1) := by decide +kernel
theorem dX12_port_117 : decode cX12_port 117 = .ok (.getfield 33, 3) := by decide +kernel
theorem dX12_port_120 : decode cX12_port 120 = .ok (.iload_n 1, 1) := by decide +kernel
theorem dX12_port_121 : decode cX12_port 121 = .ok (.iload_n 1, 1) := by decide +kernel
theorem dX12_port_122 : decode cX12_port 122 = .ok (.bipush 34, 2) := by decide +kernel
theorem dX12_port_124 : decode cX12_port 124 = .ok (.if_icmp .ge 12, 3) := by decide +kernel
theorem dX12_port_127 : decode cX12_port 127 = .ok (.aload_n 0, 1) := by decide +kernel
theorem dX12_port_128 : decode cX12_port 128 = .ok (.getfield 37, 3) := by decide +kernel
theorem dX12_port_131 : decode cX12_port 131 = .ok (.iload_n 1, 1) := by decide +kernel
theorem dX12_port_132 : decode cX12_port 132 = .ok (.iaload, 1) := by decide +kernel
theorem dX12_port_133 : decode cX12_port 133 = .ok (.goto 4, 3) := by decide +kernel
theorem dX12_port_136 : decode cX12_port 136 = .ok (.iconst 0, 1) := by decide +kernel
theorem dX12_port_137 : decode cX12_port 137 = .ok (.iastore, 1) := by decide +kernel
theorem dX12_port_138 : decode cX12_port 138 = .ok (.iinc 1 1, 3) := by decide +kernel
theorem dX12_port_141 : decode cX12_port 141 = .ok (.goto (-32), 3) := by decide +kernel
theorem dX12_port_144 : decode cX12_port 144 = .ok (.iconst 0, 1) := by decide +kernel
theorem dX12_port_145 : decode cX12_port 145 = .ok (.istore_n 1, 1) := by decide +kernel
theorem dX12_port_146 : decode cX12_port 146 = .ok (.iload_n 1, 1) := by decide +kernel
theorem dX12_port_147 : decode cX12_port 147 = .ok (.bipush 15, 2) := by decide +kernel
theorem dX12_port_149 : decode cX12_port 149 = .ok (.if_icmp .ge 24, 3) := by decide +kernel
theorem dX12_port_152 : decode cX12_port 152 = .ok (.aload_n 0, 1) := by decide +kernel
theorem dX12_port_153 : decode cX12_port 153 = .ok (.getfield 43, 3) := by decide +kernel
theorem dX12_port_156 : decode cX12_port 156 = .ok (.iload_n 1, 1) := by decide +kernel
theorem dX12_port_157 : decode cX12_port 157 = .ok (.aload_n 0, 1) := by decide +kernel
theorem dX12_port_158 : decode cX12_port 158 = .ok (.getfield 43, 3) := by decide +kernel
theorem dX12_port_161 : decode cX12_port 161 = .ok (.bipush 15, 2) := by decide +kernel
theorem dX12_port_163 : decode cX12_port 163 = .ok (.iload_n 1, 1) := by decide +kernel
theorem dX12_port_164 : decode cX12_port 164 = .ok (.iadd, 1) := by decide +kernel
theorem dX12_port_165 : decode cX12_port 165 = .ok (.laload, 1) := by decide +kernel
theorem dX12_port_166 : decode cX12_port 166 = .ok (.lastore, 1) := by decide +kernel
theorem dX12_port_167 : decode cX12_port 167 = .ok (.iinc 1 1, 3) := by decide +kernel
theorem dX12_port_170 : decode cX12_port 170 = .ok (.goto (-24), 3) := by decide +kernel
theorem dX12_port_173 : decode cX12_port 173 = .ok (.aload_n 0, 1) := by decide +kernel
theorem dX12_port_174 : decode cX12_port 174 = .ok (.iconst 0, 1) := by decide +kernel
theorem dX12_port_175 : decode cX12_port 175 = .ok (.putfield 250, 3) := by decide +kernel
theorem dX12_port_178 : decode cX12_port 178 = .ok (.aload_n 0, 1) := by decide +kernel
theorem dX12_port_179 : decode cX12_port 179 = .ok (.aload_n 0, 1) := by decide +kernel
theorem dX12_port_180 : decode cX12_port 180 = .ok (.getfield 253, 3) := by decide +kernel
theorem dX12_port_183 : decode cX12_port 183 = .ok (.iconst 1, 1) := by decide +kernel
theorem dX12_port_184 : decode cX12_port 184 = .ok (.iadd, 1) := by decide +kernel
theorem dX12_port_185 : decode cX12_port 185 = .ok (.putfield 256, 3) := by decide +kernel
theorem dX12_port_188 : decode cX12_port 188 = .ok (.aload_n 0, 1) := by decide +kernel
theorem dX12_port_189 : decode cX12_port 189 = .ok (.dup, 1) := by decide +kernel
theorem dX12_port_190 : decode cX12_port 190 = .ok (.getfield 253, 3) := by decide +kernel
theorem dX12_port_193 : decode cX12_port 193 = .ok (.iconst 1, 1) := by decide +kernel
theorem dX12_port_194 : decode cX12_port 194 = .ok (.iadd, 1) := by decide +kernel
theorem dX12_port_195 : decode cX12_port 195 = .ok (.putfield 253, 3) := by decide +kernel
theorem dX12_port_198 : decode cX12_port 198 = .ok (.aload_n 0, 1) := by decide +kernel
theorem dX12_port_199 : decode cX12_port 199 = .ok (.getfield 241, 3) := by decide +kernel
theorem dX12_port_202 : decode cX12_port 202 = .ok (.ireturn, 1) := by decide +kernel
theorem dX12_fault_0 : decode cX12_fault 0 = .ok (.aload_n 0, 1) := by decide +kernel
theorem dX12_fault_1 : decode cX12_fault 1 = .ok (.iconst 0, 1) := by decide +kernel
theorem dX12_fault_2 : decode cX12_fault 2 = .ok (.putfield 1, 3) := by decide +kernel
theorem dX12_fault_5 : decode cX12_fault 5 = .ok (.aload_n 0, 1) := by decide +kernel
theorem dX12_fault_6 : decode cX12_fault 6 = .ok (.getfield 187, 3) := by decide +kernel
theorem dX12_fault_9 : decode cX12_fault 9 = .ok (.ireturn, 1) := by decide +kernel
theorem dX12_isBody_0 : decode cX12_isBody 0 = .ok (.iload_n 1, 1) := by decide +kernel
theorem dX12_isBody_1 : decode cX12_isBody 1 = .ok (.iconst 0, 1) := by decide +kernel
theorem dX12_isBody_2 : decode cX12_isBody 2 = .ok (.aload_n 0, 1) := by decide +kernel
theorem dX12_isBody_3 : decode cX12_isBody 3 = .ok (.getfield 33, 3) := by decide +kernel
theorem dX12_isBody_6 : decode cX12_isBody 6 = .ok (.iconst 0, 1) := by decide +kernel
theorem dX12_isBody_7 : decode cX12_isBody 7 = .ok (.iaload, 1) := by decide +kernel
theorem dX12_isBody_8 : decode cX12_isBody 8 = .ok (.iconst 1, 1) := by decide +kernel
theorem dX12_isBody_9 : decode cX12_isBody 9 = .ok (.isub, 1) := by decide +kernel
theorem dX12_isBody_10 : decode cX12_isBody 10 = .ok (.invokestatic 202, 3) := by decide +kernel
theorem dX12_isBody_13 : decode cX12_isBody 13 = .ok (.ireturn, 1) := by decide +kernel
theorem dX12_isKind_0 : decode cX12_isKind 0 = .ok (.iload_n 1, 1) := by decide +kernel
theorem dX12_isKind_1 : decode cX12_isKind 1 = .ok (.iconst 0, 1) := by decide +kernel
theorem dX12_isKind_2 : decode cX12_isKind 2 = .ok (.aload_n 0, 1) := by decide +kernel
theorem dX12_isKind_3 : decode cX12_isKind 3 = .ok (.getfield 33, 3) := by decide +kernel
theorem dX12_isKind_6 : decode cX12_isKind 6 = .ok (.iconst 1, 1) := by decide +kernel
theorem dX12_isKind_7 : decode cX12_isKind 7 = .ok (.iaload, 1) := by decide +kernel
theorem dX12_isKind_8 : decode cX12_isKind 8 = .ok (.iconst 1, 1) := by decide +kernel
theorem dX12_isKind_9 : decode cX12_isKind 9 = .ok (.isub, 1) := by decide +kernel
theorem dX12_isKind_10 : decode cX12_isKind 10 = .ok (.invokestatic 202, 3) := by decide +kernel
theorem dX12_isKind_13 : decode cX12_isKind 13 = .ok (.ireturn, 1) := by decide +kernel
theorem dX12_isDeal_0 : decode cX12_isDeal 0 = .ok (.iload_n 1, 1) := by decide +kernel
theorem dX12_isDeal_1 : decode cX12_isDeal 1 = .ok (.iconst 0, 1) := by decide +kernel
theorem dX12_isDeal_2 : decode cX12_isDeal 2 = .ok (.aload_n 0, 1) := by decide +kernel
theorem dX12_isDeal_3 : decode cX12_isDeal 3 = .ok (.getfield 33, 3) := by decide +kernel
theorem dX12_isDeal_6 : decode cX12_isDeal 6 = .ok (.bipush 34, 2) := by decide +kernel
theorem dX12_isDeal_8 : decode cX12_isDeal 8 = .ok (.iaload, 1) := by decide +kernel
theorem dX12_isDeal_9 : decode cX12_isDeal 9 = .ok (.iconst 1, 1) := by decide +kernel
theorem dX12_isDeal_10 : decode cX12_isDeal 10 = .ok (.isub, 1) := by decide +kernel
theorem dX12_isDeal_11 : decode cX12_isDeal 11 = .ok (.invokestatic 202, 3) := by decide +kernel
theorem dX12_isDeal_14 : decode cX12_isDeal 14 = .ok (.ireturn, 1) := by decide +kernel
theorem dX12_isLiving_0 : decode cX12_isLiving 0 = .ok (.aload_n 0, 1) := by decide +kernel
theorem dX12_isLiving_1 : decode cX12_isLiving 1 = .ok (.getfield 33, 3) := by decide +kernel
theorem dX12_isLiving_4 : decode cX12_isLiving 4 = .ok (.bipush 36, 2) := by decide +kernel
theorem dX12_isLiving_6 : decode cX12_isLiving 6 = .ok (.iaload, 1) := by decide +kernel
theorem dX12_isLiving_7 : decode cX12_isLiving 7 = .ok (.iload_n 1, 1) := by decide +kernel
theorem dX12_isLiving_8 : decode cX12_isLiving 8 = .ok (.invokestatic 259, 3) := by decide +kernel
theorem dX12_isLiving_11 : decode cX12_isLiving 11 = .ok (.ifCond .ne 7, 3) := by decide +kernel
theorem dX12_isLiving_14 : decode cX12_isLiving 14 = .ok (.iconst 1, 1) := by decide +kernel
theorem dX12_isLiving_15 : decode cX12_isLiving 15 = .ok (.goto 4, 3) := by decide +kernel
theorem dX12_isLiving_18 : decode cX12_isLiving 18 = .ok (.iconst 0, 1) := by decide +kernel
theorem dX12_isLiving_19 : decode cX12_isLiving 19 = .ok (.ireturn, 1) := by decide +kernel
theorem dX12_of_0 : decode cX12_of 0 = .ok (.aload_n 0, 1) := by decide +kernel
theorem dX12_of_1 : decode cX12_of 1 = .ok (.getfield 33, 3) := by decide +kernel
theorem dX12_of_4 : decode cX12_of 4 = .ok (.bipush 46, 2) := by decide +kernel
theorem dX12_of_6 : decode cX12_of 6 = .ok (.bipush 9, 2) := by decide +kernel
theorem dX12_of_8 : decode cX12_of 8 = .ok (.iload_n 1, 1) := by decide +kernel
theorem dX12_of_9 : decode cX12_of 9 = .ok (.imul, 1) := by decide +kernel
theorem dX12_of_10 : decode cX12_of 10 = .ok (.iadd, 1) := by decide +kernel
theorem dX12_of_11 : decode cX12_of 11 = .ok (.iload_n 2, 1) := by decide +kernel
theorem dX12_of_12 : decode cX12_of 12 = .ok (.iadd, 1) := by decide +kernel
theorem dX12_of_13 : decode cX12_of 13 = .ok (.iaload, 1) := by decide +kernel
theorem dX12_of_14 : decode cX12_of 14 = .ok (.ireturn, 1) := by decide +kernel
theorem dX12_set_0 : decode cX12_set 0 = .ok (.aload_n 0, 1) := by decide +kernel
theorem dX12_set_1 : decode cX12_set 1 = .ok (.getfield 33, 3) := by decide +kernel
theorem dX12_set_4 : decode cX12_set 4 = .ok (.bipush 46, 2) := by decide +kernel
theorem dX12_set_6 : decode cX12_set 6 = .ok (.bipush 9, 2) := by decide +kernel
theorem dX12_set_8 : decode cX12_set 8 = .ok (.iload_n 1, 1) := by decide +kernel
theorem dX12_set_9 : decode cX12_set 9 = .ok (.imul, 1) := by decide +kernel
theorem dX12_set_10 : decode cX12_set 10 = .ok (.iadd, 1) := by decide +kernel
theorem dX12_set_11 : decode cX12_set 11 = .ok (.iload_n 2, 1) := by decide +kernel
theorem dX12_set_12 : decode cX12_set 12 = .ok (.iadd, 1) := by decide +kernel
theorem dX12_set_13 : decode cX12_set 13 = .ok (.iload_n 3, 1) := by decide +kernel
theorem dX12_set_14 : decode cX12_set 14 = .ok (.iastore, 1) := by decide +kernel
theorem dX12_set_15 : decode cX12_set 15 = .ok (.return_, 1) := by decide +kernel
theorem dX12_isOpen_0 : decode cX12_isOpen 0 = .ok (.aload_n 0, 1) := by decide +kernel
theorem dX12_isOpen_1 : decode cX12_isOpen 1 = .ok (.iload_n 1, 1) := by decide +kernel
theorem dX12_isOpen_2 : decode cX12_isOpen 2 = .ok (.invokevirtual 262, 3) := by decide +kernel
theorem dX12_isOpen_5 : decode cX12_isOpen 5 = .ok (.ifCond .eq 16, 3) := by decide +kernel
theorem dX12_isOpen_8 : decode cX12_isOpen 8 = .ok (.aload_n 0, 1) := by decide +kernel
theorem dX12_isOpen_9 : decode cX12_isOpen 9 = .ok (.iload_n 1, 1) := by decide +kernel
theorem dX12_isOpen_10 : decode cX12_isOpen 10 = .ok (.iconst 5, 1) := by decide +kernel
theorem dX12_isOpen_11 : decode cX12_isOpen 11 = .ok (.invokevirtual 265, 3) := by decide +kernel
theorem dX12_isOpen_14 : decode cX12_isOpen 14 = .ok (.ifCond .ne 7, 3) := by decide +kernel
theorem dX12_isOpen_17 : decode cX12_isOpen 17 = .ok (.iconst 1, 1) := by decide +kernel
theorem dX12_isOpen_18 : decode cX12_isOpen 18 = .ok (.goto 4, 3) := by decide +kernel
theorem dX12_isOpen_21 : decode cX12_isOpen 21 = .ok (.iconst 0, 1) := by decide +kernel
theorem dX12_isOpen_22 : decode cX12_isOpen 22 = .ok (.ireturn, 1) := by decide +kernel
theorem dX12_sizeOf_0 : decode cX12_sizeOf 0 = .ok (.aload_n 0, 1) := by decide +kernel
theorem dX12_sizeOf_1 : decode cX12_sizeOf 1 = .ok (.getfield 33, 3) := by decide +kernel
theorem dX12_sizeOf_4 : decode cX12_sizeOf 4 = .ok (.bipush 22, 2) := by decide +kernel
theorem dX12_sizeOf_6 : decode cX12_sizeOf 6 = .ok (.aload_n 0, 1) := by decide +kernel
theorem dX12_sizeOf_7 : decode cX12_sizeOf 7 = .ok (.iload_n 1, 1) := by decide +kernel
theorem dX12_sizeOf_8 : decode cX12_sizeOf 8 = .ok (.iconst 3, 1) := by decide +kernel
theorem dX12_sizeOf_9 : decode cX12_sizeOf 9 = .ok (.invokevirtual 265, 3) := by decide +kernel
theorem dX12_sizeOf_12 : decode cX12_sizeOf 12 = .ok (.iadd, 1) := by decide +kernel
theorem dX12_sizeOf_13 : decode cX12_sizeOf 13 = .ok (.iaload, 1) := by decide +kernel
theorem dX12_sizeOf_14 : decode cX12_sizeOf 14 = .ok (.ireturn, 1) := by decide +kernel
theorem dX12_sortOf_0 : decode cX12_sortOf 0 = .ok (.aload_n 0, 1) := by decide +kernel
theorem dX12_sortOf_1 : decode cX12_sortOf 1 = .ok (.getfield 33, 3) := by decide +kernel
theorem dX12_sortOf_4 : decode cX12_sortOf 4 = .ok (.bipush 28, 2) := by decide +kernel
theorem dX12_sortOf_6 : decode cX12_sortOf 6 = .ok (.aload_n 0, 1) := by decide +kernel
theorem dX12_sortOf_7 : decode cX12_sortOf 7 = .ok (.iload_n 1, 1) := by decide +kernel
theorem dX12_sortOf_8 : decode cX12_sortOf 8 = .ok (.iconst 3, 1) := by decide +kernel
theorem dX12_sortOf_9 : decode cX12_sortOf 9 = .ok (.invokevirtual 265, 3) := by decide +kernel
theorem dX12_sortOf_12 : decode cX12_sortOf 12 = .ok (.iadd, 1) := by decide +kernel
theorem dX12_sortOf_13 : decode cX12_sortOf 13 = .ok (.iaload, 1) := by decide +kernel
theorem dX12_sortOf_14 : decode cX12_sortOf 14 = .ok (.ireturn, 1) := by decide +kernel
theorem dX12_marksOn_0 : decode cX12_marksOn 0 = .ok (.iconst 0, 1) := by decide +kernel
theorem dX12_marksOn_1 : decode cX12_marksOn 1 = .ok (.istore_n 3, 1) := by decide +kernel
theorem dX12_marksOn_2 : decode cX12_marksOn 2 = .ok (.iconst 0, 1) := by decide +kernel
theorem dX12_marksOn_3 : decode cX12_marksOn 3 = .ok (.istore 4, 2) := by decide +kernel
theorem dX12_marksOn_5 : decode cX12_marksOn 5 = .ok (.iload 4, 2) := by decide +kernel
theorem dX12_marksOn_7 : decode cX12_marksOn 7 = .ok (.aload_n 0, 1) := by decide +kernel
theorem dX12_marksOn_8 : decode cX12_marksOn 8 = .ok (.getfield 33, 3) := by decide +kernel
theorem dX12_marksOn_11 : decode cX12_marksOn 11 = .ok (.bipush 34, 2) := by decide +kernel
theorem dX12_marksOn_13 : decode cX12_marksOn 13 = .ok (.iaload, 1) := by decide +kernel
theorem dX12_marksOn_14 : decode cX12_marksOn 14 = .ok (.if_icmp .ge 58, 3) := by decide +kernel
theorem dX12_marksOn_17 : decode cX12_marksOn 17 = .ok (.iconst 0, 1) := by decide +kernel
theorem dX12_marksOn_18 : decode cX12_marksOn 18 = .ok (.istore 5, 2) := by decide +kernel
theorem dX12_marksOn_20 : decode cX12_marksOn 20 = .ok (.iload 5, 2) := by decide +kernel
theorem dX12_marksOn_22 : decode cX12_marksOn 22 = .ok (.iconst 2, 1) := by decide +kernel
theorem dX12_marksOn_23 : decode cX12_marksOn 23 = .ok (.if_icmp .ge 43, 3) := by decide +kernel
theorem dX12_marksOn_26 : decode cX12_marksOn 26 = .ok (.iload_n 3, 1) := by decide +kernel
theorem dX12_marksOn_27 : decode cX12_marksOn 27 = .ok (.aload_n 0, 1) := by decide +kernel
theorem dX12_marksOn_28 : decode cX12_marksOn 28 = .ok (.iload 4, 2) := by decide +kernel
theorem dX12_marksOn_30 : decode cX12_marksOn 30 = .ok (.bipush 6, 2) := by decide +kernel
theorem dX12_marksOn_32 : decode cX12_marksOn 32 = .ok (.iload 5, 2) := by decide +kernel
theorem dX12_marksOn_34 : decode cX12_marksOn 34 = .ok (.iadd, 1) := by decide +kernel
theorem dX12_marksOn_35 : decode cX12_marksOn 35 = .ok (.invokevirtual 265, 3) := by decide +kernel
theorem dX12_marksOn_38 : decode cX12_marksOn 38 = .ok (.iload_n 1, 1) := by decide +kernel
theorem dX12_marksOn_39 : decode cX12_marksOn 39 = .ok (.if_icmp .ne 18, 3) := by decide +kernel
theorem dX12_marksOn_42 : decode cX12_marksOn 42 = .ok (.aload_n 0, 1) := by decide +kernel
theorem dX12_marksOn_43 : decode cX12_marksOn 43 = .ok (.iload 4, 2) := by decide +kernel
theorem dX12_marksOn_45 : decode cX12_marksOn 45 = .ok (.iconst 4, 1) := by decide +kernel
theorem dX12_marksOn_46 : decode cX12_marksOn 46 = .ok (.invokevirtual 265, 3) := by decide +kernel
theorem dX12_marksOn_49 : decode cX12_marksOn 49 = .ok (.iload_n 2, 1) := by decide +kernel
theorem dX12_marksOn_50 : decode cX12_marksOn 50 = .ok (.if_icmp .gt 7, 3) := by decide +kernel
theorem dX12_marksOn_53 : decode cX12_marksOn 53 = .ok (.iconst 1, 1) := by decide +kernel
theorem dX12_marksOn_54 : decode cX12_marksOn 54 = .ok (.goto 4, 3) := by decide +kernel
theorem dX12_marksOn_57 : decode cX12_marksOn 57 = .ok (.iconst 0, 1) := by decide +kernel
theorem dX12_marksOn_58 : decode cX12_marksOn 58 = .ok (.iadd, 1) := by decide +kernel
theorem dX12_marksOn_59 : decode cX12_marksOn 59 = .ok (.istore_n 3, 1) := by decide +kernel
theorem dX12_marksOn_60 : decode cX12_marksOn 60 = .ok (.iinc 5 1, 3) := by decide +kernel
theorem dX12_marksOn_63 : decode cX12_marksOn 63 = .ok (.goto (-43), 3) := by decide +kernel
theorem dX12_marksOn_66 : decode cX12_marksOn 66 = .ok (.iinc 4 1, 3) := by decide +kernel
theorem dX12_marksOn_69 : decode cX12_marksOn 69 = .ok (.goto (-64), 3) := by decide +kernel
theorem dX12_marksOn_72 : decode cX12_marksOn 72 = .ok (.iload_n 3, 1) := by decide +kernel
theorem dX12_marksOn_73 : decode cX12_marksOn 73 = .ok (.ireturn, 1) := by decide +kernel
theorem dX12_leftOf_0 : decode cX12_leftOf 0 = .ok (.aload_n 0, 1) := by decide +kernel
theorem dX12_leftOf_1 : decode cX12_leftOf 1 = .ok (.getfield 33, 3) := by decide +kernel
theorem dX12_leftOf_4 : decode cX12_leftOf 4 = .ok (.iconst 4, 1) := by decide +kernel
theorem dX12_leftOf_5 : decode cX12_leftOf 5 = .ok (.iload_n 1, 1) := by decide +kernel
theorem dX12_leftOf_6 : decode cX12_leftOf 6 = .ok (.iadd, 1) := by decide +kernel
theorem dX12_leftOf_7 : decode cX12_leftOf 7 = .ok (.iaload, 1) := by decide +kernel
theorem dX12_leftOf_8 : decode cX12_leftOf 8 = .ok (.aload_n 0, 1) := by decide +kernel
theorem dX12_leftOf_9 : decode cX12_leftOf 9 = .ok (.getfield 33, 3) := by decide +kernel
theorem dX12_leftOf_12 : decode cX12_leftOf 12 = .ok (.bipush 37, 2) := by decide +kernel
theorem dX12_leftOf_14 : decode cX12_leftOf 14 = .ok (.iload_n 1, 1) := by decide +kernel
theorem dX12_leftOf_15 : decode cX12_leftOf 15 = .ok (.iadd, 1) := by decide +kernel
theorem dX12_leftOf_16 : decode cX12_leftOf 16 = .ok (.iaload, 1) := by decide +kernel
theorem dX12_leftOf_17 : decode cX12_leftOf 17 = .ok (.isub, 1) := by decide +kernel
theorem dX12_leftOf_18 : decode cX12_leftOf 18 = .ok (.istore_n 2, 1) := by decide +kernel
theorem dX12_leftOf_19 : decode cX12_leftOf 19 = .ok (.iconst 0, 1) := by decide +kernel
theorem dX12_leftOf_20 : decode cX12_leftOf 20 = .ok (.istore_n 3, 1) := by decide +kernel
theorem dX12_leftOf_21 : decode cX12_leftOf 21 = .ok (.iload_n 3, 1) := by decide +kernel
theorem dX12_leftOf_22 : decode cX12_leftOf 22 = .ok (.aload_n 0, 1) := by decide +kernel
theorem dX12_leftOf_23 : decode cX12_leftOf 23 = .ok (.getfield 33, 3) := by decide +kernel
theorem dX12_leftOf_26 : decode cX12_leftOf 26 = .ok (.bipush 34, 2) := by decide +kernel
theorem dX12_leftOf_28 : decode cX12_leftOf 28 = .ok (.iaload, 1) := by decide +kernel
theorem dX12_leftOf_29 : decode cX12_leftOf 29 = .ok (.if_icmp .ge 46, 3) := by decide +kernel
theorem dX12_leftOf_32 : decode cX12_leftOf 32 = .ok (.iconst 0, 1) := by decide +kernel
theorem dX12_leftOf_33 : decode cX12_leftOf 33 = .ok (.istore 4, 2) := by decide +kernel
theorem dX12_leftOf_35 : decode cX12_leftOf 35 = .ok (.iload 4, 2) := by decide +kernel
theorem dX12_leftOf_37 : decode cX12_leftOf 37 = .ok (.iconst 2, 1) := by decide +kernel
theorem dX12_leftOf_38 : decode cX12_leftOf 38 = .ok (.if_icmp .ge 31, 3) := by decide +kernel
theorem dX12_leftOf_41 : decode cX12_leftOf 41 = .ok (.aload_n 0, 1) := by decide +kernel
theorem dX12_leftOf_42 : decode cX12_leftOf 42 = .ok (.iload_n 3, 1) := by decide +kernel
theorem dX12_leftOf_43 : decode cX12_leftOf 43 = .ok (.bipush 6, 2) := by decide +kernel
theorem dX12_leftOf_45 : decode cX12_leftOf 45 = .ok (.iload 4, 2) := by decide +kernel
theorem dX12_leftOf_47 : decode cX12_leftOf 47 = .ok (.iadd, 1) := by decide +kernel
theorem dX12_leftOf_48 : decode cX12_leftOf 48 = .ok (.invokevirtual 265, 3) := by decide +kernel
theorem dX12_leftOf_51 : decode cX12_leftOf 51 = .ok (.iload_n 1, 1) := by decide +kernel
theorem dX12_leftOf_52 : decode cX12_leftOf 52 = .ok (.if_icmp .ne 11, 3) := by decide +kernel
theorem dX12_leftOf_55 : decode cX12_leftOf 55 = .ok (.iload_n 2, 1) := by decide +kernel
theorem dX12_leftOf_56 : decode cX12_leftOf 56 = .ok (.aload_n 0, 1) := by decide +kernel
theorem dX12_leftOf_57 : decode cX12_leftOf 57 = .ok (.iload_n 3, 1) := by decide +kernel
theorem dX12_leftOf_58 : decode cX12_leftOf 58 = .ok (.invokevirtual 268, 3) := by decide +kernel
theorem dX12_leftOf_61 : decode cX12_leftOf 61 = .ok (.isub, 1) := by decide +kernel
theorem dX12_leftOf_62 : decode cX12_leftOf 62 = .ok (.istore_n 2, 1) := by decide +kernel
theorem dX12_leftOf_63 : decode cX12_leftOf 63 = .ok (.iinc 4 1, 3) := by decide +kernel
theorem dX12_leftOf_66 : decode cX12_leftOf 66 = .ok (.goto (-31), 3) := by decide +kernel
theorem dX12_leftOf_69 : decode cX12_leftOf 69 = .ok (.iinc 3 1, 3) := by decide +kernel
theorem dX12_leftOf_72 : decode cX12_leftOf 72 = .ok (.goto (-51), 3) := by decide +kernel
theorem dX12_leftOf_75 : decode cX12_leftOf 75 = .ok (.iload_n 2, 1) := by decide +kernel
theorem dX12_leftOf_76 : decode cX12_leftOf 76 = .ok (.ireturn, 1) := by decide +kernel
theorem dX12_valueBy_0 : decode cX12_valueBy 0 = .ok (.iload_n 2, 1) := by decide +kernel
theorem dX12_valueBy_1 : decode cX12_valueBy 1 = .ok (.iconst 1, 1) := by decide +kernel
theorem dX12_valueBy_2 : decode cX12_valueBy 2 = .ok (.if_icmp .ne 9, 3) := by decide +kernel
theorem dX12_valueBy_5 : decode cX12_valueBy 5 = .ok (.iconst 2, 1) := by decide +kernel
theorem dX12_valueBy_6 : decode cX12_valueBy 6 = .ok (.iload_n 1, 1) := by decide +kernel
theorem dX12_valueBy_7 : decode cX12_valueBy 7 = .ok (.imul, 1) := by decide +kernel
theorem dX12_valueBy_8 : decode cX12_valueBy 8 = .ok (.goto 24, 3) := by decide +kernel
theorem dX12_valueBy_11 : decode cX12_valueBy 11 = .ok (.iload_n 2, 1) := by decide +kernel
theorem dX12_valueBy_12 : decode cX12_valueBy 12 = .ok (.iconst 2, 1) := by decide +kernel
theorem dX12_valueBy_13 : decode cX12_valueBy 13 = .ok (.if_icmp .ne 9, 3) := by decide +kernel
theorem dX12_valueBy_16 : decode cX12_valueBy 16 = .ok (.iload_n 1, 1) := by decide +kernel
theorem dX12_valueBy_17 : decode cX12_valueBy 17 = .ok (.iconst 2, 1) := by decide +kernel
theorem dX12_valueBy_18 : decode cX12_valueBy 18 = .ok (.idiv, 1) := by decide +kernel
theorem dX12_valueBy_19 : decode cX12_valueBy 19 = .ok (.goto 13, 3) := by decide +kernel
theorem dX12_valueBy_22 : decode cX12_valueBy 22 = .ok (.iload_n 2, 1) := by decide +kernel
theorem dX12_valueBy_23 : decode cX12_valueBy 23 = .ok (.iconst 3, 1) := by decide +kernel
theorem dX12_valueBy_24 : decode cX12_valueBy 24 = .ok (.if_icmp .ne 7, 3) := by decide +kernel
theorem dX12_valueBy_27 : decode cX12_valueBy 27 = .ok (.iconst 0, 1) := by decide +kernel
theorem dX12_valueBy_28 : decode cX12_valueBy 28 = .ok (.goto 4, 3) := by decide +kernel
theorem dX12_valueBy_31 : decode cX12_valueBy 31 = .ok (.iload_n 1, 1) := by decide +kernel
theorem dX12_valueBy_32 : decode cX12_valueBy 32 = .ok (.ireturn, 1) := by decide +kernel
theorem dX12_valueOf_0 : decode cX12_valueOf 0 = .ok (.aload_n 0, 1) := by decide +kernel
theorem dX12_valueOf_1 : decode cX12_valueOf 1 = .ok (.aload_n 0, 1) := by decide +kernel
theorem dX12_valueOf_2 : decode cX12_valueOf 2 = .ok (.iload_n 1, 1) := by decide +kernel
theorem dX12_valueOf_3 : decode cX12_valueOf 3 = .ok (.iconst 2, 1) := by decide +kernel
theorem dX12_valueOf_4 : decode cX12_valueOf 4 = .ok (.invokevirtual 265, 3) := by decide +kernel
theorem dX12_valueOf_7 : decode cX12_valueOf 7 = .ok (.aload_n 0, 1) := by decide +kernel
theorem dX12_valueOf_8 : decode cX12_valueOf 8 = .ok (.iload_n 1, 1) := by decide +kernel
theorem dX12_valueOf_9 : decode cX12_valueOf 9 = .ok (.invokevirtual 272, 3) := by decide +kernel
theorem dX12_valueOf_12 : decode cX12_valueOf 12 = .ok (.invokevirtual 275, 3) := by decide +kernel
theorem dX12_valueOf_15 : decode cX12_valueOf 15 = .ok (.ireturn, 1) := by decide +kernel
theorem dX12_netOf_0 : decode cX12_netOf 0 = .ok (.iconst 0, 1) := by decide +kernel
theorem dX12_netOf_1 : decode cX12_netOf 1 = .ok (.istore_n 2, 1) := by decide +kernel
theorem dX12_netOf_2 : decode cX12_netOf 2 = .ok (.iconst 0, 1) := by decide +kernel
theorem dX12_netOf_3 : decode cX12_netOf 3 = .ok (.istore_n 3, 1) := by decide +kernel
theorem dX12_netOf_4 : decode cX12_netOf 4 = .ok (.iload_n 3, 1) := by decide +kernel
theorem dX12_netOf_5 : decode cX12_netOf 5 = .ok (.aload_n 0, 1) := by decide +kernel
theorem dX12_netOf_6 : decode cX12_netOf 6 = .ok (.getfield 33, 3) := by decide +kernel
theorem dX12_netOf_9 : decode cX12_netOf 9 = .ok (.bipush 34, 2) := by decide +kernel
theorem dX12_netOf_11 : decode cX12_netOf 11 = .ok (.iaload, 1) := by decide +kernel
theorem dX12_netOf_12 : decode cX12_netOf 12 = .ok (.if_icmp .ge 64, 3) := by decide +kernel
theorem dX12_netOf_15 : decode cX12_netOf 15 = .ok (.aload_n 0, 1) := by decide +kernel
theorem dX12_netOf_16 : decode cX12_netOf 16 = .ok (.iload_n 3, 1) := by decide +kernel
theorem dX12_netOf_17 : decode cX12_netOf 17 = .ok (.invokevirtual 278, 3) := by decide +kernel
theorem dX12_netOf_20 : decode cX12_netOf 20 = .ok (.ifCond .ne 6, 3) := by decide +kernel
theorem dX12_netOf_23 : decode cX12_netOf 23 = .ok (.goto 47, 3) := by decide +kernel
theorem dX12_netOf_26 : decode cX12_netOf 26 = .ok (.iload_n 2, 1) := by decide +kernel
theorem dX12_netOf_27 : decode cX12_netOf 27 = .ok (.aload_n 0, 1) := by decide +kernel
theorem dX12_netOf_28 : decode cX12_netOf 28 = .ok (.iload_n 3, 1) := by decide +kernel
theorem dX12_netOf_29 : decode cX12_netOf 29 = .ok (.iconst 0, 1) := by decide +kernel
theorem dX12_netOf_30 : decode cX12_netOf 30 = .ok (.invokevirtual 265, 3) := by decide +kernel
theorem dX12_netOf_33 : decode cX12_netOf 33 = .ok (.iload_n 1, 1) := by decide +kernel
theorem dX12_netOf_34 : decode cX12_netOf 34 = .ok (.if_icmp .ne 11, 3) := by decide +kernel
theorem dX12_netOf_37 : decode cX12_netOf 37 = .ok (.aload_n 0, 1) := by decide +kernel
theorem dX12_netOf_38 : decode cX12_netOf 38 = .ok (.iload_n 3, 1) := by decide +kernel
theorem dX12_netOf_39 : decode cX12_netOf 39 = .ok (.invokevirtual 281, 3) := by decide +kernel
theorem dX12_netOf_42 : decode cX12_netOf 42 = .ok (.goto 4, 3) := by decide +kernel
theorem dX12_netOf_45 : decode cX12_netOf 45 = .ok (.iconst 0, 1) := by decide +kernel
theorem dX12_netOf_46 : decode cX12_netOf 46 = .ok (.iadd, 1) := by decide +kernel
theorem dX12_netOf_47 : decode cX12_netOf 47 = .ok (.istore_n 2, 1) := by decide +kernel
theorem dX12_netOf_48 : decode cX12_netOf 48 = .ok (.iload_n 2, 1) := by decide +kernel
theorem dX12_netOf_49 : decode cX12_netOf 49 = .ok (.aload_n 0, 1) := by decide +kernel
theorem dX12_netOf_50 : decode cX12_netOf 50 = .ok (.iload_n 3, 1) := by decide +kernel
theorem dX12_netOf_51 : decode cX12_netOf 51 = .ok (.iconst 1, 1) := by decide +kernel
theorem dX12_netOf_52 : decode cX12_netOf 52 = .ok (.invokevirtual 265, 3) := by decide +kernel
theorem dX12_netOf_55 : decode cX12_netOf 55 = .ok (.iload_n 1, 1) := by decide +kernel
theorem dX12_netOf_56 : decode cX12_netOf 56 = .ok (.if_icmp .ne 11, 3) := by decide +kernel
theorem dX12_netOf_59 : decode cX12_netOf 59 = .ok (.aload_n 0, 1) := by decide +kernel
theorem dX12_netOf_60 : decode cX12_netOf 60 = .ok (.iload_n 3, 1) := by decide +kernel
theorem dX12_netOf_61 : decode cX12_netOf 61 = .ok (.invokevirtual 281, 3) := by decide +kernel
theorem dX12_netOf_64 : decode cX12_netOf 64 = .ok (.goto 4, 3) := by decide +kernel
theorem dX12_netOf_67 : decode cX12_netOf 67 = .ok (.iconst 0, 1) := by decide +kernel
theorem dX12_netOf_68 : decode cX12_netOf 68 = .ok (.isub, 1) := by decide +kernel
theorem dX12_netOf_69 : decode cX12_netOf 69 = .ok (.istore_n 2, 1) := by decide +kernel
theorem dX12_netOf_70 : decode cX12_netOf 70 = .ok (.iinc 3 1, 3) := by decide +kernel
theorem dX12_netOf_73 : decode cX12_netOf 73 = .ok (.goto (-69), 3) := by decide +kernel
theorem dX12_netOf_76 : decode cX12_netOf 76 = .ok (.iload_n 2, 1) := by decide +kernel
theorem dX12_netOf_77 : decode cX12_netOf 77 = .ok (.ireturn, 1) := by decide +kernel
theorem dX12_isRead_0 : decode cX12_isRead 0 = .ok (.aload_n 0, 1) := by decide +kernel
theorem dX12_isRead_1 : decode cX12_isRead 1 = .ok (.iload_n 1, 1) := by decide +kernel
theorem dX12_isRead_2 : decode cX12_isRead 2 = .ok (.bipush 6, 2) := by decide +kernel
theorem dX12_isRead_4 : decode cX12_isRead 4 = .ok (.iload_n 2, 1) := by decide +kernel
theorem dX12_isRead_5 : decode cX12_isRead 5 = .ok (.iadd, 1) := by decide +kernel
theorem dX12_isRead_6 : decode cX12_isRead 6 = .ok (.invokevirtual 265, 3) := by decide +kernel
theorem dX12_isRead_9 : decode cX12_isRead 9 = .ok (.istore 4, 2) := by decide +kernel
theorem dX12_isRead_11 : decode cX12_isRead 11 = .ok (.iload 4, 2) := by decide +kernel
theorem dX12_isRead_13 : decode cX12_isRead 13 = .ok (.ifCond .lt 30, 3) := by decide +kernel
theorem dX12_isRead_16 : decode cX12_isRead 16 = .ok (.aload_n 0, 1) := by decide +kernel
theorem dX12_isRead_17 : decode cX12_isRead 17 = .ok (.iload_n 1, 1) := by decide +kernel
theorem dX12_isRead_18 : decode cX12_isRead 18 = .ok (.bipush 8, 2) := by decide +kernel
theorem dX12_isRead_20 : decode cX12_isRead 20 = .ok (.invokevirtual 265, 3) := by decide +kernel
theorem dX12_isRead_23 : decode cX12_isRead 23 = .ok (.iload_n 2, 1) := by decide +kernel
theorem dX12_isRead_24 : decode cX12_isRead 24 = .ok (.invokestatic 259, 3) := by decide +kernel
theorem dX12_isRead_27 : decode cX12_isRead 27 = .ok (.ifCond .ne 16, 3) := by decide +kernel
theorem dX12_isRead_30 : decode cX12_isRead 30 = .ok (.iload_n 3, 1) := by decide +kernel
theorem dX12_isRead_31 : decode cX12_isRead 31 = .ok (.iload 4, 2) := by decide +kernel
theorem dX12_isRead_33 : decode cX12_isRead 33 = .ok (.invokestatic 259, 3) := by decide +kernel
theorem dX12_isRead_36 : decode cX12_isRead 36 = .ok (.ifCond .eq 7, 3) := by decide +kernel
theorem dX12_isRead_39 : decode cX12_isRead 39 = .ok (.iconst 1, 1) := by decide +kernel
theorem dX12_isRead_40 : decode cX12_isRead 40 = .ok (.goto 4, 3) := by decide +kernel
theorem dX12_isRead_43 : decode cX12_isRead 43 = .ok (.iconst 0, 1) := by decide +kernel
theorem dX12_isRead_44 : decode cX12_isRead 44 = .ok (.ireturn, 1) := by decide +kernel
theorem dX12_isKnown_0 : decode cX12_isKnown 0 = .ok (.aload_n 0, 1) := by decide +kernel
theorem dX12_isKnown_1 : decode cX12_isKnown 1 = .ok (.iload_n 1, 1) := by decide +kernel
theorem dX12_isKnown_2 : decode cX12_isKnown 2 = .ok (.iconst 0, 1) := by decide +kernel
theorem dX12_isKnown_3 : decode cX12_isKnown 3 = .ok (.iload_n 2, 1) := by decide +kernel
theorem dX12_isKnown_4 : decode cX12_isKnown 4 = .ok (.invokevirtual 284, 3) := by decide +kernel
theorem dX12_isKnown_7 : decode cX12_isKnown 7 = .ok (.istore_n 3, 1) := by decide +kernel
theorem dX12_isKnown_8 : decode cX12_isKnown 8 = .ok (.aload_n 0, 1) := by decide +kernel
theorem dX12_isKnown_9 : decode cX12_isKnown 9 = .ok (.iload_n 1, 1) := by decide +kernel
theorem dX12_isKnown_10 : decode cX12_isKnown 10 = .ok (.iconst 1, 1) := by decide +kernel
theorem dX12_isKnown_11 : decode cX12_isKnown 11 = .ok (.iload_n 2, 1) := by decide +kernel
theorem dX12_isKnown_12 : decode cX12_isKnown 12 = .ok (.invokevirtual 284, 3) := by decide +kernel
theorem dX12_isKnown_15 : decode cX12_isKnown 15 = .ok (.istore 4, 2) := by decide +kernel
theorem dX12_isKnown_17 : decode cX12_isKnown 17 = .ok (.aload_n 0, 1) := by decide +kernel
theorem dX12_isKnown_18 : decode cX12_isKnown 18 = .ok (.iload_n 1, 1) := by decide +kernel
theorem dX12_isKnown_19 : decode cX12_isKnown 19 = .ok (.invokevirtual 272, 3) := by decide +kernel
theorem dX12_isKnown_22 : decode cX12_isKnown 22 = .ok (.iconst 4, 1) := by decide +kernel
theorem dX12_isKnown_23 : decode cX12_isKnown 23 = .ok (.if_icmp .ne 20, 3) := by decide +kernel
theorem dX12_isKnown_26 : decode cX12_isKnown 26 = .ok (.iload_n 3, 1) := by decide +kernel
theorem dX12_isKnown_27 : decode cX12_isKnown 27 = .ok (.ifCond .eq 12, 3) := by decide +kernel
theorem dX12_isKnown_30 : decode cX12_isKnown 30 = .ok (.iload 4, 2) := by decide +kernel
theorem dX12_isKnown_32 : decode cX12_isKnown 32 = .ok (.ifCond .eq 7, 3) := by decide +kernel
theorem dX12_isKnown_35 : decode cX12_isKnown 35 = .ok (.iconst 1, 1) := by decide +kernel
theorem dX12_isKnown_36 : decode cX12_isKnown 36 = .ok (.goto 21, 3) := by decide +kernel
theorem dX12_isKnown_39 : decode cX12_isKnown 39 = .ok (.iconst 0, 1) := by decide +kernel
theorem dX12_isKnown_40 : decode cX12_isKnown 40 = .ok (.goto 17, 3) := by decide +kernel
theorem dX12_isKnown_43 : decode cX12_isKnown 43 = .ok (.iload_n 3, 1) := by decide +kernel
theorem dX12_isKnown_44 : decode cX12_isKnown 44 = .ok (.ifCond .ne 8, 3) := by decide +kernel
theorem dX12_isKnown_47 : decode cX12_isKnown 47 = .ok (.iload 4, 2) := by decide +kernel
theorem dX12_isKnown_49 : decode cX12_isKnown 49 = .ok (.ifCond .eq 7, 3) := by decide +kernel
theorem dX12_isKnown_52 : decode cX12_isKnown 52 = .ok (.iconst 1, 1) := by decide +kernel
theorem dX12_isKnown_53 : decode cX12_isKnown 53 = .ok (.goto 4, 3) := by decide +kernel
theorem dX12_isKnown_56 : decode cX12_isKnown 56 = .ok (.iconst 0, 1) := by decide +kernel
theorem dX12_isKnown_57 : decode cX12_isKnown 57 = .ok (.ireturn, 1) := by decide +kernel
theorem dX12_living_0 : decode cX12_living 0 = .ok (.iconst 1, 1) := by decide +kernel
theorem dX12_living_1 : decode cX12_living 1 = .ok (.aload_n 0, 1) := by decide +kernel
theorem dX12_living_2 : decode cX12_living 2 = .ok (.getfield 33, 3) := by decide +kernel
theorem dX12_living_5 : decode cX12_living 5 = .ok (.iconst 0, 1) := by decide +kernel
theorem dX12_living_6 : decode cX12_living 6 = .ok (.iaload, 1) := by decide +kernel
theorem dX12_living_7 : decode cX12_living 7 = .ok (.ishl, 1) := by decide +kernel
theorem dX12_living_8 : decode cX12_living 8 = .ok (.iconst 1, 1) := by decide +kernel
theorem dX12_living_9 : decode cX12_living 9 = .ok (.isub, 1) := by decide +kernel
theorem dX12_living_10 : decode cX12_living 10 = .ok (.aload_n 0, 1) := by decide +kernel
theorem dX12_living_11 : decode cX12_living 11 = .ok (.getfield 33, 3) := by decide +kernel
theorem dX12_living_14 : decode cX12_living 14 = .ok (.bipush 36, 2) := by decide +kernel
theorem dX12_living_16 : decode cX12_living 16 = .ok (.iaload, 1) := by decide +kernel
theorem dX12_living_17 : decode cX12_living 17 = .ok (.iconst (-1), 1) := by decide +kernel
theorem dX12_living_18 : decode cX12_living 18 = .ok (.ixor, 1) := by decide +kernel
theorem dX12_living_19 : decode cX12_living 19 = .ok (.iand, 1) := by decide +kernel
theorem dX12_living_20 : decode cX12_living 20 = .ok (.ireturn, 1) := by decide +kernel
theorem dX12_body_0 : decode cX12_body 0 = .ok (.aload_n 0, 1) := by decide +kernel
theorem dX12_body_1 : decode cX12_body 1 = .ok (.aload_n 0, 1) := by decide +kernel
theorem dX12_body_2 : decode cX12_body 2 = .ok (.iload_n 1, 1) := by decide +kernel
theorem dX12_body_3 : decode cX12_body 3 = .ok (.invokevirtual 287, 3) := by decide +kernel
theorem dX12_body_6 : decode cX12_body 6 = .ok (.ifCond .eq 13, 3) := by decide +kernel
theorem dX12_body_9 : decode cX12_body 9 = .ok (.iload_n 2, 1) := by decide +kernel
theorem dX12_body_10 : decode cX12_body 10 = .ok (.iconst 0, 1) := by decide +kernel
theorem dX12_body_11 : decode cX12_body 11 = .ok (.bipush 6, 2) := by decide +kernel
theorem dX12_body_13 : decode cX12_body 13 = .ok (.invokestatic 202, 3) := by decide +kernel
theorem dX12_body_16 : decode cX12_body 16 = .ok (.ifCond .ne 7, 3) := by decide +kernel
theorem dX12_body_19 : decode cX12_body 19 = .ok (.iconst 1, 1) := by decide +kernel
theorem dX12_body_20 : decode cX12_body 20 = .ok (.goto 4, 3) := by decide +kernel
theorem dX12_body_23 : decode cX12_body 23 = .ok (.iconst 0, 1) := by decide +kernel
theorem dX12_body_24 : decode cX12_body 24 = .ok (.invokevirtual 290, 3) := by decide +kernel
theorem dX12_body_27 : decode cX12_body 27 = .ok (.ifCond .eq 5, 3) := by decide +kernel
theorem dX12_body_30 : decode cX12_body 30 = .ok (.iconst 0, 1) := by decide +kernel
theorem dX12_body_31 : decode cX12_body 31 = .ok (.ireturn, 1) := by decide +kernel
theorem dX12_body_32 : decode cX12_body 32 = .ok (.iload_n 2, 1) := by decide +kernel
theorem dX12_body_33 : decode cX12_body 33 = .ok (.tableswitch 92 0 5 #[39, 48, 58, 72, 78, 84], 39) := by decide +kernel
theorem dX12_body_72 : decode cX12_body 72 = .ok (.aload_n 0, 1) := by decide +kernel
theorem dX12_body_73 : decode cX12_body 73 = .ok (.getfield 33, 3) := by decide +kernel
theorem dX12_body_76 : decode cX12_body 76 = .ok (.iconst 4, 1) := by decide +kernel
theorem dX12_body_77 : decode cX12_body 77 = .ok (.iload_n 1, 1) := by decide +kernel
theorem dX12_body_78 : decode cX12_body 78 = .ok (.iadd, 1) := by decide +kernel
theorem dX12_body_79 : decode cX12_body 79 = .ok (.iaload, 1) := by decide +kernel
theorem dX12_body_80 : decode cX12_body 80 = .ok (.ireturn, 1) := by decide +kernel
theorem dX12_body_81 : decode cX12_body 81 = .ok (.aload_n 0, 1) := by decide +kernel
theorem dX12_body_82 : decode cX12_body 82 = .ok (.getfield 33, 3) := by decide +kernel
theorem dX12_body_85 : decode cX12_body 85 = .ok (.bipush 13, 2) := by decide +kernel
theorem dX12_body_87 : decode cX12_body 87 = .ok (.iload_n 1, 1) := by decide +kernel
theorem dX12_body_88 : decode cX12_body 88 = .ok (.iadd, 1) := by decide +kernel
theorem dX12_body_89 : decode cX12_body 89 = .ok (.iaload, 1) := by decide +kernel
theorem dX12_body_90 : decode cX12_body 90 = .ok (.ireturn, 1) := by decide +kernel
theorem dX12_body_91 : decode cX12_body 91 = .ok (.aload_n 0, 1) := by decide +kernel
theorem dX12_body_92 : decode cX12_body 92 = .ok (.iload_n 1, 1) := by decide +kernel
theorem dX12_body_93 : decode cX12_body 93 = .ok (.invokevirtual 294, 3) := by decide +kernel
theorem dX12_body_96 : decode cX12_body 96 = .ok (.ifCond .eq 7, 3) := by decide +kernel
theorem dX12_body_99 : decode cX12_body 99 = .ok (.iconst 1, 1) := by decide +kernel
theorem dX12_body_100 : decode cX12_body 100 = .ok (.goto 4, 3) := by decide +kernel
theorem dX12_body_103 : decode cX12_body 103 = .ok (.iconst 0, 1) := by decide +kernel
theorem dX12_body_104 : decode cX12_body 104 = .ok (.ireturn, 1) := by decide +kernel
theorem dX12_body_105 : decode cX12_body 105 = .ok (.aload_n 0, 1) := by decide +kernel
theorem dX12_body_106 : decode cX12_body 106 = .ok (.iload_n 1, 1) := by decide +kernel
theorem dX12_body_107 : decode cX12_body 107 = .ok (.invokevirtual 297, 3) := by decide +kernel
theorem dX12_body_110 : decode cX12_body 110 = .ok (.ireturn, 1) := by decide +kernel
theorem dX12_body_111 : decode cX12_body 111 = .ok (.aload_n 0, 1) := by decide +kernel
theorem dX12_body_112 : decode cX12_body 112 = .ok (.iload_n 1, 1) := by decide +kernel
theorem dX12_body_113 : decode cX12_body 113 = .ok (.invokevirtual 300, 3) := by decide +kernel
theorem dX12_body_116 : decode cX12_body 116 = .ok (.ireturn, 1) := by decide +kernel
theorem dX12_body_117 : decode cX12_body 117 = .ok (.aload_n 0, 1) := by decide +kernel
theorem dX12_body_118 : decode cX12_body 118 = .ok (.iload_n 1, 1) := by decide +kernel
theorem dX12_body_119 : decode cX12_body 119 = .ok (.bipush 99, 2) := by decide +kernel
theorem dX12_body_121 : decode cX12_body 121 = .ok (.invokevirtual 303, 3) := by decide +kernel
theorem dX12_body_124 : decode cX12_body 124 = .ok (.ireturn, 1) := by decide +kernel
theorem dX12_body_125 : decode cX12_body 125 = .ok (.aload_n 0, 1) := by decide +kernel
theorem dX12_body_126 : decode cX12_body 126 = .ok (.getfield 33, 3) := by decide +kernel
theorem dX12_body_129 : decode cX12_body 129 = .ok (.bipush 37, 2) := by decide +kernel
theorem dX12_body_131 : decode cX12_body 131 = .ok (.iload_n 1, 1) := by decide +kernel
theorem dX12_body_132 : decode cX12_body 132 = .ok (.iadd, 1) := by decide +kernel
theorem dX12_body_133 : decode cX12_body 133 = .ok (.iaload, 1) := by decide +kernel
theorem dX12_body_134 : decode cX12_body 134 = .ok (.ireturn, 1) := by decide +kernel
theorem dX12_kind_0 : decode cX12_kind 0 = .ok (.aload_n 0, 1) := by decide +kernel
theorem dX12_kind_1 : decode cX12_kind 1 = .ok (.aload_n 0, 1) := by decide +kernel
theorem dX12_kind_2 : decode cX12_kind 2 = .ok (.iload_n 1, 1) := by decide +kernel
theorem dX12_kind_3 : decode cX12_kind 3 = .ok (.invokevirtual 306, 3) := by decide +kernel
theorem dX12_kind_6 : decode cX12_kind 6 = .ok (.ifCond .eq 12, 3) := by decide +kernel
theorem dX12_kind_9 : decode cX12_kind 9 = .ok (.iload_n 2, 1) := by decide +kernel
theorem dX12_kind_10 : decode cX12_kind 10 = .ok (.iconst 0, 1) := by decide +kernel
theorem dX12_kind_11 : decode cX12_kind 11 = .ok (.iconst 1, 1) := by decide +kernel
theorem dX12_kind_12 : decode cX12_kind 12 = .ok (.invokestatic 202, 3) := by decide +kernel
theorem dX12_kind_15 : decode cX12_kind 15 = .ok (.ifCond .ne 7, 3) := by decide +kernel
theorem dX12_kind_18 : decode cX12_kind 18 = .ok (.iconst 1, 1) := by decide +kernel
theorem dX12_kind_19 : decode cX12_kind 19 = .ok (.goto 4, 3) := by decide +kernel
theorem dX12_kind_22 : decode cX12_kind 22 = .ok (.iconst 0, 1) := by decide +kernel
theorem dX12_kind_23 : decode cX12_kind 23 = .ok (.invokevirtual 290, 3) := by decide +kernel
theorem dX12_kind_26 : decode cX12_kind 26 = .ok (.ifCond .eq 7, 3) := by decide +kernel
theorem dX12_kind_29 : decode cX12_kind 29 = .ok (.iconst 0, 1) := by decide +kernel
theorem dX12_kind_30 : decode cX12_kind 30 = .ok (.goto 21, 3) := by decide +kernel
theorem dX12_kind_33 : decode cX12_kind 33 = .ok (.aload_n 0, 1) := by decide +kernel
theorem dX12_kind_34 : decode cX12_kind 34 = .ok (.getfield 33, 3) := by decide +kernel
theorem dX12_kind_37 : decode cX12_kind 37 = .ok (.iload_n 2, 1) := by decide +kernel
theorem dX12_kind_38 : decode cX12_kind 38 = .ok (.ifCond .ne 8, 3) := by decide +kernel
theorem dX12_kind_41 : decode cX12_kind 41 = .ok (.bipush 22, 2) := by decide +kernel
theorem dX12_kind_43 : decode cX12_kind 43 = .ok (.goto 5, 3) := by decide +kernel
theorem dX12_kind_46 : decode cX12_kind 46 = .ok (.bipush 28, 2) := by decide +kernel
theorem dX12_kind_48 : decode cX12_kind 48 = .ok (.iload_n 1, 1) := by decide +kernel
theorem dX12_kind_49 : decode cX12_kind 49 = .ok (.iadd, 1) := by decide +kernel
theorem dX12_kind_50 : decode cX12_kind 50 = .ok (.iaload, 1) := by decide +kernel
theorem dX12_kind_51 : decode cX12_kind 51 = .ok (.ireturn, 1) := by decide +kernel
theorem dX12_deal_0 : decode cX12_deal 0 = .ok (.aload_n 0, 1) := by decide +kernel
theorem dX12_deal_1 : decode cX12_deal 1 = .ok (.aload_n 0, 1) := by decide +kernel
theorem dX12_deal_2 : decode cX12_deal 2 = .ok (.iload_n 1, 1) := by decide +kernel
theorem dX12_deal_3 : decode cX12_deal 3 = .ok (.invokevirtual 262, 3) := by decide +kernel
theorem dX12_deal_6 : decode cX12_deal 6 = .ok (.ifCond .eq 13, 3) := by decide +kernel
theorem dX12_deal_9 : decode cX12_deal 9 = .ok (.iload_n 2, 1) := by decide +kernel
theorem dX12_deal_10 : decode cX12_deal 10 = .ok (.iconst 0, 1) := by decide +kernel
theorem dX12_deal_11 : decode cX12_deal 11 = .ok (.bipush 9, 2) := by decide +kernel
theorem dX12_deal_13 : decode cX12_deal 13 = .ok (.invokestatic 202, 3) := by decide +kernel
theorem dX12_deal_16 : decode cX12_deal 16 = .ok (.ifCond .ne 7, 3) := by decide +kernel
theorem dX12_deal_19 : decode cX12_deal 19 = .ok (.iconst 1, 1) := by decide +kernel
theorem dX12_deal_20 : decode cX12_deal 20 = .ok (.goto 4, 3) := by decide +kernel
theorem dX12_deal_23 : decode cX12_deal 23 = .ok (.iconst 0, 1) := by decide +kernel
theorem dX12_deal_24 : decode cX12_deal 24 = .ok (.invokevirtual 290, 3) := by decide +kernel
theorem dX12_deal_27 : decode cX12_deal 27 = .ok (.ifCond .eq 5, 3) := by decide +kernel
theorem dX12_deal_30 : decode cX12_deal 30 = .ok (.iconst 0, 1) := by decide +kernel
theorem dX12_deal_31 : decode cX12_deal 31 = .ok (.ireturn, 1) := by decide +kernel
theorem dX12_deal_32 : decode cX12_deal 32 = .ok (.iload_n 2, 1) := by decide +kernel
theorem dX12_deal_33 : decode cX12_deal 33 = .ok (.bipush 8, 2) := by decide +kernel
theorem dX12_deal_35 : decode cX12_deal 35 = .ok (.if_icmp .ge 12, 3) := by decide +kernel
theorem dX12_deal_38 : decode cX12_deal 38 = .ok (.aload_n 0, 1) := by decide +kernel
theorem dX12_deal_39 : decode cX12_deal 39 = .ok (.iload_n 1, 1) := by decide +kernel
theorem dX12_deal_40 : decode cX12_deal 40 = .ok (.iload_n 2, 1) := by decide +kernel
theorem dX12_deal_41 : decode cX12_deal 41 = .ok (.invokevirtual 265, 3) := by decide +kernel
theorem dX12_deal_44 : decode cX12_deal 44 = .ok (.goto 34, 3) := by decide +kernel
theorem dX12_deal_47 : decode cX12_deal 47 = .ok (.iload_n 2, 1) := by decide +kernel
theorem dX12_deal_48 : decode cX12_deal 48 = .ok (.bipush 8, 2) := by decide +kernel
theorem dX12_deal_50 : decode cX12_deal 50 = .ok (.if_icmp .ne 23, 3) := by decide +kernel
theorem dX12_deal_53 : decode cX12_deal 53 = .ok (.aload_n 0, 1) := by decide +kernel
theorem dX12_deal_54 : decode cX12_deal 54 = .ok (.iload_n 1, 1) := by decide +kernel
theorem dX12_deal_55 : decode cX12_deal 55 = .ok (.aload_n 0, 1) := by decide +kernel
theorem dX12_deal_56 : decode cX12_deal 56 = .ok (.invokevirtual 309, 3) := by decide +kernel
theorem dX12_deal_59 : decode cX12_deal 59 = .ok (.invokevirtual 312, 3) := by decide +kernel
theorem dX12_deal_62 : decode cX12_deal 62 = .ok (.ifCond .eq 7, 3) := by decide +kernel
theorem dX12_deal_65 : decode cX12_deal 65 = .ok (.iconst 1, 1) := by decide +kernel
theorem dX12_deal_66 : decode cX12_deal 66 = .ok (.goto 12, 3) := by decide +kernel
theorem dX12_deal_69 : decode cX12_deal 69 = .ok (.iconst 0, 1) := by decide +kernel
theorem dX12_deal_70 : decode cX12_deal 70 = .ok (.goto 8, 3) := by decide +kernel
theorem dX12_deal_73 : decode cX12_deal 73 = .ok (.aload_n 0, 1) := by decide +kernel
theorem dX12_deal_74 : decode cX12_deal 74 = .ok (.iload_n 1, 1) := by decide +kernel
theorem dX12_deal_75 : decode cX12_deal 75 = .ok (.invokevirtual 281, 3) := by decide +kernel
theorem dX12_deal_78 : decode cX12_deal 78 = .ok (.ireturn, 1) := by decide +kernel
theorem dX12_read_0 : decode cX12_read 0 = .ok (.aload_n 0, 1) := by decide +kernel
theorem dX12_read_1 : decode cX12_read 1 = .ok (.iconst 0, 1) := by decide +kernel
theorem dX12_read_2 : decode cX12_read 2 = .ok (.putfield 1, 3) := by decide +kernel
theorem dX12_read_5 : decode cX12_read 5 = .ok (.aload_n 0, 1) := by decide +kernel
theorem dX12_read_6 : decode cX12_read 6 = .ok (.iload_n 1, 1) := by decide +kernel
theorem dX12_read_7 : decode cX12_read 7 = .ok (.invokevirtual 262, 3) := by decide +kernel
theorem dX12_read_10 : decode cX12_read 10 = .ok (.ifCond .eq 24, 3) := by decide +kernel
theorem dX12_read_13 : decode cX12_read 13 = .ok (.iload_n 2, 1) := by decide +kernel
theorem dX12_read_14 : decode cX12_read 14 = .ok (.iconst 0, 1) := by decide +kernel
theorem dX12_read_15 : decode cX12_read 15 = .ok (.iconst 1, 1) := by decide +kernel
theorem dX12_read_16 : decode cX12_read 16 = .ok (.invokestatic 202, 3) := by decide +kernel
theorem dX12_read_19 : decode cX12_read 19 = .ok (.ifCond .eq 15, 3) := by decide +kernel
theorem dX12_read_22 : decode cX12_read 22 = .ok (.aload_n 0, 1) := by decide +kernel
theorem dX12_read_23 : decode cX12_read 23 = .ok (.iload_n 1, 1) := by decide +kernel
theorem dX12_read_24 : decode cX12_read 24 = .ok (.bipush 6, 2) := by decide +kernel
theorem dX12_read_26 : decode cX12_read 26 = .ok (.iload_n 2, 1) := by decide +kernel
theorem dX12_read_27 : decode cX12_read 27 = .ok (.iadd, 1) := by decide +kernel
theorem dX12_read_28 : decode cX12_read 28 = .ok (.invokevirtual 265, 3) := by decide +kernel
theorem dX12_read_31 : decode cX12_read 31 = .ok (.ifCond .ge 5, 3) := by decide +kernel
theorem dX12_read_34 : decode cX12_read 34 = .ok (.iconst (-1), 1) := by decide +kernel
theorem dX12_read_35 : decode cX12_read 35 = .ok (.ireturn, 1) := by decide +kernel
theorem dX12_read_36 : decode cX12_read 36 = .ok (.aload_n 0, 1) := by decide +kernel
theorem dX12_read_37 : decode cX12_read 37 = .ok (.iload_n 1, 1) := by decide +kernel
theorem dX12_read_38 : decode cX12_read 38 = .ok (.iload_n 2, 1) := by decide +kernel
theorem dX12_read_39 : decode cX12_read 39 = .ok (.aload_n 0, 1) := by decide +kernel
theorem dX12_read_40 : decode cX12_read 40 = .ok (.invokevirtual 309, 3) := by decide +kernel
theorem dX12_read_43 : decode cX12_read 43 = .ok (.invokevirtual 284, 3) := by decide +kernel
theorem dX12_read_46 : decode cX12_read 46 = .ok (.ifCond .eq 7, 3) := by decide +kernel
theorem dX12_read_49 : decode cX12_read 49 = .ok (.iconst 1, 1) := by decide +kernel
theorem dX12_read_50 : decode cX12_read 50 = .ok (.goto 4, 3) := by decide +kernel
theorem dX12_read_53 : decode cX12_read 53 = .ok (.iconst 0, 1) := by decide +kernel
theorem dX12_read_54 : decode cX12_read 54 = .ok (.ireturn, 1) := by decide +kernel
theorem dX12_markOf_0 : decode cX12_markOf 0 = .ok (.iconst 0, 1) := by decide +kernel
theorem dX12_markOf_1 : decode cX12_markOf 1 = .ok (.istore_n 3, 1) := by decide +kernel
theorem dX12_markOf_2 : decode cX12_markOf 2 = .ok (.iconst 0, 1) := by decide +kernel
theorem dX12_markOf_3 : decode cX12_markOf 3 = .ok (.istore 4, 2) := by decide +kernel
theorem dX12_markOf_5 : decode cX12_markOf 5 = .ok (.iload 4, 2) := by decide +kernel
theorem dX12_markOf_7 : decode cX12_markOf 7 = .ok (.iconst 2, 1) := by decide +kernel
theorem dX12_markOf_8 : decode cX12_markOf 8 = .ok (.aload_n 0, 1) := by decide +kernel
theorem dX12_markOf_9 : decode cX12_markOf 9 = .ok (.getfield 33, 3) := by decide +kernel
theorem dX12_markOf_12 : decode cX12_markOf 12 = .ok (.bipush 34, 2) := by decide +kernel
theorem dX12_markOf_14 : decode cX12_markOf 14 = .ok (.iaload, 1) := by decide +kernel
theorem dX12_markOf_15 : decode cX12_markOf 15 = .ok (.imul, 1) := by decide +kernel
theorem dX12_markOf_16 : decode cX12_markOf 16 = .ok (.if_icmp .ge 42, 3) := by decide +kernel
theorem dX12_markOf_19 : decode cX12_markOf 19 = .ok (.aload_n 0, 1) := by decide +kernel
theorem dX12_markOf_20 : decode cX12_markOf 20 = .ok (.iload 4, 2) := by decide +kernel
theorem dX12_markOf_22 : decode cX12_markOf 22 = .ok (.iconst 2, 1) := by decide +kernel
theorem dX12_markOf_23 : decode cX12_markOf 23 = .ok (.idiv, 1) := by decide +kernel
theorem dX12_markOf_24 : decode cX12_markOf 24 = .ok (.bipush 6, 2) := by decide +kernel
theorem dX12_markOf_26 : decode cX12_markOf 26 = .ok (.iload 4, 2) := by decide +kernel
theorem dX12_markOf_28 : decode cX12_markOf 28 = .ok (.iconst 2, 1) := by decide +kernel
theorem dX12_markOf_29 : decode cX12_markOf 29 = .ok (.irem, 1) := by decide +kernel
theorem dX12_markOf_30 : decode cX12_markOf 30 = .ok (.iadd, 1) := by decide +kernel
theorem dX12_markOf_31 : decode cX12_markOf 31 = .ok (.invokevirtual 265, 3) := by decide +kernel
theorem dX12_markOf_34 : decode cX12_markOf 34 = .ok (.iload_n 1, 1) := by decide +kernel
theorem dX12_markOf_35 : decode cX12_markOf 35 = .ok (.if_icmp .eq 6, 3) := by decide +kernel
theorem dX12_markOf_38 : decode cX12_markOf 38 = .ok (.goto 14, 3) := by decide +kernel
theorem dX12_markOf_41 : decode cX12_markOf 41 = .ok (.iload_n 3, 1) := by decide +kernel
theorem dX12_markOf_42 : decode cX12_markOf 42 = .ok (.iload_n 2, 1) := by decide +kernel
theorem dX12_markOf_43 : decode cX12_markOf 43 = .ok (.if_icmp .ne 6, 3) := by decide +kernel
theorem dX12_markOf_46 : decode cX12_markOf 46 = .ok (.iload 4, 2) := by decide +kernel
theorem dX12_markOf_48 : decode cX12_markOf 48 = .ok (.ireturn, 1) := by decide +kernel
theorem dX12_markOf_49 : decode cX12_markOf 49 = .ok (.iinc 3 1, 3) := by decide +kernel
theorem dX12_markOf_52 : decode cX12_markOf 52 = .ok (.iinc 4 1, 3) := by decide +kernel
theorem dX12_markOf_55 : decode cX12_markOf 55 = .ok (.goto (-50), 3) := by decide +kernel
theorem dX12_markOf_58 : decode cX12_markOf 58 = .ok (.iload_n 2, 1) := by decide +kernel
theorem dX12_markOf_59 : decode cX12_markOf 59 = .ok (.iconst (-1), 1) := by decide +kernel
theorem dX12_markOf_60 : decode cX12_markOf 60 = .ok (.if_icmp .ne 7, 3) := by decide +kernel
theorem dX12_markOf_63 : decode cX12_markOf 63 = .ok (.iload_n 3, 1) := by decide +kernel
theorem dX12_markOf_64 : decode cX12_markOf 64 = .ok (.goto 4, 3) := by decide +kernel
theorem dX12_markOf_67 : decode cX12_markOf 67 = .ok (.iconst (-1), 1) := by decide +kernel
theorem dX12_markOf_68 : decode cX12_markOf 68 = .ok (.ireturn, 1) := by decide +kernel
theorem dX12_mark_0 : decode cX12_mark 0 = .ok (.aload_n 0, 1) := by decide +kernel
theorem dX12_mark_1 : decode cX12_mark 1 = .ok (.iconst 0, 1) := by decide +kernel
theorem dX12_mark_2 : decode cX12_mark 2 = .ok (.putfield 1, 3) := by decide +kernel
theorem dX12_mark_5 : decode cX12_mark 5 = .ok (.aload_n 0, 1) := by decide +kernel
theorem dX12_mark_6 : decode cX12_mark 6 = .ok (.iload_n 1, 1) := by decide +kernel
theorem dX12_mark_7 : decode cX12_mark 7 = .ok (.invokevirtual 287, 3) := by decide +kernel
theorem dX12_mark_10 : decode cX12_mark 10 = .ok (.ifCond .eq 17, 3) := by decide +kernel
theorem dX12_mark_13 : decode cX12_mark 13 = .ok (.iload_n 2, 1) := by decide +kernel
theorem dX12_mark_14 : decode cX12_mark 14 = .ok (.iconst (-1), 1) := by decide +kernel
theorem dX12_mark_15 : decode cX12_mark 15 = .ok (.if_icmp .lt 12, 3) := by decide +kernel
theorem dX12_mark_18 : decode cX12_mark 18 = .ok (.aload_n 0, 1) := by decide +kernel
theorem dX12_mark_19 : decode cX12_mark 19 = .ok (.iload_n 1, 1) := by decide +kernel
theorem dX12_mark_20 : decode cX12_mark 20 = .ok (.iload_n 2, 1) := by decide +kernel
theorem dX12_mark_21 : decode cX12_mark 21 = .ok (.invokevirtual 315, 3) := by decide +kernel
theorem dX12_mark_24 : decode cX12_mark 24 = .ok (.goto 4, 3) := by decide +kernel
theorem dX12_mark_27 : decode cX12_mark 27 = .ok (.iconst (-1), 1) := by decide +kernel
theorem dX12_mark_28 : decode cX12_mark 28 = .ok (.ireturn, 1) := by decide +kernel
theorem dX12_keep_0 : decode cX12_keep 0 = .ok (.aload_n 0, 1) := by decide +kernel
theorem dX12_keep_1 : decode cX12_keep 1 = .ok (.getfield 250, 3) := by decide +kernel
theorem dX12_keep_4 : decode cX12_keep 4 = .ok (.bipush 8, 2) := by decide +kernel
theorem dX12_keep_6 : decode cX12_keep 6 = .ok (.if_icmp .ne 40, 3) := by decide +kernel
theorem dX12_keep_9 : decode cX12_keep 9 = .ok (.iconst 0, 1) := by decide +kernel
theorem dX12_keep_10 : decode cX12_keep 10 = .ok (.istore_n 1, 1) := by decide +kernel
theorem dX12_keep_11 : decode cX12_keep 11 = .ok (.iload_n 1, 1) := by decide +kernel
theorem dX12_keep_12 : decode cX12_keep 12 = .ok (.sipush 3864, 3) := by decide +kernel
theorem dX12_keep_15 : decode cX12_keep 15 = .ok (.if_icmp .ge 25, 3) := by decide +kernel
theorem dX12_keep_18 : decode cX12_keep 18 = .ok (.aload_n 0, 1) := by decide +kernel
theorem dX12_keep_19 : decode cX12_keep 19 = .ok (.getfield 50, 3) := by decide +kernel
theorem dX12_keep_22 : decode cX12_keep 22 = .ok (.iload_n 1, 1) := by decide +kernel
theorem dX12_keep_23 : decode cX12_keep 23 = .ok (.aload_n 0, 1) := by decide +kernel
theorem dX12_keep_24 : decode cX12_keep 24 = .ok (.getfield 50, 3) := by decide +kernel
theorem dX12_keep_27 : decode cX12_keep 27 = .ok (.iload_n 1, 1) := by decide +kernel
theorem dX12_keep_28 : decode cX12_keep 28 = .ok (.sipush 552, 3) := by decide +kernel
theorem dX12_keep_31 : decode cX12_keep 31 = .ok (.iadd, 1) := by decide +kernel
theorem dX12_keep_32 : decode cX12_keep 32 = .ok (.iaload, 1) := by decide +kernel
theorem dX12_keep_33 : decode cX12_keep 33 = .ok (.iastore, 1) := by decide +kernel
theorem dX12_keep_34 : decode cX12_keep 34 = .ok (.iinc 1 1, 3) := by decide +kernel
theorem dX12_keep_37 : decode cX12_keep 37 = .ok (.goto (-26), 3) := by decide +kernel
theorem dX12_keep_40 : decode cX12_keep 40 = .ok (.aload_n 0, 1) := by decide +kernel
theorem dX12_keep_41 : decode cX12_keep 41 = .ok (.bipush 7, 2) := by decide +kernel
theorem dX12_keep_43 : decode cX12_keep 43 = .ok (.putfield 250, 3) := by decide +kernel
theorem dX12_keep_46 : decode cX12_keep 46 = .ok (.iconst 0, 1) := by decide +kernel
theorem dX12_keep_47 : decode cX12_keep 47 = .ok (.istore_n 1, 1) := by decide +kernel
theorem dX12_keep_48 : decode cX12_keep 48 = .ok (.iload_n 1, 1) := by decide +kernel
theorem dX12_keep_49 : decode cX12_keep 49 = .ok (.sipush 552, 3) := by decide +kernel
theorem dX12_keep_52 : decode cX12_keep 52 = .ok (.if_icmp .ge 33, 3) := by decide +kernel
theorem dX12_keep_55 : decode cX12_keep 55 = .ok (.aload_n 0, 1) := by decide +kernel
theorem dX12_keep_56 : decode cX12_keep 56 = .ok (.getfield 50, 3) := by decide +kernel
theorem dX12_keep_59 : decode cX12_keep 59 = .ok (.sipush 552, 3) := by decide +kernel
theorem dX12_keep_62 : decode cX12_keep 62 = .ok (.aload_n 0, 1) := by decide +kernel
theorem dX12_keep_63 : decode cX12_keep 63 = .ok (.getfield 250, 3) := by decide +kernel
theorem dX12_keep_66 : decode cX12_keep 66 = .ok (.imul, 1) := by decide +kernel
theorem dX12_keep_67 : decode cX12_keep 67 = .ok (.iload_n 1, 1) := by decide +kernel
theorem dX12_keep_68 : decode cX12_keep 68 = .ok (.iadd, 1) := by decide +kernel
theorem dX12_keep_69 : decode cX12_keep 69 = .ok (.aload_n 0, 1) := by decide +kernel
theorem dX12_keep_70 : decode cX12_keep 70 = .ok (.getfield 33, 3) := by decide +kernel
theorem dX12_keep_73 : decode cX12_keep 73 = .ok (.bipush 34, 2) := by decide +kernel
theorem dX12_keep_75 : decode cX12_keep 75 = .ok (.iload_n 1, 1) := by decide +kernel
theorem dX12_keep_76 : decode cX12_keep 76 = .ok (.iadd, 1) := by decide +kernel
theorem dX12_keep_77 : decode cX12_keep 77 = .ok (.iaload, 1) := by decide +kernel
theorem dX12_keep_78 : decode cX12_keep 78 = .ok (.iastore, 1) := by decide +kernel
theorem dX12_keep_79 : decode cX12_keep 79 = .ok (.iinc 1 1, 3) := by decide +kernel
theorem dX12_keep_82 : decode cX12_keep 82 = .ok (.goto (-34), 3) := by decide +kernel
theorem dX12_keep_85 : decode cX12_keep 85 = .ok (.aload_n 0, 1) := by decide +kernel
theorem dX12_keep_86 : decode cX12_keep 86 = .ok (.dup, 1) := by decide +kernel
theorem dX12_keep_87 : decode cX12_keep 87 = .ok (.getfield 250, 3) := by decide +kernel
theorem dX12_keep_90 : decode cX12_keep 90 = .ok (.iconst 1, 1) := by decide +kernel
theorem dX12_keep_91 : decode cX12_keep 91 = .ok (.iadd, 1) := by decide +kernel
theorem dX12_keep_92 : decode cX12_keep 92 = .ok (.putfield 250, 3) := by decide +kernel
theorem dX12_keep_95 : decode cX12_keep 95 = .ok (.return_, 1) := by decide +kernel
theorem dX12_undo_0 : decode cX12_undo 0 = .ok (.aload_n 0, 1) := by decide +kernel
theorem dX12_undo_1 : decode cX12_undo 1 = .ok (.iconst 0, 1) := by decide +kernel
theorem dX12_undo_2 : decode cX12_undo 2 = .ok (.putfield 1, 3) := by decide +kernel
theorem dX12_undo_5 : decode cX12_undo 5 = .ok (.aload_n 0, 1) := by decide +kernel
theorem dX12_undo_6 : decode cX12_undo 6 = .ok (.getfield 250, 3) := by decide +kernel
theorem dX12_undo_9 : decode cX12_undo 9 = .ok (.ifCond .ne 5, 3) := by decide +kernel
theorem dX12_undo_12 : decode cX12_undo 12 = .ok (.iconst (-1), 1) := by decide +kernel
theorem dX12_undo_13 : decode cX12_undo 13 = .ok (.ireturn, 1) := by decide +kernel
theorem dX12_undo_14 : decode cX12_undo 14 = .ok (.aload_n 0, 1) := by decide +kernel
theorem dX12_undo_15 : decode cX12_undo 15 = .ok (.dup, 1) := by decide +kernel
theorem dX12_undo_16 : decode cX12_undo 16 = .ok (.getfield 250, 3) := by decide +kernel
theorem dX12_undo_19 : decode cX12_undo 19 = .ok (.iconst 1, 1) := by decide +kernel
theorem dX12_undo_20 : decode cX12_undo 20 = .ok (.isub, 1) := by decide +kernel
theorem dX12_undo_21 : decode cX12_undo 21 = .ok (.putfield 250, 3) := by decide +kernel
theorem dX12_undo_24 : decode cX12_undo 24 = .ok (.iconst 0, 1) := by decide +kernel
theorem dX12_undo_25 : decode cX12_undo 25 = .ok (.istore_n 1, 1) := by decide +kernel
theorem dX12_undo_26 : decode cX12_undo 26 = .ok (.iload_n 1, 1) := by decide +kernel
theorem dX12_undo_27 : decode cX12_undo 27 = .ok (.sipush 552, 3) := by decide +kernel
theorem dX12_undo_30 : decode cX12_undo 30 = .ok (.if_icmp .ge 33, 3) := by decide +kernel
theorem dX12_undo_33 : decode cX12_undo 33 = .ok (.aload_n 0, 1) := by decide +kernel
theorem dX12_undo_34 : decode cX12_undo 34 = .ok (.getfield 33, 3) := by decide +kernel
theorem dX12_undo_37 : decode cX12_undo 37 = .ok (.bipush 34, 2) := by decide +kernel
theorem dX12_undo_39 : decode cX12_undo 39 = .ok (.iload_n 1, 1) := by decide +kernel
theorem dX12_undo_40 : decode cX12_undo 40 = .ok (.iadd, 1) := by decide +kernel
theorem dX12_undo_41 : decode cX12_undo 41 = .ok (.aload_n 0, 1) := by decide +kernel
theorem dX12_undo_42 : decode cX12_undo 42 = .ok (.getfield 50, 3) := by decide +kernel
theorem dX12_undo_45 : decode cX12_undo 45 = .ok (.sipush 552, 3) := by decide +kernel
theorem dX12_undo_48 : decode cX12_undo 48 = .ok (.aload_n 0, 1) := by decide +kernel
theorem dX12_undo_49 : decode cX12_undo 49 = .ok (.getfield 250, 3) := by decide +kernel
theorem dX12_undo_52 : decode cX12_undo 52 = .ok (.imul, 1) := by decide +kernel
theorem dX12_undo_53 : decode cX12_undo 53 = .ok (.iload_n 1, 1) := by decide +kernel
theorem dX12_undo_54 : decode cX12_undo 54 = .ok (.iadd, 1) := by decide +kernel
theorem dX12_undo_55 : decode cX12_undo 55 = .ok (.iaload, 1) := by decide +kernel
theorem dX12_undo_56 : decode cX12_undo 56 = .ok (.iastore, 1) := by decide +kernel
theorem dX12_undo_57 : decode cX12_undo 57 = .ok (.iinc 1 1, 3) := by decide +kernel
theorem dX12_undo_60 : decode cX12_undo 60 = .ok (.goto (-34), 3) := by decide +kernel
theorem dX12_undo_63 : decode cX12_undo 63 = .ok (.aload_n 0, 1) := by decide +kernel
theorem dX12_undo_64 : decode cX12_undo 64 = .ok (.getfield 250, 3) := by decide +kernel
theorem dX12_undo_67 : decode cX12_undo 67 = .ok (.ireturn, 1) := by decide +kernel
theorem dX12_bearerOf_0 : decode cX12_bearerOf 0 = .ok (.aload_n 0, 1) := by decide +kernel
theorem dX12_bearerOf_1 : decode cX12_bearerOf 1 = .ok (.iload_n 1, 1) := by decide +kernel
theorem dX12_bearerOf_2 : decode cX12_bearerOf 2 = .ok (.invokevirtual 297, 3) := by decide +kernel
theorem dX12_bearerOf_5 : decode cX12_bearerOf 5 = .ok (.iload_n 1, 1) := by decide +kernel
theorem dX12_bearerOf_6 : decode cX12_bearerOf 6 = .ok (.iload_n 3, 1) := by decide +kernel
theorem dX12_bearerOf_7 : decode cX12_bearerOf 7 = .ok (.if_icmp .ne 7, 3) := by decide +kernel
theorem dX12_bearerOf_10 : decode cX12_bearerOf 10 = .ok (.iload_n 2, 1) := by decide +kernel
theorem dX12_bearerOf_11 : decode cX12_bearerOf 11 = .ok (.goto 4, 3) := by decide +kernel
theorem dX12_bearerOf_14 : decode cX12_bearerOf 14 = .ok (.iconst 0, 1) := by decide +kernel
theorem dX12_bearerOf_15 : decode cX12_bearerOf 15 = .ok (.isub, 1) := by decide +kernel
theorem dX12_bearerOf_16 : decode cX12_bearerOf 16 = .ok (.iload_n 2, 1) := by decide +kernel
theorem dX12_bearerOf_17 : decode cX12_bearerOf 17 = .ok (.if_icmp .lt 5, 3) := by decide +kernel
theorem dX12_bearerOf_20 : decode cX12_bearerOf 20 = .ok (.iload_n 1, 1) := by decide +kernel
theorem dX12_bearerOf_21 : decode cX12_bearerOf 21 = .ok (.ireturn, 1) := by decide +kernel
theorem dX12_bearerOf_22 : decode cX12_bearerOf 22 = .ok (.aload_n 0, 1) := by decide +kernel
theorem dX12_bearerOf_23 : decode cX12_bearerOf 23 = .ok (.getfield 33, 3) := by decide +kernel
theorem dX12_bearerOf_26 : decode cX12_bearerOf 26 = .ok (.bipush 13, 2) := by decide +kernel
theorem dX12_bearerOf_28 : decode cX12_bearerOf 28 = .ok (.iload_n 1, 1) := by decide +kernel
theorem dX12_bearerOf_29 : decode cX12_bearerOf 29 = .ok (.iadd, 1) := by decide +kernel
theorem dX12_bearerOf_30 : decode cX12_bearerOf 30 = .ok (.iaload, 1) := by decide +kernel
theorem dX12_bearerOf_31 : decode cX12_bearerOf 31 = .ok (.istore 4, 2) := by decide +kernel
theorem dX12_bearerOf_33 : decode cX12_bearerOf 33 = .ok (.iload 4, 2) := by decide +kernel
theorem dX12_bearerOf_35 : decode cX12_bearerOf 35 = .ok (.ifCond .lt 39, 3) := by decide +kernel
theorem dX12_bearerOf_38 : decode cX12_bearerOf 38 = .ok (.aload_n 0, 1) := by decide +kernel
theorem dX12_bearerOf_39 : decode cX12_bearerOf 39 = .ok (.iload 4, 2) := by decide +kernel
theorem dX12_bearerOf_41 : decode cX12_bearerOf 41 = .ok (.invokevirtual 294, 3) := by decide +kernel
theorem dX12_bearerOf_44 : decode cX12_bearerOf 44 = .ok (.ifCond .eq 30, 3) := by decide +kernel
theorem dX12_bearerOf_47 : decode cX12_bearerOf 47 = .ok (.aload_n 0, 1) := by decide +kernel
theorem dX12_bearerOf_48 : decode cX12_bearerOf 48 = .ok (.iload 4, 2) := by decide +kernel
theorem dX12_bearerOf_50 : decode cX12_bearerOf 50 = .ok (.invokevirtual 297, 3) := by decide +kernel
theorem dX12_bearerOf_53 : decode cX12_bearerOf 53 = .ok (.iload 4, 2) := by decide +kernel
theorem dX12_bearerOf_55 : decode cX12_bearerOf 55 = .ok (.iload_n 3, 1) := by decide +kernel
theorem dX12_bearerOf_56 : decode cX12_bearerOf 56 = .ok (.if_icmp .ne 7, 3) := by decide +kernel
theorem dX12_bearerOf_59 : decode cX12_bearerOf 59 = .ok (.iload_n 2, 1) := by decide +kernel
theorem dX12_bearerOf_60 : decode cX12_bearerOf 60 = .ok (.goto 4, 3) := by decide +kernel
theorem dX12_bearerOf_63 : decode cX12_bearerOf 63 = .ok (.iconst 0, 1) := by decide +kernel
theorem dX12_bearerOf_64 : decode cX12_bearerOf 64 = .ok (.isub, 1) := by decide +kernel
theorem dX12_bearerOf_65 : decode cX12_bearerOf 65 = .ok (.iload_n 2, 1) := by decide +kernel
theorem dX12_bearerOf_66 : decode cX12_bearerOf 66 = .ok (.if_icmp .lt 8, 3) := by decide +kernel
theorem dX12_bearerOf_69 : decode cX12_bearerOf 69 = .ok (.iload 4, 2) := by decide +kernel
theorem dX12_bearerOf_71 : decode cX12_bearerOf 71 = .ok (.goto 4, 3) := by decide +kernel
theorem dX12_bearerOf_74 : decode cX12_bearerOf 74 = .ok (.iconst (-1), 1) := by decide +kernel
theorem dX12_bearerOf_75 : decode cX12_bearerOf 75 = .ok (.ireturn, 1) := by decide +kernel
theorem dX12_whyWrite_0 : decode cX12_whyWrite 0 = .ok (.iload_n 1, 1) := by decide +kernel
theorem dX12_whyWrite_1 : decode cX12_whyWrite 1 = .ok (.iload_n 2, 1) := by decide +kernel
theorem dX12_whyWrite_2 : decode cX12_whyWrite 2 = .ok (.if_icmp .eq 19, 3) := by decide +kernel
theorem dX12_whyWrite_5 : decode cX12_whyWrite 5 = .ok (.aload_n 0, 1) := by decide +kernel
theorem dX12_whyWrite_6 : decode cX12_whyWrite 6 = .ok (.iload_n 1, 1) := by decide +kernel
theorem dX12_whyWrite_7 : decode cX12_whyWrite 7 = .ok (.invokevirtual 294, 3) := by decide +kernel
theorem dX12_whyWrite_10 : decode cX12_whyWrite 10 = .ok (.ifCond .eq 11, 3) := by decide +kernel
theorem dX12_whyWrite_13 : decode cX12_whyWrite 13 = .ok (.aload_n 0, 1) := by decide +kernel
theorem dX12_whyWrite_14 : decode cX12_whyWrite 14 = .ok (.iload_n 2, 1) := by decide +kernel
theorem dX12_whyWrite_15 : decode cX12_whyWrite 15 = .ok (.invokevirtual 294, 3) := by decide +kernel
theorem dX12_whyWrite_18 : decode cX12_whyWrite 18 = .ok (.ifCond .ne 5, 3) := by decide +kernel
theorem dX12_whyWrite_21 : decode cX12_whyWrite 21 = .ok (.iconst 1, 1) := by decide +kernel
theorem dX12_whyWrite_22 : decode cX12_whyWrite 22 = .ok (.ireturn, 1) := by decide +kernel
theorem dX12_whyWrite_23 : decode cX12_whyWrite 23 = .ok (.aload_n 0, 1) := by decide +kernel
theorem dX12_whyWrite_24 : decode cX12_whyWrite 24 = .ok (.iload_n 1, 1) := by decide +kernel
theorem dX12_whyWrite_25 : decode cX12_whyWrite 25 = .ok (.aload_n 0, 1) := by decide +kernel
theorem dX12_whyWrite_26 : decode cX12_whyWrite 26 = .ok (.getfield 33, 3) := by decide +kernel
theorem dX12_whyWrite_29 : decode cX12_whyWrite 29 = .ok (.bipush 22, 2) := by decide +kernel
theorem dX12_whyWrite_31 : decode cX12_whyWrite 31 = .ok (.iload_n 3, 1) := by decide +kernel
theorem dX12_whyWrite_32 : decode cX12_whyWrite 32 = .ok (.iadd, 1) := by decide +kernel
theorem dX12_whyWrite_33 : decode cX12_whyWrite 33 = .ok (.iaload, 1) := by decide +kernel
theorem dX12_whyWrite_34 : decode cX12_whyWrite 34 = .ok (.iconst (-1), 1) := by decide +kernel
theorem dX12_whyWrite_35 : decode cX12_whyWrite 35 = .ok (.invokevirtual 318, 3) := by decide +kernel
theorem dX12_whyWrite_38 : decode cX12_whyWrite 38 = .ok (.istore 4, 2) := by decide +kernel
theorem dX12_whyWrite_40 : decode cX12_whyWrite 40 = .ok (.iload 4, 2) := by decide +kernel
theorem dX12_whyWrite_42 : decode cX12_whyWrite 42 = .ok (.ifCond .ge 5, 3) := by decide +kernel
theorem dX12_whyWrite_45 : decode cX12_whyWrite 45 = .ok (.iconst 2, 1) := by decide +kernel
theorem dX12_whyWrite_46 : decode cX12_whyWrite 46 = .ok (.ireturn, 1) := by decide +kernel
theorem dX12_whyWrite_47 : decode cX12_whyWrite 47 = .ok (.aload_n 0, 1) := by decide +kernel
theorem dX12_whyWrite_48 : decode cX12_whyWrite 48 = .ok (.iload_n 2, 1) := by decide +kernel
theorem dX12_whyWrite_49 : decode cX12_whyWrite 49 = .ok (.aload_n 0, 1) := by decide +kernel
theorem dX12_whyWrite_50 : decode cX12_whyWrite 50 = .ok (.getfield 33, 3) := by decide +kernel
theorem dX12_whyWrite_53 : decode cX12_whyWrite 53 = .ok (.bipush 22, 2) := by decide +kernel
theorem dX12_whyWrite_55 : decode cX12_whyWrite 55 = .ok (.iload_n 3, 1) := by decide +kernel
theorem dX12_whyWrite_56 : decode cX12_whyWrite 56 = .ok (.iadd, 1) := by decide +kernel
theorem dX12_whyWrite_57 : decode cX12_whyWrite 57 = .ok (.iaload, 1) := by decide +kernel
theorem dX12_whyWrite_58 : decode cX12_whyWrite 58 = .ok (.iload 4, 2) := by decide +kernel
theorem dX12_whyWrite_60 : decode cX12_whyWrite 60 = .ok (.invokevirtual 318, 3) := by decide +kernel
theorem dX12_whyWrite_63 : decode cX12_whyWrite 63 = .ok (.ifCond .ge 5, 3) := by decide +kernel
theorem dX12_whyWrite_66 : decode cX12_whyWrite 66 = .ok (.iconst 3, 1) := by decide +kernel
theorem dX12_whyWrite_67 : decode cX12_whyWrite 67 = .ok (.ireturn, 1) := by decide +kernel
theorem dX12_whyWrite_68 : decode cX12_whyWrite 68 = .ok (.aload_n 0, 1) := by decide +kernel
theorem dX12_whyWrite_69 : decode cX12_whyWrite 69 = .ok (.getfield 33, 3) := by decide +kernel
theorem dX12_whyWrite_72 : decode cX12_whyWrite 72 = .ok (.bipush 34, 2) := by decide +kernel
theorem dX12_whyWrite_74 : decode cX12_whyWrite 74 = .ok (.iaload, 1) := by decide +kernel
theorem dX12_whyWrite_75 : decode cX12_whyWrite 75 = .ok (.bipush 60, 2) := by decide +kernel
theorem dX12_whyWrite_77 : decode cX12_whyWrite 77 = .ok (.if_icmp .ne 8, 3) := by decide +kernel
theorem dX12_whyWrite_80 : decode cX12_whyWrite 80 = .ok (.bipush 7, 2) := by decide +kernel
theorem dX12_whyWrite_82 : decode cX12_whyWrite 82 = .ok (.goto 4, 3) := by decide +kernel
theorem dX12_whyWrite_85 : decode cX12_whyWrite 85 = .ok (.iconst 0, 1) := by decide +kernel
theorem dX12_whyWrite_86 : decode cX12_whyWrite 86 = .ok (.ireturn, 1) := by decide +kernel
theorem dX12_writes_0 : decode cX12_writes 0 = .ok (.aload_n 0, 1) := by decide +kernel
theorem dX12_writes_1 : decode cX12_writes 1 = .ok (.getfield 33, 3) := by decide +kernel
theorem dX12_writes_4 : decode cX12_writes 4 = .ok (.bipush 34, 2) := by decide +kernel
theorem dX12_writes_6 : decode cX12_writes 6 = .ok (.iaload, 1) := by decide +kernel
theorem dX12_writes_7 : decode cX12_writes 7 = .ok (.istore 5, 2) := by decide +kernel
theorem dX12_writes_9 : decode cX12_writes 9 = .ok (.aload_n 0, 1) := by decide +kernel
theorem dX12_writes_10 : decode cX12_writes 10 = .ok (.iload_n 1, 1) := by decide +kernel
theorem dX12_writes_11 : decode cX12_writes 11 = .ok (.aload_n 0, 1) := by decide +kernel
theorem dX12_writes_12 : decode cX12_writes 12 = .ok (.getfield 33, 3) := by decide +kernel
theorem dX12_writes_15 : decode cX12_writes 15 = .ok (.bipush 22, 2) := by decide +kernel
theorem dX12_writes_17 : decode cX12_writes 17 = .ok (.iload 4, 2) := by decide +kernel
theorem dX12_writes_19 : decode cX12_writes 19 = .ok (.iadd, 1) := by decide +kernel
theorem dX12_writes_20 : decode cX12_writes 20 = .ok (.iaload, 1) := by decide +kernel
theorem dX12_writes_21 : decode cX12_writes 21 = .ok (.iconst (-1), 1) := by decide +kernel
theorem dX12_writes_22 : decode cX12_writes 22 = .ok (.invokevirtual 318, 3) := by decide +kernel
theorem dX12_writes_25 : decode cX12_writes 25 = .ok (.istore 6, 2) := by decide +kernel
theorem dX12_writes_27 : decode cX12_writes 27 = .ok (.aload_n 0, 1) := by decide +kernel
theorem dX12_writes_28 : decode cX12_writes 28 = .ok (.iload_n 2, 1) := by decide +kernel
theorem dX12_writes_29 : decode cX12_writes 29 = .ok (.aload_n 0, 1) := by decide +kernel
theorem dX12_writes_30 : decode cX12_writes 30 = .ok (.getfield 33, 3) := by decide +kernel
theorem dX12_writes_33 : decode cX12_writes 33 = .ok (.bipush 22, 2) := by decide +kernel
theorem dX12_writes_35 : decode cX12_writes 35 = .ok (.iload 4, 2) := by decide +kernel
theorem dX12_writes_37 : decode cX12_writes 37 = .ok (.iadd, 1) := by decide +kernel
theorem dX12_writes_38 : decode cX12_writes 38 = .ok (.iaload, 1) := by decide +kernel
theorem dX12_writes_39 : decode cX12_writes 39 = .ok (.iload 6, 2) := by decide +kernel
theorem dX12_writes_41 : decode cX12_writes 41 = .ok (.invokevirtual 318, 3) := by decide +kernel
theorem dX12_writes_44 : decode cX12_writes 44 = .ok (.istore 7, 2) := by decide +kernel
theorem dX12_writes_46 : decode cX12_writes 46 = .ok (.aload_n 0, 1) := by decide +kernel
theorem dX12_writes_47 : decode cX12_writes 47 = .ok (.getfield 33, 3) := by decide +kernel
theorem dX12_writes_50 : decode cX12_writes 50 = .ok (.bipush 34, 2) := by decide +kernel
theorem dX12_writes_52 : decode cX12_writes 52 = .ok (.dup2, 1) := by decide +kernel
theorem dX12_writes_53 : decode cX12_writes 53 = .ok (.iaload, 1) := by decide +kernel
theorem dX12_writes_54 : decode cX12_writes 54 = .ok (.iconst 1, 1) := by decide +kernel
theorem dX12_writes_55 : decode cX12_writes 55 = .ok (.iadd, 1) := by decide +kernel
theorem dX12_writes_56 : decode cX12_writes 56 = .ok (.iastore, 1) := by decide +kernel
theorem dX12_writes_57 : decode cX12_writes 57 = .ok (.aload_n 0, 1) := by decide +kernel
theorem dX12_writes_58 : decode cX12_writes 58 = .ok (.iload 5, 2) := by decide +kernel
theorem dX12_writes_60 : decode cX12_writes 60 = .ok (.iconst 0, 1) := by decide +kernel
theorem dX12_writes_61 : decode cX12_writes 61 = .ok (.iload_n 1, 1) := by decide +kernel
theorem dX12_writes_62 : decode cX12_writes 62 = .ok (.invokevirtual 322, 3) := by decide +kernel
theorem dX12_writes_65 : decode cX12_writes 65 = .ok (.aload_n 0, 1) := by decide +kernel
theorem dX12_writes_66 : decode cX12_writes 66 = .ok (.iload 5, 2) := by decide +kernel
theorem dX12_writes_68 : decode cX12_writes 68 = .ok (.iconst 1, 1) := by decide +kernel
theorem dX12_writes_69 : decode cX12_writes 69 = .ok (.iload_n 2, 1) := by decide +kernel
theorem dX12_writes_70 : decode cX12_writes 70 = .ok (.invokevirtual 322, 3) := by decide +kernel
theorem dX12_writes_73 : decode cX12_writes 73 = .ok (.aload_n 0, 1) := by decide +kernel
theorem dX12_writes_74 : decode cX12_writes 74 = .ok (.iload 5, 2) := by decide +kernel
theorem dX12_writes_76 : decode cX12_writes 76 = .ok (.iconst 2, 1) := by decide +kernel
theorem dX12_writes_77 : decode cX12_writes 77 = .ok (.iload_n 3, 1) := by decide +kernel
theorem dX12_writes_78 : decode cX12_writes 78 = .ok (.invokevirtual 322, 3) := by decide +kernel
theorem dX12_writes_81 : decode cX12_writes 81 = .ok (.aload_n 0, 1) := by decide +kernel
theorem dX12_writes_82 : decode cX12_writes 82 = .ok (.iload 5, 2) := by decide +kernel
theorem dX12_writes_84 : decode cX12_writes 84 = .ok (.iconst 3, 1) := by decide +kernel
theorem dX12_writes_85 : decode cX12_writes 85 = .ok (.iload 4, 2) := by decide +kernel
theorem dX12_writes_87 : decode cX12_writes 87 = .ok (.invokevirtual 322, 3) := by decide +kernel
theorem dX12_writes_90 : decode cX12_writes 90 = .ok (.aload_n 0, 1) := by decide +kernel
theorem dX12_writes_91 : decode cX12_writes 91 = .ok (.iload 5, 2) := by decide +kernel
theorem dX12_writes_93 : decode cX12_writes 93 = .ok (.iconst 4, 1) := by decide +kernel
theorem dX12_writes_94 : decode cX12_writes 94 = .ok (.aload_n 0, 1) := by decide +kernel
theorem dX12_writes_95 : decode cX12_writes 95 = .ok (.getfield 33, 3) := by decide +kernel
theorem dX12_writes_98 : decode cX12_writes 98 = .ok (.bipush 35, 2) := by decide +kernel
theorem dX12_writes_100 : decode cX12_writes 100 = .ok (.iaload, 1) := by decide +kernel
theorem dX12_writes_101 : decode cX12_writes 101 = .ok (.invokevirtual 322, 3) := by decide +kernel
theorem dX12_writes_104 : decode cX12_writes 104 = .ok (.aload_n 0, 1) := by decide +kernel
theorem dX12_writes_105 : decode cX12_writes 105 = .ok (.iload 5, 2) := by decide +kernel
theorem dX12_writes_107 : decode cX12_writes 107 = .ok (.iconst 5, 1) := by decide +kernel
theorem dX12_writes_108 : decode cX12_writes 108 = .ok (.iconst 0, 1) := by decide +kernel
theorem dX12_writes_109 : decode cX12_writes 109 = .ok (.invokevirtual 322, 3) := by decide +kernel
theorem dX12_writes_112 : decode cX12_writes 112 = .ok (.aload_n 0, 1) := by decide +kernel
theorem dX12_writes_113 : decode cX12_writes 113 = .ok (.iload 5, 2) := by decide +kernel
theorem dX12_writes_115 : decode cX12_writes 115 = .ok (.bipush 6, 2) := by decide +kernel
theorem dX12_writes_117 : decode cX12_writes 117 = .ok (.iload 6, 2) := by decide +kernel
theorem dX12_writes_119 : decode cX12_writes 119 = .ok (.invokevirtual 322, 3) := by decide +kernel
theorem dX12_writes_122 : decode cX12_writes 122 = .ok (.aload_n 0, 1) := by decide +kernel
theorem dX12_writes_123 : decode cX12_writes 123 = .ok (.iload 5, 2) := by decide +kernel
theorem dX12_writes_125 : decode cX12_writes 125 = .ok (.bipush 7, 2) := by decide +kernel
theorem dX12_writes_127 : decode cX12_writes 127 = .ok (.iload 7, 2) := by decide +kernel
theorem dX12_writes_129 : decode cX12_writes 129 = .ok (.invokevirtual 322, 3) := by decide +kernel
theorem dX12_writes_132 : decode cX12_writes 132 = .ok (.aload_n 0, 1) := by decide +kernel
theorem dX12_writes_133 : decode cX12_writes 133 = .ok (.iload 5, 2) := by decide +kernel
theorem dX12_writes_135 : decode cX12_writes 135 = .ok (.bipush 8, 2) := by decide +kernel
theorem dX12_writes_137 : decode cX12_writes 137 = .ok (.iconst 0, 1) := by decide +kernel
theorem dX12_writes_138 : decode cX12_writes 138 = .ok (.invokevirtual 322, 3) := by decide +kernel
theorem dX12_writes_141 : decode cX12_writes 141 = .ok (.return_, 1) := by decide +kernel
theorem dX12_write_0 : decode cX12_write 0 = .ok (.aload_n 0, 1) := by decide +kernel
theorem dX12_write_1 : decode cX12_write 1 = .ok (.iconst 0, 1) := by decide +kernel
theorem dX12_write_2 : decode cX12_write 2 = .ok (.putfield 1, 3) := by decide +kernel
theorem dX12_write_5 : decode cX12_write 5 = .ok (.aload_n 0, 1) := by decide +kernel
theorem dX12_write_6 : decode cX12_write 6 = .ok (.iload_n 1, 1) := by decide +kernel
theorem dX12_write_7 : decode cX12_write 7 = .ok (.invokevirtual 287, 3) := by decide +kernel
theorem dX12_write_10 : decode cX12_write 10 = .ok (.ifCond .eq 30, 3) := by decide +kernel
theorem dX12_write_13 : decode cX12_write 13 = .ok (.aload_n 0, 1) := by decide +kernel
theorem dX12_write_14 : decode cX12_write 14 = .ok (.iload_n 2, 1) := by decide +kernel
theorem dX12_write_15 : decode cX12_write 15 = .ok (.invokevirtual 287, 3) := by decide +kernel
theorem dX12_write_18 : decode cX12_write 18 = .ok (.ifCond .eq 22, 3) := by decide +kernel
theorem dX12_write_21 : decode cX12_write 21 = .ok (.aload_n 0, 1) := by decide +kernel
theorem dX12_write_22 : decode cX12_write 22 = .ok (.iload 4, 2) := by decide +kernel
theorem dX12_write_24 : decode cX12_write 24 = .ok (.invokevirtual 306, 3) := by decide +kernel
theorem dX12_write_27 : decode cX12_write 27 = .ok (.ifCond .eq 13, 3) := by decide +kernel
theorem dX12_write_30 : decode cX12_write 30 = .ok (.iload_n 3, 1) := by decide +kernel
theorem dX12_write_31 : decode cX12_write 31 = .ok (.iconst 1, 1) := by decide +kernel
theorem dX12_write_32 : decode cX12_write 32 = .ok (.bipush 99, 2) := by decide +kernel
theorem dX12_write_34 : decode cX12_write 34 = .ok (.invokestatic 202, 3) := by decide +kernel
theorem dX12_write_37 : decode cX12_write 37 = .ok (.ifCond .ne 5, 3) := by decide +kernel
theorem dX12_write_40 : decode cX12_write 40 = .ok (.iconst (-1), 1) := by decide +kernel
theorem dX12_write_41 : decode cX12_write 41 = .ok (.ireturn, 1) := by decide +kernel
theorem dX12_write_42 : decode cX12_write 42 = .ok (.aload_n 0, 1) := by decide +kernel
theorem dX12_write_43 : decode cX12_write 43 = .ok (.iload_n 1, 1) := by decide +kernel
theorem dX12_write_44 : decode cX12_write 44 = .ok (.iload_n 2, 1) := by decide +kernel
theorem dX12_write_45 : decode cX12_write 45 = .ok (.iload 4, 2) := by decide +kernel
theorem dX12_write_47 : decode cX12_write 47 = .ok (.invokevirtual 326, 3) := by decide +kernel
theorem dX12_write_50 : decode cX12_write 50 = .ok (.istore 5, 2) := by decide +kernel
theorem dX12_write_52 : decode cX12_write 52 = .ok (.iload 5, 2) := by decide +kernel
theorem dX12_write_54 : decode cX12_write 54 = .ok (.ifCond .le 9, 3) := by decide +kernel
theorem dX12_write_57 : decode cX12_write 57 = .ok (.bipush (-10), 2) := by decide +kernel
theorem dX12_write_59 : decode cX12_write 59 = .ok (.iload 5, 2) := by decide +kernel
theorem dX12_write_61 : decode cX12_write 61 = .ok (.isub, 1) := by decide +kernel
theorem dX12_write_62 : decode cX12_write 62 = .ok (.ireturn, 1) := by decide +kernel
theorem dX12_write_63 : decode cX12_write 63 = .ok (.aload_n 0, 1) := by decide +kernel
theorem dX12_write_64 : decode cX12_write 64 = .ok (.invokevirtual 329, 3) := by decide +kernel
theorem dX12_write_67 : decode cX12_write 67 = .ok (.aload_n 0, 1) := by decide +kernel
theorem dX12_write_68 : decode cX12_write 68 = .ok (.iload_n 1, 1) := by decide +kernel
theorem dX12_write_69 : decode cX12_write 69 = .ok (.iload_n 2, 1) := by decide +kernel
theorem dX12_write_70 : decode cX12_write 70 = .ok (.iload_n 3, 1) := by decide +kernel
theorem dX12_write_71 : decode cX12_write 71 = .ok (.iload 4, 2) := by decide +kernel
theorem dX12_write_73 : decode cX12_write 73 = .ok (.invokevirtual 332, 3) := by decide +kernel
theorem dX12_write_76 : decode cX12_write 76 = .ok (.aload_n 0, 1) := by decide +kernel
theorem dX12_write_77 : decode cX12_write 77 = .ok (.getfield 33, 3) := by decide +kernel
theorem dX12_write_80 : decode cX12_write 80 = .ok (.bipush 34, 2) := by decide +kernel
theorem dX12_write_82 : decode cX12_write 82 = .ok (.iaload, 1) := by decide +kernel
theorem dX12_write_83 : decode cX12_write 83 = .ok (.iconst 1, 1) := by decide +kernel
theorem dX12_write_84 : decode cX12_write 84 = .ok (.isub, 1) := by decide +kernel
theorem dX12_write_85 : decode cX12_write 85 = .ok (.ireturn, 1) := by decide +kernel
theorem dX12_whyStrike_0 : decode cX12_whyStrike 0 = .ok (.aload_n 0, 1) := by decide +kernel
theorem dX12_whyStrike_1 : decode cX12_whyStrike 1 = .ok (.iload_n 1, 1) := by decide +kernel
theorem dX12_whyStrike_2 : decode cX12_whyStrike 2 = .ok (.invokevirtual 278, 3) := by decide +kernel
theorem dX12_whyStrike_5 : decode cX12_whyStrike 5 = .ok (.ifCond .ne 5, 3) := by decide +kernel
theorem dX12_whyStrike_8 : decode cX12_whyStrike 8 = .ok (.iconst 4, 1) := by decide +kernel
theorem dX12_whyStrike_9 : decode cX12_whyStrike 9 = .ok (.ireturn, 1) := by decide +kernel
theorem dX12_whyStrike_10 : decode cX12_whyStrike 10 = .ok (.aload_n 0, 1) := by decide +kernel
theorem dX12_whyStrike_11 : decode cX12_whyStrike 11 = .ok (.iload_n 1, 1) := by decide +kernel
theorem dX12_whyStrike_12 : decode cX12_whyStrike 12 = .ok (.bipush 6, 2) := by decide +kernel
theorem dX12_whyStrike_14 : decode cX12_whyStrike 14 = .ok (.invokevirtual 265, 3) := by decide +kernel
theorem dX12_whyStrike_17 : decode cX12_whyStrike 17 = .ok (.istore_n 2, 1) := by decide +kernel
theorem dX12_whyStrike_18 : decode cX12_whyStrike 18 = .ok (.aload_n 0, 1) := by decide +kernel
theorem dX12_whyStrike_19 : decode cX12_whyStrike 19 = .ok (.iload_n 1, 1) := by decide +kernel
theorem dX12_whyStrike_20 : decode cX12_whyStrike 20 = .ok (.bipush 7, 2) := by decide +kernel
theorem dX12_whyStrike_22 : decode cX12_whyStrike 22 = .ok (.invokevirtual 265, 3) := by decide +kernel
theorem dX12_whyStrike_25 : decode cX12_whyStrike 25 = .ok (.istore_n 3, 1) := by decide +kernel
theorem dX12_whyStrike_26 : decode cX12_whyStrike 26 = .ok (.aload_n 0, 1) := by decide +kernel
theorem dX12_whyStrike_27 : decode cX12_whyStrike 27 = .ok (.getfield 33, 3) := by decide +kernel
theorem dX12_whyStrike_30 : decode cX12_whyStrike 30 = .ok (.iconst 2, 1) := by decide +kernel
theorem dX12_whyStrike_31 : decode cX12_whyStrike 31 = .ok (.iaload, 1) := by decide +kernel
theorem dX12_whyStrike_32 : decode cX12_whyStrike 32 = .ok (.iload_n 2, 1) := by decide +kernel
theorem dX12_whyStrike_33 : decode cX12_whyStrike 33 = .ok (.iload_n 3, 1) := by decide +kernel
theorem dX12_whyStrike_34 : decode cX12_whyStrike 34 = .ok (.if_icmp .ne 7, 3) := by decide +kernel
theorem dX12_whyStrike_37 : decode cX12_whyStrike 37 = .ok (.iconst 2, 1) := by decide +kernel
theorem dX12_whyStrike_38 : decode cX12_whyStrike 38 = .ok (.goto 4, 3) := by decide +kernel
theorem dX12_whyStrike_41 : decode cX12_whyStrike 41 = .ok (.iconst 1, 1) := by decide +kernel
theorem dX12_whyStrike_42 : decode cX12_whyStrike 42 = .ok (.imul, 1) := by decide +kernel
theorem dX12_whyStrike_43 : decode cX12_whyStrike 43 = .ok (.istore 4, 2) := by decide +kernel
theorem dX12_whyStrike_45 : decode cX12_whyStrike 45 = .ok (.aload_n 0, 1) := by decide +kernel
theorem dX12_whyStrike_46 : decode cX12_whyStrike 46 = .ok (.iload_n 2, 1) := by decide +kernel
theorem dX12_whyStrike_47 : decode cX12_whyStrike 47 = .ok (.invokevirtual 294, 3) := by decide +kernel
theorem dX12_whyStrike_50 : decode cX12_whyStrike 50 = .ok (.ifCond .eq 13, 3) := by decide +kernel
theorem dX12_whyStrike_53 : decode cX12_whyStrike 53 = .ok (.aload_n 0, 1) := by decide +kernel
theorem dX12_whyStrike_54 : decode cX12_whyStrike 54 = .ok (.iload_n 2, 1) := by decide +kernel
theorem dX12_whyStrike_55 : decode cX12_whyStrike 55 = .ok (.invokevirtual 297, 3) := by decide +kernel
theorem dX12_whyStrike_58 : decode cX12_whyStrike 58 = .ok (.iload 4, 2) := by decide +kernel
theorem dX12_whyStrike_60 : decode cX12_whyStrike 60 = .ok (.if_icmp .lt 21, 3) := by decide +kernel
theorem dX12_whyStrike_63 : decode cX12_whyStrike 63 = .ok (.aload_n 0, 1) := by decide +kernel
theorem dX12_whyStrike_64 : decode cX12_whyStrike 64 = .ok (.iload_n 3, 1) := by decide +kernel
theorem dX12_whyStrike_65 : decode cX12_whyStrike 65 = .ok (.invokevirtual 294, 3) := by decide +kernel
theorem dX12_whyStrike_68 : decode cX12_whyStrike 68 = .ok (.ifCond .eq 17, 3) := by decide +kernel
theorem dX12_whyStrike_71 : decode cX12_whyStrike 71 = .ok (.aload_n 0, 1) := by decide +kernel
theorem dX12_whyStrike_72 : decode cX12_whyStrike 72 = .ok (.iload_n 3, 1) := by decide +kernel
theorem dX12_whyStrike_73 : decode cX12_whyStrike 73 = .ok (.invokevirtual 297, 3) := by decide +kernel
theorem dX12_whyStrike_76 : decode cX12_whyStrike 76 = .ok (.iload 4, 2) := by decide +kernel
theorem dX12_whyStrike_78 : decode cX12_whyStrike 78 = .ok (.if_icmp .ge 7, 3) := by decide +kernel
theorem dX12_whyStrike_81 : decode cX12_whyStrike 81 = .ok (.iconst 5, 1) := by decide +kernel
theorem dX12_whyStrike_82 : decode cX12_whyStrike 82 = .ok (.goto 4, 3) := by decide +kernel
theorem dX12_whyStrike_85 : decode cX12_whyStrike 85 = .ok (.iconst 0, 1) := by decide +kernel
theorem dX12_whyStrike_86 : decode cX12_whyStrike 86 = .ok (.ireturn, 1) := by decide +kernel
theorem dX12_strikes_0 : decode cX12_strikes 0 = .ok (.iconst 0, 1) := by decide +kernel
theorem dX12_strikes_1 : decode cX12_strikes 1 = .ok (.istore_n 2, 1) := by decide +kernel
theorem dX12_strikes_2 : decode cX12_strikes 2 = .ok (.iload_n 2, 1) := by decide +kernel
theorem dX12_strikes_3 : decode cX12_strikes 3 = .ok (.iconst 2, 1) := by decide +kernel
theorem dX12_strikes_4 : decode cX12_strikes 4 = .ok (.if_icmp .ge 51, 3) := by decide +kernel
theorem dX12_strikes_7 : decode cX12_strikes 7 = .ok (.aload_n 0, 1) := by decide +kernel
theorem dX12_strikes_8 : decode cX12_strikes 8 = .ok (.aload_n 0, 1) := by decide +kernel
theorem dX12_strikes_9 : decode cX12_strikes 9 = .ok (.iload_n 1, 1) := by decide +kernel
theorem dX12_strikes_10 : decode cX12_strikes 10 = .ok (.bipush 6, 2) := by decide +kernel
theorem dX12_strikes_12 : decode cX12_strikes 12 = .ok (.iload_n 2, 1) := by decide +kernel
theorem dX12_strikes_13 : decode cX12_strikes 13 = .ok (.iadd, 1) := by decide +kernel
theorem dX12_strikes_14 : decode cX12_strikes 14 = .ok (.invokevirtual 265, 3) := by decide +kernel
theorem dX12_strikes_17 : decode cX12_strikes 17 = .ok (.invokevirtual 294, 3) := by decide +kernel
theorem dX12_strikes_20 : decode cX12_strikes 20 = .ok (.ifCond .eq 29, 3) := by decide +kernel
theorem dX12_strikes_23 : decode cX12_strikes 23 = .ok (.aload_n 0, 1) := by decide +kernel
theorem dX12_strikes_24 : decode cX12_strikes 24 = .ok (.getfield 33, 3) := by decide +kernel
theorem dX12_strikes_27 : decode cX12_strikes 27 = .ok (.bipush 37, 2) := by decide +kernel
theorem dX12_strikes_29 : decode cX12_strikes 29 = .ok (.aload_n 0, 1) := by decide +kernel
theorem dX12_strikes_30 : decode cX12_strikes 30 = .ok (.iload_n 1, 1) := by decide +kernel
theorem dX12_strikes_31 : decode cX12_strikes 31 = .ok (.bipush 6, 2) := by decide +kernel
theorem dX12_strikes_33 : decode cX12_strikes 33 = .ok (.iload_n 2, 1) := by decide +kernel
theorem dX12_strikes_34 : decode cX12_strikes 34 = .ok (.iadd, 1) := by decide +kernel
theorem dX12_strikes_35 : decode cX12_strikes 35 = .ok (.invokevirtual 265, 3) := by decide +kernel
theorem dX12_strikes_38 : decode cX12_strikes 38 = .ok (.iadd, 1) := by decide +kernel
theorem dX12_strikes_39 : decode cX12_strikes 39 = .ok (.dup2, 1) := by decide +kernel
theorem dX12_strikes_40 : decode cX12_strikes 40 = .ok (.iaload, 1) := by decide +kernel
theorem dX12_strikes_41 : decode cX12_strikes 41 = .ok (.aload_n 0, 1) := by decide +kernel
theorem dX12_strikes_42 : decode cX12_strikes 42 = .ok (.getfield 33, 3) := by decide +kernel
theorem dX12_strikes_45 : decode cX12_strikes 45 = .ok (.iconst 2, 1) := by decide +kernel
theorem dX12_strikes_46 : decode cX12_strikes 46 = .ok (.iaload, 1) := by decide +kernel
theorem dX12_strikes_47 : decode cX12_strikes 47 = .ok (.iadd, 1) := by decide +kernel
theorem dX12_strikes_48 : decode cX12_strikes 48 = .ok (.iastore, 1) := by decide +kernel
theorem dX12_strikes_49 : decode cX12_strikes 49 = .ok (.iinc 2 1, 3) := by decide +kernel
theorem dX12_strikes_52 : decode cX12_strikes 52 = .ok (.goto (-50), 3) := by decide +kernel
theorem dX12_strikes_55 : decode cX12_strikes 55 = .ok (.aload_n 0, 1) := by decide +kernel
theorem dX12_strikes_56 : decode cX12_strikes 56 = .ok (.iload_n 1, 1) := by decide +kernel
theorem dX12_strikes_57 : decode cX12_strikes 57 = .ok (.iconst 5, 1) := by decide +kernel
theorem dX12_strikes_58 : decode cX12_strikes 58 = .ok (.iconst 1, 1) := by decide +kernel
theorem dX12_strikes_59 : decode cX12_strikes 59 = .ok (.invokevirtual 322, 3) := by decide +kernel
theorem dX12_strikes_62 : decode cX12_strikes 62 = .ok (.return_, 1) := by decide +kernel
theorem dX12_strike_0 : decode cX12_strike 0 = .ok (.aload_n 0, 1) := by decide +kernel
theorem dX12_strike_1 : decode cX12_strike 1 = .ok (.iconst 0, 1) := by decide +kernel
theorem dX12_strike_2 : decode cX12_strike 2 = .ok (.putfield 1, 3) := by decide +kernel
theorem dX12_strike_5 : decode cX12_strike 5 = .ok (.aload_n 0, 1) := by decide +kernel
theorem dX12_strike_6 : decode cX12_strike 6 = .ok (.iload_n 1, 1) := by decide +kernel
theorem dX12_strike_7 : decode cX12_strike 7 = .ok (.invokevirtual 336, 3) := by decide +kernel
theorem dX12_strike_10 : decode cX12_strike 10 = .ok (.istore_n 2, 1) := by decide +kernel
theorem dX12_strike_11 : decode cX12_strike 11 = .ok (.iload_n 2, 1) := by decide +kernel
theorem dX12_strike_12 : decode cX12_strike 12 = .ok (.ifCond .le 5, 3) := by decide +kernel
theorem dX12_strike_15 : decode cX12_strike 15 = .ok (.iload_n 2, 1) := by decide +kernel
theorem dX12_strike_16 : decode cX12_strike 16 = .ok (.ireturn, 1) := by decide +kernel
theorem dX12_strike_17 : decode cX12_strike 17 = .ok (.aload_n 0, 1) := by decide +kernel
theorem dX12_strike_18 : decode cX12_strike 18 = .ok (.invokevirtual 329, 3) := by decide +kernel
theorem dX12_strike_21 : decode cX12_strike 21 = .ok (.aload_n 0, 1) := by decide +kernel
theorem dX12_strike_22 : decode cX12_strike 22 = .ok (.iload_n 1, 1) := by decide +kernel
theorem dX12_strike_23 : decode cX12_strike 23 = .ok (.invokevirtual 339, 3) := by decide +kernel
theorem dX12_strike_26 : decode cX12_strike 26 = .ok (.iconst 0, 1) := by decide +kernel
theorem dX12_strike_27 : decode cX12_strike 27 = .ok (.ireturn, 1) := by decide +kernel
theorem dX12_whyScar_0 : decode cX12_whyScar 0 = .ok (.aload_n 0, 1) := by decide +kernel
theorem dX12_whyScar_1 : decode cX12_whyScar 1 = .ok (.iload_n 1, 1) := by decide +kernel
theorem dX12_whyScar_2 : decode cX12_whyScar 2 = .ok (.invokevirtual 278, 3) := by decide +kernel
theorem dX12_whyScar_5 : decode cX12_whyScar 5 = .ok (.ifCond .ne 7, 3) := by decide +kernel
theorem dX12_whyScar_8 : decode cX12_whyScar 8 = .ok (.iconst 4, 1) := by decide +kernel
theorem dX12_whyScar_9 : decode cX12_whyScar 9 = .ok (.goto 51, 3) := by decide +kernel
theorem dX12_whyScar_12 : decode cX12_whyScar 12 = .ok (.aload_n 0, 1) := by decide +kernel
theorem dX12_whyScar_13 : decode cX12_whyScar 13 = .ok (.iload_n 1, 1) := by decide +kernel
theorem dX12_whyScar_14 : decode cX12_whyScar 14 = .ok (.bipush 8, 2) := by decide +kernel
theorem dX12_whyScar_16 : decode cX12_whyScar 16 = .ok (.invokevirtual 265, 3) := by decide +kernel
theorem dX12_whyScar_19 : decode cX12_whyScar 19 = .ok (.iload_n 2, 1) := by decide +kernel
theorem dX12_whyScar_20 : decode cX12_whyScar 20 = .ok (.invokestatic 259, 3) := by decide +kernel
theorem dX12_whyScar_23 : decode cX12_whyScar 23 = .ok (.ifCond .ne 31, 3) := by decide +kernel
theorem dX12_whyScar_26 : decode cX12_whyScar 26 = .ok (.aload_n 0, 1) := by decide +kernel
theorem dX12_whyScar_27 : decode cX12_whyScar 27 = .ok (.iload_n 1, 1) := by decide +kernel
theorem dX12_whyScar_28 : decode cX12_whyScar 28 = .ok (.bipush 6, 2) := by decide +kernel
theorem dX12_whyScar_30 : decode cX12_whyScar 30 = .ok (.iload_n 2, 1) := by decide +kernel
theorem dX12_whyScar_31 : decode cX12_whyScar 31 = .ok (.iadd, 1) := by decide +kernel
theorem dX12_whyScar_32 : decode cX12_whyScar 32 = .ok (.invokevirtual 265, 3) := by decide +kernel
theorem dX12_whyScar_35 : decode cX12_whyScar 35 = .ok (.ifCond .lt 19, 3) := by decide +kernel
theorem dX12_whyScar_38 : decode cX12_whyScar 38 = .ok (.aload_n 0, 1) := by decide +kernel
theorem dX12_whyScar_39 : decode cX12_whyScar 39 = .ok (.aload_n 0, 1) := by decide +kernel
theorem dX12_whyScar_40 : decode cX12_whyScar 40 = .ok (.iload_n 1, 1) := by decide +kernel
theorem dX12_whyScar_41 : decode cX12_whyScar 41 = .ok (.bipush 6, 2) := by decide +kernel
theorem dX12_whyScar_43 : decode cX12_whyScar 43 = .ok (.iload_n 2, 1) := by decide +kernel
theorem dX12_whyScar_44 : decode cX12_whyScar 44 = .ok (.iadd, 1) := by decide +kernel
theorem dX12_whyScar_45 : decode cX12_whyScar 45 = .ok (.invokevirtual 265, 3) := by decide +kernel
theorem dX12_whyScar_48 : decode cX12_whyScar 48 = .ok (.invokevirtual 294, 3) := by decide +kernel
theorem dX12_whyScar_51 : decode cX12_whyScar 51 = .ok (.ifCond .ne 8, 3) := by decide +kernel
theorem dX12_whyScar_54 : decode cX12_whyScar 54 = .ok (.bipush 6, 2) := by decide +kernel
theorem dX12_whyScar_56 : decode cX12_whyScar 56 = .ok (.goto 4, 3) := by decide +kernel
theorem dX12_whyScar_59 : decode cX12_whyScar 59 = .ok (.iconst 0, 1) := by decide +kernel
theorem dX12_whyScar_60 : decode cX12_whyScar 60 = .ok (.ireturn, 1) := by decide +kernel
theorem dX12_scar_0 : decode cX12_scar 0 = .ok (.aload_n 0, 1) := by decide +kernel
theorem dX12_scar_1 : decode cX12_scar 1 = .ok (.iconst 0, 1) := by decide +kernel
theorem dX12_scar_2 : decode cX12_scar 2 = .ok (.putfield 1, 3) := by decide +kernel
theorem dX12_scar_5 : decode cX12_scar 5 = .ok (.iload_n 2, 1) := by decide +kernel
theorem dX12_scar_6 : decode cX12_scar 6 = .ok (.iconst 0, 1) := by decide +kernel
theorem dX12_scar_7 : decode cX12_scar 7 = .ok (.iconst 1, 1) := by decide +kernel
theorem dX12_scar_8 : decode cX12_scar 8 = .ok (.invokestatic 202, 3) := by decide +kernel
theorem dX12_scar_11 : decode cX12_scar 11 = .ok (.ifCond .ne 5, 3) := by decide +kernel
theorem dX12_scar_14 : decode cX12_scar 14 = .ok (.iconst (-1), 1) := by decide +kernel
theorem dX12_scar_15 : decode cX12_scar 15 = .ok (.ireturn, 1) := by decide +kernel
theorem dX12_scar_16 : decode cX12_scar 16 = .ok (.aload_n 0, 1) := by decide +kernel
theorem dX12_scar_17 : decode cX12_scar 17 = .ok (.iload_n 1, 1) := by decide +kernel
theorem dX12_scar_18 : decode cX12_scar 18 = .ok (.iload_n 2, 1) := by decide +kernel
theorem dX12_scar_19 : decode cX12_scar 19 = .ok (.invokevirtual 342, 3) := by decide +kernel
theorem dX12_scar_22 : decode cX12_scar 22 = .ok (.istore_n 3, 1) := by decide +kernel
theorem dX12_scar_23 : decode cX12_scar 23 = .ok (.iload_n 3, 1) := by decide +kernel
theorem dX12_scar_24 : decode cX12_scar 24 = .ok (.ifCond .le 5, 3) := by decide +kernel
theorem dX12_scar_27 : decode cX12_scar 27 = .ok (.iload_n 3, 1) := by decide +kernel
theorem dX12_scar_28 : decode cX12_scar 28 = .ok (.ireturn, 1) := by decide +kernel
theorem dX12_scar_29 : decode cX12_scar 29 = .ok (.aload_n 0, 1) := by decide +kernel
theorem dX12_scar_30 : decode cX12_scar 30 = .ok (.invokevirtual 329, 3) := by decide +kernel
theorem dX12_scar_33 : decode cX12_scar 33 = .ok (.aload_n 0, 1) := by decide +kernel
theorem dX12_scar_34 : decode cX12_scar 34 = .ok (.iload_n 1, 1) := by decide +kernel
theorem dX12_scar_35 : decode cX12_scar 35 = .ok (.bipush 8, 2) := by decide +kernel
theorem dX12_scar_37 : decode cX12_scar 37 = .ok (.aload_n 0, 1) := by decide +kernel
theorem dX12_scar_38 : decode cX12_scar 38 = .ok (.iload_n 1, 1) := by decide +kernel
theorem dX12_scar_39 : decode cX12_scar 39 = .ok (.bipush 8, 2) := by decide +kernel
theorem dX12_scar_41 : decode cX12_scar 41 = .ok (.invokevirtual 265, 3) := by decide +kernel
theorem dX12_scar_44 : decode cX12_scar 44 = .ok (.iconst 1, 1) := by decide +kernel
theorem dX12_scar_45 : decode cX12_scar 45 = .ok (.iload_n 2, 1) := by decide +kernel
theorem dX12_scar_46 : decode cX12_scar 46 = .ok (.ishl, 1) := by decide +kernel
theorem dX12_scar_47 : decode cX12_scar 47 = .ok (.ior, 1) := by decide +kernel
theorem dX12_scar_48 : decode cX12_scar 48 = .ok (.invokevirtual 322, 3) := by decide +kernel
theorem dX12_scar_51 : decode cX12_scar 51 = .ok (.iconst 0, 1) := by decide +kernel
theorem dX12_scar_52 : decode cX12_scar 52 = .ok (.ireturn, 1) := by decide +kernel
theorem dX12_isRingDeal_0 : decode cX12_isRingDeal 0 = .ok (.aload_n 0, 1) := by decide +kernel
theorem dX12_isRingDeal_1 : decode cX12_isRingDeal 1 = .ok (.iload_n 1, 1) := by decide +kernel
theorem dX12_isRingDeal_2 : decode cX12_isRingDeal 2 = .ok (.invokevirtual 278, 3) := by decide +kernel
theorem dX12_isRingDeal_5 : decode cX12_isRingDeal 5 = .ok (.ifCond .eq 24, 3) := by decide +kernel
theorem dX12_isRingDeal_8 : decode cX12_isRingDeal 8 = .ok (.aload_n 0, 1) := by decide +kernel
theorem dX12_isRingDeal_9 : decode cX12_isRingDeal 9 = .ok (.iload_n 1, 1) := by decide +kernel
theorem dX12_isRingDeal_10 : decode cX12_isRingDeal 10 = .ok (.invokevirtual 272, 3) := by decide +kernel
theorem dX12_isRingDeal_13 : decode cX12_isRingDeal 13 = .ok (.ifCond .eq 12, 3) := by decide +kernel
theorem dX12_isRingDeal_16 : decode cX12_isRingDeal 16 = .ok (.aload_n 0, 1) := by decide +kernel
theorem dX12_isRingDeal_17 : decode cX12_isRingDeal 17 = .ok (.iload_n 1, 1) := by decide +kernel
theorem dX12_isRingDeal_18 : decode cX12_isRingDeal 18 = .ok (.invokevirtual 272, 3) := by decide +kernel
theorem dX12_isRingDeal_21 : decode cX12_isRingDeal 21 = .ok (.iconst 4, 1) := by decide +kernel
theorem dX12_isRingDeal_22 : decode cX12_isRingDeal 22 = .ok (.if_icmp .ne 7, 3) := by decide +kernel
theorem dX12_isRingDeal_25 : decode cX12_isRingDeal 25 = .ok (.iconst 1, 1) := by decide +kernel
theorem dX12_isRingDeal_26 : decode cX12_isRingDeal 26 = .ok (.goto 4, 3) := by decide +kernel
theorem dX12_isRingDeal_29 : decode cX12_isRingDeal 29 = .ok (.iconst 0, 1) := by decide +kernel
theorem dX12_isRingDeal_30 : decode cX12_isRingDeal 30 = .ok (.ireturn, 1) := by decide +kernel
theorem dX12_leastOf_0 : decode cX12_leastOf 0 = .ok (.ldc_w 345, 3) := by decide +kernel
theorem dX12_leastOf_3 : decode cX12_leastOf 3 = .ok (.istore_n 3, 1) := by decide +kernel
theorem dX12_leastOf_4 : decode cX12_leastOf 4 = .ok (.iconst 0, 1) := by decide +kernel
theorem dX12_leastOf_5 : decode cX12_leastOf 5 = .ok (.istore 4, 2) := by decide +kernel
theorem dX12_leastOf_7 : decode cX12_leastOf 7 = .ok (.iload 4, 2) := by decide +kernel
theorem dX12_leastOf_9 : decode cX12_leastOf 9 = .ok (.iload_n 2, 1) := by decide +kernel
theorem dX12_leastOf_10 : decode cX12_leastOf 10 = .ok (.if_icmp .ge 36, 3) := by decide +kernel
theorem dX12_leastOf_13 : decode cX12_leastOf 13 = .ok (.aload_n 0, 1) := by decide +kernel
theorem dX12_leastOf_14 : decode cX12_leastOf 14 = .ok (.aload_n 1, 1) := by decide +kernel
theorem dX12_leastOf_15 : decode cX12_leastOf 15 = .ok (.iload 4, 2) := by decide +kernel
theorem dX12_leastOf_17 : decode cX12_leastOf 17 = .ok (.iaload, 1) := by decide +kernel
theorem dX12_leastOf_18 : decode cX12_leastOf 18 = .ok (.iconst 2, 1) := by decide +kernel
theorem dX12_leastOf_19 : decode cX12_leastOf 19 = .ok (.invokevirtual 265, 3) := by decide +kernel
theorem dX12_leastOf_22 : decode cX12_leastOf 22 = .ok (.iload_n 3, 1) := by decide +kernel
theorem dX12_leastOf_23 : decode cX12_leastOf 23 = .ok (.if_icmp .ge 15, 3) := by decide +kernel
theorem dX12_leastOf_26 : decode cX12_leastOf 26 = .ok (.aload_n 0, 1) := by decide +kernel
theorem dX12_leastOf_27 : decode cX12_leastOf 27 = .ok (.aload_n 1, 1) := by decide +kernel
theorem dX12_leastOf_28 : decode cX12_leastOf 28 = .ok (.iload 4, 2) := by decide +kernel
theorem dX12_leastOf_30 : decode cX12_leastOf 30 = .ok (.iaload, 1) := by decide +kernel
theorem dX12_leastOf_31 : decode cX12_leastOf 31 = .ok (.iconst 2, 1) := by decide +kernel
theorem dX12_leastOf_32 : decode cX12_leastOf 32 = .ok (.invokevirtual 265, 3) := by decide +kernel
theorem dX12_leastOf_35 : decode cX12_leastOf 35 = .ok (.goto 4, 3) := by decide +kernel
theorem dX12_leastOf_38 : decode cX12_leastOf 38 = .ok (.iload_n 3, 1) := by decide +kernel
theorem dX12_leastOf_39 : decode cX12_leastOf 39 = .ok (.istore_n 3, 1) := by decide +kernel
theorem dX12_leastOf_40 : decode cX12_leastOf 40 = .ok (.iinc 4 1, 3) := by decide +kernel
theorem dX12_leastOf_43 : decode cX12_leastOf 43 = .ok (.goto (-36), 3) := by decide +kernel
theorem dX12_leastOf_46 : decode cX12_leastOf 46 = .ok (.iload_n 3, 1) := by decide +kernel
theorem dX12_leastOf_47 : decode cX12_leastOf 47 = .ok (.ireturn, 1) := by decide +kernel
theorem dX12_dotOf_0 : decode cX12_dotOf 0 = .ok (.aload_n 0, 1) := by decide +kernel
theorem dX12_dotOf_1 : decode cX12_dotOf 1 = .ok (.getfield 33, 3) := by decide +kernel
theorem dX12_dotOf_4 : decode cX12_dotOf 4 = .ok (.iconst 3, 1) := by decide +kernel
theorem dX12_dotOf_5 : decode cX12_dotOf 5 = .ok (.iaload, 1) := by decide +kernel
theorem dX12_dotOf_6 : decode cX12_dotOf 6 = .ok (.aload_n 0, 1) := by decide +kernel
theorem dX12_dotOf_7 : decode cX12_dotOf 7 = .ok (.iload_n 1, 1) := by decide +kernel
theorem dX12_dotOf_8 : decode cX12_dotOf 8 = .ok (.invokevirtual 268, 3) := by decide +kernel
theorem dX12_dotOf_11 : decode cX12_dotOf 11 = .ok (.if_icmp .ge 12, 3) := by decide +kernel
theorem dX12_dotOf_14 : decode cX12_dotOf 14 = .ok (.aload_n 0, 1) := by decide +kernel
theorem dX12_dotOf_15 : decode cX12_dotOf 15 = .ok (.getfield 33, 3) := by decide +kernel
theorem dX12_dotOf_18 : decode cX12_dotOf 18 = .ok (.iconst 3, 1) := by decide +kernel
theorem dX12_dotOf_19 : decode cX12_dotOf 19 = .ok (.iaload, 1) := by decide +kernel
theorem dX12_dotOf_20 : decode cX12_dotOf 20 = .ok (.goto 8, 3) := by decide +kernel
theorem dX12_dotOf_23 : decode cX12_dotOf 23 = .ok (.aload_n 0, 1) := by decide +kernel
theorem dX12_dotOf_24 : decode cX12_dotOf 24 = .ok (.iload_n 1, 1) := by decide +kernel
theorem dX12_dotOf_25 : decode cX12_dotOf 25 = .ok (.invokevirtual 268, 3) := by decide +kernel
theorem dX12_dotOf_28 : decode cX12_dotOf 28 = .ok (.ireturn, 1) := by decide +kernel
theorem dX12_freesOf_0 : decode cX12_freesOf 0 = .ok (.aload_n 0, 1) := by decide +kernel
theorem dX12_freesOf_1 : decode cX12_freesOf 1 = .ok (.aload_n 0, 1) := by decide +kernel
theorem dX12_freesOf_2 : decode cX12_freesOf 2 = .ok (.getfield 53, 3) := by decide +kernel
theorem dX12_freesOf_5 : decode cX12_freesOf 5 = .ok (.iload_n 1, 1) := by decide +kernel
theorem dX12_freesOf_6 : decode cX12_freesOf 6 = .ok (.invokevirtual 346, 3) := by decide +kernel
theorem dX12_freesOf_9 : decode cX12_freesOf 9 = .ok (.istore_n 2, 1) := by decide +kernel
theorem dX12_freesOf_10 : decode cX12_freesOf 10 = .ok (.iconst 0, 1) := by decide +kernel
theorem dX12_freesOf_11 : decode cX12_freesOf 11 = .ok (.istore_n 3, 1) := by decide +kernel
theorem dX12_freesOf_12 : decode cX12_freesOf 12 = .ok (.iconst 0, 1) := by decide +kernel
theorem dX12_freesOf_13 : decode cX12_freesOf 13 = .ok (.istore 4, 2) := by decide +kernel
theorem dX12_freesOf_15 : decode cX12_freesOf 15 = .ok (.iload 4, 2) := by decide +kernel
theorem dX12_freesOf_17 : decode cX12_freesOf 17 = .ok (.iload_n 1, 1) := by decide +kernel
theorem dX12_freesOf_18 : decode cX12_freesOf 18 = .ok (.if_icmp .ge 96, 3) := by decide +kernel
theorem dX12_freesOf_21 : decode cX12_freesOf 21 = .ok (.aload_n 0, 1) := by decide +kernel
theorem dX12_freesOf_22 : decode cX12_freesOf 22 = .ok (.aload_n 0, 1) := by decide +kernel
theorem dX12_freesOf_23 : decode cX12_freesOf 23 = .ok (.getfield 53, 3) := by decide +kernel
theorem dX12_freesOf_26 : decode cX12_freesOf 26 = .ok (.iload 4, 2) := by decide +kernel
theorem dX12_freesOf_28 : decode cX12_freesOf 28 = .ok (.iaload, 1) := by decide +kernel
theorem dX12_freesOf_29 : decode cX12_freesOf 29 = .ok (.iconst 2, 1) := by decide +kernel
theorem dX12_freesOf_30 : decode cX12_freesOf 30 = .ok (.invokevirtual 265, 3) := by decide +kernel
theorem dX12_freesOf_33 : decode cX12_freesOf 33 = .ok (.iload_n 2, 1) := by decide +kernel
theorem dX12_freesOf_34 : decode cX12_freesOf 34 = .ok (.if_icmp .eq 6, 3) := by decide +kernel
theorem dX12_freesOf_37 : decode cX12_freesOf 37 = .ok (.goto 71, 3) := by decide +kernel
theorem dX12_freesOf_40 : decode cX12_freesOf 40 = .ok (.iconst 0, 1) := by decide +kernel
theorem dX12_freesOf_41 : decode cX12_freesOf 41 = .ok (.istore 5, 2) := by decide +kernel
theorem dX12_freesOf_43 : decode cX12_freesOf 43 = .ok (.iload 5, 2) := by decide +kernel
theorem dX12_freesOf_45 : decode cX12_freesOf 45 = .ok (.iconst 2, 1) := by decide +kernel
theorem dX12_freesOf_46 : decode cX12_freesOf 46 = .ok (.if_icmp .ge 62, 3) := by decide +kernel
theorem dX12_freesOf_49 : decode cX12_freesOf 49 = .ok (.iload_n 3, 1) := by decide +kernel
theorem dX12_freesOf_50 : decode cX12_freesOf 50 = .ok (.aload_n 0, 1) := by decide +kernel
theorem dX12_freesOf_51 : decode cX12_freesOf 51 = .ok (.aload_n 0, 1) := by decide +kernel
theorem dX12_freesOf_52 : decode cX12_freesOf 52 = .ok (.aload_n 0, 1) := by decide +kernel
theorem dX12_freesOf_53 : decode cX12_freesOf 53 = .ok (.getfield 53, 3) := by decide +kernel
theorem dX12_freesOf_56 : decode cX12_freesOf 56 = .ok (.iload 4, 2) := by decide +kernel
theorem dX12_freesOf_58 : decode cX12_freesOf 58 = .ok (.iaload, 1) := by decide +kernel
theorem dX12_freesOf_59 : decode cX12_freesOf 59 = .ok (.bipush 6, 2) := by decide +kernel
theorem dX12_freesOf_61 : decode cX12_freesOf 61 = .ok (.iload 5, 2) := by decide +kernel
theorem dX12_freesOf_63 : decode cX12_freesOf 63 = .ok (.iadd, 1) := by decide +kernel
theorem dX12_freesOf_64 : decode cX12_freesOf 64 = .ok (.invokevirtual 265, 3) := by decide +kernel
theorem dX12_freesOf_67 : decode cX12_freesOf 67 = .ok (.invokevirtual 294, 3) := by decide +kernel
theorem dX12_freesOf_70 : decode cX12_freesOf 70 = .ok (.ifCond .eq 29, 3) := by decide +kernel
theorem dX12_freesOf_73 : decode cX12_freesOf 73 = .ok (.aload_n 0, 1) := by decide +kernel
theorem dX12_freesOf_74 : decode cX12_freesOf 74 = .ok (.aload_n 0, 1) := by decide +kernel
theorem dX12_freesOf_75 : decode cX12_freesOf 75 = .ok (.getfield 53, 3) := by decide +kernel
theorem dX12_freesOf_78 : decode cX12_freesOf 78 = .ok (.iload 4, 2) := by decide +kernel
theorem dX12_freesOf_80 : decode cX12_freesOf 80 = .ok (.iaload, 1) := by decide +kernel
theorem dX12_freesOf_81 : decode cX12_freesOf 81 = .ok (.invokevirtual 268, 3) := by decide +kernel
theorem dX12_freesOf_84 : decode cX12_freesOf 84 = .ok (.aload_n 0, 1) := by decide +kernel
theorem dX12_freesOf_85 : decode cX12_freesOf 85 = .ok (.aload_n 0, 1) := by decide +kernel
theorem dX12_freesOf_86 : decode cX12_freesOf 86 = .ok (.getfield 53, 3) := by decide +kernel
theorem dX12_freesOf_89 : decode cX12_freesOf 89 = .ok (.iload 4, 2) := by decide +kernel
theorem dX12_freesOf_91 : decode cX12_freesOf 91 = .ok (.iaload, 1) := by decide +kernel
theorem dX12_freesOf_92 : decode cX12_freesOf 92 = .ok (.invokevirtual 350, 3) := by decide +kernel
theorem dX12_freesOf_95 : decode cX12_freesOf 95 = .ok (.isub, 1) := by decide +kernel
theorem dX12_freesOf_96 : decode cX12_freesOf 96 = .ok (.goto 4, 3) := by decide +kernel
theorem dX12_freesOf_99 : decode cX12_freesOf 99 = .ok (.iconst 0, 1) := by decide +kernel
theorem dX12_freesOf_100 : decode cX12_freesOf 100 = .ok (.iadd, 1) := by decide +kernel
theorem dX12_freesOf_101 : decode cX12_freesOf 101 = .ok (.istore_n 3, 1) := by decide +kernel
theorem dX12_freesOf_102 : decode cX12_freesOf 102 = .ok (.iinc 5 1, 3) := by decide +kernel
theorem dX12_freesOf_105 : decode cX12_freesOf 105 = .ok (.goto (-62), 3) := by decide +kernel
theorem dX12_freesOf_108 : decode cX12_freesOf 108 = .ok (.iinc 4 1, 3) := by decide +kernel
theorem dX12_freesOf_111 : decode cX12_freesOf 111 = .ok (.goto (-96), 3) := by decide +kernel
theorem dX12_freesOf_114 : decode cX12_freesOf 114 = .ok (.iload_n 3, 1) := by decide +kernel
theorem dX12_freesOf_115 : decode cX12_freesOf 115 = .ok (.ireturn, 1) := by decide +kernel
theorem dX12_canRing_0 : decode cX12_canRing 0 = .ok (.aload_n 0, 1) := by decide +kernel
theorem dX12_canRing_1 : decode cX12_canRing 1 = .ok (.aload_n 0, 1) := by decide +kernel
theorem dX12_canRing_2 : decode cX12_canRing 2 = .ok (.getfield 53, 3) := by decide +kernel
theorem dX12_canRing_5 : decode cX12_canRing 5 = .ok (.iload_n 1, 1) := by decide +kernel
theorem dX12_canRing_6 : decode cX12_canRing 6 = .ok (.iaload, 1) := by decide +kernel
theorem dX12_canRing_7 : decode cX12_canRing 7 = .ok (.invokevirtual 353, 3) := by decide +kernel
theorem dX12_canRing_10 : decode cX12_canRing 10 = .ok (.ifCond .eq 28, 3) := by decide +kernel
theorem dX12_canRing_13 : decode cX12_canRing 13 = .ok (.aload_n 0, 1) := by decide +kernel
theorem dX12_canRing_14 : decode cX12_canRing 14 = .ok (.aload_n 0, 1) := by decide +kernel
theorem dX12_canRing_15 : decode cX12_canRing 15 = .ok (.getfield 53, 3) := by decide +kernel
theorem dX12_canRing_18 : decode cX12_canRing 18 = .ok (.iload_n 1, 1) := by decide +kernel
theorem dX12_canRing_19 : decode cX12_canRing 19 = .ok (.iaload, 1) := by decide +kernel
theorem dX12_canRing_20 : decode cX12_canRing 20 = .ok (.iconst 0, 1) := by decide +kernel
theorem dX12_canRing_21 : decode cX12_canRing 21 = .ok (.invokevirtual 265, 3) := by decide +kernel
theorem dX12_canRing_24 : decode cX12_canRing 24 = .ok (.aload_n 0, 1) := by decide +kernel
theorem dX12_canRing_25 : decode cX12_canRing 25 = .ok (.aload_n 0, 1) := by decide +kernel
theorem dX12_canRing_26 : decode cX12_canRing 26 = .ok (.getfield 53, 3) := by decide +kernel
theorem dX12_canRing_29 : decode cX12_canRing 29 = .ok (.iload_n 1, 1) := by decide +kernel
theorem dX12_canRing_30 : decode cX12_canRing 30 = .ok (.iaload, 1) := by decide +kernel
theorem dX12_canRing_31 : decode cX12_canRing 31 = .ok (.iconst 1, 1) := by decide +kernel
theorem dX12_canRing_32 : decode cX12_canRing 32 = .ok (.invokevirtual 265, 3) := by decide +kernel
theorem dX12_canRing_35 : decode cX12_canRing 35 = .ok (.if_icmp .ne 5, 3) := by decide +kernel
theorem dX12_canRing_38 : decode cX12_canRing 38 = .ok (.iconst 0, 1) := by decide +kernel
theorem dX12_canRing_39 : decode cX12_canRing 39 = .ok (.ireturn, 1) := by decide +kernel
theorem dX12_canRing_40 : decode cX12_canRing 40 = .ok (.iload_n 1, 1) := by decide +kernel
theorem dX12_canRing_41 : decode cX12_canRing 41 = .ok (.ifCond .ne 5, 3) := by decide +kernel
theorem dX12_canRing_44 : decode cX12_canRing 44 = .ok (.iconst 1, 1) := by decide +kernel
theorem dX12_canRing_45 : decode cX12_canRing 45 = .ok (.ireturn, 1) := by decide +kernel
theorem dX12_canRing_46 : decode cX12_canRing 46 = .ok (.aload_n 0, 1) := by decide +kernel
theorem dX12_canRing_47 : decode cX12_canRing 47 = .ok (.aload_n 0, 1) := by decide +kernel
theorem dX12_canRing_48 : decode cX12_canRing 48 = .ok (.getfield 53, 3) := by decide +kernel
theorem dX12_canRing_51 : decode cX12_canRing 51 = .ok (.iload_n 1, 1) := by decide +kernel
theorem dX12_canRing_52 : decode cX12_canRing 52 = .ok (.iaload, 1) := by decide +kernel
theorem dX12_canRing_53 : decode cX12_canRing 53 = .ok (.iconst 0, 1) := by decide +kernel
theorem dX12_canRing_54 : decode cX12_canRing 54 = .ok (.invokevirtual 265, 3) := by decide +kernel
theorem dX12_canRing_57 : decode cX12_canRing 57 = .ok (.aload_n 0, 1) := by decide +kernel
theorem dX12_canRing_58 : decode cX12_canRing 58 = .ok (.aload_n 0, 1) := by decide +kernel
theorem dX12_canRing_59 : decode cX12_canRing 59 = .ok (.getfield 53, 3) := by decide +kernel
theorem dX12_canRing_62 : decode cX12_canRing 62 = .ok (.iload_n 1, 1) := by decide +kernel
theorem dX12_canRing_63 : decode cX12_canRing 63 = .ok (.iconst 1, 1) := by decide +kernel
theorem dX12_canRing_64 : decode cX12_canRing 64 = .ok (.isub, 1) := by decide +kernel
theorem dX12_canRing_65 : decode cX12_canRing 65 = .ok (.iaload, 1) := by decide +kernel
theorem dX12_canRing_66 : decode cX12_canRing 66 = .ok (.iconst 1, 1) := by decide +kernel
theorem dX12_canRing_67 : decode cX12_canRing 67 = .ok (.invokevirtual 265, 3) := by decide +kernel
theorem dX12_canRing_70 : decode cX12_canRing 70 = .ok (.if_icmp .eq 5, 3) := by decide +kernel
theorem dX12_canRing_73 : decode cX12_canRing 73 = .ok (.iconst 0, 1) := by decide +kernel
theorem dX12_canRing_74 : decode cX12_canRing 74 = .ok (.ireturn, 1) := by decide +kernel
theorem dX12_canRing_75 : decode cX12_canRing 75 = .ok (.iconst 0, 1) := by decide +kernel
theorem dX12_canRing_76 : decode cX12_canRing 76 = .ok (.istore_n 2, 1) := by decide +kernel
theorem dX12_canRing_77 : decode cX12_canRing 77 = .ok (.iload_n 2, 1) := by decide +kernel
theorem dX12_canRing_78 : decode cX12_canRing 78 = .ok (.iload_n 1, 1) := by decide +kernel
theorem dX12_canRing_79 : decode cX12_canRing 79 = .ok (.if_icmp .ge 36, 3) := by decide +kernel
theorem dX12_canRing_82 : decode cX12_canRing 82 = .ok (.aload_n 0, 1) := by decide +kernel
theorem dX12_canRing_83 : decode cX12_canRing 83 = .ok (.aload_n 0, 1) := by decide +kernel
theorem dX12_canRing_84 : decode cX12_canRing 84 = .ok (.getfield 53, 3) := by decide +kernel
theorem dX12_canRing_87 : decode cX12_canRing 87 = .ok (.iload_n 2, 1) := by decide +kernel
theorem dX12_canRing_88 : decode cX12_canRing 88 = .ok (.iaload, 1) := by decide +kernel
theorem dX12_canRing_89 : decode cX12_canRing 89 = .ok (.iconst 0, 1) := by decide +kernel
theorem dX12_canRing_90 : decode cX12_canRing 90 = .ok (.invokevirtual 265, 3) := by decide +kernel
theorem dX12_canRing_93 : decode cX12_canRing 93 = .ok (.aload_n 0, 1) := by decide +kernel
theorem dX12_canRing_94 : decode cX12_canRing 94 = .ok (.aload_n 0, 1) := by decide +kernel
theorem dX12_canRing_95 : decode cX12_canRing 95 = .ok (.getfield 53, 3) := by decide +kernel
theorem dX12_canRing_98 : decode cX12_canRing 98 = .ok (.iload_n 1, 1) := by decide +kernel
theorem dX12_canRing_99 : decode cX12_canRing 99 = .ok (.iaload, 1) := by decide +kernel
theorem dX12_canRing_100 : decode cX12_canRing 100 = .ok (.iconst 0, 1) := by decide +kernel
theorem dX12_canRing_101 : decode cX12_canRing 101 = .ok (.invokevirtual 265, 3) := by decide +kernel
theorem dX12_canRing_104 : decode cX12_canRing 104 = .ok (.if_icmp .ne 5, 3) := by decide +kernel
theorem dX12_canRing_107 : decode cX12_canRing 107 = .ok (.iconst 0, 1) := by decide +kernel
theorem dX12_canRing_108 : decode cX12_canRing 108 = .ok (.ireturn, 1) := by decide +kernel
theorem dX12_canRing_109 : decode cX12_canRing 109 = .ok (.iinc 2 1, 3) := by decide +kernel
theorem dX12_canRing_112 : decode cX12_canRing 112 = .ok (.goto (-35), 3) := by decide +kernel
theorem dX12_canRing_115 : decode cX12_canRing 115 = .ok (.iconst 1, 1) := by decide +kernel
theorem dX12_canRing_116 : decode cX12_canRing 116 = .ok (.ireturn, 1) := by decide +kernel
theorem dX12_bestOf_0 : decode cX12_bestOf 0 = .ok (.iconst (-1), 1) := by decide +kernel
theorem dX12_bestOf_1 : decode cX12_bestOf 1 = .ok (.istore_n 2, 1) := by decide +kernel
theorem dX12_bestOf_2 : decode cX12_bestOf 2 = .ok (.iconst 2, 1) := by decide +kernel
theorem dX12_bestOf_3 : decode cX12_bestOf 3 = .ok (.istore_n 3, 1) := by decide +kernel
theorem dX12_bestOf_4 : decode cX12_bestOf 4 = .ok (.iload_n 3, 1) := by decide +kernel
theorem dX12_bestOf_5 : decode cX12_bestOf 5 = .ok (.iconst 5, 1) := by decide +kernel
theorem dX12_bestOf_6 : decode cX12_bestOf 6 = .ok (.if_icmp .gt 240, 3) := by decide +kernel
theorem dX12_bestOf_9 : decode cX12_bestOf 9 = .ok (.iconst 0, 1) := by decide +kernel
theorem dX12_bestOf_10 : decode cX12_bestOf 10 = .ok (.istore 4, 2) := by decide +kernel
theorem dX12_bestOf_12 : decode cX12_bestOf 12 = .ok (.aload_n 0, 1) := by decide +kernel
theorem dX12_bestOf_13 : decode cX12_bestOf 13 = .ok (.getfield 53, 3) := by decide +kernel
theorem dX12_bestOf_16 : decode cX12_bestOf 16 = .ok (.iconst 0, 1) := by decide +kernel
theorem dX12_bestOf_17 : decode cX12_bestOf 17 = .ok (.iconst (-1), 1) := by decide +kernel
theorem dX12_bestOf_18 : decode cX12_bestOf 18 = .ok (.iastore, 1) := by decide +kernel
theorem dX12_bestOf_19 : decode cX12_bestOf 19 = .ok (.iload 4, 2) := by decide +kernel
theorem dX12_bestOf_21 : decode cX12_bestOf 21 = .ok (.ifCond .lt 219, 3) := by decide +kernel
theorem dX12_bestOf_24 : decode cX12_bestOf 24 = .ok (.aload_n 0, 1) := by decide +kernel
theorem dX12_bestOf_25 : decode cX12_bestOf 25 = .ok (.getfield 53, 3) := by decide +kernel
theorem dX12_bestOf_28 : decode cX12_bestOf 28 = .ok (.iload 4, 2) := by decide +kernel
theorem dX12_bestOf_30 : decode cX12_bestOf 30 = .ok (.dup2, 1) := by decide +kernel
theorem dX12_bestOf_31 : decode cX12_bestOf 31 = .ok (.iaload, 1) := by decide +kernel
theorem dX12_bestOf_32 : decode cX12_bestOf 32 = .ok (.iconst 1, 1) := by decide +kernel
theorem dX12_bestOf_33 : decode cX12_bestOf 33 = .ok (.iadd, 1) := by decide +kernel
theorem dX12_bestOf_34 : decode cX12_bestOf 34 = .ok (.iastore, 1) := by decide +kernel
theorem dX12_bestOf_35 : decode cX12_bestOf 35 = .ok (.aload_n 0, 1) := by decide +kernel
theorem dX12_bestOf_36 : decode cX12_bestOf 36 = .ok (.getfield 53, 3) := by decide +kernel
theorem dX12_bestOf_39 : decode cX12_bestOf 39 = .ok (.iload 4, 2) := by decide +kernel
theorem dX12_bestOf_41 : decode cX12_bestOf 41 = .ok (.iaload, 1) := by decide +kernel
theorem dX12_bestOf_42 : decode cX12_bestOf 42 = .ok (.aload_n 0, 1) := by decide +kernel
theorem dX12_bestOf_43 : decode cX12_bestOf 43 = .ok (.getfield 33, 3) := by decide +kernel
theorem dX12_bestOf_46 : decode cX12_bestOf 46 = .ok (.bipush 34, 2) := by decide +kernel
theorem dX12_bestOf_48 : decode cX12_bestOf 48 = .ok (.iaload, 1) := by decide +kernel
theorem dX12_bestOf_49 : decode cX12_bestOf 49 = .ok (.if_icmp .lt 9, 3) := by decide +kernel
theorem dX12_bestOf_52 : decode cX12_bestOf 52 = .ok (.iinc 4 (-1), 3) := by decide +kernel
theorem dX12_bestOf_55 : decode cX12_bestOf 55 = .ok (.goto (-36), 3) := by decide +kernel
theorem dX12_bestOf_58 : decode cX12_bestOf 58 = .ok (.aload_n 0, 1) := by decide +kernel
theorem dX12_bestOf_59 : decode cX12_bestOf 59 = .ok (.iload 4, 2) := by decide +kernel
theorem dX12_bestOf_61 : decode cX12_bestOf 61 = .ok (.invokevirtual 356, 3) := by decide +kernel
theorem dX12_bestOf_64 : decode cX12_bestOf 64 = .ok (.ifCond .ne 6, 3) := by decide +kernel
theorem dX12_bestOf_67 : decode cX12_bestOf 67 = .ok (.goto (-48), 3) := by decide +kernel
theorem dX12_bestOf_70 : decode cX12_bestOf 70 = .ok (.iload 4, 2) := by decide +kernel
theorem dX12_bestOf_72 : decode cX12_bestOf 72 = .ok (.iload_n 3, 1) := by decide +kernel
theorem dX12_bestOf_73 : decode cX12_bestOf 73 = .ok (.iconst 1, 1) := by decide +kernel
theorem dX12_bestOf_74 : decode cX12_bestOf 74 = .ok (.isub, 1) := by decide +kernel
theorem dX12_bestOf_75 : decode cX12_bestOf 75 = .ok (.if_icmp .ge 22, 3) := by decide +kernel
theorem dX12_bestOf_78 : decode cX12_bestOf 78 = .ok (.iinc 4 1, 3) := by decide +kernel
theorem dX12_bestOf_81 : decode cX12_bestOf 81 = .ok (.aload_n 0, 1) := by decide +kernel
theorem dX12_bestOf_82 : decode cX12_bestOf 82 = .ok (.getfield 53, 3) := by decide +kernel
theorem dX12_bestOf_85 : decode cX12_bestOf 85 = .ok (.iload 4, 2) := by decide +kernel
theorem dX12_bestOf_87 : decode cX12_bestOf 87 = .ok (.aload_n 0, 1) := by decide +kernel
theorem dX12_bestOf_88 : decode cX12_bestOf 88 = .ok (.getfield 53, 3) := by decide +kernel
theorem dX12_bestOf_91 : decode cX12_bestOf 91 = .ok (.iconst 0, 1) := by decide +kernel
theorem dX12_bestOf_92 : decode cX12_bestOf 92 = .ok (.iaload, 1) := by decide +kernel
theorem dX12_bestOf_93 : decode cX12_bestOf 93 = .ok (.iastore, 1) := by decide +kernel
theorem dX12_bestOf_94 : decode cX12_bestOf 94 = .ok (.goto (-75), 3) := by decide +kernel
theorem dX12_bestOf_97 : decode cX12_bestOf 97 = .ok (.aload_n 0, 1) := by decide +kernel
theorem dX12_bestOf_98 : decode cX12_bestOf 98 = .ok (.aload_n 0, 1) := by decide +kernel
theorem dX12_bestOf_99 : decode cX12_bestOf 99 = .ok (.getfield 53, 3) := by decide +kernel
theorem dX12_bestOf_102 : decode cX12_bestOf 102 = .ok (.iload 4, 2) := by decide +kernel
theorem dX12_bestOf_104 : decode cX12_bestOf 104 = .ok (.iaload, 1) := by decide +kernel
theorem dX12_bestOf_105 : decode cX12_bestOf 105 = .ok (.iconst 1, 1) := by decide +kernel
theorem dX12_bestOf_106 : decode cX12_bestOf 106 = .ok (.invokevirtual 265, 3) := by decide +kernel
theorem dX12_bestOf_109 : decode cX12_bestOf 109 = .ok (.aload_n 0, 1) := by decide +kernel
theorem dX12_bestOf_110 : decode cX12_bestOf 110 = .ok (.aload_n 0, 1) := by decide +kernel
theorem dX12_bestOf_111 : decode cX12_bestOf 111 = .ok (.getfield 53, 3) := by decide +kernel
theorem dX12_bestOf_114 : decode cX12_bestOf 114 = .ok (.iconst 0, 1) := by decide +kernel
theorem dX12_bestOf_115 : decode cX12_bestOf 115 = .ok (.iaload, 1) := by decide +kernel
theorem dX12_bestOf_116 : decode cX12_bestOf 116 = .ok (.iconst 0, 1) := by decide +kernel
theorem dX12_bestOf_117 : decode cX12_bestOf 117 = .ok (.invokevirtual 265, 3) := by decide +kernel
theorem dX12_bestOf_120 : decode cX12_bestOf 120 = .ok (.if_icmp .eq 6, 3) := by decide +kernel
theorem dX12_bestOf_123 : decode cX12_bestOf 123 = .ok (.goto (-104), 3) := by decide +kernel
theorem dX12_bestOf_126 : decode cX12_bestOf 126 = .ok (.iload_n 1, 1) := by decide +kernel
theorem dX12_bestOf_127 : decode cX12_bestOf 127 = .ok (.ifCond .ge 7, 3) := by decide +kernel
theorem dX12_bestOf_130 : decode cX12_bestOf 130 = .ok (.iconst 1, 1) := by decide +kernel
theorem dX12_bestOf_131 : decode cX12_bestOf 131 = .ok (.goto 4, 3) := by decide +kernel
theorem dX12_bestOf_134 : decode cX12_bestOf 134 = .ok (.iconst 0, 1) := by decide +kernel
theorem dX12_bestOf_135 : decode cX12_bestOf 135 = .ok (.istore 5, 2) := by decide +kernel
theorem dX12_bestOf_137 : decode cX12_bestOf 137 = .ok (.iconst 0, 1) := by decide +kernel
theorem dX12_bestOf_138 : decode cX12_bestOf 138 = .ok (.istore 6, 2) := by decide +kernel
theorem dX12_bestOf_140 : decode cX12_bestOf 140 = .ok (.iload 6, 2) := by decide +kernel
theorem dX12_bestOf_142 : decode cX12_bestOf 142 = .ok (.iload_n 3, 1) := by decide +kernel
theorem dX12_bestOf_143 : decode cX12_bestOf 143 = .ok (.if_icmp .ge 32, 3) := by decide +kernel
theorem dX12_bestOf_146 : decode cX12_bestOf 146 = .ok (.iload 5, 2) := by decide +kernel
theorem dX12_bestOf_148 : decode cX12_bestOf 148 = .ok (.ifCond .ne 14, 3) := by decide +kernel
theorem dX12_bestOf_151 : decode cX12_bestOf 151 = .ok (.aload_n 0, 1) := by decide +kernel
theorem dX12_bestOf_152 : decode cX12_bestOf 152 = .ok (.getfield 53, 3) := by decide +kernel
theorem dX12_bestOf_155 : decode cX12_bestOf 155 = .ok (.iload 6, 2) := by decide +kernel
theorem dX12_bestOf_157 : decode cX12_bestOf 157 = .ok (.iaload, 1) := by decide +kernel
theorem dX12_bestOf_158 : decode cX12_bestOf 158 = .ok (.iload_n 1, 1) := by decide +kernel
theorem dX12_bestOf_159 : decode cX12_bestOf 159 = .ok (.if_icmp .ne 7, 3) := by decide +kernel
theorem dX12_bestOf_162 : decode cX12_bestOf 162 = .ok (.iconst 1, 1) := by decide +kernel
theorem dX12_bestOf_163 : decode cX12_bestOf 163 = .ok (.goto 4, 3) := by decide +kernel
theorem dX12_bestOf_166 : decode cX12_bestOf 166 = .ok (.iconst 0, 1) := by decide +kernel
theorem dX12_bestOf_167 : decode cX12_bestOf 167 = .ok (.istore 5, 2) := by decide +kernel
theorem dX12_bestOf_169 : decode cX12_bestOf 169 = .ok (.iinc 6 1, 3) := by decide +kernel
theorem dX12_bestOf_172 : decode cX12_bestOf 172 = .ok (.goto (-32), 3) := by decide +kernel
theorem dX12_bestOf_175 : decode cX12_bestOf 175 = .ok (.iload 5, 2) := by decide +kernel
theorem dX12_bestOf_177 : decode cX12_bestOf 177 = .ok (.ifCond .eq 11, 3) := by decide +kernel
theorem dX12_bestOf_180 : decode cX12_bestOf 180 = .ok (.aload_n 0, 1) := by decide +kernel
theorem dX12_bestOf_181 : decode cX12_bestOf 181 = .ok (.iload_n 3, 1) := by decide +kernel
theorem dX12_bestOf_182 : decode cX12_bestOf 182 = .ok (.invokevirtual 359, 3) := by decide +kernel
theorem dX12_bestOf_185 : decode cX12_bestOf 185 = .ok (.goto 4, 3) := by decide +kernel
theorem dX12_bestOf_188 : decode cX12_bestOf 188 = .ok (.iconst (-1), 1) := by decide +kernel
theorem dX12_bestOf_189 : decode cX12_bestOf 189 = .ok (.istore 6, 2) := by decide +kernel
theorem dX12_bestOf_191 : decode cX12_bestOf 191 = .ok (.iload 6, 2) := by decide +kernel
theorem dX12_bestOf_193 : decode cX12_bestOf 193 = .ok (.iload_n 2, 1) := by decide +kernel
theorem dX12_bestOf_194 : decode cX12_bestOf 194 = .ok (.if_icmp .gt 6, 3) := by decide +kernel
theorem dX12_bestOf_197 : decode cX12_bestOf 197 = .ok (.goto (-178), 3) := by decide +kernel
theorem dX12_bestOf_200 : decode cX12_bestOf 200 = .ok (.iload 6, 2) := by decide +kernel
theorem dX12_bestOf_202 : decode cX12_bestOf 202 = .ok (.istore_n 2, 1) := by decide +kernel
theorem dX12_bestOf_203 : decode cX12_bestOf 203 = .ok (.aload_n 0, 1) := by decide +kernel
theorem dX12_bestOf_204 : decode cX12_bestOf 204 = .ok (.iload_n 3, 1) := by decide +kernel
theorem dX12_bestOf_205 : decode cX12_bestOf 205 = .ok (.putfield 362, 3) := by decide +kernel
theorem dX12_bestOf_208 : decode cX12_bestOf 208 = .ok (.iconst 0, 1) := by decide +kernel
theorem dX12_bestOf_209 : decode cX12_bestOf 209 = .ok (.istore 7, 2) := by decide +kernel
theorem dX12_bestOf_211 : decode cX12_bestOf 211 = .ok (.iload 7, 2) := by decide +kernel
theorem dX12_bestOf_213 : decode cX12_bestOf 213 = .ok (.iload_n 3, 1) := by decide +kernel
theorem dX12_bestOf_214 : decode cX12_bestOf 214 = .ok (.if_icmp .ge 23, 3) := by decide +kernel
theorem dX12_bestOf_217 : decode cX12_bestOf 217 = .ok (.aload_n 0, 1) := by decide +kernel
theorem dX12_bestOf_218 : decode cX12_bestOf 218 = .ok (.getfield 56, 3) := by decide +kernel
theorem dX12_bestOf_221 : decode cX12_bestOf 221 = .ok (.iload 7, 2) := by decide +kernel
theorem dX12_bestOf_223 : decode cX12_bestOf 223 = .ok (.aload_n 0, 1) := by decide +kernel
theorem dX12_bestOf_224 : decode cX12_bestOf 224 = .ok (.getfield 53, 3) := by decide +kernel
theorem dX12_bestOf_227 : decode cX12_bestOf 227 = .ok (.iload 7, 2) := by decide +kernel
theorem dX12_bestOf_229 : decode cX12_bestOf 229 = .ok (.iaload, 1) := by decide +kernel
theorem dX12_bestOf_230 : decode cX12_bestOf 230 = .ok (.iastore, 1) := by decide +kernel
theorem dX12_bestOf_231 : decode cX12_bestOf 231 = .ok (.iinc 7 1, 3) := by decide +kernel
theorem dX12_bestOf_234 : decode cX12_bestOf 234 = .ok (.goto (-23), 3) := by decide +kernel
theorem dX12_bestOf_237 : decode cX12_bestOf 237 = .ok (.goto (-218), 3) := by decide +kernel
theorem dX12_bestOf_240 : decode cX12_bestOf 240 = .ok (.iinc 3 1, 3) := by decide +kernel
theorem dX12_bestOf_243 : decode cX12_bestOf 243 = .ok (.goto (-239), 3) := by decide +kernel
theorem dX12_bestOf_246 : decode cX12_bestOf 246 = .ok (.iload_n 2, 1) := by decide +kernel
theorem dX12_bestOf_247 : decode cX12_bestOf 247 = .ok (.ireturn, 1) := by decide +kernel
theorem dX12_ring_0 : decode cX12_ring 0 = .ok (.aload_n 0, 1) := by decide +kernel
theorem dX12_ring_1 : decode cX12_ring 1 = .ok (.iconst 0, 1) := by decide +kernel
theorem dX12_ring_2 : decode cX12_ring 2 = .ok (.putfield 1, 3) := by decide +kernel
theorem dX12_ring_5 : decode cX12_ring 5 = .ok (.aload_n 0, 1) := by decide +kernel
theorem dX12_ring_6 : decode cX12_ring 6 = .ok (.iconst (-1), 1) := by decide +kernel
theorem dX12_ring_7 : decode cX12_ring 7 = .ok (.invokevirtual 365, 3) := by decide +kernel
theorem dX12_ring_10 : decode cX12_ring 10 = .ok (.istore_n 1, 1) := by decide +kernel
theorem dX12_ring_11 : decode cX12_ring 11 = .ok (.iload_n 1, 1) := by decide +kernel
theorem dX12_ring_12 : decode cX12_ring 12 = .ok (.ifCond .ge 5, 3) := by decide +kernel
theorem dX12_ring_15 : decode cX12_ring 15 = .ok (.iconst (-1), 1) := by decide +kernel
theorem dX12_ring_16 : decode cX12_ring 16 = .ok (.ireturn, 1) := by decide +kernel
theorem dX12_ring_17 : decode cX12_ring 17 = .ok (.aload_n 0, 1) := by decide +kernel
theorem dX12_ring_18 : decode cX12_ring 18 = .ok (.aload_n 0, 1) := by decide +kernel
theorem dX12_ring_19 : decode cX12_ring 19 = .ok (.getfield 362, 3) := by decide +kernel
theorem dX12_ring_22 : decode cX12_ring 22 = .ok (.putfield 368, 3) := by decide +kernel
theorem dX12_ring_25 : decode cX12_ring 25 = .ok (.iconst 0, 1) := by decide +kernel
theorem dX12_ring_26 : decode cX12_ring 26 = .ok (.istore_n 2, 1) := by decide +kernel
theorem dX12_ring_27 : decode cX12_ring 27 = .ok (.iload_n 2, 1) := by decide +kernel
theorem dX12_ring_28 : decode cX12_ring 28 = .ok (.aload_n 0, 1) := by decide +kernel
theorem dX12_ring_29 : decode cX12_ring 29 = .ok (.getfield 362, 3) := by decide +kernel
theorem dX12_ring_32 : decode cX12_ring 32 = .ok (.if_icmp .ge 21, 3) := by decide +kernel
theorem dX12_ring_35 : decode cX12_ring 35 = .ok (.aload_n 0, 1) := by decide +kernel
theorem dX12_ring_36 : decode cX12_ring 36 = .ok (.getfield 59, 3) := by decide +kernel
theorem dX12_ring_39 : decode cX12_ring 39 = .ok (.iload_n 2, 1) := by decide +kernel
theorem dX12_ring_40 : decode cX12_ring 40 = .ok (.aload_n 0, 1) := by decide +kernel
theorem dX12_ring_41 : decode cX12_ring 41 = .ok (.getfield 56, 3) := by decide +kernel
theorem dX12_ring_44 : decode cX12_ring 44 = .ok (.iload_n 2, 1) := by decide +kernel
theorem dX12_ring_45 : decode cX12_ring 45 = .ok (.iaload, 1) := by decide +kernel
theorem dX12_ring_46 : decode cX12_ring 46 = .ok (.iastore, 1) := by decide +kernel
theorem dX12_ring_47 : decode cX12_ring 47 = .ok (.iinc 2 1, 3) := by decide +kernel
theorem dX12_ring_50 : decode cX12_ring 50 = .ok (.goto (-23), 3) := by decide +kernel
theorem dX12_ring_53 : decode cX12_ring 53 = .ok (.iload_n 1, 1) := by decide +kernel
theorem dX12_ring_54 : decode cX12_ring 54 = .ok (.ireturn, 1) := by decide +kernel
theorem dX12_ringAt_0 : decode cX12_ringAt 0 = .ok (.aload_n 0, 1) := by decide +kernel
theorem dX12_ringAt_1 : decode cX12_ringAt 1 = .ok (.iconst 0, 1) := by decide +kernel
theorem dX12_ringAt_2 : decode cX12_ringAt 2 = .ok (.putfield 1, 3) := by decide +kernel
theorem dX12_ringAt_5 : decode cX12_ringAt 5 = .ok (.iload_n 1, 1) := by decide +kernel
theorem dX12_ringAt_6 : decode cX12_ringAt 6 = .ok (.iconst 0, 1) := by decide +kernel
theorem dX12_ringAt_7 : decode cX12_ringAt 7 = .ok (.aload_n 0, 1) := by decide +kernel
theorem dX12_ringAt_8 : decode cX12_ringAt 8 = .ok (.getfield 368, 3) := by decide +kernel
theorem dX12_ringAt_11 : decode cX12_ringAt 11 = .ok (.iconst 1, 1) := by decide +kernel
theorem dX12_ringAt_12 : decode cX12_ringAt 12 = .ok (.isub, 1) := by decide +kernel
theorem dX12_ringAt_13 : decode cX12_ringAt 13 = .ok (.invokestatic 202, 3) := by decide +kernel
theorem dX12_ringAt_16 : decode cX12_ringAt 16 = .ok (.ifCond .eq 12, 3) := by decide +kernel
theorem dX12_ringAt_19 : decode cX12_ringAt 19 = .ok (.aload_n 0, 1) := by decide +kernel
theorem dX12_ringAt_20 : decode cX12_ringAt 20 = .ok (.getfield 59, 3) := by decide +kernel
theorem dX12_ringAt_23 : decode cX12_ringAt 23 = .ok (.iload_n 1, 1) := by decide +kernel
theorem dX12_ringAt_24 : decode cX12_ringAt 24 = .ok (.iaload, 1) := by decide +kernel
theorem dX12_ringAt_25 : decode cX12_ringAt 25 = .ok (.goto 4, 3) := by decide +kernel
theorem dX12_ringAt_28 : decode cX12_ringAt 28 = .ok (.iconst (-1), 1) := by decide +kernel
theorem dX12_ringAt_29 : decode cX12_ringAt 29 = .ok (.ireturn, 1) := by decide +kernel
theorem dX12_ringOf_0 : decode cX12_ringOf 0 = .ok (.aload_n 0, 1) := by decide +kernel
theorem dX12_ringOf_1 : decode cX12_ringOf 1 = .ok (.iconst 0, 1) := by decide +kernel
theorem dX12_ringOf_2 : decode cX12_ringOf 2 = .ok (.putfield 1, 3) := by decide +kernel
theorem dX12_ringOf_5 : decode cX12_ringOf 5 = .ok (.aload_n 0, 1) := by decide +kernel
theorem dX12_ringOf_6 : decode cX12_ringOf 6 = .ok (.iload_n 1, 1) := by decide +kernel
theorem dX12_ringOf_7 : decode cX12_ringOf 7 = .ok (.invokevirtual 262, 3) := by decide +kernel
theorem dX12_ringOf_10 : decode cX12_ringOf 10 = .ok (.ifCond .eq 11, 3) := by decide +kernel
theorem dX12_ringOf_13 : decode cX12_ringOf 13 = .ok (.aload_n 0, 1) := by decide +kernel
theorem dX12_ringOf_14 : decode cX12_ringOf 14 = .ok (.iload_n 1, 1) := by decide +kernel
theorem dX12_ringOf_15 : decode cX12_ringOf 15 = .ok (.invokevirtual 365, 3) := by decide +kernel
theorem dX12_ringOf_18 : decode cX12_ringOf 18 = .ok (.goto 4, 3) := by decide +kernel
theorem dX12_ringOf_21 : decode cX12_ringOf 21 = .ok (.iconst (-1), 1) := by decide +kernel
theorem dX12_ringOf_22 : decode cX12_ringOf 22 = .ok (.ireturn, 1) := by decide +kernel
theorem dX12_cuts_0 : decode cX12_cuts 0 = .ok (.aload_n 0, 1) := by decide +kernel
theorem dX12_cuts_1 : decode cX12_cuts 1 = .ok (.aload_n 0, 1) := by decide +kernel
theorem dX12_cuts_2 : decode cX12_cuts 2 = .ok (.getfield 56, 3) := by decide +kernel
theorem dX12_cuts_5 : decode cX12_cuts 5 = .ok (.aload_n 0, 1) := by decide +kernel
theorem dX12_cuts_6 : decode cX12_cuts 6 = .ok (.getfield 362, 3) := by decide +kernel
theorem dX12_cuts_9 : decode cX12_cuts 9 = .ok (.invokevirtual 346, 3) := by decide +kernel
theorem dX12_cuts_12 : decode cX12_cuts 12 = .ok (.istore_n 1, 1) := by decide +kernel
theorem dX12_cuts_13 : decode cX12_cuts 13 = .ok (.iconst 0, 1) := by decide +kernel
theorem dX12_cuts_14 : decode cX12_cuts 14 = .ok (.istore_n 2, 1) := by decide +kernel
theorem dX12_cuts_15 : decode cX12_cuts 15 = .ok (.iload_n 2, 1) := by decide +kernel
theorem dX12_cuts_16 : decode cX12_cuts 16 = .ok (.aload_n 0, 1) := by decide +kernel
theorem dX12_cuts_17 : decode cX12_cuts 17 = .ok (.getfield 362, 3) := by decide +kernel
theorem dX12_cuts_20 : decode cX12_cuts 20 = .ok (.if_icmp .ge 114, 3) := by decide +kernel
theorem dX12_cuts_23 : decode cX12_cuts 23 = .ok (.aload_n 0, 1) := by decide +kernel
theorem dX12_cuts_24 : decode cX12_cuts 24 = .ok (.getfield 56, 3) := by decide +kernel
theorem dX12_cuts_27 : decode cX12_cuts 27 = .ok (.iload_n 2, 1) := by decide +kernel
theorem dX12_cuts_28 : decode cX12_cuts 28 = .ok (.iaload, 1) := by decide +kernel
theorem dX12_cuts_29 : decode cX12_cuts 29 = .ok (.istore_n 3, 1) := by decide +kernel
theorem dX12_cuts_30 : decode cX12_cuts 30 = .ok (.aload_n 0, 1) := by decide +kernel
theorem dX12_cuts_31 : decode cX12_cuts 31 = .ok (.iload_n 3, 1) := by decide +kernel
theorem dX12_cuts_32 : decode cX12_cuts 32 = .ok (.iconst 2, 1) := by decide +kernel
theorem dX12_cuts_33 : decode cX12_cuts 33 = .ok (.aload_n 0, 1) := by decide +kernel
theorem dX12_cuts_34 : decode cX12_cuts 34 = .ok (.iload_n 3, 1) := by decide +kernel
theorem dX12_cuts_35 : decode cX12_cuts 35 = .ok (.iconst 2, 1) := by decide +kernel
theorem dX12_cuts_36 : decode cX12_cuts 36 = .ok (.invokevirtual 265, 3) := by decide +kernel
theorem dX12_cuts_39 : decode cX12_cuts 39 = .ok (.iload_n 1, 1) := by decide +kernel
theorem dX12_cuts_40 : decode cX12_cuts 40 = .ok (.isub, 1) := by decide +kernel
theorem dX12_cuts_41 : decode cX12_cuts 41 = .ok (.invokevirtual 322, 3) := by decide +kernel
theorem dX12_cuts_44 : decode cX12_cuts 44 = .ok (.aload_n 0, 1) := by decide +kernel
theorem dX12_cuts_45 : decode cX12_cuts 45 = .ok (.iload_n 3, 1) := by decide +kernel
theorem dX12_cuts_46 : decode cX12_cuts 46 = .ok (.iconst 2, 1) := by decide +kernel
theorem dX12_cuts_47 : decode cX12_cuts 47 = .ok (.invokevirtual 265, 3) := by decide +kernel
theorem dX12_cuts_50 : decode cX12_cuts 50 = .ok (.ifCond .le 6, 3) := by decide +kernel
theorem dX12_cuts_53 : decode cX12_cuts 53 = .ok (.goto 75, 3) := by decide +kernel
theorem dX12_cuts_56 : decode cX12_cuts 56 = .ok (.aload_n 0, 1) := by decide +kernel
theorem dX12_cuts_57 : decode cX12_cuts 57 = .ok (.iload_n 3, 1) := by decide +kernel
theorem dX12_cuts_58 : decode cX12_cuts 58 = .ok (.iconst 5, 1) := by decide +kernel
theorem dX12_cuts_59 : decode cX12_cuts 59 = .ok (.iconst 2, 1) := by decide +kernel
theorem dX12_cuts_60 : decode cX12_cuts 60 = .ok (.invokevirtual 322, 3) := by decide +kernel
theorem dX12_cuts_63 : decode cX12_cuts 63 = .ok (.iconst 0, 1) := by decide +kernel
theorem dX12_cuts_64 : decode cX12_cuts 64 = .ok (.istore 4, 2) := by decide +kernel
theorem dX12_cuts_66 : decode cX12_cuts 66 = .ok (.iload 4, 2) := by decide +kernel
theorem dX12_cuts_68 : decode cX12_cuts 68 = .ok (.iconst 2, 1) := by decide +kernel
theorem dX12_cuts_69 : decode cX12_cuts 69 = .ok (.if_icmp .ge 59, 3) := by decide +kernel
theorem dX12_cuts_72 : decode cX12_cuts 72 = .ok (.aload_n 0, 1) := by decide +kernel
theorem dX12_cuts_73 : decode cX12_cuts 73 = .ok (.iload_n 3, 1) := by decide +kernel
theorem dX12_cuts_74 : decode cX12_cuts 74 = .ok (.bipush 6, 2) := by decide +kernel
theorem dX12_cuts_76 : decode cX12_cuts 76 = .ok (.iload 4, 2) := by decide +kernel
theorem dX12_cuts_78 : decode cX12_cuts 78 = .ok (.iadd, 1) := by decide +kernel
theorem dX12_cuts_79 : decode cX12_cuts 79 = .ok (.invokevirtual 265, 3) := by decide +kernel
theorem dX12_cuts_82 : decode cX12_cuts 82 = .ok (.istore 5, 2) := by decide +kernel
theorem dX12_cuts_84 : decode cX12_cuts 84 = .ok (.aload_n 0, 1) := by decide +kernel
theorem dX12_cuts_85 : decode cX12_cuts 85 = .ok (.iload 5, 2) := by decide +kernel
theorem dX12_cuts_87 : decode cX12_cuts 87 = .ok (.invokevirtual 294, 3) := by decide +kernel
theorem dX12_cuts_90 : decode cX12_cuts 90 = .ok (.ifCond .eq 21, 3) := by decide +kernel
theorem dX12_cuts_93 : decode cX12_cuts 93 = .ok (.aload_n 0, 1) := by decide +kernel
theorem dX12_cuts_94 : decode cX12_cuts 94 = .ok (.getfield 33, 3) := by decide +kernel
theorem dX12_cuts_97 : decode cX12_cuts 97 = .ok (.bipush 37, 2) := by decide +kernel
theorem dX12_cuts_99 : decode cX12_cuts 99 = .ok (.iload 5, 2) := by decide +kernel
theorem dX12_cuts_101 : decode cX12_cuts 101 = .ok (.iadd, 1) := by decide +kernel
theorem dX12_cuts_102 : decode cX12_cuts 102 = .ok (.dup2, 1) := by decide +kernel
theorem dX12_cuts_103 : decode cX12_cuts 103 = .ok (.iaload, 1) := by decide +kernel
theorem dX12_cuts_104 : decode cX12_cuts 104 = .ok (.aload_n 0, 1) := by decide +kernel
theorem dX12_cuts_105 : decode cX12_cuts 105 = .ok (.iload_n 3, 1) := by decide +kernel
theorem dX12_cuts_106 : decode cX12_cuts 106 = .ok (.invokevirtual 350, 3) := by decide +kernel
theorem dX12_cuts_109 : decode cX12_cuts 109 = .ok (.iadd, 1) := by decide +kernel
theorem dX12_cuts_110 : decode cX12_cuts 110 = .ok (.iastore, 1) := by decide +kernel
theorem dX12_cuts_111 : decode cX12_cuts 111 = .ok (.aload_n 0, 1) := by decide +kernel
theorem dX12_cuts_112 : decode cX12_cuts 112 = .ok (.iload_n 3, 1) := by decide +kernel
theorem dX12_cuts_113 : decode cX12_cuts 113 = .ok (.bipush 6, 2) := by decide +kernel
theorem dX12_cuts_115 : decode cX12_cuts 115 = .ok (.iload 4, 2) := by decide +kernel
theorem dX12_cuts_117 : decode cX12_cuts 117 = .ok (.iadd, 1) := by decide +kernel
theorem dX12_cuts_118 : decode cX12_cuts 118 = .ok (.iconst (-1), 1) := by decide +kernel
theorem dX12_cuts_119 : decode cX12_cuts 119 = .ok (.invokevirtual 322, 3) := by decide +kernel
theorem dX12_cuts_122 : decode cX12_cuts 122 = .ok (.iinc 4 1, 3) := by decide +kernel
theorem dX12_cuts_125 : decode cX12_cuts 125 = .ok (.goto (-59), 3) := by decide +kernel
theorem dX12_cuts_128 : decode cX12_cuts 128 = .ok (.iinc 2 1, 3) := by decide +kernel
theorem dX12_cuts_131 : decode cX12_cuts 131 = .ok (.goto (-116), 3) := by decide +kernel
theorem dX12_cuts_134 : decode cX12_cuts 134 = .ok (.iload_n 1, 1) := by decide +kernel
theorem dX12_cuts_135 : decode cX12_cuts 135 = .ok (.ireturn, 1) := by decide +kernel
theorem dX12_cut_0 : decode cX12_cut 0 = .ok (.aload_n 0, 1) := by decide +kernel
theorem dX12_cut_1 : decode cX12_cut 1 = .ok (.iconst 0, 1) := by decide +kernel
theorem dX12_cut_2 : decode cX12_cut 2 = .ok (.putfield 1, 3) := by decide +kernel
theorem dX12_cut_5 : decode cX12_cut 5 = .ok (.aload_n 0, 1) := by decide +kernel
theorem dX12_cut_6 : decode cX12_cut 6 = .ok (.iconst (-1), 1) := by decide +kernel
theorem dX12_cut_7 : decode cX12_cut 7 = .ok (.invokevirtual 365, 3) := by decide +kernel
theorem dX12_cut_10 : decode cX12_cut 10 = .ok (.ifCond .ge 5, 3) := by decide +kernel
theorem dX12_cut_13 : decode cX12_cut 13 = .ok (.iconst (-1), 1) := by decide +kernel
theorem dX12_cut_14 : decode cX12_cut 14 = .ok (.ireturn, 1) := by decide +kernel
theorem dX12_cut_15 : decode cX12_cut 15 = .ok (.aload_n 0, 1) := by decide +kernel
theorem dX12_cut_16 : decode cX12_cut 16 = .ok (.invokevirtual 329, 3) := by decide +kernel
theorem dX12_cut_19 : decode cX12_cut 19 = .ok (.aload_n 0, 1) := by decide +kernel
theorem dX12_cut_20 : decode cX12_cut 20 = .ok (.invokevirtual 371, 3) := by decide +kernel
theorem dX12_cut_23 : decode cX12_cut 23 = .ok (.ireturn, 1) := by decide +kernel
theorem dX12_whyDies_0 : decode cX12_whyDies 0 = .ok (.iload_n 1, 1) := by decide +kernel
theorem dX12_whyDies_1 : decode cX12_whyDies 1 = .ok (.iload_n 2, 1) := by decide +kernel
theorem dX12_whyDies_2 : decode cX12_whyDies 2 = .ok (.if_icmp .eq 19, 3) := by decide +kernel
theorem dX12_whyDies_5 : decode cX12_whyDies 5 = .ok (.aload_n 0, 1) := by decide +kernel
theorem dX12_whyDies_6 : decode cX12_whyDies 6 = .ok (.iload_n 1, 1) := by decide +kernel
theorem dX12_whyDies_7 : decode cX12_whyDies 7 = .ok (.invokevirtual 294, 3) := by decide +kernel
theorem dX12_whyDies_10 : decode cX12_whyDies 10 = .ok (.ifCond .eq 11, 3) := by decide +kernel
theorem dX12_whyDies_13 : decode cX12_whyDies 13 = .ok (.aload_n 0, 1) := by decide +kernel
theorem dX12_whyDies_14 : decode cX12_whyDies 14 = .ok (.iload_n 2, 1) := by decide +kernel
theorem dX12_whyDies_15 : decode cX12_whyDies 15 = .ok (.invokevirtual 294, 3) := by decide +kernel
theorem dX12_whyDies_18 : decode cX12_whyDies 18 = .ok (.ifCond .ne 7, 3) := by decide +kernel
theorem dX12_whyDies_21 : decode cX12_whyDies 21 = .ok (.iconst 1, 1) := by decide +kernel
theorem dX12_whyDies_22 : decode cX12_whyDies 22 = .ok (.goto 4, 3) := by decide +kernel
theorem dX12_whyDies_25 : decode cX12_whyDies 25 = .ok (.iconst 0, 1) := by decide +kernel
theorem dX12_whyDies_26 : decode cX12_whyDies 26 = .ok (.ireturn, 1) := by decide +kernel
theorem dX12_buries_0 : decode cX12_buries 0 = .ok (.aload_n 0, 1) := by decide +kernel
theorem dX12_buries_1 : decode cX12_buries 1 = .ok (.getfield 33, 3) := by decide +kernel
theorem dX12_buries_4 : decode cX12_buries 4 = .ok (.bipush 36, 2) := by decide +kernel
theorem dX12_buries_6 : decode cX12_buries 6 = .ok (.dup2, 1) := by decide +kernel
theorem dX12_buries_7 : decode cX12_buries 7 = .ok (.iaload, 1) := by decide +kernel
theorem dX12_buries_8 : decode cX12_buries 8 = .ok (.iconst 1, 1) := by decide +kernel
theorem dX12_buries_9 : decode cX12_buries 9 = .ok (.iload_n 1, 1) := by decide +kernel
theorem dX12_buries_10 : decode cX12_buries 10 = .ok (.ishl, 1) := by decide +kernel
theorem dX12_buries_11 : decode cX12_buries 11 = .ok (.ior, 1) := by decide +kernel
theorem dX12_buries_12 : decode cX12_buries 12 = .ok (.iastore, 1) := by decide +kernel
theorem dX12_buries_13 : decode cX12_buries 13 = .ok (.iconst 0, 1) := by decide +kernel
theorem dX12_buries_14 : decode cX12_buries 14 = .ok (.istore_n 3, 1) := by decide +kernel
theorem dX12_buries_15 : decode cX12_buries 15 = .ok (.iconst 0, 1) := by decide +kernel
theorem dX12_buries_16 : decode cX12_buries 16 = .ok (.istore 4, 2) := by decide +kernel
theorem dX12_buries_18 : decode cX12_buries 18 = .ok (.iload 4, 2) := by decide +kernel
theorem dX12_buries_20 : decode cX12_buries 20 = .ok (.aload_n 0, 1) := by decide +kernel
theorem dX12_buries_21 : decode cX12_buries 21 = .ok (.getfield 33, 3) := by decide +kernel
theorem dX12_buries_24 : decode cX12_buries 24 = .ok (.bipush 34, 2) := by decide +kernel
theorem dX12_buries_26 : decode cX12_buries 26 = .ok (.iaload, 1) := by decide +kernel
theorem dX12_buries_27 : decode cX12_buries 27 = .ok (.if_icmp .ge 97, 3) := by decide +kernel
theorem dX12_buries_30 : decode cX12_buries 30 = .ok (.aload_n 0, 1) := by decide +kernel
theorem dX12_buries_31 : decode cX12_buries 31 = .ok (.iload 4, 2) := by decide +kernel
theorem dX12_buries_33 : decode cX12_buries 33 = .ok (.invokevirtual 278, 3) := by decide +kernel
theorem dX12_buries_36 : decode cX12_buries 36 = .ok (.ifCond .eq 82, 3) := by decide +kernel
theorem dX12_buries_39 : decode cX12_buries 39 = .ok (.aload_n 0, 1) := by decide +kernel
theorem dX12_buries_40 : decode cX12_buries 40 = .ok (.iload 4, 2) := by decide +kernel
theorem dX12_buries_42 : decode cX12_buries 42 = .ok (.iconst 0, 1) := by decide +kernel
theorem dX12_buries_43 : decode cX12_buries 43 = .ok (.invokevirtual 265, 3) := by decide +kernel
theorem dX12_buries_46 : decode cX12_buries 46 = .ok (.iload_n 1, 1) := by decide +kernel
theorem dX12_buries_47 : decode cX12_buries 47 = .ok (.if_icmp .eq 17, 3) := by decide +kernel
theorem dX12_buries_50 : decode cX12_buries 50 = .ok (.aload_n 0, 1) := by decide +kernel
theorem dX12_buries_51 : decode cX12_buries 51 = .ok (.iload 4, 2) := by decide +kernel
theorem dX12_buries_53 : decode cX12_buries 53 = .ok (.iconst 1, 1) := by decide +kernel
theorem dX12_buries_54 : decode cX12_buries 54 = .ok (.invokevirtual 265, 3) := by decide +kernel
theorem dX12_buries_57 : decode cX12_buries 57 = .ok (.iload_n 1, 1) := by decide +kernel
theorem dX12_buries_58 : decode cX12_buries 58 = .ok (.if_icmp .eq 6, 3) := by decide +kernel
theorem dX12_buries_61 : decode cX12_buries 61 = .ok (.goto 57, 3) := by decide +kernel
theorem dX12_buries_64 : decode cX12_buries 64 = .ok (.aload_n 0, 1) := by decide +kernel
theorem dX12_buries_65 : decode cX12_buries 65 = .ok (.iload 4, 2) := by decide +kernel
theorem dX12_buries_67 : decode cX12_buries 67 = .ok (.aload_n 0, 1) := by decide +kernel
theorem dX12_buries_68 : decode cX12_buries 68 = .ok (.iload 4, 2) := by decide +kernel
theorem dX12_buries_70 : decode cX12_buries 70 = .ok (.iconst 0, 1) := by decide +kernel
theorem dX12_buries_71 : decode cX12_buries 71 = .ok (.invokevirtual 265, 3) := by decide +kernel
theorem dX12_buries_74 : decode cX12_buries 74 = .ok (.iload_n 1, 1) := by decide +kernel
theorem dX12_buries_75 : decode cX12_buries 75 = .ok (.if_icmp .ne 7, 3) := by decide +kernel
theorem dX12_buries_78 : decode cX12_buries 78 = .ok (.iconst 0, 1) := by decide +kernel
theorem dX12_buries_79 : decode cX12_buries 79 = .ok (.goto 4, 3) := by decide +kernel
theorem dX12_buries_82 : decode cX12_buries 82 = .ok (.iconst 1, 1) := by decide +kernel
theorem dX12_buries_83 : decode cX12_buries 83 = .ok (.iload_n 2, 1) := by decide +kernel
theorem dX12_buries_84 : decode cX12_buries 84 = .ok (.invokevirtual 322, 3) := by decide +kernel
theorem dX12_buries_87 : decode cX12_buries 87 = .ok (.aload_n 0, 1) := by decide +kernel
theorem dX12_buries_88 : decode cX12_buries 88 = .ok (.iload 4, 2) := by decide +kernel
theorem dX12_buries_90 : decode cX12_buries 90 = .ok (.iconst 0, 1) := by decide +kernel
theorem dX12_buries_91 : decode cX12_buries 91 = .ok (.invokevirtual 265, 3) := by decide +kernel
theorem dX12_buries_94 : decode cX12_buries 94 = .ok (.aload_n 0, 1) := by decide +kernel
theorem dX12_buries_95 : decode cX12_buries 95 = .ok (.iload 4, 2) := by decide +kernel
theorem dX12_buries_97 : decode cX12_buries 97 = .ok (.iconst 1, 1) := by decide +kernel
theorem dX12_buries_98 : decode cX12_buries 98 = .ok (.invokevirtual 265, 3) := by decide +kernel
theorem dX12_buries_101 : decode cX12_buries 101 = .ok (.if_icmp .ne 14, 3) := by decide +kernel
theorem dX12_buries_104 : decode cX12_buries 104 = .ok (.aload_n 0, 1) := by decide +kernel
theorem dX12_buries_105 : decode cX12_buries 105 = .ok (.iload 4, 2) := by decide +kernel
theorem dX12_buries_107 : decode cX12_buries 107 = .ok (.iconst 5, 1) := by decide +kernel
theorem dX12_buries_108 : decode cX12_buries 108 = .ok (.iconst 2, 1) := by decide +kernel
theorem dX12_buries_109 : decode cX12_buries 109 = .ok (.invokevirtual 322, 3) := by decide +kernel
theorem dX12_buries_112 : decode cX12_buries 112 = .ok (.goto 6, 3) := by decide +kernel
theorem dX12_buries_115 : decode cX12_buries 115 = .ok (.iinc 3 1, 3) := by decide +kernel
theorem dX12_buries_118 : decode cX12_buries 118 = .ok (.iinc 4 1, 3) := by decide +kernel
theorem dX12_buries_121 : decode cX12_buries 121 = .ok (.goto (-103), 3) := by decide +kernel
theorem dX12_buries_124 : decode cX12_buries 124 = .ok (.iload_n 3, 1) := by decide +kernel
theorem dX12_buries_125 : decode cX12_buries 125 = .ok (.ireturn, 1) := by decide +kernel
theorem dX12_dies_0 : decode cX12_dies 0 = .ok (.aload_n 0, 1) := by decide +kernel
theorem dX12_dies_1 : decode cX12_dies 1 = .ok (.iconst 0, 1) := by decide +kernel
theorem dX12_dies_2 : decode cX12_dies 2 = .ok (.putfield 1, 3) := by decide +kernel
theorem dX12_dies_5 : decode cX12_dies 5 = .ok (.aload_n 0, 1) := by decide +kernel
theorem dX12_dies_6 : decode cX12_dies 6 = .ok (.iload_n 1, 1) := by decide +kernel
theorem dX12_dies_7 : decode cX12_dies 7 = .ok (.invokevirtual 287, 3) := by decide +kernel
theorem dX12_dies_10 : decode cX12_dies 10 = .ok (.ifCond .eq 11, 3) := by decide +kernel
theorem dX12_dies_13 : decode cX12_dies 13 = .ok (.aload_n 0, 1) := by decide +kernel
theorem dX12_dies_14 : decode cX12_dies 14 = .ok (.iload_n 2, 1) := by decide +kernel
theorem dX12_dies_15 : decode cX12_dies 15 = .ok (.invokevirtual 287, 3) := by decide +kernel
theorem dX12_dies_18 : decode cX12_dies 18 = .ok (.ifCond .ne 5, 3) := by decide +kernel
theorem dX12_dies_21 : decode cX12_dies 21 = .ok (.iconst (-1), 1) := by decide +kernel
theorem dX12_dies_22 : decode cX12_dies 22 = .ok (.ireturn, 1) := by decide +kernel
theorem dX12_dies_23 : decode cX12_dies 23 = .ok (.aload_n 0, 1) := by decide +kernel
theorem dX12_dies_24 : decode cX12_dies 24 = .ok (.iload_n 1, 1) := by decide +kernel
theorem dX12_dies_25 : decode cX12_dies 25 = .ok (.iload_n 2, 1) := by decide +kernel
theorem dX12_dies_26 : decode cX12_dies 26 = .ok (.invokevirtual 374, 3) := by decide +kernel
theorem dX12_dies_29 : decode cX12_dies 29 = .ok (.istore_n 3, 1) := by decide +kernel
theorem dX12_dies_30 : decode cX12_dies 30 = .ok (.iload_n 3, 1) := by decide +kernel
theorem dX12_dies_31 : decode cX12_dies 31 = .ok (.ifCond .le 8, 3) := by decide +kernel
theorem dX12_dies_34 : decode cX12_dies 34 = .ok (.bipush (-10), 2) := by decide +kernel
theorem dX12_dies_36 : decode cX12_dies 36 = .ok (.iload_n 3, 1) := by decide +kernel
theorem dX12_dies_37 : decode cX12_dies 37 = .ok (.isub, 1) := by decide +kernel
theorem dX12_dies_38 : decode cX12_dies 38 = .ok (.ireturn, 1) := by decide +kernel
theorem dX12_dies_39 : decode cX12_dies 39 = .ok (.aload_n 0, 1) := by decide +kernel
theorem dX12_dies_40 : decode cX12_dies 40 = .ok (.invokevirtual 329, 3) := by decide +kernel
theorem dX12_dies_43 : decode cX12_dies 43 = .ok (.aload_n 0, 1) := by decide +kernel
theorem dX12_dies_44 : decode cX12_dies 44 = .ok (.iload_n 1, 1) := by decide +kernel
theorem dX12_dies_45 : decode cX12_dies 45 = .ok (.iload_n 2, 1) := by decide +kernel
theorem dX12_dies_46 : decode cX12_dies 46 = .ok (.invokevirtual 377, 3) := by decide +kernel
theorem dX12_dies_49 : decode cX12_dies 49 = .ok (.ireturn, 1) := by decide +kernel
theorem dX12_year_0 : decode cX12_year 0 = .ok (.aload_n 0, 1) := by decide +kernel
theorem dX12_year_1 : decode cX12_year 1 = .ok (.iconst 0, 1) := by decide +kernel
theorem dX12_year_2 : decode cX12_year 2 = .ok (.putfield 1, 3) := by decide +kernel
theorem dX12_year_5 : decode cX12_year 5 = .ok (.aload_n 0, 1) := by decide +kernel
theorem dX12_year_6 : decode cX12_year 6 = .ok (.getfield 33, 3) := by decide +kernel
theorem dX12_year_9 : decode cX12_year 9 = .ok (.bipush 35, 2) := by decide +kernel
theorem dX12_year_11 : decode cX12_year 11 = .ok (.iaload, 1) := by decide +kernel
theorem dX12_year_12 : decode cX12_year 12 = .ok (.bipush 99, 2) := by decide +kernel
theorem dX12_year_14 : decode cX12_year 14 = .ok (.if_icmp .ne 5, 3) := by decide +kernel
theorem dX12_year_17 : decode cX12_year 17 = .ok (.iconst (-1), 1) := by decide +kernel
theorem dX12_year_18 : decode cX12_year 18 = .ok (.ireturn, 1) := by decide +kernel
theorem dX12_year_19 : decode cX12_year 19 = .ok (.aload_n 0, 1) := by decide +kernel
theorem dX12_year_20 : decode cX12_year 20 = .ok (.invokevirtual 329, 3) := by decide +kernel
theorem dX12_year_23 : decode cX12_year 23 = .ok (.aload_n 0, 1) := by decide +kernel
theorem dX12_year_24 : decode cX12_year 24 = .ok (.getfield 33, 3) := by decide +kernel
theorem dX12_year_27 : decode cX12_year 27 = .ok (.bipush 35, 2) := by decide +kernel
theorem dX12_year_29 : decode cX12_year 29 = .ok (.dup2, 1) := by decide +kernel
theorem dX12_year_30 : decode cX12_year 30 = .ok (.iaload, 1) := by decide +kernel
theorem dX12_year_31 : decode cX12_year 31 = .ok (.iconst 1, 1) := by decide +kernel
theorem dX12_year_32 : decode cX12_year 32 = .ok (.iadd, 1) := by decide +kernel
theorem dX12_year_33 : decode cX12_year 33 = .ok (.iastore, 1) := by decide +kernel
theorem dX12_year_34 : decode cX12_year 34 = .ok (.aload_n 0, 1) := by decide +kernel
theorem dX12_year_35 : decode cX12_year 35 = .ok (.getfield 33, 3) := by decide +kernel
theorem dX12_year_38 : decode cX12_year 38 = .ok (.bipush 35, 2) := by decide +kernel
theorem dX12_year_40 : decode cX12_year 40 = .ok (.iaload, 1) := by decide +kernel
theorem dX12_year_41 : decode cX12_year 41 = .ok (.ireturn, 1) := by decide +kernel
theorem dX12_can_0 : decode cX12_can 0 = .ok (.aload_n 0, 1) := by decide +kernel
theorem dX12_can_1 : decode cX12_can 1 = .ok (.iconst 0, 1) := by decide +kernel
theorem dX12_can_2 : decode cX12_can 2 = .ok (.putfield 1, 3) := by decide +kernel
theorem dX12_can_5 : decode cX12_can 5 = .ok (.aload_n 0, 1) := by decide +kernel
theorem dX12_can_6 : decode cX12_can 6 = .ok (.iload_n 1, 1) := by decide +kernel
theorem dX12_can_7 : decode cX12_can 7 = .ok (.invokevirtual 287, 3) := by decide +kernel
theorem dX12_can_10 : decode cX12_can 10 = .ok (.ifCond .eq 11, 3) := by decide +kernel
theorem dX12_can_13 : decode cX12_can 13 = .ok (.aload_n 0, 1) := by decide +kernel
theorem dX12_can_14 : decode cX12_can 14 = .ok (.iload_n 2, 1) := by decide +kernel
theorem dX12_can_15 : decode cX12_can 15 = .ok (.invokevirtual 306, 3) := by decide +kernel
theorem dX12_can_18 : decode cX12_can 18 = .ok (.ifCond .ne 5, 3) := by decide +kernel
theorem dX12_can_21 : decode cX12_can 21 = .ok (.iconst (-1), 1) := by decide +kernel
theorem dX12_can_22 : decode cX12_can 22 = .ok (.ireturn, 1) := by decide +kernel
theorem dX12_can_23 : decode cX12_can 23 = .ok (.iconst 0, 1) := by decide +kernel
theorem dX12_can_24 : decode cX12_can 24 = .ok (.istore_n 3, 1) := by decide +kernel
theorem dX12_can_25 : decode cX12_can 25 = .ok (.iconst 0, 1) := by decide +kernel
theorem dX12_can_26 : decode cX12_can 26 = .ok (.istore 4, 2) := by decide +kernel
theorem dX12_can_28 : decode cX12_can 28 = .ok (.iload 4, 2) := by decide +kernel
theorem dX12_can_30 : decode cX12_can 30 = .ok (.aload_n 0, 1) := by decide +kernel
theorem dX12_can_31 : decode cX12_can 31 = .ok (.getfield 33, 3) := by decide +kernel
theorem dX12_can_34 : decode cX12_can 34 = .ok (.iconst 0, 1) := by decide +kernel
theorem dX12_can_35 : decode cX12_can 35 = .ok (.iaload, 1) := by decide +kernel
theorem dX12_can_36 : decode cX12_can 36 = .ok (.if_icmp .ge 31, 3) := by decide +kernel
theorem dX12_can_39 : decode cX12_can 39 = .ok (.iload_n 3, 1) := by decide +kernel
theorem dX12_can_40 : decode cX12_can 40 = .ok (.aload_n 0, 1) := by decide +kernel
theorem dX12_can_41 : decode cX12_can 41 = .ok (.iload_n 1, 1) := by decide +kernel
theorem dX12_can_42 : decode cX12_can 42 = .ok (.iload 4, 2) := by decide +kernel
theorem dX12_can_44 : decode cX12_can 44 = .ok (.iload_n 2, 1) := by decide +kernel
theorem dX12_can_45 : decode cX12_can 45 = .ok (.invokevirtual 326, 3) := by decide +kernel
theorem dX12_can_48 : decode cX12_can 48 = .ok (.ifCond .ne 10, 3) := by decide +kernel
theorem dX12_can_51 : decode cX12_can 51 = .ok (.iconst 1, 1) := by decide +kernel
theorem dX12_can_52 : decode cX12_can 52 = .ok (.iload 4, 2) := by decide +kernel
theorem dX12_can_54 : decode cX12_can 54 = .ok (.ishl, 1) := by decide +kernel
theorem dX12_can_55 : decode cX12_can 55 = .ok (.goto 4, 3) := by decide +kernel
theorem dX12_can_58 : decode cX12_can 58 = .ok (.iconst 0, 1) := by decide +kernel
theorem dX12_can_59 : decode cX12_can 59 = .ok (.ior, 1) := by decide +kernel
theorem dX12_can_60 : decode cX12_can 60 = .ok (.istore_n 3, 1) := by decide +kernel
theorem dX12_can_61 : decode cX12_can 61 = .ok (.iinc 4 1, 3) := by decide +kernel
theorem dX12_can_64 : decode cX12_can 64 = .ok (.goto (-36), 3) := by decide +kernel
theorem dX12_can_67 : decode cX12_can 67 = .ok (.iload_n 3, 1) := by decide +kernel
theorem dX12_can_68 : decode cX12_can 68 = .ok (.ireturn, 1) := by decide +kernel
theorem dX12_keepsAll_0 : decode cX12_keepsAll 0 = .ok (.iconst 0, 1) := by decide +kernel
theorem dX12_keepsAll_1 : decode cX12_keepsAll 1 = .ok (.istore_n 1, 1) := by decide +kernel
theorem dX12_keepsAll_2 : decode cX12_keepsAll 2 = .ok (.iload_n 1, 1) := by decide +kernel
theorem dX12_keepsAll_3 : decode cX12_keepsAll 3 = .ok (.sipush 552, 3) := by decide +kernel
theorem dX12_keepsAll_6 : decode cX12_keepsAll 6 = .ok (.if_icmp .ge 24, 3) := by decide +kernel
theorem dX12_keepsAll_9 : decode cX12_keepsAll 9 = .ok (.aload_n 0, 1) := by decide +kernel
theorem dX12_keepsAll_10 : decode cX12_keepsAll 10 = .ok (.getfield 62, 3) := by decide +kernel
theorem dX12_keepsAll_13 : decode cX12_keepsAll 13 = .ok (.iload_n 1, 1) := by decide +kernel
theorem dX12_keepsAll_14 : decode cX12_keepsAll 14 = .ok (.aload_n 0, 1) := by decide +kernel
theorem dX12_keepsAll_15 : decode cX12_keepsAll 15 = .ok (.getfield 33, 3) := by decide +kernel
theorem dX12_keepsAll_18 : decode cX12_keepsAll 18 = .ok (.bipush 34, 2) := by decide +kernel
theorem dX12_keepsAll_20 : decode cX12_keepsAll 20 = .ok (.iload_n 1, 1) := by decide +kernel
theorem dX12_keepsAll_21 : decode cX12_keepsAll 21 = .ok (.iadd, 1) := by decide +kernel
theorem dX12_keepsAll_22 : decode cX12_keepsAll 22 = .ok (.iaload, 1) := by decide +kernel
theorem dX12_keepsAll_23 : decode cX12_keepsAll 23 = .ok (.iastore, 1) := by decide +kernel
theorem dX12_keepsAll_24 : decode cX12_keepsAll 24 = .ok (.iinc 1 1, 3) := by decide +kernel
theorem dX12_keepsAll_27 : decode cX12_keepsAll 27 = .ok (.goto (-25), 3) := by decide +kernel
theorem dX12_keepsAll_30 : decode cX12_keepsAll 30 = .ok (.return_, 1) := by decide +kernel
theorem dX12_backAll_0 : decode cX12_backAll 0 = .ok (.iconst 0, 1) := by decide +kernel
theorem dX12_backAll_1 : decode cX12_backAll 1 = .ok (.istore_n 1, 1) := by decide +kernel
theorem dX12_backAll_2 : decode cX12_backAll 2 = .ok (.iload_n 1, 1) := by decide +kernel
theorem dX12_backAll_3 : decode cX12_backAll 3 = .ok (.sipush 552, 3) := by decide +kernel
theorem dX12_backAll_6 : decode cX12_backAll 6 = .ok (.if_icmp .ge 24, 3) := by decide +kernel
theorem dX12_backAll_9 : decode cX12_backAll 9 = .ok (.aload_n 0, 1) := by decide +kernel
theorem dX12_backAll_10 : decode cX12_backAll 10 = .ok (.getfield 33, 3) := by decide +kernel
theorem dX12_backAll_13 : decode cX12_backAll 13 = .ok (.bipush 34, 2) := by decide +kernel
theorem dX12_backAll_15 : decode cX12_backAll 15 = .ok (.iload_n 1, 1) := by decide +kernel
theorem dX12_backAll_16 : decode cX12_backAll 16 = .ok (.iadd, 1) := by decide +kernel
theorem dX12_backAll_17 : decode cX12_backAll 17 = .ok (.aload_n 0, 1) := by decide +kernel
theorem dX12_backAll_18 : decode cX12_backAll 18 = .ok (.getfield 62, 3) := by decide +kernel
theorem dX12_backAll_21 : decode cX12_backAll 21 = .ok (.iload_n 1, 1) := by decide +kernel
theorem dX12_backAll_22 : decode cX12_backAll 22 = .ok (.iaload, 1) := by decide +kernel
theorem dX12_backAll_23 : decode cX12_backAll 23 = .ok (.iastore, 1) := by decide +kernel
theorem dX12_backAll_24 : decode cX12_backAll 24 = .ok (.iinc 1 1, 3) := by decide +kernel
theorem dX12_backAll_27 : decode cX12_backAll 27 = .ok (.goto (-25), 3) := by decide +kernel
theorem dX12_backAll_30 : decode cX12_backAll 30 = .ok (.return_, 1) := by decide +kernel
theorem dX12_ringsFor_0 : decode cX12_ringsFor 0 = .ok (.aload_n 0, 1) := by decide +kernel
theorem dX12_ringsFor_1 : decode cX12_ringsFor 1 = .ok (.iconst 0, 1) := by decide +kernel
theorem dX12_ringsFor_2 : decode cX12_ringsFor 2 = .ok (.putfield 1, 3) := by decide +kernel
theorem dX12_ringsFor_5 : decode cX12_ringsFor 5 = .ok (.aload_n 0, 1) := by decide +kernel
theorem dX12_ringsFor_6 : decode cX12_ringsFor 6 = .ok (.iload_n 1, 1) := by decide +kernel
theorem dX12_ringsFor_7 : decode cX12_ringsFor 7 = .ok (.invokevirtual 287, 3) := by decide +kernel
theorem dX12_ringsFor_10 : decode cX12_ringsFor 10 = .ok (.ifCond .eq 19, 3) := by decide +kernel
theorem dX12_ringsFor_13 : decode cX12_ringsFor 13 = .ok (.aload_n 0, 1) := by decide +kernel
theorem dX12_ringsFor_14 : decode cX12_ringsFor 14 = .ok (.iload_n 2, 1) := by decide +kernel
theorem dX12_ringsFor_15 : decode cX12_ringsFor 15 = .ok (.invokevirtual 287, 3) := by decide +kernel
theorem dX12_ringsFor_18 : decode cX12_ringsFor 18 = .ok (.ifCond .eq 11, 3) := by decide +kernel
theorem dX12_ringsFor_21 : decode cX12_ringsFor 21 = .ok (.aload_n 0, 1) := by decide +kernel
theorem dX12_ringsFor_22 : decode cX12_ringsFor 22 = .ok (.iload_n 3, 1) := by decide +kernel
theorem dX12_ringsFor_23 : decode cX12_ringsFor 23 = .ok (.invokevirtual 306, 3) := by decide +kernel
theorem dX12_ringsFor_26 : decode cX12_ringsFor 26 = .ok (.ifCond .ne 5, 3) := by decide +kernel
theorem dX12_ringsFor_29 : decode cX12_ringsFor 29 = .ok (.iconst (-1), 1) := by decide +kernel
theorem dX12_ringsFor_30 : decode cX12_ringsFor 30 = .ok (.ireturn, 1) := by decide +kernel
theorem dX12_ringsFor_31 : decode cX12_ringsFor 31 = .ok (.aload_n 0, 1) := by decide +kernel
theorem dX12_ringsFor_32 : decode cX12_ringsFor 32 = .ok (.invokevirtual 380, 3) := by decide +kernel
theorem dX12_ringsFor_35 : decode cX12_ringsFor 35 = .ok (.iconst 0, 1) := by decide +kernel
theorem dX12_ringsFor_36 : decode cX12_ringsFor 36 = .ok (.istore 4, 2) := by decide +kernel
theorem dX12_ringsFor_38 : decode cX12_ringsFor 38 = .ok (.aload_n 0, 1) := by decide +kernel
theorem dX12_ringsFor_39 : decode cX12_ringsFor 39 = .ok (.iload_n 1, 1) := by decide +kernel
theorem dX12_ringsFor_40 : decode cX12_ringsFor 40 = .ok (.iload_n 2, 1) := by decide +kernel
theorem dX12_ringsFor_41 : decode cX12_ringsFor 41 = .ok (.iload_n 3, 1) := by decide +kernel
theorem dX12_ringsFor_42 : decode cX12_ringsFor 42 = .ok (.invokevirtual 326, 3) := by decide +kernel
theorem dX12_ringsFor_45 : decode cX12_ringsFor 45 = .ok (.istore 5, 2) := by decide +kernel
theorem dX12_ringsFor_47 : decode cX12_ringsFor 47 = .ok (.iload 5, 2) := by decide +kernel
theorem dX12_ringsFor_49 : decode cX12_ringsFor 49 = .ok (.iconst 1, 1) := by decide +kernel
theorem dX12_ringsFor_50 : decode cX12_ringsFor 50 = .ok (.if_icmp .le 31, 3) := by decide +kernel
theorem dX12_ringsFor_53 : decode cX12_ringsFor 53 = .ok (.aload_n 0, 1) := by decide +kernel
theorem dX12_ringsFor_54 : decode cX12_ringsFor 54 = .ok (.iconst (-1), 1) := by decide +kernel
theorem dX12_ringsFor_55 : decode cX12_ringsFor 55 = .ok (.invokevirtual 365, 3) := by decide +kernel
theorem dX12_ringsFor_58 : decode cX12_ringsFor 58 = .ok (.ifCond .lt 23, 3) := by decide +kernel
theorem dX12_ringsFor_61 : decode cX12_ringsFor 61 = .ok (.aload_n 0, 1) := by decide +kernel
theorem dX12_ringsFor_62 : decode cX12_ringsFor 62 = .ok (.invokevirtual 371, 3) := by decide +kernel
theorem dX12_ringsFor_65 : decode cX12_ringsFor 65 = .ok (.pop, 1) := by decide +kernel
theorem dX12_ringsFor_66 : decode cX12_ringsFor 66 = .ok (.iinc 4 1, 3) := by decide +kernel
theorem dX12_ringsFor_69 : decode cX12_ringsFor 69 = .ok (.aload_n 0, 1) := by decide +kernel
theorem dX12_ringsFor_70 : decode cX12_ringsFor 70 = .ok (.iload_n 1, 1) := by decide +kernel
theorem dX12_ringsFor_71 : decode cX12_ringsFor 71 = .ok (.iload_n 2, 1) := by decide +kernel
theorem dX12_ringsFor_72 : decode cX12_ringsFor 72 = .ok (.iload_n 3, 1) := by decide +kernel
theorem dX12_ringsFor_73 : decode cX12_ringsFor 73 = .ok (.invokevirtual 326, 3) := by decide +kernel
theorem dX12_ringsFor_76 : decode cX12_ringsFor 76 = .ok (.istore 5, 2) := by decide +kernel
theorem dX12_ringsFor_78 : decode cX12_ringsFor 78 = .ok (.goto (-31), 3) := by decide +kernel
theorem dX12_ringsFor_81 : decode cX12_ringsFor 81 = .ok (.aload_n 0, 1) := by decide +kernel
theorem dX12_ringsFor_82 : decode cX12_ringsFor 82 = .ok (.invokevirtual 383, 3) := by decide +kernel
theorem dX12_ringsFor_85 : decode cX12_ringsFor 85 = .ok (.iload 5, 2) := by decide +kernel
theorem dX12_ringsFor_87 : decode cX12_ringsFor 87 = .ok (.ifCond .ne 8, 3) := by decide +kernel
theorem dX12_ringsFor_90 : decode cX12_ringsFor 90 = .ok (.iload 4, 2) := by decide +kernel
theorem dX12_ringsFor_92 : decode cX12_ringsFor 92 = .ok (.goto 4, 3) := by decide +kernel
theorem dX12_ringsFor_95 : decode cX12_ringsFor 95 = .ok (.iconst (-1), 1) := by decide +kernel
theorem dX12_ringsFor_96 : decode cX12_ringsFor 96 = .ok (.ireturn, 1) := by decide +kernel
theorem dX12_aged_0 : decode cX12_aged 0 = .ok (.aload_n 0, 1) := by decide +kernel
theorem dX12_aged_1 : decode cX12_aged 1 = .ok (.iconst 0, 1) := by decide +kernel
theorem dX12_aged_2 : decode cX12_aged 2 = .ok (.putfield 1, 3) := by decide +kernel
theorem dX12_aged_5 : decode cX12_aged 5 = .ok (.aload_n 0, 1) := by decide +kernel
theorem dX12_aged_6 : decode cX12_aged 6 = .ok (.iload_n 1, 1) := by decide +kernel
theorem dX12_aged_7 : decode cX12_aged 7 = .ok (.invokevirtual 287, 3) := by decide +kernel
theorem dX12_aged_10 : decode cX12_aged 10 = .ok (.ifCond .eq 22, 3) := by decide +kernel
theorem dX12_aged_13 : decode cX12_aged 13 = .ok (.iload_n 2, 1) := by decide +kernel
theorem dX12_aged_14 : decode cX12_aged 14 = .ok (.iconst 0, 1) := by decide +kernel
theorem dX12_aged_15 : decode cX12_aged 15 = .ok (.bipush 99, 2) := by decide +kernel
theorem dX12_aged_17 : decode cX12_aged 17 = .ok (.invokestatic 202, 3) := by decide +kernel
theorem dX12_aged_20 : decode cX12_aged 20 = .ok (.ifCond .eq 12, 3) := by decide +kernel
theorem dX12_aged_23 : decode cX12_aged 23 = .ok (.aload_n 0, 1) := by decide +kernel
theorem dX12_aged_24 : decode cX12_aged 24 = .ok (.iload_n 1, 1) := by decide +kernel
theorem dX12_aged_25 : decode cX12_aged 25 = .ok (.iload_n 2, 1) := by decide +kernel
theorem dX12_aged_26 : decode cX12_aged 26 = .ok (.invokevirtual 303, 3) := by decide +kernel
theorem dX12_aged_29 : decode cX12_aged 29 = .ok (.goto 4, 3) := by decide +kernel
theorem dX12_aged_32 : decode cX12_aged 32 = .ok (.iconst (-1), 1) := by decide +kernel
theorem dX12_aged_33 : decode cX12_aged 33 = .ok (.ireturn, 1) := by decide +kernel
theorem dX12_owes_0 : decode cX12_owes 0 = .ok (.aload_n 0, 1) := by decide +kernel
theorem dX12_owes_1 : decode cX12_owes 1 = .ok (.iconst 0, 1) := by decide +kernel
theorem dX12_owes_2 : decode cX12_owes 2 = .ok (.putfield 1, 3) := by decide +kernel
theorem dX12_owes_5 : decode cX12_owes 5 = .ok (.aload_n 0, 1) := by decide +kernel
theorem dX12_owes_6 : decode cX12_owes 6 = .ok (.iload_n 1, 1) := by decide +kernel
theorem dX12_owes_7 : decode cX12_owes 7 = .ok (.invokevirtual 287, 3) := by decide +kernel
theorem dX12_owes_10 : decode cX12_owes 10 = .ok (.ifCond .eq 12, 3) := by decide +kernel
theorem dX12_owes_13 : decode cX12_owes 13 = .ok (.iload_n 2, 1) := by decide +kernel
theorem dX12_owes_14 : decode cX12_owes 14 = .ok (.iconst 0, 1) := by decide +kernel
theorem dX12_owes_15 : decode cX12_owes 15 = .ok (.iconst 1, 1) := by decide +kernel
theorem dX12_owes_16 : decode cX12_owes 16 = .ok (.invokestatic 202, 3) := by decide +kernel
theorem dX12_owes_19 : decode cX12_owes 19 = .ok (.ifCond .ne 5, 3) := by decide +kernel
theorem dX12_owes_22 : decode cX12_owes 22 = .ok (.iconst (-1), 1) := by decide +kernel
theorem dX12_owes_23 : decode cX12_owes 23 = .ok (.ireturn, 1) := by decide +kernel
theorem dX12_owes_24 : decode cX12_owes 24 = .ok (.iconst 0, 1) := by decide +kernel
theorem dX12_owes_25 : decode cX12_owes 25 = .ok (.istore_n 3, 1) := by decide +kernel
theorem dX12_owes_26 : decode cX12_owes 26 = .ok (.iconst 0, 1) := by decide +kernel
theorem dX12_owes_27 : decode cX12_owes 27 = .ok (.istore 4, 2) := by decide +kernel
theorem dX12_owes_29 : decode cX12_owes 29 = .ok (.iload 4, 2) := by decide +kernel
theorem dX12_owes_31 : decode cX12_owes 31 = .ok (.aload_n 0, 1) := by decide +kernel
theorem dX12_owes_32 : decode cX12_owes 32 = .ok (.getfield 33, 3) := by decide +kernel
theorem dX12_owes_35 : decode cX12_owes 35 = .ok (.bipush 34, 2) := by decide +kernel
theorem dX12_owes_37 : decode cX12_owes 37 = .ok (.iaload, 1) := by decide +kernel
theorem dX12_owes_38 : decode cX12_owes 38 = .ok (.if_icmp .ge 43, 3) := by decide +kernel
theorem dX12_owes_41 : decode cX12_owes 41 = .ok (.aload_n 0, 1) := by decide +kernel
theorem dX12_owes_42 : decode cX12_owes 42 = .ok (.iload 4, 2) := by decide +kernel
theorem dX12_owes_44 : decode cX12_owes 44 = .ok (.invokevirtual 278, 3) := by decide +kernel
theorem dX12_owes_47 : decode cX12_owes 47 = .ok (.ifCond .eq 28, 3) := by decide +kernel
theorem dX12_owes_50 : decode cX12_owes 50 = .ok (.aload_n 0, 1) := by decide +kernel
theorem dX12_owes_51 : decode cX12_owes 51 = .ok (.iload 4, 2) := by decide +kernel
theorem dX12_owes_53 : decode cX12_owes 53 = .ok (.iload_n 2, 1) := by decide +kernel
theorem dX12_owes_54 : decode cX12_owes 54 = .ok (.invokevirtual 265, 3) := by decide +kernel
theorem dX12_owes_57 : decode cX12_owes 57 = .ok (.iload_n 1, 1) := by decide +kernel
theorem dX12_owes_58 : decode cX12_owes 58 = .ok (.if_icmp .ne 17, 3) := by decide +kernel
theorem dX12_owes_61 : decode cX12_owes 61 = .ok (.iload_n 3, 1) := by decide +kernel
theorem dX12_owes_62 : decode cX12_owes 62 = .ok (.iconst 1, 1) := by decide +kernel
theorem dX12_owes_63 : decode cX12_owes 63 = .ok (.aload_n 0, 1) := by decide +kernel
theorem dX12_owes_64 : decode cX12_owes 64 = .ok (.iload 4, 2) := by decide +kernel
theorem dX12_owes_66 : decode cX12_owes 66 = .ok (.iconst 1, 1) := by decide +kernel
theorem dX12_owes_67 : decode cX12_owes 67 = .ok (.iload_n 2, 1) := by decide +kernel
theorem dX12_owes_68 : decode cX12_owes 68 = .ok (.isub, 1) := by decide +kernel
theorem dX12_owes_69 : decode cX12_owes 69 = .ok (.invokevirtual 265, 3) := by decide +kernel
theorem dX12_owes_72 : decode cX12_owes 72 = .ok (.ishl, 1) := by decide +kernel
theorem dX12_owes_73 : decode cX12_owes 73 = .ok (.ior, 1) := by decide +kernel
theorem dX12_owes_74 : decode cX12_owes 74 = .ok (.istore_n 3, 1) := by decide +kernel
theorem dX12_owes_75 : decode cX12_owes 75 = .ok (.iinc 4 1, 3) := by decide +kernel
theorem dX12_owes_78 : decode cX12_owes 78 = .ok (.goto (-49), 3) := by decide +kernel
theorem dX12_owes_81 : decode cX12_owes 81 = .ok (.iload_n 3, 1) := by decide +kernel
theorem dX12_owes_82 : decode cX12_owes 82 = .ok (.ireturn, 1) := by decide +kernel
theorem dX12_chain_0 : decode cX12_chain 0 = .ok (.aload_n 0, 1) := by decide +kernel
theorem dX12_chain_1 : decode cX12_chain 1 = .ok (.iconst 0, 1) := by decide +kernel
theorem dX12_chain_2 : decode cX12_chain 2 = .ok (.putfield 1, 3) := by decide +kernel
theorem dX12_chain_5 : decode cX12_chain 5 = .ok (.aload_n 0, 1) := by decide +kernel
theorem dX12_chain_6 : decode cX12_chain 6 = .ok (.iload_n 1, 1) := by decide +kernel
theorem dX12_chain_7 : decode cX12_chain 7 = .ok (.invokevirtual 287, 3) := by decide +kernel
theorem dX12_chain_10 : decode cX12_chain 10 = .ok (.ifCond .eq 11, 3) := by decide +kernel
theorem dX12_chain_13 : decode cX12_chain 13 = .ok (.aload_n 0, 1) := by decide +kernel
theorem dX12_chain_14 : decode cX12_chain 14 = .ok (.iload_n 2, 1) := by decide +kernel
theorem dX12_chain_15 : decode cX12_chain 15 = .ok (.invokevirtual 287, 3) := by decide +kernel
theorem dX12_chain_18 : decode cX12_chain 18 = .ok (.ifCond .ne 5, 3) := by decide +kernel
theorem dX12_chain_21 : decode cX12_chain 21 = .ok (.iconst (-1), 1) := by decide +kernel
theorem dX12_chain_22 : decode cX12_chain 22 = .ok (.ireturn, 1) := by decide +kernel
theorem dX12_chain_23 : decode cX12_chain 23 = .ok (.iconst 1, 1) := by decide +kernel
theorem dX12_chain_24 : decode cX12_chain 24 = .ok (.iload_n 1, 1) := by decide +kernel
theorem dX12_chain_25 : decode cX12_chain 25 = .ok (.ishl, 1) := by decide +kernel
theorem dX12_chain_26 : decode cX12_chain 26 = .ok (.istore_n 3, 1) := by decide +kernel
theorem dX12_chain_27 : decode cX12_chain 27 = .ok (.iconst 0, 1) := by decide +kernel
theorem dX12_chain_28 : decode cX12_chain 28 = .ok (.istore 4, 2) := by decide +kernel
theorem dX12_chain_30 : decode cX12_chain 30 = .ok (.iload 4, 2) := by decide +kernel
theorem dX12_chain_32 : decode cX12_chain 32 = .ok (.aload_n 0, 1) := by decide +kernel
theorem dX12_chain_33 : decode cX12_chain 33 = .ok (.getfield 33, 3) := by decide +kernel
theorem dX12_chain_36 : decode cX12_chain 36 = .ok (.iconst 0, 1) := by decide +kernel
theorem dX12_chain_37 : decode cX12_chain 37 = .ok (.iaload, 1) := by decide +kernel
theorem dX12_chain_38 : decode cX12_chain 38 = .ok (.if_icmp .gt 84, 3) := by decide +kernel
theorem dX12_chain_41 : decode cX12_chain 41 = .ok (.iload_n 3, 1) := by decide +kernel
theorem dX12_chain_42 : decode cX12_chain 42 = .ok (.iload_n 2, 1) := by decide +kernel
theorem dX12_chain_43 : decode cX12_chain 43 = .ok (.invokestatic 259, 3) := by decide +kernel
theorem dX12_chain_46 : decode cX12_chain 46 = .ok (.ifCond .eq 6, 3) := by decide +kernel
theorem dX12_chain_49 : decode cX12_chain 49 = .ok (.iload 4, 2) := by decide +kernel
theorem dX12_chain_51 : decode cX12_chain 51 = .ok (.ireturn, 1) := by decide +kernel
theorem dX12_chain_52 : decode cX12_chain 52 = .ok (.iload_n 3, 1) := by decide +kernel
theorem dX12_chain_53 : decode cX12_chain 53 = .ok (.istore 5, 2) := by decide +kernel
theorem dX12_chain_55 : decode cX12_chain 55 = .ok (.iconst 0, 1) := by decide +kernel
theorem dX12_chain_56 : decode cX12_chain 56 = .ok (.istore 6, 2) := by decide +kernel
theorem dX12_chain_58 : decode cX12_chain 58 = .ok (.iload 6, 2) := by decide +kernel
theorem dX12_chain_60 : decode cX12_chain 60 = .ok (.aload_n 0, 1) := by decide +kernel
theorem dX12_chain_61 : decode cX12_chain 61 = .ok (.getfield 33, 3) := by decide +kernel
theorem dX12_chain_64 : decode cX12_chain 64 = .ok (.bipush 34, 2) := by decide +kernel
theorem dX12_chain_66 : decode cX12_chain 66 = .ok (.iaload, 1) := by decide +kernel
theorem dX12_chain_67 : decode cX12_chain 67 = .ok (.if_icmp .ge 46, 3) := by decide +kernel
theorem dX12_chain_70 : decode cX12_chain 70 = .ok (.aload_n 0, 1) := by decide +kernel
theorem dX12_chain_71 : decode cX12_chain 71 = .ok (.iload 6, 2) := by decide +kernel
theorem dX12_chain_73 : decode cX12_chain 73 = .ok (.invokevirtual 278, 3) := by decide +kernel
theorem dX12_chain_76 : decode cX12_chain 76 = .ok (.ifCond .eq 31, 3) := by decide +kernel
theorem dX12_chain_79 : decode cX12_chain 79 = .ok (.iload_n 3, 1) := by decide +kernel
theorem dX12_chain_80 : decode cX12_chain 80 = .ok (.aload_n 0, 1) := by decide +kernel
theorem dX12_chain_81 : decode cX12_chain 81 = .ok (.iload 6, 2) := by decide +kernel
theorem dX12_chain_83 : decode cX12_chain 83 = .ok (.iconst 1, 1) := by decide +kernel
theorem dX12_chain_84 : decode cX12_chain 84 = .ok (.invokevirtual 265, 3) := by decide +kernel
theorem dX12_chain_87 : decode cX12_chain 87 = .ok (.invokestatic 259, 3) := by decide +kernel
theorem dX12_chain_90 : decode cX12_chain 90 = .ok (.ifCond .eq 17, 3) := by decide +kernel
theorem dX12_chain_93 : decode cX12_chain 93 = .ok (.iload 5, 2) := by decide +kernel
theorem dX12_chain_95 : decode cX12_chain 95 = .ok (.iconst 1, 1) := by decide +kernel
theorem dX12_chain_96 : decode cX12_chain 96 = .ok (.aload_n 0, 1) := by decide +kernel
theorem dX12_chain_97 : decode cX12_chain 97 = .ok (.iload 6, 2) := by decide +kernel
theorem dX12_chain_99 : decode cX12_chain 99 = .ok (.iconst 0, 1) := by decide +kernel
theorem dX12_chain_100 : decode cX12_chain 100 = .ok (.invokevirtual 265, 3) := by decide +kernel
theorem dX12_chain_103 : decode cX12_chain 103 = .ok (.ishl, 1) := by decide +kernel
theorem dX12_chain_104 : decode cX12_chain 104 = .ok (.ior, 1) := by decide +kernel
theorem dX12_chain_105 : decode cX12_chain 105 = .ok (.istore 5, 2) := by decide +kernel
theorem dX12_chain_107 : decode cX12_chain 107 = .ok (.iinc 6 1, 3) := by decide +kernel
theorem dX12_chain_110 : decode cX12_chain 110 = .ok (.goto (-52), 3) := by decide +kernel
theorem dX12_chain_113 : decode cX12_chain 113 = .ok (.iload 5, 2) := by decide +kernel
theorem dX12_chain_115 : decode cX12_chain 115 = .ok (.istore_n 3, 1) := by decide +kernel
theorem dX12_chain_116 : decode cX12_chain 116 = .ok (.iinc 4 1, 3) := by decide +kernel
theorem dX12_chain_119 : decode cX12_chain 119 = .ok (.goto (-89), 3) := by decide +kernel
theorem dX12_chain_122 : decode cX12_chain 122 = .ok (.iconst (-1), 1) := by decide +kernel
theorem dX12_chain_123 : decode cX12_chain 123 = .ok (.ireturn, 1) := by decide +kernel
theorem dX12_fullest_0 : decode cX12_fullest 0 = .ok (.aload_n 0, 1) := by decide +kernel
theorem dX12_fullest_1 : decode cX12_fullest 1 = .ok (.iconst 0, 1) := by decide +kernel
theorem dX12_fullest_2 : decode cX12_fullest 2 = .ok (.putfield 1, 3) := by decide +kernel
theorem dX12_fullest_5 : decode cX12_fullest 5 = .ok (.iload_n 1, 1) := by decide +kernel
theorem dX12_fullest_6 : decode cX12_fullest 6 = .ok (.ifCond .ge 5, 3) := by decide +kernel
theorem dX12_fullest_9 : decode cX12_fullest 9 = .ok (.iconst (-1), 1) := by decide +kernel
theorem dX12_fullest_10 : decode cX12_fullest 10 = .ok (.ireturn, 1) := by decide +kernel
theorem dX12_fullest_11 : decode cX12_fullest 11 = .ok (.aload_n 0, 1) := by decide +kernel
theorem dX12_fullest_12 : decode cX12_fullest 12 = .ok (.invokevirtual 309, 3) := by decide +kernel
theorem dX12_fullest_15 : decode cX12_fullest 15 = .ok (.istore_n 2, 1) := by decide +kernel
theorem dX12_fullest_16 : decode cX12_fullest 16 = .ok (.iconst 0, 1) := by decide +kernel
theorem dX12_fullest_17 : decode cX12_fullest 17 = .ok (.istore_n 3, 1) := by decide +kernel
theorem dX12_fullest_18 : decode cX12_fullest 18 = .ok (.iload_n 2, 1) := by decide +kernel
theorem dX12_fullest_19 : decode cX12_fullest 19 = .ok (.ifCond .eq 82, 3) := by decide +kernel
theorem dX12_fullest_22 : decode cX12_fullest 22 = .ok (.iconst (-1), 1) := by decide +kernel
theorem dX12_fullest_23 : decode cX12_fullest 23 = .ok (.istore 4, 2) := by decide +kernel
theorem dX12_fullest_25 : decode cX12_fullest 25 = .ok (.iconst 0, 1) := by decide +kernel
theorem dX12_fullest_26 : decode cX12_fullest 26 = .ok (.istore 5, 2) := by decide +kernel
theorem dX12_fullest_28 : decode cX12_fullest 28 = .ok (.iload 5, 2) := by decide +kernel
theorem dX12_fullest_30 : decode cX12_fullest 30 = .ok (.aload_n 0, 1) := by decide +kernel
theorem dX12_fullest_31 : decode cX12_fullest 31 = .ok (.getfield 33, 3) := by decide +kernel
theorem dX12_fullest_34 : decode cX12_fullest 34 = .ok (.iconst 0, 1) := by decide +kernel
theorem dX12_fullest_35 : decode cX12_fullest 35 = .ok (.iaload, 1) := by decide +kernel
theorem dX12_fullest_36 : decode cX12_fullest 36 = .ok (.if_icmp .ge 42, 3) := by decide +kernel
theorem dX12_fullest_39 : decode cX12_fullest 39 = .ok (.iload_n 2, 1) := by decide +kernel
theorem dX12_fullest_40 : decode cX12_fullest 40 = .ok (.iload 5, 2) := by decide +kernel
theorem dX12_fullest_42 : decode cX12_fullest 42 = .ok (.invokestatic 259, 3) := by decide +kernel
theorem dX12_fullest_45 : decode cX12_fullest 45 = .ok (.ifCond .eq 27, 3) := by decide +kernel
theorem dX12_fullest_48 : decode cX12_fullest 48 = .ok (.iload 4, 2) := by decide +kernel
theorem dX12_fullest_50 : decode cX12_fullest 50 = .ok (.ifCond .lt 18, 3) := by decide +kernel
theorem dX12_fullest_53 : decode cX12_fullest 53 = .ok (.aload_n 0, 1) := by decide +kernel
theorem dX12_fullest_54 : decode cX12_fullest 54 = .ok (.iload 5, 2) := by decide +kernel
theorem dX12_fullest_56 : decode cX12_fullest 56 = .ok (.invokevirtual 297, 3) := by decide +kernel
theorem dX12_fullest_59 : decode cX12_fullest 59 = .ok (.aload_n 0, 1) := by decide +kernel
theorem dX12_fullest_60 : decode cX12_fullest 60 = .ok (.iload 4, 2) := by decide +kernel
theorem dX12_fullest_62 : decode cX12_fullest 62 = .ok (.invokevirtual 297, 3) := by decide +kernel
theorem dX12_fullest_65 : decode cX12_fullest 65 = .ok (.if_icmp .ge 7, 3) := by decide +kernel
theorem dX12_fullest_68 : decode cX12_fullest 68 = .ok (.iload 5, 2) := by decide +kernel
theorem dX12_fullest_70 : decode cX12_fullest 70 = .ok (.istore 4, 2) := by decide +kernel
theorem dX12_fullest_72 : decode cX12_fullest 72 = .ok (.iinc 5 1, 3) := by decide +kernel
theorem dX12_fullest_75 : decode cX12_fullest 75 = .ok (.goto (-47), 3) := by decide +kernel
theorem dX12_fullest_78 : decode cX12_fullest 78 = .ok (.iload_n 3, 1) := by decide +kernel
theorem dX12_fullest_79 : decode cX12_fullest 79 = .ok (.iload_n 1, 1) := by decide +kernel
theorem dX12_fullest_80 : decode cX12_fullest 80 = .ok (.if_icmp .ne 6, 3) := by decide +kernel
theorem dX12_fullest_83 : decode cX12_fullest 83 = .ok (.iload 4, 2) := by decide +kernel
theorem dX12_fullest_85 : decode cX12_fullest 85 = .ok (.ireturn, 1) := by decide +kernel
theorem dX12_fullest_86 : decode cX12_fullest 86 = .ok (.iload_n 2, 1) := by decide +kernel
theorem dX12_fullest_87 : decode cX12_fullest 87 = .ok (.iconst 1, 1) := by decide +kernel
theorem dX12_fullest_88 : decode cX12_fullest 88 = .ok (.iload 4, 2) := by decide +kernel
theorem dX12_fullest_90 : decode cX12_fullest 90 = .ok (.ishl, 1) := by decide +kernel
theorem dX12_fullest_91 : decode cX12_fullest 91 = .ok (.iconst (-1), 1) := by decide +kernel
theorem dX12_fullest_92 : decode cX12_fullest 92 = .ok (.ixor, 1) := by decide +kernel
theorem dX12_fullest_93 : decode cX12_fullest 93 = .ok (.iand, 1) := by decide +kernel
theorem dX12_fullest_94 : decode cX12_fullest 94 = .ok (.istore_n 2, 1) := by decide +kernel
theorem dX12_fullest_95 : decode cX12_fullest 95 = .ok (.iinc 3 1, 3) := by decide +kernel
theorem dX12_fullest_98 : decode cX12_fullest 98 = .ok (.goto (-80), 3) := by decide +kernel
theorem dX12_fullest_101 : decode cX12_fullest 101 = .ok (.iconst (-1), 1) := by decide +kernel
theorem dX12_fullest_102 : decode cX12_fullest 102 = .ok (.ireturn, 1) := by decide +kernel
theorem dX12_trade_0 : decode cX12_trade 0 = .ok (.aload_n 0, 1) := by decide +kernel
theorem dX12_trade_1 : decode cX12_trade 1 = .ok (.iconst 0, 1) := by decide +kernel
theorem dX12_trade_2 : decode cX12_trade 2 = .ok (.putfield 1, 3) := by decide +kernel
theorem dX12_trade_5 : decode cX12_trade 5 = .ok (.iload_n 1, 1) := by decide +kernel
theorem dX12_trade_6 : decode cX12_trade 6 = .ok (.iconst 0, 1) := by decide +kernel
theorem dX12_trade_7 : decode cX12_trade 7 = .ok (.bipush 99, 2) := by decide +kernel
theorem dX12_trade_9 : decode cX12_trade 9 = .ok (.invokestatic 202, 3) := by decide +kernel
theorem dX12_trade_12 : decode cX12_trade 12 = .ok (.ifCond .eq 12, 3) := by decide +kernel
theorem dX12_trade_15 : decode cX12_trade 15 = .ok (.iload_n 2, 1) := by decide +kernel
theorem dX12_trade_16 : decode cX12_trade 16 = .ok (.iconst 0, 1) := by decide +kernel
theorem dX12_trade_17 : decode cX12_trade 17 = .ok (.iconst 3, 1) := by decide +kernel
theorem dX12_trade_18 : decode cX12_trade 18 = .ok (.invokestatic 202, 3) := by decide +kernel
theorem dX12_trade_21 : decode cX12_trade 21 = .ok (.ifCond .ne 5, 3) := by decide +kernel
theorem dX12_trade_24 : decode cX12_trade 24 = .ok (.iconst (-1), 1) := by decide +kernel
theorem dX12_trade_25 : decode cX12_trade 25 = .ok (.ireturn, 1) := by decide +kernel
theorem dX12_trade_26 : decode cX12_trade 26 = .ok (.iconst 0, 1) := by decide +kernel
theorem dX12_trade_27 : decode cX12_trade 27 = .ok (.istore_n 3, 1) := by decide +kernel
theorem dX12_trade_28 : decode cX12_trade 28 = .ok (.iconst 0, 1) := by decide +kernel
theorem dX12_trade_29 : decode cX12_trade 29 = .ok (.istore 4, 2) := by decide +kernel
theorem dX12_trade_31 : decode cX12_trade 31 = .ok (.iload 4, 2) := by decide +kernel
theorem dX12_trade_33 : decode cX12_trade 33 = .ok (.aload_n 0, 1) := by decide +kernel
theorem dX12_trade_34 : decode cX12_trade 34 = .ok (.getfield 33, 3) := by decide +kernel
theorem dX12_trade_37 : decode cX12_trade 37 = .ok (.bipush 34, 2) := by decide +kernel
theorem dX12_trade_39 : decode cX12_trade 39 = .ok (.iaload, 1) := by decide +kernel
theorem dX12_trade_40 : decode cX12_trade 40 = .ok (.if_icmp .ge 50, 3) := by decide +kernel
theorem dX12_trade_43 : decode cX12_trade 43 = .ok (.iload_n 3, 1) := by decide +kernel
theorem dX12_trade_44 : decode cX12_trade 44 = .ok (.aload_n 0, 1) := by decide +kernel
theorem dX12_trade_45 : decode cX12_trade 45 = .ok (.iload 4, 2) := by decide +kernel
theorem dX12_trade_47 : decode cX12_trade 47 = .ok (.iconst 4, 1) := by decide +kernel
theorem dX12_trade_48 : decode cX12_trade 48 = .ok (.invokevirtual 265, 3) := by decide +kernel
theorem dX12_trade_51 : decode cX12_trade 51 = .ok (.iload_n 1, 1) := by decide +kernel
theorem dX12_trade_52 : decode cX12_trade 52 = .ok (.if_icmp .ne 29, 3) := by decide +kernel
theorem dX12_trade_55 : decode cX12_trade 55 = .ok (.iload_n 2, 1) := by decide +kernel
theorem dX12_trade_56 : decode cX12_trade 56 = .ok (.ifCond .eq 16, 3) := by decide +kernel
theorem dX12_trade_59 : decode cX12_trade 59 = .ok (.aload_n 0, 1) := by decide +kernel
theorem dX12_trade_60 : decode cX12_trade 60 = .ok (.iload 4, 2) := by decide +kernel
theorem dX12_trade_62 : decode cX12_trade 62 = .ok (.iconst 5, 1) := by decide +kernel
theorem dX12_trade_63 : decode cX12_trade 63 = .ok (.invokevirtual 265, 3) := by decide +kernel
theorem dX12_trade_66 : decode cX12_trade 66 = .ok (.iload_n 2, 1) := by decide +kernel
theorem dX12_trade_67 : decode cX12_trade 67 = .ok (.iconst 1, 1) := by decide +kernel
theorem dX12_trade_68 : decode cX12_trade 68 = .ok (.isub, 1) := by decide +kernel
theorem dX12_trade_69 : decode cX12_trade 69 = .ok (.if_icmp .ne 12, 3) := by decide +kernel
theorem dX12_trade_72 : decode cX12_trade 72 = .ok (.aload_n 0, 1) := by decide +kernel
theorem dX12_trade_73 : decode cX12_trade 73 = .ok (.iload 4, 2) := by decide +kernel
theorem dX12_trade_75 : decode cX12_trade 75 = .ok (.invokevirtual 281, 3) := by decide +kernel
theorem dX12_trade_78 : decode cX12_trade 78 = .ok (.goto 4, 3) := by decide +kernel
theorem dX12_trade_81 : decode cX12_trade 81 = .ok (.iconst 0, 1) := by decide +kernel
theorem dX12_trade_82 : decode cX12_trade 82 = .ok (.iadd, 1) := by decide +kernel
theorem dX12_trade_83 : decode cX12_trade 83 = .ok (.istore_n 3, 1) := by decide +kernel
theorem dX12_trade_84 : decode cX12_trade 84 = .ok (.iinc 4 1, 3) := by decide +kernel
theorem dX12_trade_87 : decode cX12_trade 87 = .ok (.goto (-56), 3) := by decide +kernel
theorem dX12_trade_90 : decode cX12_trade 90 = .ok (.iload_n 3, 1) := by decide +kernel
theorem dX12_trade_91 : decode cX12_trade 91 = .ok (.ireturn, 1) := by decide +kernel
theorem dX12_settled_0 : decode cX12_settled 0 = .ok (.aload_n 0, 1) := by decide +kernel
theorem dX12_settled_1 : decode cX12_settled 1 = .ok (.iconst 0, 1) := by decide +kernel
theorem dX12_settled_2 : decode cX12_settled 2 = .ok (.putfield 1, 3) := by decide +kernel
theorem dX12_settled_5 : decode cX12_settled 5 = .ok (.iconst 0, 1) := by decide +kernel
theorem dX12_settled_6 : decode cX12_settled 6 = .ok (.istore_n 1, 1) := by decide +kernel
theorem dX12_settled_7 : decode cX12_settled 7 = .ok (.iconst 0, 1) := by decide +kernel
theorem dX12_settled_8 : decode cX12_settled 8 = .ok (.istore_n 2, 1) := by decide +kernel
theorem dX12_settled_9 : decode cX12_settled 9 = .ok (.iload_n 2, 1) := by decide +kernel
theorem dX12_settled_10 : decode cX12_settled 10 = .ok (.aload_n 0, 1) := by decide +kernel
theorem dX12_settled_11 : decode cX12_settled 11 = .ok (.getfield 33, 3) := by decide +kernel
theorem dX12_settled_14 : decode cX12_settled 14 = .ok (.iconst 0, 1) := by decide +kernel
theorem dX12_settled_15 : decode cX12_settled 15 = .ok (.iaload, 1) := by decide +kernel
theorem dX12_settled_16 : decode cX12_settled 16 = .ok (.if_icmp .ge 32, 3) := by decide +kernel
theorem dX12_settled_19 : decode cX12_settled 19 = .ok (.aload_n 0, 1) := by decide +kernel
theorem dX12_settled_20 : decode cX12_settled 20 = .ok (.iload_n 2, 1) := by decide +kernel
theorem dX12_settled_21 : decode cX12_settled 21 = .ok (.invokevirtual 300, 3) := by decide +kernel
theorem dX12_settled_24 : decode cX12_settled 24 = .ok (.istore_n 3, 1) := by decide +kernel
theorem dX12_settled_25 : decode cX12_settled 25 = .ok (.iload_n 3, 1) := by decide +kernel
theorem dX12_settled_26 : decode cX12_settled 26 = .ok (.ifCond .ne 6, 3) := by decide +kernel
theorem dX12_settled_29 : decode cX12_settled 29 = .ok (.goto 13, 3) := by decide +kernel
theorem dX12_settled_32 : decode cX12_settled 32 = .ok (.aload_n 0, 1) := by decide +kernel
theorem dX12_settled_33 : decode cX12_settled 33 = .ok (.getfield 68, 3) := by decide +kernel
theorem dX12_settled_36 : decode cX12_settled 36 = .ok (.iload_n 1, 1) := by decide +kernel
theorem dX12_settled_37 : decode cX12_settled 37 = .ok (.iload_n 3, 1) := by decide +kernel
theorem dX12_settled_38 : decode cX12_settled 38 = .ok (.iastore, 1) := by decide +kernel
theorem dX12_settled_39 : decode cX12_settled 39 = .ok (.iinc 1 1, 3) := by decide +kernel
theorem dX12_settled_42 : decode cX12_settled 42 = .ok (.iinc 2 1, 3) := by decide +kernel
theorem dX12_settled_45 : decode cX12_settled 45 = .ok (.goto (-36), 3) := by decide +kernel
theorem dX12_settled_48 : decode cX12_settled 48 = .ok (.iconst 0, 1) := by decide +kernel
theorem dX12_settled_49 : decode cX12_settled 49 = .ok (.istore_n 2, 1) := by decide +kernel
theorem dX12_settled_50 : decode cX12_settled 50 = .ok (.iload_n 2, 1) := by decide +kernel
theorem dX12_settled_51 : decode cX12_settled 51 = .ok (.iconst 1, 1) := by decide +kernel
theorem dX12_settled_52 : decode cX12_settled 52 = .ok (.iload_n 1, 1) := by decide +kernel
theorem dX12_settled_53 : decode cX12_settled 53 = .ok (.ishl, 1) := by decide +kernel
theorem dX12_settled_54 : decode cX12_settled 54 = .ok (.if_icmp .ge 104, 3) := by decide +kernel
theorem dX12_settled_57 : decode cX12_settled 57 = .ok (.iconst 0, 1) := by decide +kernel
theorem dX12_settled_58 : decode cX12_settled 58 = .ok (.istore_n 3, 1) := by decide +kernel
theorem dX12_settled_59 : decode cX12_settled 59 = .ok (.iconst 0, 1) := by decide +kernel
theorem dX12_settled_60 : decode cX12_settled 60 = .ok (.istore 4, 2) := by decide +kernel
theorem dX12_settled_62 : decode cX12_settled 62 = .ok (.iconst 0, 1) := by decide +kernel
theorem dX12_settled_63 : decode cX12_settled 63 = .ok (.istore 5, 2) := by decide +kernel
theorem dX12_settled_65 : decode cX12_settled 65 = .ok (.iload 5, 2) := by decide +kernel
theorem dX12_settled_67 : decode cX12_settled 67 = .ok (.iload_n 1, 1) := by decide +kernel
theorem dX12_settled_68 : decode cX12_settled 68 = .ok (.if_icmp .ge 62, 3) := by decide +kernel
theorem dX12_settled_71 : decode cX12_settled 71 = .ok (.iload_n 2, 1) := by decide +kernel
theorem dX12_settled_72 : decode cX12_settled 72 = .ok (.iload 5, 2) := by decide +kernel
theorem dX12_settled_74 : decode cX12_settled 74 = .ok (.invokestatic 259, 3) := by decide +kernel
theorem dX12_settled_77 : decode cX12_settled 77 = .ok (.ifCond .ne 6, 3) := by decide +kernel
theorem dX12_settled_80 : decode cX12_settled 80 = .ok (.goto 44, 3) := by decide +kernel
theorem dX12_settled_83 : decode cX12_settled 83 = .ok (.iload_n 3, 1) := by decide +kernel
theorem dX12_settled_84 : decode cX12_settled 84 = .ok (.aload_n 0, 1) := by decide +kernel
theorem dX12_settled_85 : decode cX12_settled 85 = .ok (.getfield 68, 3) := by decide +kernel
theorem dX12_settled_88 : decode cX12_settled 88 = .ok (.iload 5, 2) := by decide +kernel
theorem dX12_settled_90 : decode cX12_settled 90 = .ok (.iaload, 1) := by decide +kernel
theorem dX12_settled_91 : decode cX12_settled 91 = .ok (.iadd, 1) := by decide +kernel
theorem dX12_settled_92 : decode cX12_settled 92 = .ok (.istore_n 3, 1) := by decide +kernel
theorem dX12_settled_93 : decode cX12_settled 93 = .ok (.aload_n 0, 1) := by decide +kernel
theorem dX12_settled_94 : decode cX12_settled 94 = .ok (.getfield 65, 3) := by decide +kernel
theorem dX12_settled_97 : decode cX12_settled 97 = .ok (.iload_n 2, 1) := by decide +kernel
theorem dX12_settled_98 : decode cX12_settled 98 = .ok (.iconst 1, 1) := by decide +kernel
theorem dX12_settled_99 : decode cX12_settled 99 = .ok (.iload 5, 2) := by decide +kernel
theorem dX12_settled_101 : decode cX12_settled 101 = .ok (.ishl, 1) := by decide +kernel
theorem dX12_settled_102 : decode cX12_settled 102 = .ok (.iconst (-1), 1) := by decide +kernel
theorem dX12_settled_103 : decode cX12_settled 103 = .ok (.ixor, 1) := by decide +kernel
theorem dX12_settled_104 : decode cX12_settled 104 = .ok (.iand, 1) := by decide +kernel
theorem dX12_settled_105 : decode cX12_settled 105 = .ok (.iaload, 1) := by decide +kernel
theorem dX12_settled_106 : decode cX12_settled 106 = .ok (.istore 6, 2) := by decide +kernel
theorem dX12_settled_108 : decode cX12_settled 108 = .ok (.iload 6, 2) := by decide +kernel
theorem dX12_settled_110 : decode cX12_settled 110 = .ok (.iload 4, 2) := by decide +kernel
theorem dX12_settled_112 : decode cX12_settled 112 = .ok (.if_icmp .le 8, 3) := by decide +kernel
theorem dX12_settled_115 : decode cX12_settled 115 = .ok (.iload 6, 2) := by decide +kernel
theorem dX12_settled_117 : decode cX12_settled 117 = .ok (.goto 5, 3) := by decide +kernel
theorem dX12_settled_120 : decode cX12_settled 120 = .ok (.iload 4, 2) := by decide +kernel
theorem dX12_settled_122 : decode cX12_settled 122 = .ok (.istore 4, 2) := by decide +kernel
theorem dX12_settled_124 : decode cX12_settled 124 = .ok (.iinc 5 1, 3) := by decide +kernel
theorem dX12_settled_127 : decode cX12_settled 127 = .ok (.goto (-62), 3) := by decide +kernel
theorem dX12_settled_130 : decode cX12_settled 130 = .ok (.aload_n 0, 1) := by decide +kernel
theorem dX12_settled_131 : decode cX12_settled 131 = .ok (.getfield 65, 3) := by decide +kernel
theorem dX12_settled_134 : decode cX12_settled 134 = .ok (.iload_n 2, 1) := by decide +kernel
theorem dX12_settled_135 : decode cX12_settled 135 = .ok (.iload 4, 2) := by decide +kernel
theorem dX12_settled_137 : decode cX12_settled 137 = .ok (.iload_n 2, 1) := by decide +kernel
theorem dX12_settled_138 : decode cX12_settled 138 = .ok (.ifCond .eq 11, 3) := by decide +kernel
theorem dX12_settled_141 : decode cX12_settled 141 = .ok (.iload_n 3, 1) := by decide +kernel
theorem dX12_settled_142 : decode cX12_settled 142 = .ok (.ifCond .ne 7, 3) := by decide +kernel
theorem dX12_settled_145 : decode cX12_settled 145 = .ok (.iconst 1, 1) := by decide +kernel
theorem dX12_settled_146 : decode cX12_settled 146 = .ok (.goto 4, 3) := by decide +kernel
theorem dX12_settled_149 : decode cX12_settled 149 = .ok (.iconst 0, 1) := by decide +kernel
theorem dX12_settled_150 : decode cX12_settled 150 = .ok (.iadd, 1) := by decide +kernel
theorem dX12_settled_151 : decode cX12_settled 151 = .ok (.iastore, 1) := by decide +kernel
theorem dX12_settled_152 : decode cX12_settled 152 = .ok (.iinc 2 1, 3) := by decide +kernel
theorem dX12_settled_155 : decode cX12_settled 155 = .ok (.goto (-105), 3) := by decide +kernel
theorem dX12_settled_158 : decode cX12_settled 158 = .ok (.iload_n 1, 1) := by decide +kernel
theorem dX12_settled_159 : decode cX12_settled 159 = .ok (.aload_n 0, 1) := by decide +kernel
theorem dX12_settled_160 : decode cX12_settled 160 = .ok (.getfield 65, 3) := by decide +kernel
theorem dX12_settled_163 : decode cX12_settled 163 = .ok (.iconst 1, 1) := by decide +kernel
theorem dX12_settled_164 : decode cX12_settled 164 = .ok (.iload_n 1, 1) := by decide +kernel
theorem dX12_settled_165 : decode cX12_settled 165 = .ok (.ishl, 1) := by decide +kernel
theorem dX12_settled_166 : decode cX12_settled 166 = .ok (.iconst 1, 1) := by decide +kernel
theorem dX12_settled_167 : decode cX12_settled 167 = .ok (.isub, 1) := by decide +kernel
theorem dX12_settled_168 : decode cX12_settled 168 = .ok (.iaload, 1) := by decide +kernel
theorem dX12_settled_169 : decode cX12_settled 169 = .ok (.isub, 1) := by decide +kernel
theorem dX12_settled_170 : decode cX12_settled 170 = .ok (.ireturn, 1) := by decide +kernel
theorem dX12_put_0 : decode cX12_put 0 = .ok (.aload_n 0, 1) := by decide +kernel
theorem dX12_put_1 : decode cX12_put 1 = .ok (.getfield 71, 3) := by decide +kernel
theorem dX12_put_4 : decode cX12_put 4 = .ok (.aload_n 0, 1) := by decide +kernel
theorem dX12_put_5 : decode cX12_put 5 = .ok (.getfield 386, 3) := by decide +kernel
theorem dX12_put_8 : decode cX12_put 8 = .ok (.iload_n 1, 1) := by decide +kernel
theorem dX12_put_9 : decode cX12_put 9 = .ok (.i2b, 1) := by decide +kernel
theorem dX12_put_10 : decode cX12_put 10 = .ok (.bastore, 1) := by decide +kernel
theorem dX12_put_11 : decode cX12_put 11 = .ok (.aload_n 0, 1) := by decide +kernel
theorem dX12_put_12 : decode cX12_put 12 = .ok (.dup, 1) := by decide +kernel
theorem dX12_put_13 : decode cX12_put 13 = .ok (.getfield 386, 3) := by decide +kernel
theorem dX12_put_16 : decode cX12_put 16 = .ok (.iconst 1, 1) := by decide +kernel
theorem dX12_put_17 : decode cX12_put 17 = .ok (.iadd, 1) := by decide +kernel
theorem dX12_put_18 : decode cX12_put 18 = .ok (.putfield 386, 3) := by decide +kernel
theorem dX12_put_21 : decode cX12_put 21 = .ok (.return_, 1) := by decide +kernel
theorem dX12_putName_0 : decode cX12_putName 0 = .ok (.bipush 48, 2) := by decide +kernel
theorem dX12_putName_2 : decode cX12_putName 2 = .ok (.istore_n 3, 1) := by decide +kernel
theorem dX12_putName_3 : decode cX12_putName 3 = .ok (.iload_n 3, 1) := by decide +kernel
theorem dX12_putName_4 : decode cX12_putName 4 = .ok (.ifCond .lt 33, 3) := by decide +kernel
theorem dX12_putName_7 : decode cX12_putName 7 = .ok (.lload_n 1, 1) := by decide +kernel
theorem dX12_putName_8 : decode cX12_putName 8 = .ok (.iload_n 3, 1) := by decide +kernel
theorem dX12_putName_9 : decode cX12_putName 9 = .ok (.lshr, 1) := by decide +kernel
theorem dX12_putName_10 : decode cX12_putName 10 = .ok (.ldc2_w 389, 3) := by decide +kernel
theorem dX12_putName_13 : decode cX12_putName 13 = .ok (.land, 1) := by decide +kernel
theorem dX12_putName_14 : decode cX12_putName 14 = .ok (.lconst 0, 1) := by decide +kernel
theorem dX12_putName_15 : decode cX12_putName 15 = .ok (.lcmp, 1) := by decide +kernel
theorem dX12_putName_16 : decode cX12_putName 16 = .ok (.ifCond .eq 15, 3) := by decide +kernel
theorem dX12_putName_19 : decode cX12_putName 19 = .ok (.aload_n 0, 1) := by decide +kernel
theorem dX12_putName_20 : decode cX12_putName 20 = .ok (.lload_n 1, 1) := by decide +kernel
theorem dX12_putName_21 : decode cX12_putName 21 = .ok (.iload_n 3, 1) := by decide +kernel
theorem dX12_putName_22 : decode cX12_putName 22 = .ok (.lshr, 1) := by decide +kernel
theorem dX12_putName_23 : decode cX12_putName 23 = .ok (.ldc2_w 389, 3) := by decide +kernel
theorem dX12_putName_26 : decode cX12_putName 26 = .ok (.land, 1) := by decide +kernel
theorem dX12_putName_27 : decode cX12_putName 27 = .ok (.l2i, 1) := by decide +kernel
theorem dX12_putName_28 : decode cX12_putName 28 = .ok (.invokevirtual 391, 3) := by decide +kernel
theorem dX12_putName_31 : decode cX12_putName 31 = .ok (.iinc 3 (-8), 3) := by decide +kernel
theorem dX12_putName_34 : decode cX12_putName 34 = .ok (.goto (-31), 3) := by decide +kernel
theorem dX12_putName_37 : decode cX12_putName 37 = .ok (.return_, 1) := by decide +kernel
theorem dX12_putNumber_0 : decode cX12_putNumber 0 = .ok (.iload_n 1, 1) := by decide +kernel
theorem dX12_putNumber_1 : decode cX12_putNumber 1 = .ok (.bipush 10, 2) := by decide +kernel
theorem dX12_putNumber_3 : decode cX12_putNumber 3 = .ok (.if_icmp .lt 14, 3) := by decide +kernel
theorem dX12_putNumber_6 : decode cX12_putNumber 6 = .ok (.aload_n 0, 1) := by decide +kernel
theorem dX12_putNumber_7 : decode cX12_putNumber 7 = .ok (.bipush 48, 2) := by decide +kernel
theorem dX12_putNumber_9 : decode cX12_putNumber 9 = .ok (.iload_n 1, 1) := by decide +kernel
theorem dX12_putNumber_10 : decode cX12_putNumber 10 = .ok (.bipush 10, 2) := by decide +kernel
theorem dX12_putNumber_12 : decode cX12_putNumber 12 = .ok (.idiv, 1) := by decide +kernel
theorem dX12_putNumber_13 : decode cX12_putNumber 13 = .ok (.iadd, 1) := by decide +kernel
theorem dX12_putNumber_14 : decode cX12_putNumber 14 = .ok (.invokevirtual 391, 3) := by decide +kernel
theorem dX12_putNumber_17 : decode cX12_putNumber 17 = .ok (.aload_n 0, 1) := by decide +kernel
theorem dX12_putNumber_18 : decode cX12_putNumber 18 = .ok (.bipush 48, 2) := by decide +kernel
theorem dX12_putNumber_20 : decode cX12_putNumber 20 = .ok (.iload_n 1, 1) := by decide +kernel
theorem dX12_putNumber_21 : decode cX12_putNumber 21 = .ok (.bipush 10, 2) := by decide +kernel
theorem dX12_putNumber_23 : decode cX12_putNumber 23 = .ok (.irem, 1) := by decide +kernel
theorem dX12_putNumber_24 : decode cX12_putNumber 24 = .ok (.iadd, 1) := by decide +kernel
theorem dX12_putNumber_25 : decode cX12_putNumber 25 = .ok (.invokevirtual 391, 3) := by decide +kernel
theorem dX12_putNumber_28 : decode cX12_putNumber 28 = .ok (.return_, 1) := by decide +kernel
theorem dX12_skin_0 : decode cX12_skin 0 = .ok (.aload_n 0, 1) := by decide +kernel
theorem dX12_skin_1 : decode cX12_skin 1 = .ok (.iconst 0, 1) := by decide +kernel
theorem dX12_skin_2 : decode cX12_skin 2 = .ok (.putfield 1, 3) := by decide +kernel
theorem dX12_skin_5 : decode cX12_skin 5 = .ok (.aload_n 0, 1) := by decide +kernel
theorem dX12_skin_6 : decode cX12_skin 6 = .ok (.iload_n 1, 1) := by decide +kernel
theorem dX12_skin_7 : decode cX12_skin 7 = .ok (.invokevirtual 287, 3) := by decide +kernel
theorem dX12_skin_10 : decode cX12_skin 10 = .ok (.ifCond .ne 5, 3) := by decide +kernel
theorem dX12_skin_13 : decode cX12_skin 13 = .ok (.iconst (-1), 1) := by decide +kernel
theorem dX12_skin_14 : decode cX12_skin 14 = .ok (.ireturn, 1) := by decide +kernel
theorem dX12_skin_15 : decode cX12_skin 15 = .ok (.aload_n 0, 1) := by decide +kernel
theorem dX12_skin_16 : decode cX12_skin 16 = .ok (.iconst 0, 1) := by decide +kernel
theorem dX12_skin_17 : decode cX12_skin 17 = .ok (.putfield 386, 3) := by decide +kernel
theorem dX12_skin_20 : decode cX12_skin 20 = .ok (.aload_n 0, 1) := by decide +kernel
theorem dX12_skin_21 : decode cX12_skin 21 = .ok (.iload_n 1, 1) := by decide +kernel
theorem dX12_skin_22 : decode cX12_skin 22 = .ok (.iconst (-1), 1) := by decide +kernel
theorem dX12_skin_23 : decode cX12_skin 23 = .ok (.invokevirtual 315, 3) := by decide +kernel
theorem dX12_skin_26 : decode cX12_skin 26 = .ok (.istore_n 2, 1) := by decide +kernel
theorem dX12_skin_27 : decode cX12_skin 27 = .ok (.iconst 0, 1) := by decide +kernel
theorem dX12_skin_28 : decode cX12_skin 28 = .ok (.istore_n 3, 1) := by decide +kernel
theorem dX12_skin_29 : decode cX12_skin 29 = .ok (.iload_n 3, 1) := by decide +kernel
theorem dX12_skin_30 : decode cX12_skin 30 = .ok (.iload_n 2, 1) := by decide +kernel
theorem dX12_skin_31 : decode cX12_skin 31 = .ok (.if_icmp .ge 175, 3) := by decide +kernel
theorem dX12_skin_34 : decode cX12_skin 34 = .ok (.aload_n 0, 1) := by decide +kernel
theorem dX12_skin_35 : decode cX12_skin 35 = .ok (.iload_n 1, 1) := by decide +kernel
theorem dX12_skin_36 : decode cX12_skin 36 = .ok (.iload_n 3, 1) := by decide +kernel
theorem dX12_skin_37 : decode cX12_skin 37 = .ok (.invokevirtual 315, 3) := by decide +kernel
theorem dX12_skin_40 : decode cX12_skin 40 = .ok (.istore 4, 2) := by decide +kernel
theorem dX12_skin_42 : decode cX12_skin 42 = .ok (.iload 4, 2) := by decide +kernel
theorem dX12_skin_44 : decode cX12_skin 44 = .ok (.iconst 2, 1) := by decide +kernel
theorem dX12_skin_45 : decode cX12_skin 45 = .ok (.idiv, 1) := by decide +kernel
theorem dX12_skin_46 : decode cX12_skin 46 = .ok (.istore 5, 2) := by decide +kernel
theorem dX12_skin_48 : decode cX12_skin 48 = .ok (.aload_n 0, 1) := by decide +kernel
theorem dX12_skin_49 : decode cX12_skin 49 = .ok (.iload 4, 2) := by decide +kernel
theorem dX12_skin_51 : decode cX12_skin 51 = .ok (.iconst 2, 1) := by decide +kernel
theorem dX12_skin_52 : decode cX12_skin 52 = .ok (.irem, 1) := by decide +kernel
theorem dX12_skin_53 : decode cX12_skin 53 = .ok (.ifCond .ne 8, 3) := by decide +kernel
theorem dX12_skin_56 : decode cX12_skin 56 = .ok (.bipush 43, 2) := by decide +kernel
theorem dX12_skin_58 : decode cX12_skin 58 = .ok (.goto 5, 3) := by decide +kernel
theorem dX12_skin_61 : decode cX12_skin 61 = .ok (.bipush 45, 2) := by decide +kernel
theorem dX12_skin_63 : decode cX12_skin 63 = .ok (.invokevirtual 391, 3) := by decide +kernel
theorem dX12_skin_66 : decode cX12_skin 66 = .ok (.aload_n 0, 1) := by decide +kernel
theorem dX12_skin_67 : decode cX12_skin 67 = .ok (.bipush 32, 2) := by decide +kernel
theorem dX12_skin_69 : decode cX12_skin 69 = .ok (.invokevirtual 391, 3) := by decide +kernel
theorem dX12_skin_72 : decode cX12_skin 72 = .ok (.aload_n 0, 1) := by decide +kernel
theorem dX12_skin_73 : decode cX12_skin 73 = .ok (.aload_n 0, 1) := by decide +kernel
theorem dX12_skin_74 : decode cX12_skin 74 = .ok (.getfield 43, 3) := by decide +kernel
theorem dX12_skin_77 : decode cX12_skin 77 = .ok (.aload_n 0, 1) := by decide +kernel
theorem dX12_skin_78 : decode cX12_skin 78 = .ok (.iload 5, 2) := by decide +kernel
theorem dX12_skin_80 : decode cX12_skin 80 = .ok (.iconst 1, 1) := by decide +kernel
theorem dX12_skin_81 : decode cX12_skin 81 = .ok (.iload 4, 2) := by decide +kernel
theorem dX12_skin_83 : decode cX12_skin 83 = .ok (.iconst 2, 1) := by decide +kernel
theorem dX12_skin_84 : decode cX12_skin 84 = .ok (.irem, 1) := by decide +kernel
theorem dX12_skin_85 : decode cX12_skin 85 = .ok (.isub, 1) := by decide +kernel
theorem dX12_skin_86 : decode cX12_skin 86 = .ok (.invokevirtual 265, 3) := by decide +kernel
theorem dX12_skin_89 : decode cX12_skin 89 = .ok (.laload, 1) := by decide +kernel
theorem dX12_skin_90 : decode cX12_skin 90 = .ok (.invokevirtual 394, 3) := by decide +kernel
theorem dX12_skin_93 : decode cX12_skin 93 = .ok (.aload_n 0, 1) := by decide +kernel
theorem dX12_skin_94 : decode cX12_skin 94 = .ok (.bipush 32, 2) := by decide +kernel
theorem dX12_skin_96 : decode cX12_skin 96 = .ok (.invokevirtual 391, 3) := by decide +kernel
theorem dX12_skin_99 : decode cX12_skin 99 = .ok (.aload_n 0, 1) := by decide +kernel
theorem dX12_skin_100 : decode cX12_skin 100 = .ok (.iload 5, 2) := by decide +kernel
theorem dX12_skin_102 : decode cX12_skin 102 = .ok (.bipush 8, 2) := by decide +kernel
theorem dX12_skin_104 : decode cX12_skin 104 = .ok (.invokevirtual 265, 3) := by decide +kernel
theorem dX12_skin_107 : decode cX12_skin 107 = .ok (.iload 4, 2) := by decide +kernel
theorem dX12_skin_109 : decode cX12_skin 109 = .ok (.iconst 2, 1) := by decide +kernel
theorem dX12_skin_110 : decode cX12_skin 110 = .ok (.irem, 1) := by decide +kernel
theorem dX12_skin_111 : decode cX12_skin 111 = .ok (.invokestatic 259, 3) := by decide +kernel
theorem dX12_skin_114 : decode cX12_skin 114 = .ok (.ifCond .eq 12, 3) := by decide +kernel
theorem dX12_skin_117 : decode cX12_skin 117 = .ok (.aload_n 0, 1) := by decide +kernel
theorem dX12_skin_118 : decode cX12_skin 118 = .ok (.bipush 63, 2) := by decide +kernel
theorem dX12_skin_120 : decode cX12_skin 120 = .ok (.invokevirtual 391, 3) := by decide +kernel
theorem dX12_skin_123 : decode cX12_skin 123 = .ok (.goto 14, 3) := by decide +kernel
theorem dX12_skin_126 : decode cX12_skin 126 = .ok (.aload_n 0, 1) := by decide +kernel
theorem dX12_skin_127 : decode cX12_skin 127 = .ok (.aload_n 0, 1) := by decide +kernel
theorem dX12_skin_128 : decode cX12_skin 128 = .ok (.iload 5, 2) := by decide +kernel
theorem dX12_skin_130 : decode cX12_skin 130 = .ok (.iconst 2, 1) := by decide +kernel
theorem dX12_skin_131 : decode cX12_skin 131 = .ok (.invokevirtual 265, 3) := by decide +kernel
theorem dX12_skin_134 : decode cX12_skin 134 = .ok (.invokevirtual 398, 3) := by decide +kernel
theorem dX12_skin_137 : decode cX12_skin 137 = .ok (.aload_n 0, 1) := by decide +kernel
theorem dX12_skin_138 : decode cX12_skin 138 = .ok (.bipush 32, 2) := by decide +kernel
theorem dX12_skin_140 : decode cX12_skin 140 = .ok (.invokevirtual 391, 3) := by decide +kernel
theorem dX12_skin_143 : decode cX12_skin 143 = .ok (.aload_n 0, 1) := by decide +kernel
theorem dX12_skin_144 : decode cX12_skin 144 = .ok (.aload_n 0, 1) := by decide +kernel
theorem dX12_skin_145 : decode cX12_skin 145 = .ok (.getfield 43, 3) := by decide +kernel
theorem dX12_skin_148 : decode cX12_skin 148 = .ok (.bipush 9, 2) := by decide +kernel
theorem dX12_skin_150 : decode cX12_skin 150 = .ok (.aload_n 0, 1) := by decide +kernel
theorem dX12_skin_151 : decode cX12_skin 151 = .ok (.iload 5, 2) := by decide +kernel
theorem dX12_skin_153 : decode cX12_skin 153 = .ok (.iconst 3, 1) := by decide +kernel
theorem dX12_skin_154 : decode cX12_skin 154 = .ok (.invokevirtual 265, 3) := by decide +kernel
theorem dX12_skin_157 : decode cX12_skin 157 = .ok (.iadd, 1) := by decide +kernel
theorem dX12_skin_158 : decode cX12_skin 158 = .ok (.laload, 1) := by decide +kernel
theorem dX12_skin_159 : decode cX12_skin 159 = .ok (.invokevirtual 394, 3) := by decide +kernel
theorem dX12_skin_162 : decode cX12_skin 162 = .ok (.aload_n 0, 1) := by decide +kernel
theorem dX12_skin_163 : decode cX12_skin 163 = .ok (.iload 5, 2) := by decide +kernel
theorem dX12_skin_165 : decode cX12_skin 165 = .ok (.iconst 5, 1) := by decide +kernel
theorem dX12_skin_166 : decode cX12_skin 166 = .ok (.invokevirtual 265, 3) := by decide +kernel
theorem dX12_skin_169 : decode cX12_skin 169 = .ok (.ifCond .le 25, 3) := by decide +kernel
theorem dX12_skin_172 : decode cX12_skin 172 = .ok (.aload_n 0, 1) := by decide +kernel
theorem dX12_skin_173 : decode cX12_skin 173 = .ok (.aload_n 0, 1) := by decide +kernel
theorem dX12_skin_174 : decode cX12_skin 174 = .ok (.iload 5, 2) := by decide +kernel
theorem dX12_skin_176 : decode cX12_skin 176 = .ok (.iconst 5, 1) := by decide +kernel
theorem dX12_skin_177 : decode cX12_skin 177 = .ok (.invokevirtual 265, 3) := by decide +kernel
theorem dX12_skin_180 : decode cX12_skin 180 = .ok (.iconst 1, 1) := by decide +kernel
theorem dX12_skin_181 : decode cX12_skin 181 = .ok (.if_icmp .ne 8, 3) := by decide +kernel
theorem dX12_skin_184 : decode cX12_skin 184 = .ok (.bipush 120, 2) := by decide +kernel
theorem dX12_skin_186 : decode cX12_skin 186 = .ok (.goto 5, 3) := by decide +kernel
theorem dX12_skin_189 : decode cX12_skin 189 = .ok (.bipush 111, 2) := by decide +kernel
theorem dX12_skin_191 : decode cX12_skin 191 = .ok (.invokevirtual 391, 3) := by decide +kernel
theorem dX12_skin_194 : decode cX12_skin 194 = .ok (.aload_n 0, 1) := by decide +kernel
theorem dX12_skin_195 : decode cX12_skin 195 = .ok (.bipush 59, 2) := by decide +kernel
theorem dX12_skin_197 : decode cX12_skin 197 = .ok (.invokevirtual 391, 3) := by decide +kernel
theorem dX12_skin_200 : decode cX12_skin 200 = .ok (.iinc 3 1, 3) := by decide +kernel
theorem dX12_skin_203 : decode cX12_skin 203 = .ok (.goto (-174), 3) := by decide +kernel
theorem dX12_skin_206 : decode cX12_skin 206 = .ok (.aload_n 0, 1) := by decide +kernel
theorem dX12_skin_207 : decode cX12_skin 207 = .ok (.getfield 386, 3) := by decide +kernel
theorem dX12_skin_210 : decode cX12_skin 210 = .ok (.ireturn, 1) := by decide +kernel
theorem dX12_byteAt_0 : decode cX12_byteAt 0 = .ok (.aload_n 0, 1) := by decide +kernel
theorem dX12_byteAt_1 : decode cX12_byteAt 1 = .ok (.iconst 0, 1) := by decide +kernel
theorem dX12_byteAt_2 : decode cX12_byteAt 2 = .ok (.putfield 1, 3) := by decide +kernel
theorem dX12_byteAt_5 : decode cX12_byteAt 5 = .ok (.iload_n 1, 1) := by decide +kernel
theorem dX12_byteAt_6 : decode cX12_byteAt 6 = .ok (.iconst 0, 1) := by decide +kernel
theorem dX12_byteAt_7 : decode cX12_byteAt 7 = .ok (.aload_n 0, 1) := by decide +kernel
theorem dX12_byteAt_8 : decode cX12_byteAt 8 = .ok (.getfield 386, 3) := by decide +kernel
theorem dX12_byteAt_11 : decode cX12_byteAt 11 = .ok (.iconst 1, 1) := by decide +kernel
theorem dX12_byteAt_12 : decode cX12_byteAt 12 = .ok (.isub, 1) := by decide +kernel
theorem dX12_byteAt_13 : decode cX12_byteAt 13 = .ok (.invokestatic 202, 3) := by decide +kernel
theorem dX12_byteAt_16 : decode cX12_byteAt 16 = .ok (.ifCond .eq 16, 3) := by decide +kernel
theorem dX12_byteAt_19 : decode cX12_byteAt 19 = .ok (.aload_n 0, 1) := by decide +kernel
theorem dX12_byteAt_20 : decode cX12_byteAt 20 = .ok (.getfield 71, 3) := by decide +kernel
theorem dX12_byteAt_23 : decode cX12_byteAt 23 = .ok (.iload_n 1, 1) := by decide +kernel
theorem dX12_byteAt_24 : decode cX12_byteAt 24 = .ok (.baload, 1) := by decide +kernel
theorem dX12_byteAt_25 : decode cX12_byteAt 25 = .ok (.sipush 255, 3) := by decide +kernel
theorem dX12_byteAt_28 : decode cX12_byteAt 28 = .ok (.iand, 1) := by decide +kernel
theorem dX12_byteAt_29 : decode cX12_byteAt 29 = .ok (.goto 4, 3) := by decide +kernel
theorem dX12_byteAt_32 : decode cX12_byteAt 32 = .ok (.iconst (-1), 1) := by decide +kernel
theorem dX12_byteAt_33 : decode cX12_byteAt 33 = .ok (.ireturn, 1) := by decide +kernel
theorem dX12_between_0 : decode cX12_between 0 = .ok (.aload_n 0, 1) := by decide +kernel
theorem dX12_between_1 : decode cX12_between 1 = .ok (.iconst 0, 1) := by decide +kernel
theorem dX12_between_2 : decode cX12_between 2 = .ok (.putfield 1, 3) := by decide +kernel
theorem dX12_between_5 : decode cX12_between 5 = .ok (.aload_n 0, 1) := by decide +kernel
theorem dX12_between_6 : decode cX12_between 6 = .ok (.iload_n 1, 1) := by decide +kernel
theorem dX12_between_7 : decode cX12_between 7 = .ok (.invokevirtual 287, 3) := by decide +kernel
theorem dX12_between_10 : decode cX12_between 10 = .ok (.ifCond .eq 16, 3) := by decide +kernel
theorem dX12_between_13 : decode cX12_between 13 = .ok (.aload_n 0, 1) := by decide +kernel
theorem dX12_between_14 : decode cX12_between 14 = .ok (.iload_n 2, 1) := by decide +kernel
theorem dX12_between_15 : decode cX12_between 15 = .ok (.invokevirtual 287, 3) := by decide +kernel
theorem dX12_between_18 : decode cX12_between 18 = .ok (.ifCond .eq 8, 3) := by decide +kernel
theorem dX12_between_21 : decode cX12_between 21 = .ok (.iload_n 3, 1) := by decide +kernel
theorem dX12_between_22 : decode cX12_between 22 = .ok (.iconst (-1), 1) := by decide +kernel
theorem dX12_between_23 : decode cX12_between 23 = .ok (.if_icmp .ge 5, 3) := by decide +kernel
theorem dX12_between_26 : decode cX12_between 26 = .ok (.iconst (-1), 1) := by decide +kernel
theorem dX12_between_27 : decode cX12_between 27 = .ok (.ireturn, 1) := by decide +kernel
theorem dX12_between_28 : decode cX12_between 28 = .ok (.iconst 0, 1) := by decide +kernel
theorem dX12_between_29 : decode cX12_between 29 = .ok (.istore 4, 2) := by decide +kernel
theorem dX12_between_31 : decode cX12_between 31 = .ok (.iconst 0, 1) := by decide +kernel
theorem dX12_between_32 : decode cX12_between 32 = .ok (.istore 5, 2) := by decide +kernel
theorem dX12_between_34 : decode cX12_between 34 = .ok (.iload 5, 2) := by decide +kernel
theorem dX12_between_36 : decode cX12_between 36 = .ok (.aload_n 0, 1) := by decide +kernel
theorem dX12_between_37 : decode cX12_between 37 = .ok (.getfield 33, 3) := by decide +kernel
theorem dX12_between_40 : decode cX12_between 40 = .ok (.bipush 34, 2) := by decide +kernel
theorem dX12_between_42 : decode cX12_between 42 = .ok (.iaload, 1) := by decide +kernel
theorem dX12_between_43 : decode cX12_between 43 = .ok (.if_icmp .ge 55, 3) := by decide +kernel
theorem dX12_between_46 : decode cX12_between 46 = .ok (.aload_n 0, 1) := by decide +kernel
theorem dX12_between_47 : decode cX12_between 47 = .ok (.iload 5, 2) := by decide +kernel
theorem dX12_between_49 : decode cX12_between 49 = .ok (.invokevirtual 278, 3) := by decide +kernel
theorem dX12_between_52 : decode cX12_between 52 = .ok (.ifCond .eq 40, 3) := by decide +kernel
theorem dX12_between_55 : decode cX12_between 55 = .ok (.aload_n 0, 1) := by decide +kernel
theorem dX12_between_56 : decode cX12_between 56 = .ok (.iload 5, 2) := by decide +kernel
theorem dX12_between_58 : decode cX12_between 58 = .ok (.iconst 0, 1) := by decide +kernel
theorem dX12_between_59 : decode cX12_between 59 = .ok (.invokevirtual 265, 3) := by decide +kernel
theorem dX12_between_62 : decode cX12_between 62 = .ok (.iload_n 1, 1) := by decide +kernel
theorem dX12_between_63 : decode cX12_between 63 = .ok (.if_icmp .ne 29, 3) := by decide +kernel
theorem dX12_between_66 : decode cX12_between 66 = .ok (.aload_n 0, 1) := by decide +kernel
theorem dX12_between_67 : decode cX12_between 67 = .ok (.iload 5, 2) := by decide +kernel
theorem dX12_between_69 : decode cX12_between 69 = .ok (.iconst 1, 1) := by decide +kernel
theorem dX12_between_70 : decode cX12_between 70 = .ok (.invokevirtual 265, 3) := by decide +kernel
theorem dX12_between_73 : decode cX12_between 73 = .ok (.iload_n 2, 1) := by decide +kernel
theorem dX12_between_74 : decode cX12_between 74 = .ok (.if_icmp .eq 6, 3) := by decide +kernel
theorem dX12_between_77 : decode cX12_between 77 = .ok (.goto 15, 3) := by decide +kernel
theorem dX12_between_80 : decode cX12_between 80 = .ok (.iload 4, 2) := by decide +kernel
theorem dX12_between_82 : decode cX12_between 82 = .ok (.iload_n 3, 1) := by decide +kernel
theorem dX12_between_83 : decode cX12_between 83 = .ok (.if_icmp .ne 6, 3) := by decide +kernel
theorem dX12_between_86 : decode cX12_between 86 = .ok (.iload 5, 2) := by decide +kernel
theorem dX12_between_88 : decode cX12_between 88 = .ok (.ireturn, 1) := by decide +kernel
theorem dX12_between_89 : decode cX12_between 89 = .ok (.iinc 4 1, 3) := by decide +kernel
theorem dX12_between_92 : decode cX12_between 92 = .ok (.iinc 5 1, 3) := by decide +kernel
theorem dX12_between_95 : decode cX12_between 95 = .ok (.goto (-61), 3) := by decide +kernel
theorem dX12_between_98 : decode cX12_between 98 = .ok (.iload_n 3, 1) := by decide +kernel
theorem dX12_between_99 : decode cX12_between 99 = .ok (.iconst (-1), 1) := by decide +kernel
theorem dX12_between_100 : decode cX12_between 100 = .ok (.if_icmp .ne 8, 3) := by decide +kernel
theorem dX12_between_103 : decode cX12_between 103 = .ok (.iload 4, 2) := by decide +kernel
theorem dX12_between_105 : decode cX12_between 105 = .ok (.goto 4, 3) := by decide +kernel
theorem dX12_between_108 : decode cX12_between 108 = .ok (.iconst (-1), 1) := by decide +kernel
theorem dX12_between_109 : decode cX12_between 109 = .ok (.ireturn, 1) := by decide +kernel
