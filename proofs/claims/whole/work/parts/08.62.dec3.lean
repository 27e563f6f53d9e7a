theorem dX12_greatest_0 : decode cX12_greatest 0 = .ok (.aload_n 0, 1) := by decide +kernel
theorem dX12_greatest_1 : decode cX12_greatest 1 = .ok (.iconst 0, 1) := by decide +kernel
theorem dX12_greatest_2 : decode cX12_greatest 2 = .ok (.putfield 1, 3) := by decide +kernel
theorem dX12_greatest_5 : decode cX12_greatest 5 = .ok (.iconst 0, 1) := by decide +kernel
theorem dX12_greatest_6 : decode cX12_greatest 6 = .ok (.istore_n 2, 1) := by decide +kernel
theorem dX12_greatest_7 : decode cX12_greatest 7 = .ok (.iload_n 2, 1) := by decide +kernel
theorem dX12_greatest_8 : decode cX12_greatest 8 = .ok (.aload_n 0, 1) := by decide +kernel
theorem dX12_greatest_9 : decode cX12_greatest 9 = .ok (.getfield 33, 3) := by decide +kernel
theorem dX12_greatest_12 : decode cX12_greatest 12 = .ok (.bipush 34, 2) := by decide +kernel
theorem dX12_greatest_14 : decode cX12_greatest 14 = .ok (.iaload, 1) := by decide +kernel
theorem dX12_greatest_15 : decode cX12_greatest 15 = .ok (.if_icmp .ge 101, 3) := by decide +kernel
theorem dX12_greatest_18 : decode cX12_greatest 18 = .ok (.aload_n 0, 1) := by decide +kernel
theorem dX12_greatest_19 : decode cX12_greatest 19 = .ok (.iload_n 2, 1) := by decide +kernel
theorem dX12_greatest_20 : decode cX12_greatest 20 = .ok (.invokevirtual 278, 3) := by decide +kernel
theorem dX12_greatest_23 : decode cX12_greatest 23 = .ok (.ifCond .ne 6, 3) := by decide +kernel
theorem dX12_greatest_26 : decode cX12_greatest 26 = .ok (.goto 84, 3) := by decide +kernel
theorem dX12_greatest_29 : decode cX12_greatest 29 = .ok (.iconst 0, 1) := by decide +kernel
theorem dX12_greatest_30 : decode cX12_greatest 30 = .ok (.istore_n 3, 1) := by decide +kernel
theorem dX12_greatest_31 : decode cX12_greatest 31 = .ok (.iconst 0, 1) := by decide +kernel
theorem dX12_greatest_32 : decode cX12_greatest 32 = .ok (.istore 4, 2) := by decide +kernel
theorem dX12_greatest_34 : decode cX12_greatest 34 = .ok (.iload 4, 2) := by decide +kernel
theorem dX12_greatest_36 : decode cX12_greatest 36 = .ok (.aload_n 0, 1) := by decide +kernel
theorem dX12_greatest_37 : decode cX12_greatest 37 = .ok (.getfield 33, 3) := by decide +kernel
theorem dX12_greatest_40 : decode cX12_greatest 40 = .ok (.bipush 34, 2) := by decide +kernel
theorem dX12_greatest_42 : decode cX12_greatest 42 = .ok (.iaload, 1) := by decide +kernel
theorem dX12_greatest_43 : decode cX12_greatest 43 = .ok (.if_icmp .ge 60, 3) := by decide +kernel
theorem dX12_greatest_46 : decode cX12_greatest 46 = .ok (.iload_n 3, 1) := by decide +kernel
theorem dX12_greatest_47 : decode cX12_greatest 47 = .ok (.aload_n 0, 1) := by decide +kernel
theorem dX12_greatest_48 : decode cX12_greatest 48 = .ok (.iload 4, 2) := by decide +kernel
theorem dX12_greatest_50 : decode cX12_greatest 50 = .ok (.invokevirtual 278, 3) := by decide +kernel
theorem dX12_greatest_53 : decode cX12_greatest 53 = .ok (.ifCond .eq 41, 3) := by decide +kernel
theorem dX12_greatest_56 : decode cX12_greatest 56 = .ok (.aload_n 0, 1) := by decide +kernel
theorem dX12_greatest_57 : decode cX12_greatest 57 = .ok (.iload 4, 2) := by decide +kernel
theorem dX12_greatest_59 : decode cX12_greatest 59 = .ok (.invokevirtual 281, 3) := by decide +kernel
theorem dX12_greatest_62 : decode cX12_greatest 62 = .ok (.aload_n 0, 1) := by decide +kernel
theorem dX12_greatest_63 : decode cX12_greatest 63 = .ok (.iload_n 2, 1) := by decide +kernel
theorem dX12_greatest_64 : decode cX12_greatest 64 = .ok (.invokevirtual 281, 3) := by decide +kernel
theorem dX12_greatest_67 : decode cX12_greatest 67 = .ok (.if_icmp .gt 23, 3) := by decide +kernel
theorem dX12_greatest_70 : decode cX12_greatest 70 = .ok (.aload_n 0, 1) := by decide +kernel
theorem dX12_greatest_71 : decode cX12_greatest 71 = .ok (.iload 4, 2) := by decide +kernel
theorem dX12_greatest_73 : decode cX12_greatest 73 = .ok (.invokevirtual 281, 3) := by decide +kernel
theorem dX12_greatest_76 : decode cX12_greatest 76 = .ok (.aload_n 0, 1) := by decide +kernel
theorem dX12_greatest_77 : decode cX12_greatest 77 = .ok (.iload_n 2, 1) := by decide +kernel
theorem dX12_greatest_78 : decode cX12_greatest 78 = .ok (.invokevirtual 281, 3) := by decide +kernel
theorem dX12_greatest_81 : decode cX12_greatest 81 = .ok (.if_icmp .ne 13, 3) := by decide +kernel
theorem dX12_greatest_84 : decode cX12_greatest 84 = .ok (.iload 4, 2) := by decide +kernel
theorem dX12_greatest_86 : decode cX12_greatest 86 = .ok (.iload_n 2, 1) := by decide +kernel
theorem dX12_greatest_87 : decode cX12_greatest 87 = .ok (.if_icmp .ge 7, 3) := by decide +kernel
theorem dX12_greatest_90 : decode cX12_greatest 90 = .ok (.iconst 1, 1) := by decide +kernel
theorem dX12_greatest_91 : decode cX12_greatest 91 = .ok (.goto 4, 3) := by decide +kernel
theorem dX12_greatest_94 : decode cX12_greatest 94 = .ok (.iconst 0, 1) := by decide +kernel
theorem dX12_greatest_95 : decode cX12_greatest 95 = .ok (.iadd, 1) := by decide +kernel
theorem dX12_greatest_96 : decode cX12_greatest 96 = .ok (.istore_n 3, 1) := by decide +kernel
theorem dX12_greatest_97 : decode cX12_greatest 97 = .ok (.iinc 4 1, 3) := by decide +kernel
theorem dX12_greatest_100 : decode cX12_greatest 100 = .ok (.goto (-66), 3) := by decide +kernel
theorem dX12_greatest_103 : decode cX12_greatest 103 = .ok (.iload_n 3, 1) := by decide +kernel
theorem dX12_greatest_104 : decode cX12_greatest 104 = .ok (.iload_n 1, 1) := by decide +kernel
theorem dX12_greatest_105 : decode cX12_greatest 105 = .ok (.if_icmp .ne 5, 3) := by decide +kernel
theorem dX12_greatest_108 : decode cX12_greatest 108 = .ok (.iload_n 2, 1) := by decide +kernel
theorem dX12_greatest_109 : decode cX12_greatest 109 = .ok (.ireturn, 1) := by decide +kernel
theorem dX12_greatest_110 : decode cX12_greatest 110 = .ok (.iinc 2 1, 3) := by decide +kernel
theorem dX12_greatest_113 : decode cX12_greatest 113 = .ok (.goto (-106), 3) := by decide +kernel
theorem dX12_greatest_116 : decode cX12_greatest 116 = .ok (.iconst (-1), 1) := by decide +kernel
theorem dX12_greatest_117 : decode cX12_greatest 117 = .ok (.ireturn, 1) := by decide +kernel
theorem dX12_bookLine_0 : decode cX12_bookLine 0 = .ok (.aload_n 0, 1) := by decide +kernel
theorem dX12_bookLine_1 : decode cX12_bookLine 1 = .ok (.ldc2_w 144, 3) := by decide +kernel
theorem dX12_bookLine_4 : decode cX12_bookLine 4 = .ok (.invokevirtual 217, 3) := by decide +kernel
theorem dX12_bookLine_7 : decode cX12_bookLine 7 = .ok (.ifCond .eq 7, 3) := by decide +kernel
theorem dX12_bookLine_10 : decode cX12_bookLine 10 = .ok (.iconst 0, 1) := by decide +kernel
theorem dX12_bookLine_11 : decode cX12_bookLine 11 = .ok (.goto 74, 3) := by decide +kernel
theorem dX12_bookLine_14 : decode cX12_bookLine 14 = .ok (.aload_n 0, 1) := by decide +kernel
theorem dX12_bookLine_15 : decode cX12_bookLine 15 = .ok (.ldc2_w 146, 3) := by decide +kernel
theorem dX12_bookLine_18 : decode cX12_bookLine 18 = .ok (.invokevirtual 217, 3) := by decide +kernel
theorem dX12_bookLine_21 : decode cX12_bookLine 21 = .ok (.ifCond .eq 7, 3) := by decide +kernel
theorem dX12_bookLine_24 : decode cX12_bookLine 24 = .ok (.iconst 1, 1) := by decide +kernel
theorem dX12_bookLine_25 : decode cX12_bookLine 25 = .ok (.goto 60, 3) := by decide +kernel
theorem dX12_bookLine_28 : decode cX12_bookLine 28 = .ok (.aload_n 0, 1) := by decide +kernel
theorem dX12_bookLine_29 : decode cX12_bookLine 29 = .ok (.ldc2_w 148, 3) := by decide +kernel
theorem dX12_bookLine_32 : decode cX12_bookLine 32 = .ok (.invokevirtual 217, 3) := by decide +kernel
theorem dX12_bookLine_35 : decode cX12_bookLine 35 = .ok (.ifCond .eq 7, 3) := by decide +kernel
theorem dX12_bookLine_38 : decode cX12_bookLine 38 = .ok (.iconst 2, 1) := by decide +kernel
theorem dX12_bookLine_39 : decode cX12_bookLine 39 = .ok (.goto 46, 3) := by decide +kernel
theorem dX12_bookLine_42 : decode cX12_bookLine 42 = .ok (.aload_n 0, 1) := by decide +kernel
theorem dX12_bookLine_43 : decode cX12_bookLine 43 = .ok (.ldc2_w 154, 3) := by decide +kernel
theorem dX12_bookLine_46 : decode cX12_bookLine 46 = .ok (.invokevirtual 217, 3) := by decide +kernel
theorem dX12_bookLine_49 : decode cX12_bookLine 49 = .ok (.ifCond .eq 7, 3) := by decide +kernel
theorem dX12_bookLine_52 : decode cX12_bookLine 52 = .ok (.iconst 3, 1) := by decide +kernel
theorem dX12_bookLine_53 : decode cX12_bookLine 53 = .ok (.goto 32, 3) := by decide +kernel
theorem dX12_bookLine_56 : decode cX12_bookLine 56 = .ok (.aload_n 0, 1) := by decide +kernel
theorem dX12_bookLine_57 : decode cX12_bookLine 57 = .ok (.ldc2_w 156, 3) := by decide +kernel
theorem dX12_bookLine_60 : decode cX12_bookLine 60 = .ok (.invokevirtual 217, 3) := by decide +kernel
theorem dX12_bookLine_63 : decode cX12_bookLine 63 = .ok (.ifCond .eq 7, 3) := by decide +kernel
theorem dX12_bookLine_66 : decode cX12_bookLine 66 = .ok (.iconst 4, 1) := by decide +kernel
theorem dX12_bookLine_67 : decode cX12_bookLine 67 = .ok (.goto 18, 3) := by decide +kernel
theorem dX12_bookLine_70 : decode cX12_bookLine 70 = .ok (.aload_n 0, 1) := by decide +kernel
theorem dX12_bookLine_71 : decode cX12_bookLine 71 = .ok (.ldc2_w 158, 3) := by decide +kernel
theorem dX12_bookLine_74 : decode cX12_bookLine 74 = .ok (.invokevirtual 217, 3) := by decide +kernel
theorem dX12_bookLine_77 : decode cX12_bookLine 77 = .ok (.ifCond .eq 7, 3) := by decide +kernel
theorem dX12_bookLine_80 : decode cX12_bookLine 80 = .ok (.iconst 5, 1) := by decide +kernel
theorem dX12_bookLine_81 : decode cX12_bookLine 81 = .ok (.goto 4, 3) := by decide +kernel
theorem dX12_bookLine_84 : decode cX12_bookLine 84 = .ok (.iconst (-1), 1) := by decide +kernel
theorem dX12_bookLine_85 : decode cX12_bookLine 85 = .ok (.istore_n 1, 1) := by decide +kernel
theorem dX12_bookLine_86 : decode cX12_bookLine 86 = .ok (.iload_n 1, 1) := by decide +kernel
theorem dX12_bookLine_87 : decode cX12_bookLine 87 = .ok (.ifCond .ge 9, 3) := by decide +kernel
theorem dX12_bookLine_90 : decode cX12_bookLine 90 = .ok (.aload_n 0, 1) := by decide +kernel
theorem dX12_bookLine_91 : decode cX12_bookLine 91 = .ok (.iconst 1, 1) := by decide +kernel
theorem dX12_bookLine_92 : decode cX12_bookLine 92 = .ok (.invokevirtual 196, 3) := by decide +kernel
theorem dX12_bookLine_95 : decode cX12_bookLine 95 = .ok (.ireturn, 1) := by decide +kernel
theorem dX12_bookLine_96 : decode cX12_bookLine 96 = .ok (.aload_n 0, 1) := by decide +kernel
theorem dX12_bookLine_97 : decode cX12_bookLine 97 = .ok (.getfield 401, 3) := by decide +kernel
theorem dX12_bookLine_100 : decode cX12_bookLine 100 = .ok (.bipush 40, 2) := by decide +kernel
theorem dX12_bookLine_102 : decode cX12_bookLine 102 = .ok (.if_icmp .ne 9, 3) := by decide +kernel
theorem dX12_bookLine_105 : decode cX12_bookLine 105 = .ok (.aload_n 0, 1) := by decide +kernel
theorem dX12_bookLine_106 : decode cX12_bookLine 106 = .ok (.iconst 4, 1) := by decide +kernel
theorem dX12_bookLine_107 : decode cX12_bookLine 107 = .ok (.invokevirtual 196, 3) := by decide +kernel
theorem dX12_bookLine_110 : decode cX12_bookLine 110 = .ok (.ireturn, 1) := by decide +kernel
theorem dX12_bookLine_111 : decode cX12_bookLine 111 = .ok (.iconst 1, 1) := by decide +kernel
theorem dX12_bookLine_112 : decode cX12_bookLine 112 = .ok (.iconst 5, 1) := by decide +kernel
theorem dX12_bookLine_113 : decode cX12_bookLine 113 = .ok (.aload_n 0, 1) := by decide +kernel
theorem dX12_bookLine_114 : decode cX12_bookLine 114 = .ok (.getfield 401, 3) := by decide +kernel
theorem dX12_bookLine_117 : decode cX12_bookLine 117 = .ok (.imul, 1) := by decide +kernel
theorem dX12_bookLine_118 : decode cX12_bookLine 118 = .ok (.iadd, 1) := by decide +kernel
theorem dX12_bookLine_119 : decode cX12_bookLine 119 = .ok (.istore_n 2, 1) := by decide +kernel
theorem dX12_bookLine_120 : decode cX12_bookLine 120 = .ok (.iconst 0, 1) := by decide +kernel
theorem dX12_bookLine_121 : decode cX12_bookLine 121 = .ok (.istore_n 3, 1) := by decide +kernel
theorem dX12_bookLine_122 : decode cX12_bookLine 122 = .ok (.iload_n 3, 1) := by decide +kernel
theorem dX12_bookLine_123 : decode cX12_bookLine 123 = .ok (.iconst 5, 1) := by decide +kernel
theorem dX12_bookLine_124 : decode cX12_bookLine 124 = .ok (.if_icmp .ge 18, 3) := by decide +kernel
theorem dX12_bookLine_127 : decode cX12_bookLine 127 = .ok (.aload_n 0, 1) := by decide +kernel
theorem dX12_bookLine_128 : decode cX12_bookLine 128 = .ok (.getfield 40, 3) := by decide +kernel
theorem dX12_bookLine_131 : decode cX12_bookLine 131 = .ok (.iload_n 2, 1) := by decide +kernel
theorem dX12_bookLine_132 : decode cX12_bookLine 132 = .ok (.iload_n 3, 1) := by decide +kernel
theorem dX12_bookLine_133 : decode cX12_bookLine 133 = .ok (.iadd, 1) := by decide +kernel
theorem dX12_bookLine_134 : decode cX12_bookLine 134 = .ok (.iconst 0, 1) := by decide +kernel
theorem dX12_bookLine_135 : decode cX12_bookLine 135 = .ok (.iastore, 1) := by decide +kernel
theorem dX12_bookLine_136 : decode cX12_bookLine 136 = .ok (.iinc 3 1, 3) := by decide +kernel
theorem dX12_bookLine_139 : decode cX12_bookLine 139 = .ok (.goto (-17), 3) := by decide +kernel
theorem dX12_bookLine_142 : decode cX12_bookLine 142 = .ok (.aload_n 0, 1) := by decide +kernel
theorem dX12_bookLine_143 : decode cX12_bookLine 143 = .ok (.getfield 40, 3) := by decide +kernel
theorem dX12_bookLine_146 : decode cX12_bookLine 146 = .ok (.iload_n 2, 1) := by decide +kernel
theorem dX12_bookLine_147 : decode cX12_bookLine 147 = .ok (.iload_n 1, 1) := by decide +kernel
theorem dX12_bookLine_148 : decode cX12_bookLine 148 = .ok (.iastore, 1) := by decide +kernel
theorem dX12_bookLine_149 : decode cX12_bookLine 149 = .ok (.aload_n 0, 1) := by decide +kernel
theorem dX12_bookLine_150 : decode cX12_bookLine 150 = .ok (.invokevirtual 199, 3) := by decide +kernel
theorem dX12_bookLine_153 : decode cX12_bookLine 153 = .ok (.iload_n 1, 1) := by decide +kernel
theorem dX12_bookLine_154 : decode cX12_bookLine 154 = .ok (.iconst 3, 1) := by decide +kernel
theorem dX12_bookLine_155 : decode cX12_bookLine 155 = .ok (.if_icmp .eq 8, 3) := by decide +kernel
theorem dX12_bookLine_158 : decode cX12_bookLine 158 = .ok (.iload_n 1, 1) := by decide +kernel
theorem dX12_bookLine_159 : decode cX12_bookLine 159 = .ok (.iconst 5, 1) := by decide +kernel
theorem dX12_bookLine_160 : decode cX12_bookLine 160 = .ok (.if_icmp .ne 5, 3) := by decide +kernel
theorem dX12_bookLine_163 : decode cX12_bookLine 163 = .ok (.iconst 1, 1) := by decide +kernel
theorem dX12_bookLine_164 : decode cX12_bookLine 164 = .ok (.ireturn, 1) := by decide +kernel
theorem dX12_bookLine_165 : decode cX12_bookLine 165 = .ok (.iload_n 1, 1) := by decide +kernel
theorem dX12_bookLine_166 : decode cX12_bookLine 166 = .ok (.iconst 1, 1) := by decide +kernel
theorem dX12_bookLine_167 : decode cX12_bookLine 167 = .ok (.if_icmp .eq 8, 3) := by decide +kernel
theorem dX12_bookLine_170 : decode cX12_bookLine 170 = .ok (.iload_n 1, 1) := by decide +kernel
theorem dX12_bookLine_171 : decode cX12_bookLine 171 = .ok (.iconst 2, 1) := by decide +kernel
theorem dX12_bookLine_172 : decode cX12_bookLine 172 = .ok (.if_icmp .ne 89, 3) := by decide +kernel
theorem dX12_bookLine_175 : decode cX12_bookLine 175 = .ok (.aload_n 0, 1) := by decide +kernel
theorem dX12_bookLine_176 : decode cX12_bookLine 176 = .ok (.iconst 0, 1) := by decide +kernel
theorem dX12_bookLine_177 : decode cX12_bookLine 177 = .ok (.bipush 59, 2) := by decide +kernel
theorem dX12_bookLine_179 : decode cX12_bookLine 179 = .ok (.invokevirtual 224, 3) := by decide +kernel
theorem dX12_bookLine_182 : decode cX12_bookLine 182 = .ok (.ifCond .ne 5, 3) := by decide +kernel
theorem dX12_bookLine_185 : decode cX12_bookLine 185 = .ok (.iconst 0, 1) := by decide +kernel
theorem dX12_bookLine_186 : decode cX12_bookLine 186 = .ok (.ireturn, 1) := by decide +kernel
theorem dX12_bookLine_187 : decode cX12_bookLine 187 = .ok (.aload_n 0, 1) := by decide +kernel
theorem dX12_bookLine_188 : decode cX12_bookLine 188 = .ok (.getfield 40, 3) := by decide +kernel
theorem dX12_bookLine_191 : decode cX12_bookLine 191 = .ok (.iload_n 2, 1) := by decide +kernel
theorem dX12_bookLine_192 : decode cX12_bookLine 192 = .ok (.iconst 1, 1) := by decide +kernel
theorem dX12_bookLine_193 : decode cX12_bookLine 193 = .ok (.iadd, 1) := by decide +kernel
theorem dX12_bookLine_194 : decode cX12_bookLine 194 = .ok (.aload_n 0, 1) := by decide +kernel
theorem dX12_bookLine_195 : decode cX12_bookLine 195 = .ok (.getfield 206, 3) := by decide +kernel
theorem dX12_bookLine_198 : decode cX12_bookLine 198 = .ok (.iastore, 1) := by decide +kernel
theorem dX12_bookLine_199 : decode cX12_bookLine 199 = .ok (.iload_n 1, 1) := by decide +kernel
theorem dX12_bookLine_200 : decode cX12_bookLine 200 = .ok (.iconst 1, 1) := by decide +kernel
theorem dX12_bookLine_201 : decode cX12_bookLine 201 = .ok (.if_icmp .ne 5, 3) := by decide +kernel
theorem dX12_bookLine_204 : decode cX12_bookLine 204 = .ok (.iconst 1, 1) := by decide +kernel
theorem dX12_bookLine_205 : decode cX12_bookLine 205 = .ok (.ireturn, 1) := by decide +kernel
theorem dX12_bookLine_206 : decode cX12_bookLine 206 = .ok (.aload_n 0, 1) := by decide +kernel
theorem dX12_bookLine_207 : decode cX12_bookLine 207 = .ok (.ldc2_w 150, 3) := by decide +kernel
theorem dX12_bookLine_210 : decode cX12_bookLine 210 = .ok (.invokevirtual 217, 3) := by decide +kernel
theorem dX12_bookLine_213 : decode cX12_bookLine 213 = .ok (.ifCond .ne 19, 3) := by decide +kernel
theorem dX12_bookLine_216 : decode cX12_bookLine 216 = .ok (.aload_n 0, 1) := by decide +kernel
theorem dX12_bookLine_217 : decode cX12_bookLine 217 = .ok (.ldc2_w 152, 3) := by decide +kernel
theorem dX12_bookLine_220 : decode cX12_bookLine 220 = .ok (.invokevirtual 217, 3) := by decide +kernel
theorem dX12_bookLine_223 : decode cX12_bookLine 223 = .ok (.ifCond .ne 9, 3) := by decide +kernel
theorem dX12_bookLine_226 : decode cX12_bookLine 226 = .ok (.aload_n 0, 1) := by decide +kernel
theorem dX12_bookLine_227 : decode cX12_bookLine 227 = .ok (.iconst 1, 1) := by decide +kernel
theorem dX12_bookLine_228 : decode cX12_bookLine 228 = .ok (.invokevirtual 196, 3) := by decide +kernel
theorem dX12_bookLine_231 : decode cX12_bookLine 231 = .ok (.ireturn, 1) := by decide +kernel
theorem dX12_bookLine_232 : decode cX12_bookLine 232 = .ok (.aload_n 0, 1) := by decide +kernel
theorem dX12_bookLine_233 : decode cX12_bookLine 233 = .ok (.getfield 40, 3) := by decide +kernel
theorem dX12_bookLine_236 : decode cX12_bookLine 236 = .ok (.iload_n 2, 1) := by decide +kernel
theorem dX12_bookLine_237 : decode cX12_bookLine 237 = .ok (.iconst 2, 1) := by decide +kernel
theorem dX12_bookLine_238 : decode cX12_bookLine 238 = .ok (.iadd, 1) := by decide +kernel
theorem dX12_bookLine_239 : decode cX12_bookLine 239 = .ok (.aload_n 0, 1) := by decide +kernel
theorem dX12_bookLine_240 : decode cX12_bookLine 240 = .ok (.ldc2_w 152, 3) := by decide +kernel
theorem dX12_bookLine_243 : decode cX12_bookLine 243 = .ok (.invokevirtual 217, 3) := by decide +kernel
theorem dX12_bookLine_246 : decode cX12_bookLine 246 = .ok (.ifCond .eq 7, 3) := by decide +kernel
theorem dX12_bookLine_249 : decode cX12_bookLine 249 = .ok (.iconst 1, 1) := by decide +kernel
theorem dX12_bookLine_250 : decode cX12_bookLine 250 = .ok (.goto 4, 3) := by decide +kernel
theorem dX12_bookLine_253 : decode cX12_bookLine 253 = .ok (.iconst 0, 1) := by decide +kernel
theorem dX12_bookLine_254 : decode cX12_bookLine 254 = .ok (.iastore, 1) := by decide +kernel
theorem dX12_bookLine_255 : decode cX12_bookLine 255 = .ok (.aload_n 0, 1) := by decide +kernel
theorem dX12_bookLine_256 : decode cX12_bookLine 256 = .ok (.invokevirtual 199, 3) := by decide +kernel
theorem dX12_bookLine_259 : decode cX12_bookLine 259 = .ok (.iconst 1, 1) := by decide +kernel
theorem dX12_bookLine_260 : decode cX12_bookLine 260 = .ok (.ireturn, 1) := by decide +kernel
theorem dX12_bookLine_261 : decode cX12_bookLine 261 = .ok (.aload_n 0, 1) := by decide +kernel
theorem dX12_bookLine_262 : decode cX12_bookLine 262 = .ok (.iconst 0, 1) := by decide +kernel
theorem dX12_bookLine_263 : decode cX12_bookLine 263 = .ok (.aload_n 0, 1) := by decide +kernel
theorem dX12_bookLine_264 : decode cX12_bookLine 264 = .ok (.getfield 33, 3) := by decide +kernel
theorem dX12_bookLine_267 : decode cX12_bookLine 267 = .ok (.iconst 0, 1) := by decide +kernel
theorem dX12_bookLine_268 : decode cX12_bookLine 268 = .ok (.iaload, 1) := by decide +kernel
theorem dX12_bookLine_269 : decode cX12_bookLine 269 = .ok (.invokevirtual 228, 3) := by decide +kernel
theorem dX12_bookLine_272 : decode cX12_bookLine 272 = .ok (.ifCond .ne 5, 3) := by decide +kernel
theorem dX12_bookLine_275 : decode cX12_bookLine 275 = .ok (.iconst 0, 1) := by decide +kernel
theorem dX12_bookLine_276 : decode cX12_bookLine 276 = .ok (.ireturn, 1) := by decide +kernel
theorem dX12_bookLine_277 : decode cX12_bookLine 277 = .ok (.aload_n 0, 1) := by decide +kernel
theorem dX12_bookLine_278 : decode cX12_bookLine 278 = .ok (.getfield 40, 3) := by decide +kernel
theorem dX12_bookLine_281 : decode cX12_bookLine 281 = .ok (.iload_n 2, 1) := by decide +kernel
theorem dX12_bookLine_282 : decode cX12_bookLine 282 = .ok (.iconst 1, 1) := by decide +kernel
theorem dX12_bookLine_283 : decode cX12_bookLine 283 = .ok (.iadd, 1) := by decide +kernel
theorem dX12_bookLine_284 : decode cX12_bookLine 284 = .ok (.aload_n 0, 1) := by decide +kernel
theorem dX12_bookLine_285 : decode cX12_bookLine 285 = .ok (.getfield 206, 3) := by decide +kernel
theorem dX12_bookLine_288 : decode cX12_bookLine 288 = .ok (.iastore, 1) := by decide +kernel
theorem dX12_bookLine_289 : decode cX12_bookLine 289 = .ok (.aload_n 0, 1) := by decide +kernel
theorem dX12_bookLine_290 : decode cX12_bookLine 290 = .ok (.iconst 0, 1) := by decide +kernel
theorem dX12_bookLine_291 : decode cX12_bookLine 291 = .ok (.aload_n 0, 1) := by decide +kernel
theorem dX12_bookLine_292 : decode cX12_bookLine 292 = .ok (.getfield 33, 3) := by decide +kernel
theorem dX12_bookLine_295 : decode cX12_bookLine 295 = .ok (.iconst 0, 1) := by decide +kernel
theorem dX12_bookLine_296 : decode cX12_bookLine 296 = .ok (.iaload, 1) := by decide +kernel
theorem dX12_bookLine_297 : decode cX12_bookLine 297 = .ok (.invokevirtual 228, 3) := by decide +kernel
theorem dX12_bookLine_300 : decode cX12_bookLine 300 = .ok (.ifCond .ne 5, 3) := by decide +kernel
theorem dX12_bookLine_303 : decode cX12_bookLine 303 = .ok (.iconst 0, 1) := by decide +kernel
theorem dX12_bookLine_304 : decode cX12_bookLine 304 = .ok (.ireturn, 1) := by decide +kernel
theorem dX12_bookLine_305 : decode cX12_bookLine 305 = .ok (.aload_n 0, 1) := by decide +kernel
theorem dX12_bookLine_306 : decode cX12_bookLine 306 = .ok (.getfield 40, 3) := by decide +kernel
theorem dX12_bookLine_309 : decode cX12_bookLine 309 = .ok (.iload_n 2, 1) := by decide +kernel
theorem dX12_bookLine_310 : decode cX12_bookLine 310 = .ok (.iconst 2, 1) := by decide +kernel
theorem dX12_bookLine_311 : decode cX12_bookLine 311 = .ok (.iadd, 1) := by decide +kernel
theorem dX12_bookLine_312 : decode cX12_bookLine 312 = .ok (.aload_n 0, 1) := by decide +kernel
theorem dX12_bookLine_313 : decode cX12_bookLine 313 = .ok (.getfield 206, 3) := by decide +kernel
theorem dX12_bookLine_316 : decode cX12_bookLine 316 = .ok (.iastore, 1) := by decide +kernel
theorem dX12_bookLine_317 : decode cX12_bookLine 317 = .ok (.iload_n 1, 1) := by decide +kernel
theorem dX12_bookLine_318 : decode cX12_bookLine 318 = .ok (.iconst 4, 1) := by decide +kernel
theorem dX12_bookLine_319 : decode cX12_bookLine 319 = .ok (.if_icmp .ne 5, 3) := by decide +kernel
theorem dX12_bookLine_322 : decode cX12_bookLine 322 = .ok (.iconst 1, 1) := by decide +kernel
theorem dX12_bookLine_323 : decode cX12_bookLine 323 = .ok (.ireturn, 1) := by decide +kernel
theorem dX12_bookLine_324 : decode cX12_bookLine 324 = .ok (.aload_n 0, 1) := by decide +kernel
theorem dX12_bookLine_325 : decode cX12_bookLine 325 = .ok (.iconst 1, 1) := by decide +kernel
theorem dX12_bookLine_326 : decode cX12_bookLine 326 = .ok (.bipush 99, 2) := by decide +kernel
theorem dX12_bookLine_328 : decode cX12_bookLine 328 = .ok (.invokevirtual 224, 3) := by decide +kernel
theorem dX12_bookLine_331 : decode cX12_bookLine 331 = .ok (.ifCond .ne 5, 3) := by decide +kernel
theorem dX12_bookLine_334 : decode cX12_bookLine 334 = .ok (.iconst 0, 1) := by decide +kernel
theorem dX12_bookLine_335 : decode cX12_bookLine 335 = .ok (.ireturn, 1) := by decide +kernel
theorem dX12_bookLine_336 : decode cX12_bookLine 336 = .ok (.aload_n 0, 1) := by decide +kernel
theorem dX12_bookLine_337 : decode cX12_bookLine 337 = .ok (.getfield 40, 3) := by decide +kernel
theorem dX12_bookLine_340 : decode cX12_bookLine 340 = .ok (.iload_n 2, 1) := by decide +kernel
theorem dX12_bookLine_341 : decode cX12_bookLine 341 = .ok (.iconst 3, 1) := by decide +kernel
theorem dX12_bookLine_342 : decode cX12_bookLine 342 = .ok (.iadd, 1) := by decide +kernel
theorem dX12_bookLine_343 : decode cX12_bookLine 343 = .ok (.aload_n 0, 1) := by decide +kernel
theorem dX12_bookLine_344 : decode cX12_bookLine 344 = .ok (.getfield 206, 3) := by decide +kernel
theorem dX12_bookLine_347 : decode cX12_bookLine 347 = .ok (.iastore, 1) := by decide +kernel
theorem dX12_bookLine_348 : decode cX12_bookLine 348 = .ok (.aload_n 0, 1) := by decide +kernel
theorem dX12_bookLine_349 : decode cX12_bookLine 349 = .ok (.bipush 9, 2) := by decide +kernel
theorem dX12_bookLine_351 : decode cX12_bookLine 351 = .ok (.aload_n 0, 1) := by decide +kernel
theorem dX12_bookLine_352 : decode cX12_bookLine 352 = .ok (.getfield 33, 3) := by decide +kernel
theorem dX12_bookLine_355 : decode cX12_bookLine 355 = .ok (.iconst 1, 1) := by decide +kernel
theorem dX12_bookLine_356 : decode cX12_bookLine 356 = .ok (.iaload, 1) := by decide +kernel
theorem dX12_bookLine_357 : decode cX12_bookLine 357 = .ok (.invokevirtual 228, 3) := by decide +kernel
theorem dX12_bookLine_360 : decode cX12_bookLine 360 = .ok (.ifCond .ne 5, 3) := by decide +kernel
theorem dX12_bookLine_363 : decode cX12_bookLine 363 = .ok (.iconst 0, 1) := by decide +kernel
theorem dX12_bookLine_364 : decode cX12_bookLine 364 = .ok (.ireturn, 1) := by decide +kernel
theorem dX12_bookLine_365 : decode cX12_bookLine 365 = .ok (.aload_n 0, 1) := by decide +kernel
theorem dX12_bookLine_366 : decode cX12_bookLine 366 = .ok (.getfield 40, 3) := by decide +kernel
theorem dX12_bookLine_369 : decode cX12_bookLine 369 = .ok (.iload_n 2, 1) := by decide +kernel
theorem dX12_bookLine_370 : decode cX12_bookLine 370 = .ok (.iconst 4, 1) := by decide +kernel
theorem dX12_bookLine_371 : decode cX12_bookLine 371 = .ok (.iadd, 1) := by decide +kernel
theorem dX12_bookLine_372 : decode cX12_bookLine 372 = .ok (.aload_n 0, 1) := by decide +kernel
theorem dX12_bookLine_373 : decode cX12_bookLine 373 = .ok (.getfield 206, 3) := by decide +kernel
theorem dX12_bookLine_376 : decode cX12_bookLine 376 = .ok (.iastore, 1) := by decide +kernel
theorem dX12_bookLine_377 : decode cX12_bookLine 377 = .ok (.iconst 1, 1) := by decide +kernel
theorem dX12_bookLine_378 : decode cX12_bookLine 378 = .ok (.ireturn, 1) := by decide +kernel
theorem dX12_book_0 : decode cX12_book 0 = .ok (.aload_n 0, 1) := by decide +kernel
theorem dX12_book_1 : decode cX12_book 1 = .ok (.iconst 0, 1) := by decide +kernel
theorem dX12_book_2 : decode cX12_book 2 = .ok (.putfield 1, 3) := by decide +kernel
theorem dX12_book_5 : decode cX12_book 5 = .ok (.aload_n 0, 1) := by decide +kernel
theorem dX12_book_6 : decode cX12_book 6 = .ok (.sipush 600, 3) := by decide +kernel
theorem dX12_book_9 : decode cX12_book 9 = .ok (.invokevirtual 238, 3) := by decide +kernel
theorem dX12_book_12 : decode cX12_book 12 = .ok (.aload_n 0, 1) := by decide +kernel
theorem dX12_book_13 : decode cX12_book 13 = .ok (.iconst 0, 1) := by decide +kernel
theorem dX12_book_14 : decode cX12_book 14 = .ok (.putfield 187, 3) := by decide +kernel
theorem dX12_book_17 : decode cX12_book 17 = .ok (.aload_n 0, 1) := by decide +kernel
theorem dX12_book_18 : decode cX12_book 18 = .ok (.iconst 0, 1) := by decide +kernel
theorem dX12_book_19 : decode cX12_book 19 = .ok (.putfield 401, 3) := by decide +kernel
theorem dX12_book_22 : decode cX12_book 22 = .ok (.aload_n 0, 1) := by decide +kernel
theorem dX12_book_23 : decode cX12_book 23 = .ok (.invokevirtual 199, 3) := by decide +kernel
theorem dX12_book_26 : decode cX12_book 26 = .ok (.aload_n 0, 1) := by decide +kernel
theorem dX12_book_27 : decode cX12_book 27 = .ok (.getfield 170, 3) := by decide +kernel
theorem dX12_book_30 : decode cX12_book 30 = .ok (.ifCond .eq 39, 3) := by decide +kernel
theorem dX12_book_33 : decode cX12_book 33 = .ok (.aload_n 0, 1) := by decide +kernel
theorem dX12_book_34 : decode cX12_book 34 = .ok (.invokevirtual 404, 3) := by decide +kernel
theorem dX12_book_37 : decode cX12_book 37 = .ok (.ifCond .eq 12, 3) := by decide +kernel
theorem dX12_book_40 : decode cX12_book 40 = .ok (.aload_n 0, 1) := by decide +kernel
theorem dX12_book_41 : decode cX12_book 41 = .ok (.bipush 59, 2) := by decide +kernel
theorem dX12_book_43 : decode cX12_book 43 = .ok (.invokevirtual 247, 3) := by decide +kernel
theorem dX12_book_46 : decode cX12_book 46 = .ok (.ifCond .ne 10, 3) := by decide +kernel
theorem dX12_book_49 : decode cX12_book 49 = .ok (.iconst (-1), 1) := by decide +kernel
theorem dX12_book_50 : decode cX12_book 50 = .ok (.aload_n 0, 1) := by decide +kernel
theorem dX12_book_51 : decode cX12_book 51 = .ok (.getfield 190, 3) := by decide +kernel
theorem dX12_book_54 : decode cX12_book 54 = .ok (.isub, 1) := by decide +kernel
theorem dX12_book_55 : decode cX12_book 55 = .ok (.ireturn, 1) := by decide +kernel
theorem dX12_book_56 : decode cX12_book 56 = .ok (.aload_n 0, 1) := by decide +kernel
theorem dX12_book_57 : decode cX12_book 57 = .ok (.dup, 1) := by decide +kernel
theorem dX12_book_58 : decode cX12_book 58 = .ok (.getfield 401, 3) := by decide +kernel
theorem dX12_book_61 : decode cX12_book 61 = .ok (.iconst 1, 1) := by decide +kernel
theorem dX12_book_62 : decode cX12_book 62 = .ok (.iadd, 1) := by decide +kernel
theorem dX12_book_63 : decode cX12_book 63 = .ok (.putfield 401, 3) := by decide +kernel
theorem dX12_book_66 : decode cX12_book 66 = .ok (.goto (-40), 3) := by decide +kernel
theorem dX12_book_69 : decode cX12_book 69 = .ok (.aload_n 0, 1) := by decide +kernel
theorem dX12_book_70 : decode cX12_book 70 = .ok (.getfield 40, 3) := by decide +kernel
theorem dX12_book_73 : decode cX12_book 73 = .ok (.iconst 0, 1) := by decide +kernel
theorem dX12_book_74 : decode cX12_book 74 = .ok (.aload_n 0, 1) := by decide +kernel
theorem dX12_book_75 : decode cX12_book 75 = .ok (.getfield 401, 3) := by decide +kernel
theorem dX12_book_78 : decode cX12_book 78 = .ok (.iastore, 1) := by decide +kernel
theorem dX12_book_79 : decode cX12_book 79 = .ok (.iconst 0, 1) := by decide +kernel
theorem dX12_book_80 : decode cX12_book 80 = .ok (.istore_n 1, 1) := by decide +kernel
theorem dX12_book_81 : decode cX12_book 81 = .ok (.iload_n 1, 1) := by decide +kernel
theorem dX12_book_82 : decode cX12_book 82 = .ok (.iconst 5, 1) := by decide +kernel
theorem dX12_book_83 : decode cX12_book 83 = .ok (.aload_n 0, 1) := by decide +kernel
theorem dX12_book_84 : decode cX12_book 84 = .ok (.getfield 401, 3) := by decide +kernel
theorem dX12_book_87 : decode cX12_book 87 = .ok (.imul, 1) := by decide +kernel
theorem dX12_book_88 : decode cX12_book 88 = .ok (.if_icmp .gt 25, 3) := by decide +kernel
theorem dX12_book_91 : decode cX12_book 91 = .ok (.aload_n 0, 1) := by decide +kernel
theorem dX12_book_92 : decode cX12_book 92 = .ok (.getfield 33, 3) := by decide +kernel
theorem dX12_book_95 : decode cX12_book 95 = .ok (.sipush 586, 3) := by decide +kernel
theorem dX12_book_98 : decode cX12_book 98 = .ok (.iload_n 1, 1) := by decide +kernel
theorem dX12_book_99 : decode cX12_book 99 = .ok (.iadd, 1) := by decide +kernel
theorem dX12_book_100 : decode cX12_book 100 = .ok (.aload_n 0, 1) := by decide +kernel
theorem dX12_book_101 : decode cX12_book 101 = .ok (.getfield 40, 3) := by decide +kernel
theorem dX12_book_104 : decode cX12_book 104 = .ok (.iload_n 1, 1) := by decide +kernel
theorem dX12_book_105 : decode cX12_book 105 = .ok (.iaload, 1) := by decide +kernel
theorem dX12_book_106 : decode cX12_book 106 = .ok (.iastore, 1) := by decide +kernel
theorem dX12_book_107 : decode cX12_book 107 = .ok (.iinc 1 1, 3) := by decide +kernel
theorem dX12_book_110 : decode cX12_book 110 = .ok (.goto (-29), 3) := by decide +kernel
theorem dX12_book_113 : decode cX12_book 113 = .ok (.aload_n 0, 1) := by decide +kernel
theorem dX12_book_114 : decode cX12_book 114 = .ok (.getfield 401, 3) := by decide +kernel
theorem dX12_book_117 : decode cX12_book 117 = .ok (.ireturn, 1) := by decide +kernel
theorem dX12_does_0 : decode cX12_does 0 = .ok (.aload_n 0, 1) := by decide +kernel
theorem dX12_does_1 : decode cX12_does 1 = .ok (.getfield 33, 3) := by decide +kernel
theorem dX12_does_4 : decode cX12_does 4 = .ok (.iload_n 1, 1) := by decide +kernel
theorem dX12_does_5 : decode cX12_does 5 = .ok (.iconst 1, 1) := by decide +kernel
theorem dX12_does_6 : decode cX12_does 6 = .ok (.iadd, 1) := by decide +kernel
theorem dX12_does_7 : decode cX12_does 7 = .ok (.iaload, 1) := by decide +kernel
theorem dX12_does_8 : decode cX12_does 8 = .ok (.istore_n 2, 1) := by decide +kernel
theorem dX12_does_9 : decode cX12_does 9 = .ok (.aload_n 0, 1) := by decide +kernel
theorem dX12_does_10 : decode cX12_does 10 = .ok (.getfield 33, 3) := by decide +kernel
theorem dX12_does_13 : decode cX12_does 13 = .ok (.iload_n 1, 1) := by decide +kernel
theorem dX12_does_14 : decode cX12_does 14 = .ok (.iconst 2, 1) := by decide +kernel
theorem dX12_does_15 : decode cX12_does 15 = .ok (.iadd, 1) := by decide +kernel
theorem dX12_does_16 : decode cX12_does 16 = .ok (.iaload, 1) := by decide +kernel
theorem dX12_does_17 : decode cX12_does 17 = .ok (.istore_n 3, 1) := by decide +kernel
theorem dX12_does_18 : decode cX12_does 18 = .ok (.iconst 0, 1) := by decide +kernel
theorem dX12_does_19 : decode cX12_does 19 = .ok (.istore 4, 2) := by decide +kernel
theorem dX12_does_21 : decode cX12_does 21 = .ok (.aload_n 0, 1) := by decide +kernel
theorem dX12_does_22 : decode cX12_does 22 = .ok (.getfield 33, 3) := by decide +kernel
theorem dX12_does_25 : decode cX12_does 25 = .ok (.iload_n 1, 1) := by decide +kernel
theorem dX12_does_26 : decode cX12_does 26 = .ok (.iaload, 1) := by decide +kernel
theorem dX12_does_27 : decode cX12_does 27 = .ok (.tableswitch 174 0 4 #[33, 79, 99, 133, 151], 33) := by decide +kernel
theorem dX12_does_60 : decode cX12_does 60 = .ok (.aload_n 0, 1) := by decide +kernel
theorem dX12_does_61 : decode cX12_does 61 = .ok (.iload_n 2, 1) := by decide +kernel
theorem dX12_does_62 : decode cX12_does 62 = .ok (.iload_n 3, 1) := by decide +kernel
theorem dX12_does_63 : decode cX12_does 63 = .ok (.aload_n 0, 1) := by decide +kernel
theorem dX12_does_64 : decode cX12_does 64 = .ok (.getfield 33, 3) := by decide +kernel
theorem dX12_does_67 : decode cX12_does 67 = .ok (.iload_n 1, 1) := by decide +kernel
theorem dX12_does_68 : decode cX12_does 68 = .ok (.iconst 4, 1) := by decide +kernel
theorem dX12_does_69 : decode cX12_does 69 = .ok (.iadd, 1) := by decide +kernel
theorem dX12_does_70 : decode cX12_does 70 = .ok (.iaload, 1) := by decide +kernel
theorem dX12_does_71 : decode cX12_does 71 = .ok (.invokevirtual 326, 3) := by decide +kernel
theorem dX12_does_74 : decode cX12_does 74 = .ok (.istore 4, 2) := by decide +kernel
theorem dX12_does_76 : decode cX12_does 76 = .ok (.iload 4, 2) := by decide +kernel
theorem dX12_does_78 : decode cX12_does 78 = .ok (.ifCond .ne 25, 3) := by decide +kernel
theorem dX12_does_81 : decode cX12_does 81 = .ok (.aload_n 0, 1) := by decide +kernel
theorem dX12_does_82 : decode cX12_does 82 = .ok (.iload_n 2, 1) := by decide +kernel
theorem dX12_does_83 : decode cX12_does 83 = .ok (.iload_n 3, 1) := by decide +kernel
theorem dX12_does_84 : decode cX12_does 84 = .ok (.aload_n 0, 1) := by decide +kernel
theorem dX12_does_85 : decode cX12_does 85 = .ok (.getfield 33, 3) := by decide +kernel
theorem dX12_does_88 : decode cX12_does 88 = .ok (.iload_n 1, 1) := by decide +kernel
theorem dX12_does_89 : decode cX12_does 89 = .ok (.iconst 3, 1) := by decide +kernel
theorem dX12_does_90 : decode cX12_does 90 = .ok (.iadd, 1) := by decide +kernel
theorem dX12_does_91 : decode cX12_does 91 = .ok (.iaload, 1) := by decide +kernel
theorem dX12_does_92 : decode cX12_does 92 = .ok (.aload_n 0, 1) := by decide +kernel
theorem dX12_does_93 : decode cX12_does 93 = .ok (.getfield 33, 3) := by decide +kernel
theorem dX12_does_96 : decode cX12_does 96 = .ok (.iload_n 1, 1) := by decide +kernel
theorem dX12_does_97 : decode cX12_does 97 = .ok (.iconst 4, 1) := by decide +kernel
theorem dX12_does_98 : decode cX12_does 98 = .ok (.iadd, 1) := by decide +kernel
theorem dX12_does_99 : decode cX12_does 99 = .ok (.iaload, 1) := by decide +kernel
theorem dX12_does_100 : decode cX12_does 100 = .ok (.invokevirtual 332, 3) := by decide +kernel
theorem dX12_does_103 : decode cX12_does 103 = .ok (.iload 4, 2) := by decide +kernel
theorem dX12_does_105 : decode cX12_does 105 = .ok (.ireturn, 1) := by decide +kernel
theorem dX12_does_106 : decode cX12_does 106 = .ok (.aload_n 0, 1) := by decide +kernel
theorem dX12_does_107 : decode cX12_does 107 = .ok (.iload_n 2, 1) := by decide +kernel
theorem dX12_does_108 : decode cX12_does 108 = .ok (.invokevirtual 336, 3) := by decide +kernel
theorem dX12_does_111 : decode cX12_does 111 = .ok (.istore 4, 2) := by decide +kernel
theorem dX12_does_113 : decode cX12_does 113 = .ok (.iload 4, 2) := by decide +kernel
theorem dX12_does_115 : decode cX12_does 115 = .ok (.ifCond .ne 8, 3) := by decide +kernel
theorem dX12_does_118 : decode cX12_does 118 = .ok (.aload_n 0, 1) := by decide +kernel
theorem dX12_does_119 : decode cX12_does 119 = .ok (.iload_n 2, 1) := by decide +kernel
theorem dX12_does_120 : decode cX12_does 120 = .ok (.invokevirtual 339, 3) := by decide +kernel
theorem dX12_does_123 : decode cX12_does 123 = .ok (.iload 4, 2) := by decide +kernel
theorem dX12_does_125 : decode cX12_does 125 = .ok (.ireturn, 1) := by decide +kernel
theorem dX12_does_126 : decode cX12_does 126 = .ok (.aload_n 0, 1) := by decide +kernel
theorem dX12_does_127 : decode cX12_does 127 = .ok (.iload_n 2, 1) := by decide +kernel
theorem dX12_does_128 : decode cX12_does 128 = .ok (.iload_n 3, 1) := by decide +kernel
theorem dX12_does_129 : decode cX12_does 129 = .ok (.invokevirtual 342, 3) := by decide +kernel
theorem dX12_does_132 : decode cX12_does 132 = .ok (.istore 4, 2) := by decide +kernel
theorem dX12_does_134 : decode cX12_does 134 = .ok (.iload 4, 2) := by decide +kernel
theorem dX12_does_136 : decode cX12_does 136 = .ok (.ifCond .ne 21, 3) := by decide +kernel
theorem dX12_does_139 : decode cX12_does 139 = .ok (.aload_n 0, 1) := by decide +kernel
theorem dX12_does_140 : decode cX12_does 140 = .ok (.iload_n 2, 1) := by decide +kernel
theorem dX12_does_141 : decode cX12_does 141 = .ok (.bipush 8, 2) := by decide +kernel
theorem dX12_does_143 : decode cX12_does 143 = .ok (.aload_n 0, 1) := by decide +kernel
theorem dX12_does_144 : decode cX12_does 144 = .ok (.iload_n 2, 1) := by decide +kernel
theorem dX12_does_145 : decode cX12_does 145 = .ok (.bipush 8, 2) := by decide +kernel
theorem dX12_does_147 : decode cX12_does 147 = .ok (.invokevirtual 265, 3) := by decide +kernel
theorem dX12_does_150 : decode cX12_does 150 = .ok (.iconst 1, 1) := by decide +kernel
theorem dX12_does_151 : decode cX12_does 151 = .ok (.iload_n 3, 1) := by decide +kernel
theorem dX12_does_152 : decode cX12_does 152 = .ok (.ishl, 1) := by decide +kernel
theorem dX12_does_153 : decode cX12_does 153 = .ok (.ior, 1) := by decide +kernel
theorem dX12_does_154 : decode cX12_does 154 = .ok (.invokevirtual 322, 3) := by decide +kernel
theorem dX12_does_157 : decode cX12_does 157 = .ok (.iload 4, 2) := by decide +kernel
theorem dX12_does_159 : decode cX12_does 159 = .ok (.ireturn, 1) := by decide +kernel
theorem dX12_does_160 : decode cX12_does 160 = .ok (.aload_n 0, 1) := by decide +kernel
theorem dX12_does_161 : decode cX12_does 161 = .ok (.iconst (-1), 1) := by decide +kernel
theorem dX12_does_162 : decode cX12_does 162 = .ok (.invokevirtual 365, 3) := by decide +kernel
theorem dX12_does_165 : decode cX12_does 165 = .ok (.ifCond .ge 6, 3) := by decide +kernel
theorem dX12_does_168 : decode cX12_does 168 = .ok (.bipush 8, 2) := by decide +kernel
theorem dX12_does_170 : decode cX12_does 170 = .ok (.ireturn, 1) := by decide +kernel
theorem dX12_does_171 : decode cX12_does 171 = .ok (.aload_n 0, 1) := by decide +kernel
theorem dX12_does_172 : decode cX12_does 172 = .ok (.invokevirtual 371, 3) := by decide +kernel
theorem dX12_does_175 : decode cX12_does 175 = .ok (.pop, 1) := by decide +kernel
theorem dX12_does_176 : decode cX12_does 176 = .ok (.iconst 0, 1) := by decide +kernel
theorem dX12_does_177 : decode cX12_does 177 = .ok (.ireturn, 1) := by decide +kernel
theorem dX12_does_178 : decode cX12_does 178 = .ok (.aload_n 0, 1) := by decide +kernel
theorem dX12_does_179 : decode cX12_does 179 = .ok (.iload_n 2, 1) := by decide +kernel
theorem dX12_does_180 : decode cX12_does 180 = .ok (.iload_n 3, 1) := by decide +kernel
theorem dX12_does_181 : decode cX12_does 181 = .ok (.invokevirtual 374, 3) := by decide +kernel
theorem dX12_does_184 : decode cX12_does 184 = .ok (.istore 4, 2) := by decide +kernel
theorem dX12_does_186 : decode cX12_does 186 = .ok (.iload 4, 2) := by decide +kernel
theorem dX12_does_188 : decode cX12_does 188 = .ok (.ifCond .ne 10, 3) := by decide +kernel
theorem dX12_does_191 : decode cX12_does 191 = .ok (.aload_n 0, 1) := by decide +kernel
theorem dX12_does_192 : decode cX12_does 192 = .ok (.iload_n 2, 1) := by decide +kernel
theorem dX12_does_193 : decode cX12_does 193 = .ok (.iload_n 3, 1) := by decide +kernel
theorem dX12_does_194 : decode cX12_does 194 = .ok (.invokevirtual 377, 3) := by decide +kernel
theorem dX12_does_197 : decode cX12_does 197 = .ok (.pop, 1) := by decide +kernel
theorem dX12_does_198 : decode cX12_does 198 = .ok (.iload 4, 2) := by decide +kernel
theorem dX12_does_200 : decode cX12_does 200 = .ok (.ireturn, 1) := by decide +kernel
theorem dX12_does_201 : decode cX12_does 201 = .ok (.aload_n 0, 1) := by decide +kernel
theorem dX12_does_202 : decode cX12_does 202 = .ok (.getfield 33, 3) := by decide +kernel
theorem dX12_does_205 : decode cX12_does 205 = .ok (.bipush 35, 2) := by decide +kernel
theorem dX12_does_207 : decode cX12_does 207 = .ok (.iaload, 1) := by decide +kernel
theorem dX12_does_208 : decode cX12_does 208 = .ok (.bipush 99, 2) := by decide +kernel
theorem dX12_does_210 : decode cX12_does 210 = .ok (.if_icmp .ne 6, 3) := by decide +kernel
theorem dX12_does_213 : decode cX12_does 213 = .ok (.bipush 9, 2) := by decide +kernel
theorem dX12_does_215 : decode cX12_does 215 = .ok (.ireturn, 1) := by decide +kernel
theorem dX12_does_216 : decode cX12_does 216 = .ok (.aload_n 0, 1) := by decide +kernel
theorem dX12_does_217 : decode cX12_does 217 = .ok (.getfield 33, 3) := by decide +kernel
theorem dX12_does_220 : decode cX12_does 220 = .ok (.bipush 35, 2) := by decide +kernel
theorem dX12_does_222 : decode cX12_does 222 = .ok (.dup2, 1) := by decide +kernel
theorem dX12_does_223 : decode cX12_does 223 = .ok (.iaload, 1) := by decide +kernel
theorem dX12_does_224 : decode cX12_does 224 = .ok (.iconst 1, 1) := by decide +kernel
theorem dX12_does_225 : decode cX12_does 225 = .ok (.iadd, 1) := by decide +kernel
theorem dX12_does_226 : decode cX12_does 226 = .ok (.iastore, 1) := by decide +kernel
theorem dX12_does_227 : decode cX12_does 227 = .ok (.iconst 0, 1) := by decide +kernel
theorem dX12_does_228 : decode cX12_does 228 = .ok (.ireturn, 1) := by decide +kernel
theorem dX12_openMany_0 : decode cX12_openMany 0 = .ok (.iconst 0, 1) := by decide +kernel
theorem dX12_openMany_1 : decode cX12_openMany 1 = .ok (.istore_n 1, 1) := by decide +kernel
theorem dX12_openMany_2 : decode cX12_openMany 2 = .ok (.iconst 0, 1) := by decide +kernel
theorem dX12_openMany_3 : decode cX12_openMany 3 = .ok (.istore_n 2, 1) := by decide +kernel
theorem dX12_openMany_4 : decode cX12_openMany 4 = .ok (.iload_n 2, 1) := by decide +kernel
theorem dX12_openMany_5 : decode cX12_openMany 5 = .ok (.aload_n 0, 1) := by decide +kernel
theorem dX12_openMany_6 : decode cX12_openMany 6 = .ok (.getfield 33, 3) := by decide +kernel
theorem dX12_openMany_9 : decode cX12_openMany 9 = .ok (.bipush 34, 2) := by decide +kernel
theorem dX12_openMany_11 : decode cX12_openMany 11 = .ok (.iaload, 1) := by decide +kernel
theorem dX12_openMany_12 : decode cX12_openMany 12 = .ok (.if_icmp .ge 25, 3) := by decide +kernel
theorem dX12_openMany_15 : decode cX12_openMany 15 = .ok (.iload_n 1, 1) := by decide +kernel
theorem dX12_openMany_16 : decode cX12_openMany 16 = .ok (.aload_n 0, 1) := by decide +kernel
theorem dX12_openMany_17 : decode cX12_openMany 17 = .ok (.iload_n 2, 1) := by decide +kernel
theorem dX12_openMany_18 : decode cX12_openMany 18 = .ok (.invokevirtual 278, 3) := by decide +kernel
theorem dX12_openMany_21 : decode cX12_openMany 21 = .ok (.ifCond .eq 7, 3) := by decide +kernel
theorem dX12_openMany_24 : decode cX12_openMany 24 = .ok (.iconst 1, 1) := by decide +kernel
theorem dX12_openMany_25 : decode cX12_openMany 25 = .ok (.goto 4, 3) := by decide +kernel
theorem dX12_openMany_28 : decode cX12_openMany 28 = .ok (.iconst 0, 1) := by decide +kernel
theorem dX12_openMany_29 : decode cX12_openMany 29 = .ok (.iadd, 1) := by decide +kernel
theorem dX12_openMany_30 : decode cX12_openMany 30 = .ok (.istore_n 1, 1) := by decide +kernel
theorem dX12_openMany_31 : decode cX12_openMany 31 = .ok (.iinc 2 1, 3) := by decide +kernel
theorem dX12_openMany_34 : decode cX12_openMany 34 = .ok (.goto (-30), 3) := by decide +kernel
theorem dX12_openMany_37 : decode cX12_openMany 37 = .ok (.iload_n 1, 1) := by decide +kernel
theorem dX12_openMany_38 : decode cX12_openMany 38 = .ok (.ireturn, 1) := by decide +kernel
theorem dX12_judge_0 : decode cX12_judge 0 = .ok (.aload_n 0, 1) := by decide +kernel
theorem dX12_judge_1 : decode cX12_judge 1 = .ok (.iconst 0, 1) := by decide +kernel
theorem dX12_judge_2 : decode cX12_judge 2 = .ok (.putfield 1, 3) := by decide +kernel
theorem dX12_judge_5 : decode cX12_judge 5 = .ok (.iload_n 1, 1) := by decide +kernel
theorem dX12_judge_6 : decode cX12_judge 6 = .ok (.iconst 0, 1) := by decide +kernel
theorem dX12_judge_7 : decode cX12_judge 7 = .ok (.iconst 1, 1) := by decide +kernel
theorem dX12_judge_8 : decode cX12_judge 8 = .ok (.invokestatic 202, 3) := by decide +kernel
theorem dX12_judge_11 : decode cX12_judge 11 = .ok (.ifCond .ne 6, 3) := by decide +kernel
theorem dX12_judge_14 : decode cX12_judge 14 = .ok (.bipush (-2), 2) := by decide +kernel
theorem dX12_judge_16 : decode cX12_judge 16 = .ok (.ireturn, 1) := by decide +kernel
theorem dX12_judge_17 : decode cX12_judge 17 = .ok (.aload_n 0, 1) := by decide +kernel
theorem dX12_judge_18 : decode cX12_judge 18 = .ok (.invokevirtual 380, 3) := by decide +kernel
theorem dX12_judge_21 : decode cX12_judge 21 = .ok (.iconst 0, 1) := by decide +kernel
theorem dX12_judge_22 : decode cX12_judge 22 = .ok (.istore_n 2, 1) := by decide +kernel
theorem dX12_judge_23 : decode cX12_judge 23 = .ok (.iload_n 2, 1) := by decide +kernel
theorem dX12_judge_24 : decode cX12_judge 24 = .ok (.iconst 5, 1) := by decide +kernel
theorem dX12_judge_25 : decode cX12_judge 25 = .ok (.if_icmp .ge 16, 3) := by decide +kernel
theorem dX12_judge_28 : decode cX12_judge 28 = .ok (.aload_n 0, 1) := by decide +kernel
theorem dX12_judge_29 : decode cX12_judge 29 = .ok (.getfield 74, 3) := by decide +kernel
theorem dX12_judge_32 : decode cX12_judge 32 = .ok (.iload_n 2, 1) := by decide +kernel
theorem dX12_judge_33 : decode cX12_judge 33 = .ok (.iconst 0, 1) := by decide +kernel
theorem dX12_judge_34 : decode cX12_judge 34 = .ok (.iastore, 1) := by decide +kernel
theorem dX12_judge_35 : decode cX12_judge 35 = .ok (.iinc 2 1, 3) := by decide +kernel
theorem dX12_judge_38 : decode cX12_judge 38 = .ok (.goto (-15), 3) := by decide +kernel
theorem dX12_judge_41 : decode cX12_judge 41 = .ok (.iconst (-1), 1) := by decide +kernel
theorem dX12_judge_42 : decode cX12_judge 42 = .ok (.istore_n 2, 1) := by decide +kernel
theorem dX12_judge_43 : decode cX12_judge 43 = .ok (.iconst 0, 1) := by decide +kernel
theorem dX12_judge_44 : decode cX12_judge 44 = .ok (.istore_n 3, 1) := by decide +kernel
theorem dX12_judge_45 : decode cX12_judge 45 = .ok (.iload_n 3, 1) := by decide +kernel
theorem dX12_judge_46 : decode cX12_judge 46 = .ok (.aload_n 0, 1) := by decide +kernel
theorem dX12_judge_47 : decode cX12_judge 47 = .ok (.getfield 33, 3) := by decide +kernel
theorem dX12_judge_50 : decode cX12_judge 50 = .ok (.sipush 586, 3) := by decide +kernel
theorem dX12_judge_53 : decode cX12_judge 53 = .ok (.iaload, 1) := by decide +kernel
theorem dX12_judge_54 : decode cX12_judge 54 = .ok (.if_icmp .ge 54, 3) := by decide +kernel
theorem dX12_judge_57 : decode cX12_judge 57 = .ok (.iload_n 2, 1) := by decide +kernel
theorem dX12_judge_58 : decode cX12_judge 58 = .ok (.ifCond .ge 50, 3) := by decide +kernel
theorem dX12_judge_61 : decode cX12_judge 61 = .ok (.aload_n 0, 1) := by decide +kernel
theorem dX12_judge_62 : decode cX12_judge 62 = .ok (.getfield 74, 3) := by decide +kernel
theorem dX12_judge_65 : decode cX12_judge 65 = .ok (.iconst 0, 1) := by decide +kernel
theorem dX12_judge_66 : decode cX12_judge 66 = .ok (.aload_n 0, 1) := by decide +kernel
theorem dX12_judge_67 : decode cX12_judge 67 = .ok (.sipush 587, 3) := by decide +kernel
theorem dX12_judge_70 : decode cX12_judge 70 = .ok (.iconst 5, 1) := by decide +kernel
theorem dX12_judge_71 : decode cX12_judge 71 = .ok (.iload_n 3, 1) := by decide +kernel
theorem dX12_judge_72 : decode cX12_judge 72 = .ok (.imul, 1) := by decide +kernel
theorem dX12_judge_73 : decode cX12_judge 73 = .ok (.iadd, 1) := by decide +kernel
theorem dX12_judge_74 : decode cX12_judge 74 = .ok (.invokevirtual 407, 3) := by decide +kernel
theorem dX12_judge_77 : decode cX12_judge 77 = .ok (.iastore, 1) := by decide +kernel
theorem dX12_judge_78 : decode cX12_judge 78 = .ok (.aload_n 0, 1) := by decide +kernel
theorem dX12_judge_79 : decode cX12_judge 79 = .ok (.getfield 74, 3) := by decide +kernel
theorem dX12_judge_82 : decode cX12_judge 82 = .ok (.iconst 0, 1) := by decide +kernel
theorem dX12_judge_83 : decode cX12_judge 83 = .ok (.iaload, 1) := by decide +kernel
theorem dX12_judge_84 : decode cX12_judge 84 = .ok (.ifCond .le 8, 3) := by decide +kernel
theorem dX12_judge_87 : decode cX12_judge 87 = .ok (.iload_n 3, 1) := by decide +kernel
theorem dX12_judge_88 : decode cX12_judge 88 = .ok (.istore_n 2, 1) := by decide +kernel
theorem dX12_judge_89 : decode cX12_judge 89 = .ok (.goto 13, 3) := by decide +kernel
theorem dX12_judge_92 : decode cX12_judge 92 = .ok (.aload_n 0, 1) := by decide +kernel
theorem dX12_judge_93 : decode cX12_judge 93 = .ok (.getfield 74, 3) := by decide +kernel
theorem dX12_judge_96 : decode cX12_judge 96 = .ok (.iconst 1, 1) := by decide +kernel
theorem dX12_judge_97 : decode cX12_judge 97 = .ok (.dup2, 1) := by decide +kernel
theorem dX12_judge_98 : decode cX12_judge 98 = .ok (.iaload, 1) := by decide +kernel
theorem dX12_judge_99 : decode cX12_judge 99 = .ok (.iconst 1, 1) := by decide +kernel
theorem dX12_judge_100 : decode cX12_judge 100 = .ok (.iadd, 1) := by decide +kernel
theorem dX12_judge_101 : decode cX12_judge 101 = .ok (.iastore, 1) := by decide +kernel
theorem dX12_judge_102 : decode cX12_judge 102 = .ok (.iinc 3 1, 3) := by decide +kernel
theorem dX12_judge_105 : decode cX12_judge 105 = .ok (.goto (-60), 3) := by decide +kernel
theorem dX12_judge_108 : decode cX12_judge 108 = .ok (.aload_n 0, 1) := by decide +kernel
theorem dX12_judge_109 : decode cX12_judge 109 = .ok (.getfield 74, 3) := by decide +kernel
theorem dX12_judge_112 : decode cX12_judge 112 = .ok (.iconst 2, 1) := by decide +kernel
theorem dX12_judge_113 : decode cX12_judge 113 = .ok (.aload_n 0, 1) := by decide +kernel
theorem dX12_judge_114 : decode cX12_judge 114 = .ok (.invokevirtual 410, 3) := by decide +kernel
theorem dX12_judge_117 : decode cX12_judge 117 = .ok (.iastore, 1) := by decide +kernel
theorem dX12_judge_118 : decode cX12_judge 118 = .ok (.iconst 0, 1) := by decide +kernel
theorem dX12_judge_119 : decode cX12_judge 119 = .ok (.istore_n 3, 1) := by decide +kernel
theorem dX12_judge_120 : decode cX12_judge 120 = .ok (.iload_n 3, 1) := by decide +kernel
theorem dX12_judge_121 : decode cX12_judge 121 = .ok (.aload_n 0, 1) := by decide +kernel
theorem dX12_judge_122 : decode cX12_judge 122 = .ok (.getfield 33, 3) := by decide +kernel
theorem dX12_judge_125 : decode cX12_judge 125 = .ok (.iconst 0, 1) := by decide +kernel
theorem dX12_judge_126 : decode cX12_judge 126 = .ok (.iaload, 1) := by decide +kernel
theorem dX12_judge_127 : decode cX12_judge 127 = .ok (.if_icmp .ge 35, 3) := by decide +kernel
theorem dX12_judge_130 : decode cX12_judge 130 = .ok (.aload_n 0, 1) := by decide +kernel
theorem dX12_judge_131 : decode cX12_judge 131 = .ok (.getfield 74, 3) := by decide +kernel
theorem dX12_judge_134 : decode cX12_judge 134 = .ok (.iconst 3, 1) := by decide +kernel
theorem dX12_judge_135 : decode cX12_judge 135 = .ok (.dup2, 1) := by decide +kernel
theorem dX12_judge_136 : decode cX12_judge 136 = .ok (.iaload, 1) := by decide +kernel
theorem dX12_judge_137 : decode cX12_judge 137 = .ok (.aload_n 0, 1) := by decide +kernel
theorem dX12_judge_138 : decode cX12_judge 138 = .ok (.iload_n 3, 1) := by decide +kernel
theorem dX12_judge_139 : decode cX12_judge 139 = .ok (.invokevirtual 294, 3) := by decide +kernel
theorem dX12_judge_142 : decode cX12_judge 142 = .ok (.ifCond .eq 11, 3) := by decide +kernel
theorem dX12_judge_145 : decode cX12_judge 145 = .ok (.aload_n 0, 1) := by decide +kernel
theorem dX12_judge_146 : decode cX12_judge 146 = .ok (.iload_n 3, 1) := by decide +kernel
theorem dX12_judge_147 : decode cX12_judge 147 = .ok (.invokevirtual 297, 3) := by decide +kernel
theorem dX12_judge_150 : decode cX12_judge 150 = .ok (.goto 4, 3) := by decide +kernel
theorem dX12_judge_153 : decode cX12_judge 153 = .ok (.iconst 0, 1) := by decide +kernel
theorem dX12_judge_154 : decode cX12_judge 154 = .ok (.iadd, 1) := by decide +kernel
theorem dX12_judge_155 : decode cX12_judge 155 = .ok (.iastore, 1) := by decide +kernel
theorem dX12_judge_156 : decode cX12_judge 156 = .ok (.iinc 3 1, 3) := by decide +kernel
theorem dX12_judge_159 : decode cX12_judge 159 = .ok (.goto (-39), 3) := by decide +kernel
theorem dX12_judge_162 : decode cX12_judge 162 = .ok (.aload_n 0, 1) := by decide +kernel
theorem dX12_judge_163 : decode cX12_judge 163 = .ok (.getfield 74, 3) := by decide +kernel
theorem dX12_judge_166 : decode cX12_judge 166 = .ok (.iconst 4, 1) := by decide +kernel
theorem dX12_judge_167 : decode cX12_judge 167 = .ok (.aload_n 0, 1) := by decide +kernel
theorem dX12_judge_168 : decode cX12_judge 168 = .ok (.getfield 33, 3) := by decide +kernel
theorem dX12_judge_171 : decode cX12_judge 171 = .ok (.bipush 35, 2) := by decide +kernel
theorem dX12_judge_173 : decode cX12_judge 173 = .ok (.iaload, 1) := by decide +kernel
theorem dX12_judge_174 : decode cX12_judge 174 = .ok (.iastore, 1) := by decide +kernel
theorem dX12_judge_175 : decode cX12_judge 175 = .ok (.aload_n 0, 1) := by decide +kernel
theorem dX12_judge_176 : decode cX12_judge 176 = .ok (.iconst 1, 1) := by decide +kernel
theorem dX12_judge_177 : decode cX12_judge 177 = .ok (.putfield 413, 3) := by decide +kernel
theorem dX12_judge_180 : decode cX12_judge 180 = .ok (.iload_n 1, 1) := by decide +kernel
theorem dX12_judge_181 : decode cX12_judge 181 = .ok (.ifCond .ne 10, 3) := by decide +kernel
theorem dX12_judge_184 : decode cX12_judge 184 = .ok (.aload_n 0, 1) := by decide +kernel
theorem dX12_judge_185 : decode cX12_judge 185 = .ok (.invokevirtual 383, 3) := by decide +kernel
theorem dX12_judge_188 : decode cX12_judge 188 = .ok (.goto 16, 3) := by decide +kernel
theorem dX12_judge_191 : decode cX12_judge 191 = .ok (.aload_n 0, 1) := by decide +kernel
theorem dX12_judge_192 : decode cX12_judge 192 = .ok (.getfield 74, 3) := by decide +kernel
theorem dX12_judge_195 : decode cX12_judge 195 = .ok (.iconst 1, 1) := by decide +kernel
theorem dX12_judge_196 : decode cX12_judge 196 = .ok (.iaload, 1) := by decide +kernel
theorem dX12_judge_197 : decode cX12_judge 197 = .ok (.ifCond .le 7, 3) := by decide +kernel
theorem dX12_judge_200 : decode cX12_judge 200 = .ok (.aload_n 0, 1) := by decide +kernel
theorem dX12_judge_201 : decode cX12_judge 201 = .ok (.invokevirtual 416, 3) := by decide +kernel
theorem dX12_judge_204 : decode cX12_judge 204 = .ok (.iload_n 2, 1) := by decide +kernel
theorem dX12_judge_205 : decode cX12_judge 205 = .ok (.ireturn, 1) := by decide +kernel
theorem dX12_keepsBefore_0 : decode cX12_keepsBefore 0 = .ok (.aload_n 0, 1) := by decide +kernel
theorem dX12_keepsBefore_1 : decode cX12_keepsBefore 1 = .ok (.invokevirtual 329, 3) := by decide +kernel
theorem dX12_keepsBefore_4 : decode cX12_keepsBefore 4 = .ok (.iconst 0, 1) := by decide +kernel
theorem dX12_keepsBefore_5 : decode cX12_keepsBefore 5 = .ok (.istore_n 1, 1) := by decide +kernel
theorem dX12_keepsBefore_6 : decode cX12_keepsBefore 6 = .ok (.iload_n 1, 1) := by decide +kernel
theorem dX12_keepsBefore_7 : decode cX12_keepsBefore 7 = .ok (.sipush 552, 3) := by decide +kernel
theorem dX12_keepsBefore_10 : decode cX12_keepsBefore 10 = .ok (.if_icmp .ge 32, 3) := by decide +kernel
theorem dX12_keepsBefore_13 : decode cX12_keepsBefore 13 = .ok (.aload_n 0, 1) := by decide +kernel
theorem dX12_keepsBefore_14 : decode cX12_keepsBefore 14 = .ok (.getfield 50, 3) := by decide +kernel
theorem dX12_keepsBefore_17 : decode cX12_keepsBefore 17 = .ok (.sipush 552, 3) := by decide +kernel
theorem dX12_keepsBefore_20 : decode cX12_keepsBefore 20 = .ok (.aload_n 0, 1) := by decide +kernel
theorem dX12_keepsBefore_21 : decode cX12_keepsBefore 21 = .ok (.getfield 250, 3) := by decide +kernel
theorem dX12_keepsBefore_24 : decode cX12_keepsBefore 24 = .ok (.iconst 1, 1) := by decide +kernel
theorem dX12_keepsBefore_25 : decode cX12_keepsBefore 25 = .ok (.isub, 1) := by decide +kernel
theorem dX12_keepsBefore_26 : decode cX12_keepsBefore 26 = .ok (.imul, 1) := by decide +kernel
theorem dX12_keepsBefore_27 : decode cX12_keepsBefore 27 = .ok (.iload_n 1, 1) := by decide +kernel
theorem dX12_keepsBefore_28 : decode cX12_keepsBefore 28 = .ok (.iadd, 1) := by decide +kernel
theorem dX12_keepsBefore_29 : decode cX12_keepsBefore 29 = .ok (.aload_n 0, 1) := by decide +kernel
theorem dX12_keepsBefore_30 : decode cX12_keepsBefore 30 = .ok (.getfield 62, 3) := by decide +kernel
theorem dX12_keepsBefore_33 : decode cX12_keepsBefore 33 = .ok (.iload_n 1, 1) := by decide +kernel
theorem dX12_keepsBefore_34 : decode cX12_keepsBefore 34 = .ok (.iaload, 1) := by decide +kernel
theorem dX12_keepsBefore_35 : decode cX12_keepsBefore 35 = .ok (.iastore, 1) := by decide +kernel
theorem dX12_keepsBefore_36 : decode cX12_keepsBefore 36 = .ok (.iinc 1 1, 3) := by decide +kernel
theorem dX12_keepsBefore_39 : decode cX12_keepsBefore 39 = .ok (.goto (-33), 3) := by decide +kernel
theorem dX12_keepsBefore_42 : decode cX12_keepsBefore 42 = .ok (.return_, 1) := by decide +kernel
theorem dX12_judged_0 : decode cX12_judged 0 = .ok (.aload_n 0, 1) := by decide +kernel
theorem dX12_judged_1 : decode cX12_judged 1 = .ok (.iconst 0, 1) := by decide +kernel
theorem dX12_judged_2 : decode cX12_judged 2 = .ok (.putfield 1, 3) := by decide +kernel
theorem dX12_judged_5 : decode cX12_judged 5 = .ok (.aload_n 0, 1) := by decide +kernel
theorem dX12_judged_6 : decode cX12_judged 6 = .ok (.getfield 413, 3) := by decide +kernel
theorem dX12_judged_9 : decode cX12_judged 9 = .ok (.ifCond .eq 21, 3) := by decide +kernel
theorem dX12_judged_12 : decode cX12_judged 12 = .ok (.iload_n 1, 1) := by decide +kernel
theorem dX12_judged_13 : decode cX12_judged 13 = .ok (.iconst 0, 1) := by decide +kernel
theorem dX12_judged_14 : decode cX12_judged 14 = .ok (.iconst 4, 1) := by decide +kernel
theorem dX12_judged_15 : decode cX12_judged 15 = .ok (.invokestatic 202, 3) := by decide +kernel
theorem dX12_judged_18 : decode cX12_judged 18 = .ok (.ifCond .eq 12, 3) := by decide +kernel
theorem dX12_judged_21 : decode cX12_judged 21 = .ok (.aload_n 0, 1) := by decide +kernel
theorem dX12_judged_22 : decode cX12_judged 22 = .ok (.getfield 74, 3) := by decide +kernel
theorem dX12_judged_25 : decode cX12_judged 25 = .ok (.iload_n 1, 1) := by decide +kernel
theorem dX12_judged_26 : decode cX12_judged 26 = .ok (.iaload, 1) := by decide +kernel
theorem dX12_judged_27 : decode cX12_judged 27 = .ok (.goto 4, 3) := by decide +kernel
theorem dX12_judged_30 : decode cX12_judged 30 = .ok (.iconst (-1), 1) := by decide +kernel
theorem dX12_judged_31 : decode cX12_judged 31 = .ok (.ireturn, 1) := by decide +kernel
theorem dX12_packs_0 : decode cX12_packs 0 = .ok (.aload_n 0, 1) := by decide +kernel
theorem dX12_packs_1 : decode cX12_packs 1 = .ok (.getfield 77, 3) := by decide +kernel
theorem dX12_packs_4 : decode cX12_packs 4 = .ok (.iconst 3, 1) := by decide +kernel
theorem dX12_packs_5 : decode cX12_packs 5 = .ok (.iload_n 1, 1) := by decide +kernel
theorem dX12_packs_6 : decode cX12_packs 6 = .ok (.imul, 1) := by decide +kernel
theorem dX12_packs_7 : decode cX12_packs 7 = .ok (.iaload, 1) := by decide +kernel
theorem dX12_packs_8 : decode cX12_packs 8 = .ok (.istore_n 2, 1) := by decide +kernel
theorem dX12_packs_9 : decode cX12_packs 9 = .ok (.aload_n 0, 1) := by decide +kernel
theorem dX12_packs_10 : decode cX12_packs 10 = .ok (.getfield 77, 3) := by decide +kernel
theorem dX12_packs_13 : decode cX12_packs 13 = .ok (.iconst 3, 1) := by decide +kernel
theorem dX12_packs_14 : decode cX12_packs 14 = .ok (.iload_n 1, 1) := by decide +kernel
theorem dX12_packs_15 : decode cX12_packs 15 = .ok (.imul, 1) := by decide +kernel
theorem dX12_packs_16 : decode cX12_packs 16 = .ok (.iconst 1, 1) := by decide +kernel
theorem dX12_packs_17 : decode cX12_packs 17 = .ok (.iadd, 1) := by decide +kernel
theorem dX12_packs_18 : decode cX12_packs 18 = .ok (.iaload, 1) := by decide +kernel
theorem dX12_packs_19 : decode cX12_packs 19 = .ok (.istore_n 3, 1) := by decide +kernel
theorem dX12_packs_20 : decode cX12_packs 20 = .ok (.aload_n 0, 1) := by decide +kernel
theorem dX12_packs_21 : decode cX12_packs 21 = .ok (.getfield 33, 3) := by decide +kernel
theorem dX12_packs_24 : decode cX12_packs 24 = .ok (.bipush 22, 2) := by decide +kernel
theorem dX12_packs_26 : decode cX12_packs 26 = .ok (.aload_n 0, 1) := by decide +kernel
theorem dX12_packs_27 : decode cX12_packs 27 = .ok (.getfield 77, 3) := by decide +kernel
theorem dX12_packs_30 : decode cX12_packs 30 = .ok (.iconst 3, 1) := by decide +kernel
theorem dX12_packs_31 : decode cX12_packs 31 = .ok (.iload_n 1, 1) := by decide +kernel
theorem dX12_packs_32 : decode cX12_packs 32 = .ok (.imul, 1) := by decide +kernel
theorem dX12_packs_33 : decode cX12_packs 33 = .ok (.iconst 2, 1) := by decide +kernel
theorem dX12_packs_34 : decode cX12_packs 34 = .ok (.iadd, 1) := by decide +kernel
theorem dX12_packs_35 : decode cX12_packs 35 = .ok (.iaload, 1) := by decide +kernel
theorem dX12_packs_36 : decode cX12_packs 36 = .ok (.iadd, 1) := by decide +kernel
theorem dX12_packs_37 : decode cX12_packs 37 = .ok (.iaload, 1) := by decide +kernel
theorem dX12_packs_38 : decode cX12_packs 38 = .ok (.istore 4, 2) := by decide +kernel
theorem dX12_packs_40 : decode cX12_packs 40 = .ok (.iload_n 2, 1) := by decide +kernel
theorem dX12_packs_41 : decode cX12_packs 41 = .ok (.iload_n 3, 1) := by decide +kernel
theorem dX12_packs_42 : decode cX12_packs 42 = .ok (.if_icmp .eq 19, 3) := by decide +kernel
theorem dX12_packs_45 : decode cX12_packs 45 = .ok (.aload_n 0, 1) := by decide +kernel
theorem dX12_packs_46 : decode cX12_packs 46 = .ok (.iload_n 2, 1) := by decide +kernel
theorem dX12_packs_47 : decode cX12_packs 47 = .ok (.invokevirtual 294, 3) := by decide +kernel
theorem dX12_packs_50 : decode cX12_packs 50 = .ok (.ifCond .eq 11, 3) := by decide +kernel
theorem dX12_packs_53 : decode cX12_packs 53 = .ok (.aload_n 0, 1) := by decide +kernel
theorem dX12_packs_54 : decode cX12_packs 54 = .ok (.iload_n 3, 1) := by decide +kernel
theorem dX12_packs_55 : decode cX12_packs 55 = .ok (.invokevirtual 294, 3) := by decide +kernel
theorem dX12_packs_58 : decode cX12_packs 58 = .ok (.ifCond .ne 5, 3) := by decide +kernel
theorem dX12_packs_61 : decode cX12_packs 61 = .ok (.iconst 0, 1) := by decide +kernel
theorem dX12_packs_62 : decode cX12_packs 62 = .ok (.ireturn, 1) := by decide +kernel
theorem dX12_packs_63 : decode cX12_packs 63 = .ok (.aload_n 0, 1) := by decide +kernel
theorem dX12_packs_64 : decode cX12_packs 64 = .ok (.getfield 83, 3) := by decide +kernel
theorem dX12_packs_67 : decode cX12_packs 67 = .ok (.iload_n 1, 1) := by decide +kernel
theorem dX12_packs_68 : decode cX12_packs 68 = .ok (.iaload, 1) := by decide +kernel
theorem dX12_packs_69 : decode cX12_packs 69 = .ok (.iconst 2, 1) := by decide +kernel
theorem dX12_packs_70 : decode cX12_packs 70 = .ok (.irem, 1) := by decide +kernel
theorem dX12_packs_71 : decode cX12_packs 71 = .ok (.ifCond .ne 7, 3) := by decide +kernel
theorem dX12_packs_74 : decode cX12_packs 74 = .ok (.iload_n 2, 1) := by decide +kernel
theorem dX12_packs_75 : decode cX12_packs 75 = .ok (.goto 12, 3) := by decide +kernel
theorem dX12_packs_78 : decode cX12_packs 78 = .ok (.aload_n 0, 1) := by decide +kernel
theorem dX12_packs_79 : decode cX12_packs 79 = .ok (.getfield 33, 3) := by decide +kernel
theorem dX12_packs_82 : decode cX12_packs 82 = .ok (.bipush 13, 2) := by decide +kernel
theorem dX12_packs_84 : decode cX12_packs 84 = .ok (.iload_n 2, 1) := by decide +kernel
theorem dX12_packs_85 : decode cX12_packs 85 = .ok (.iadd, 1) := by decide +kernel
theorem dX12_packs_86 : decode cX12_packs 86 = .ok (.iaload, 1) := by decide +kernel
theorem dX12_packs_87 : decode cX12_packs 87 = .ok (.istore 5, 2) := by decide +kernel
theorem dX12_packs_89 : decode cX12_packs 89 = .ok (.aload_n 0, 1) := by decide +kernel
theorem dX12_packs_90 : decode cX12_packs 90 = .ok (.getfield 83, 3) := by decide +kernel
theorem dX12_packs_93 : decode cX12_packs 93 = .ok (.iload_n 1, 1) := by decide +kernel
theorem dX12_packs_94 : decode cX12_packs 94 = .ok (.iaload, 1) := by decide +kernel
theorem dX12_packs_95 : decode cX12_packs 95 = .ok (.iconst 2, 1) := by decide +kernel
theorem dX12_packs_96 : decode cX12_packs 96 = .ok (.if_icmp .ge 7, 3) := by decide +kernel
theorem dX12_packs_99 : decode cX12_packs 99 = .ok (.iload_n 3, 1) := by decide +kernel
theorem dX12_packs_100 : decode cX12_packs 100 = .ok (.goto 12, 3) := by decide +kernel
theorem dX12_packs_103 : decode cX12_packs 103 = .ok (.aload_n 0, 1) := by decide +kernel
theorem dX12_packs_104 : decode cX12_packs 104 = .ok (.getfield 33, 3) := by decide +kernel
theorem dX12_packs_107 : decode cX12_packs 107 = .ok (.bipush 13, 2) := by decide +kernel
theorem dX12_packs_109 : decode cX12_packs 109 = .ok (.iload_n 3, 1) := by decide +kernel
theorem dX12_packs_110 : decode cX12_packs 110 = .ok (.iadd, 1) := by decide +kernel
theorem dX12_packs_111 : decode cX12_packs 111 = .ok (.iaload, 1) := by decide +kernel
theorem dX12_packs_112 : decode cX12_packs 112 = .ok (.istore 6, 2) := by decide +kernel
theorem dX12_packs_114 : decode cX12_packs 114 = .ok (.iload 5, 2) := by decide +kernel
theorem dX12_packs_116 : decode cX12_packs 116 = .ok (.ifCond .lt 26, 3) := by decide +kernel
theorem dX12_packs_119 : decode cX12_packs 119 = .ok (.iload 6, 2) := by decide +kernel
theorem dX12_packs_121 : decode cX12_packs 121 = .ok (.ifCond .lt 21, 3) := by decide +kernel
theorem dX12_packs_124 : decode cX12_packs 124 = .ok (.aload_n 0, 1) := by decide +kernel
theorem dX12_packs_125 : decode cX12_packs 125 = .ok (.iload 5, 2) := by decide +kernel
theorem dX12_packs_127 : decode cX12_packs 127 = .ok (.invokevirtual 294, 3) := by decide +kernel
theorem dX12_packs_130 : decode cX12_packs 130 = .ok (.ifCond .eq 12, 3) := by decide +kernel
theorem dX12_packs_133 : decode cX12_packs 133 = .ok (.aload_n 0, 1) := by decide +kernel
theorem dX12_packs_134 : decode cX12_packs 134 = .ok (.iload 6, 2) := by decide +kernel
theorem dX12_packs_136 : decode cX12_packs 136 = .ok (.invokevirtual 294, 3) := by decide +kernel
theorem dX12_packs_139 : decode cX12_packs 139 = .ok (.ifCond .ne 5, 3) := by decide +kernel
theorem dX12_packs_142 : decode cX12_packs 142 = .ok (.iconst 0, 1) := by decide +kernel
theorem dX12_packs_143 : decode cX12_packs 143 = .ok (.ireturn, 1) := by decide +kernel
theorem dX12_packs_144 : decode cX12_packs 144 = .ok (.aload_n 0, 1) := by decide +kernel
theorem dX12_packs_145 : decode cX12_packs 145 = .ok (.getfield 92, 3) := by decide +kernel
theorem dX12_packs_148 : decode cX12_packs 148 = .ok (.iload 5, 2) := by decide +kernel
theorem dX12_packs_150 : decode cX12_packs 150 = .ok (.dup2, 1) := by decide +kernel
theorem dX12_packs_151 : decode cX12_packs 151 = .ok (.iaload, 1) := by decide +kernel
theorem dX12_packs_152 : decode cX12_packs 152 = .ok (.iload 4, 2) := by decide +kernel
theorem dX12_packs_154 : decode cX12_packs 154 = .ok (.isub, 1) := by decide +kernel
theorem dX12_packs_155 : decode cX12_packs 155 = .ok (.iastore, 1) := by decide +kernel
theorem dX12_packs_156 : decode cX12_packs 156 = .ok (.aload_n 0, 1) := by decide +kernel
theorem dX12_packs_157 : decode cX12_packs 157 = .ok (.getfield 92, 3) := by decide +kernel
theorem dX12_packs_160 : decode cX12_packs 160 = .ok (.iload 6, 2) := by decide +kernel
theorem dX12_packs_162 : decode cX12_packs 162 = .ok (.dup2, 1) := by decide +kernel
theorem dX12_packs_163 : decode cX12_packs 163 = .ok (.iaload, 1) := by decide +kernel
theorem dX12_packs_164 : decode cX12_packs 164 = .ok (.iload 4, 2) := by decide +kernel
theorem dX12_packs_166 : decode cX12_packs 166 = .ok (.isub, 1) := by decide +kernel
theorem dX12_packs_167 : decode cX12_packs 167 = .ok (.iastore, 1) := by decide +kernel
theorem dX12_packs_168 : decode cX12_packs 168 = .ok (.iconst 1, 1) := by decide +kernel
theorem dX12_packs_169 : decode cX12_packs 169 = .ok (.ireturn, 1) := by decide +kernel
theorem dX12_arePacked_0 : decode cX12_arePacked 0 = .ok (.iconst 0, 1) := by decide +kernel
theorem dX12_arePacked_1 : decode cX12_arePacked 1 = .ok (.istore_n 3, 1) := by decide +kernel
theorem dX12_arePacked_2 : decode cX12_arePacked 2 = .ok (.iload_n 3, 1) := by decide +kernel
theorem dX12_arePacked_3 : decode cX12_arePacked 3 = .ok (.aload_n 0, 1) := by decide +kernel
theorem dX12_arePacked_4 : decode cX12_arePacked 4 = .ok (.getfield 33, 3) := by decide +kernel
theorem dX12_arePacked_7 : decode cX12_arePacked 7 = .ok (.iconst 0, 1) := by decide +kernel
theorem dX12_arePacked_8 : decode cX12_arePacked 8 = .ok (.iaload, 1) := by decide +kernel
theorem dX12_arePacked_9 : decode cX12_arePacked 9 = .ok (.if_icmp .ge 31, 3) := by decide +kernel
theorem dX12_arePacked_12 : decode cX12_arePacked 12 = .ok (.aload_n 0, 1) := by decide +kernel
theorem dX12_arePacked_13 : decode cX12_arePacked 13 = .ok (.getfield 92, 3) := by decide +kernel
theorem dX12_arePacked_16 : decode cX12_arePacked 16 = .ok (.iload_n 3, 1) := by decide +kernel
theorem dX12_arePacked_17 : decode cX12_arePacked 17 = .ok (.aload_n 0, 1) := by decide +kernel
theorem dX12_arePacked_18 : decode cX12_arePacked 18 = .ok (.iload_n 3, 1) := by decide +kernel
theorem dX12_arePacked_19 : decode cX12_arePacked 19 = .ok (.invokevirtual 297, 3) := by decide +kernel
theorem dX12_arePacked_22 : decode cX12_arePacked 22 = .ok (.iload_n 3, 1) := by decide +kernel
theorem dX12_arePacked_23 : decode cX12_arePacked 23 = .ok (.iload_n 1, 1) := by decide +kernel
theorem dX12_arePacked_24 : decode cX12_arePacked 24 = .ok (.if_icmp .ne 7, 3) := by decide +kernel
theorem dX12_arePacked_27 : decode cX12_arePacked 27 = .ok (.iload_n 2, 1) := by decide +kernel
theorem dX12_arePacked_28 : decode cX12_arePacked 28 = .ok (.goto 4, 3) := by decide +kernel
theorem dX12_arePacked_31 : decode cX12_arePacked 31 = .ok (.iconst 0, 1) := by decide +kernel
theorem dX12_arePacked_32 : decode cX12_arePacked 32 = .ok (.iadd, 1) := by decide +kernel
theorem dX12_arePacked_33 : decode cX12_arePacked 33 = .ok (.iastore, 1) := by decide +kernel
theorem dX12_arePacked_34 : decode cX12_arePacked 34 = .ok (.iinc 3 1, 3) := by decide +kernel
theorem dX12_arePacked_37 : decode cX12_arePacked 37 = .ok (.goto (-35), 3) := by decide +kernel
theorem dX12_arePacked_40 : decode cX12_arePacked 40 = .ok (.iconst 0, 1) := by decide +kernel
theorem dX12_arePacked_41 : decode cX12_arePacked 41 = .ok (.istore_n 3, 1) := by decide +kernel
theorem dX12_arePacked_42 : decode cX12_arePacked 42 = .ok (.iload_n 3, 1) := by decide +kernel
theorem dX12_arePacked_43 : decode cX12_arePacked 43 = .ok (.aload_n 0, 1) := by decide +kernel
theorem dX12_arePacked_44 : decode cX12_arePacked 44 = .ok (.getfield 419, 3) := by decide +kernel
theorem dX12_arePacked_47 : decode cX12_arePacked 47 = .ok (.if_icmp .ge 29, 3) := by decide +kernel
theorem dX12_arePacked_50 : decode cX12_arePacked 50 = .ok (.aload_n 0, 1) := by decide +kernel
theorem dX12_arePacked_51 : decode cX12_arePacked 51 = .ok (.getfield 83, 3) := by decide +kernel
theorem dX12_arePacked_54 : decode cX12_arePacked 54 = .ok (.iload_n 3, 1) := by decide +kernel
theorem dX12_arePacked_55 : decode cX12_arePacked 55 = .ok (.iaload, 1) := by decide +kernel
theorem dX12_arePacked_56 : decode cX12_arePacked 56 = .ok (.iconst 4, 1) := by decide +kernel
theorem dX12_arePacked_57 : decode cX12_arePacked 57 = .ok (.if_icmp .ge 13, 3) := by decide +kernel
theorem dX12_arePacked_60 : decode cX12_arePacked 60 = .ok (.aload_n 0, 1) := by decide +kernel
theorem dX12_arePacked_61 : decode cX12_arePacked 61 = .ok (.iload_n 3, 1) := by decide +kernel
theorem dX12_arePacked_62 : decode cX12_arePacked 62 = .ok (.invokevirtual 422, 3) := by decide +kernel
theorem dX12_arePacked_65 : decode cX12_arePacked 65 = .ok (.ifCond .ne 5, 3) := by decide +kernel
theorem dX12_arePacked_68 : decode cX12_arePacked 68 = .ok (.iconst 0, 1) := by decide +kernel
theorem dX12_arePacked_69 : decode cX12_arePacked 69 = .ok (.ireturn, 1) := by decide +kernel
theorem dX12_arePacked_70 : decode cX12_arePacked 70 = .ok (.iinc 3 1, 3) := by decide +kernel
theorem dX12_arePacked_73 : decode cX12_arePacked 73 = .ok (.goto (-31), 3) := by decide +kernel
theorem dX12_arePacked_76 : decode cX12_arePacked 76 = .ok (.iconst 0, 1) := by decide +kernel
theorem dX12_arePacked_77 : decode cX12_arePacked 77 = .ok (.istore_n 3, 1) := by decide +kernel
theorem dX12_arePacked_78 : decode cX12_arePacked 78 = .ok (.iload_n 3, 1) := by decide +kernel
theorem dX12_arePacked_79 : decode cX12_arePacked 79 = .ok (.aload_n 0, 1) := by decide +kernel
theorem dX12_arePacked_80 : decode cX12_arePacked 80 = .ok (.getfield 33, 3) := by decide +kernel
theorem dX12_arePacked_83 : decode cX12_arePacked 83 = .ok (.iconst 0, 1) := by decide +kernel
theorem dX12_arePacked_84 : decode cX12_arePacked 84 = .ok (.iaload, 1) := by decide +kernel
theorem dX12_arePacked_85 : decode cX12_arePacked 85 = .ok (.if_icmp .ge 45, 3) := by decide +kernel
theorem dX12_arePacked_88 : decode cX12_arePacked 88 = .ok (.aload_n 0, 1) := by decide +kernel
theorem dX12_arePacked_89 : decode cX12_arePacked 89 = .ok (.getfield 92, 3) := by decide +kernel
theorem dX12_arePacked_92 : decode cX12_arePacked 92 = .ok (.iload_n 3, 1) := by decide +kernel
theorem dX12_arePacked_93 : decode cX12_arePacked 93 = .ok (.iaload, 1) := by decide +kernel
theorem dX12_arePacked_94 : decode cX12_arePacked 94 = .ok (.ifCond .ge 30, 3) := by decide +kernel
theorem dX12_arePacked_97 : decode cX12_arePacked 97 = .ok (.aload_n 0, 1) := by decide +kernel
theorem dX12_arePacked_98 : decode cX12_arePacked 98 = .ok (.getfield 92, 3) := by decide +kernel
theorem dX12_arePacked_101 : decode cX12_arePacked 101 = .ok (.iload_n 3, 1) := by decide +kernel
theorem dX12_arePacked_102 : decode cX12_arePacked 102 = .ok (.iaload, 1) := by decide +kernel
theorem dX12_arePacked_103 : decode cX12_arePacked 103 = .ok (.aload_n 0, 1) := by decide +kernel
theorem dX12_arePacked_104 : decode cX12_arePacked 104 = .ok (.iload_n 3, 1) := by decide +kernel
theorem dX12_arePacked_105 : decode cX12_arePacked 105 = .ok (.invokevirtual 297, 3) := by decide +kernel
theorem dX12_arePacked_108 : decode cX12_arePacked 108 = .ok (.iload_n 3, 1) := by decide +kernel
theorem dX12_arePacked_109 : decode cX12_arePacked 109 = .ok (.iload_n 1, 1) := by decide +kernel
theorem dX12_arePacked_110 : decode cX12_arePacked 110 = .ok (.if_icmp .ne 7, 3) := by decide +kernel
theorem dX12_arePacked_113 : decode cX12_arePacked 113 = .ok (.iload_n 2, 1) := by decide +kernel
theorem dX12_arePacked_114 : decode cX12_arePacked 114 = .ok (.goto 4, 3) := by decide +kernel
theorem dX12_arePacked_117 : decode cX12_arePacked 117 = .ok (.iconst 0, 1) := by decide +kernel
theorem dX12_arePacked_118 : decode cX12_arePacked 118 = .ok (.iadd, 1) := by decide +kernel
theorem dX12_arePacked_119 : decode cX12_arePacked 119 = .ok (.if_icmp .ge 5, 3) := by decide +kernel
theorem dX12_arePacked_122 : decode cX12_arePacked 122 = .ok (.iconst 0, 1) := by decide +kernel
theorem dX12_arePacked_123 : decode cX12_arePacked 123 = .ok (.ireturn, 1) := by decide +kernel
theorem dX12_arePacked_124 : decode cX12_arePacked 124 = .ok (.iinc 3 1, 3) := by decide +kernel
theorem dX12_arePacked_127 : decode cX12_arePacked 127 = .ok (.goto (-49), 3) := by decide +kernel
theorem dX12_arePacked_130 : decode cX12_arePacked 130 = .ok (.iconst 1, 1) := by decide +kernel
theorem dX12_arePacked_131 : decode cX12_arePacked 131 = .ok (.ireturn, 1) := by decide +kernel
theorem dX12_bestPack_0 : decode cX12_bestPack 0 = .ok (.iconst (-1), 1) := by decide +kernel
theorem dX12_bestPack_1 : decode cX12_bestPack 1 = .ok (.istore_n 3, 1) := by decide +kernel
theorem dX12_bestPack_2 : decode cX12_bestPack 2 = .ok (.iconst 0, 1) := by decide +kernel
theorem dX12_bestPack_3 : decode cX12_bestPack 3 = .ok (.istore 4, 2) := by decide +kernel
theorem dX12_bestPack_5 : decode cX12_bestPack 5 = .ok (.iload 4, 2) := by decide +kernel
theorem dX12_bestPack_7 : decode cX12_bestPack 7 = .ok (.aload_n 0, 1) := by decide +kernel
theorem dX12_bestPack_8 : decode cX12_bestPack 8 = .ok (.getfield 419, 3) := by decide +kernel
theorem dX12_bestPack_11 : decode cX12_bestPack 11 = .ok (.if_icmp .ge 17, 3) := by decide +kernel
theorem dX12_bestPack_14 : decode cX12_bestPack 14 = .ok (.aload_n 0, 1) := by decide +kernel
theorem dX12_bestPack_15 : decode cX12_bestPack 15 = .ok (.getfield 83, 3) := by decide +kernel
theorem dX12_bestPack_18 : decode cX12_bestPack 18 = .ok (.iload 4, 2) := by decide +kernel
theorem dX12_bestPack_20 : decode cX12_bestPack 20 = .ok (.iconst 0, 1) := by decide +kernel
theorem dX12_bestPack_21 : decode cX12_bestPack 21 = .ok (.iastore, 1) := by decide +kernel
theorem dX12_bestPack_22 : decode cX12_bestPack 22 = .ok (.iinc 4 1, 3) := by decide +kernel
theorem dX12_bestPack_25 : decode cX12_bestPack 25 = .ok (.goto (-20), 3) := by decide +kernel
theorem dX12_bestPack_28 : decode cX12_bestPack 28 = .ok (.iconst 1, 1) := by decide +kernel
theorem dX12_bestPack_29 : decode cX12_bestPack 29 = .ok (.istore 4, 2) := by decide +kernel
theorem dX12_bestPack_31 : decode cX12_bestPack 31 = .ok (.iload 4, 2) := by decide +kernel
theorem dX12_bestPack_33 : decode cX12_bestPack 33 = .ok (.ifCond .eq 164, 3) := by decide +kernel
theorem dX12_bestPack_36 : decode cX12_bestPack 36 = .ok (.iconst 0, 1) := by decide +kernel
theorem dX12_bestPack_37 : decode cX12_bestPack 37 = .ok (.istore 5, 2) := by decide +kernel
theorem dX12_bestPack_39 : decode cX12_bestPack 39 = .ok (.iconst 0, 1) := by decide +kernel
theorem dX12_bestPack_40 : decode cX12_bestPack 40 = .ok (.istore 6, 2) := by decide +kernel
theorem dX12_bestPack_42 : decode cX12_bestPack 42 = .ok (.iload 6, 2) := by decide +kernel
theorem dX12_bestPack_44 : decode cX12_bestPack 44 = .ok (.aload_n 0, 1) := by decide +kernel
theorem dX12_bestPack_45 : decode cX12_bestPack 45 = .ok (.getfield 419, 3) := by decide +kernel
theorem dX12_bestPack_48 : decode cX12_bestPack 48 = .ok (.if_icmp .ge 30, 3) := by decide +kernel
theorem dX12_bestPack_51 : decode cX12_bestPack 51 = .ok (.iload 5, 2) := by decide +kernel
theorem dX12_bestPack_53 : decode cX12_bestPack 53 = .ok (.aload_n 0, 1) := by decide +kernel
theorem dX12_bestPack_54 : decode cX12_bestPack 54 = .ok (.getfield 83, 3) := by decide +kernel
theorem dX12_bestPack_57 : decode cX12_bestPack 57 = .ok (.iload 6, 2) := by decide +kernel
theorem dX12_bestPack_59 : decode cX12_bestPack 59 = .ok (.iaload, 1) := by decide +kernel
theorem dX12_bestPack_60 : decode cX12_bestPack 60 = .ok (.iconst 4, 1) := by decide +kernel
theorem dX12_bestPack_61 : decode cX12_bestPack 61 = .ok (.if_icmp .ge 7, 3) := by decide +kernel
theorem dX12_bestPack_64 : decode cX12_bestPack 64 = .ok (.iconst 1, 1) := by decide +kernel
theorem dX12_bestPack_65 : decode cX12_bestPack 65 = .ok (.goto 4, 3) := by decide +kernel
theorem dX12_bestPack_68 : decode cX12_bestPack 68 = .ok (.iconst 0, 1) := by decide +kernel
theorem dX12_bestPack_69 : decode cX12_bestPack 69 = .ok (.iadd, 1) := by decide +kernel
theorem dX12_bestPack_70 : decode cX12_bestPack 70 = .ok (.istore 5, 2) := by decide +kernel
theorem dX12_bestPack_72 : decode cX12_bestPack 72 = .ok (.iinc 6 1, 3) := by decide +kernel
theorem dX12_bestPack_75 : decode cX12_bestPack 75 = .ok (.goto (-33), 3) := by decide +kernel
theorem dX12_bestPack_78 : decode cX12_bestPack 78 = .ok (.iload 5, 2) := by decide +kernel
theorem dX12_bestPack_80 : decode cX12_bestPack 80 = .ok (.iload_n 3, 1) := by decide +kernel
theorem dX12_bestPack_81 : decode cX12_bestPack 81 = .ok (.if_icmp .le 47, 3) := by decide +kernel
theorem dX12_bestPack_84 : decode cX12_bestPack 84 = .ok (.aload_n 0, 1) := by decide +kernel
theorem dX12_bestPack_85 : decode cX12_bestPack 85 = .ok (.iload_n 1, 1) := by decide +kernel
theorem dX12_bestPack_86 : decode cX12_bestPack 86 = .ok (.iload_n 2, 1) := by decide +kernel
theorem dX12_bestPack_87 : decode cX12_bestPack 87 = .ok (.invokevirtual 424, 3) := by decide +kernel
theorem dX12_bestPack_90 : decode cX12_bestPack 90 = .ok (.ifCond .eq 38, 3) := by decide +kernel
theorem dX12_bestPack_93 : decode cX12_bestPack 93 = .ok (.iload 5, 2) := by decide +kernel
theorem dX12_bestPack_95 : decode cX12_bestPack 95 = .ok (.istore_n 3, 1) := by decide +kernel
theorem dX12_bestPack_96 : decode cX12_bestPack 96 = .ok (.iconst 0, 1) := by decide +kernel
theorem dX12_bestPack_97 : decode cX12_bestPack 97 = .ok (.istore 6, 2) := by decide +kernel
theorem dX12_bestPack_99 : decode cX12_bestPack 99 = .ok (.iload 6, 2) := by decide +kernel
theorem dX12_bestPack_101 : decode cX12_bestPack 101 = .ok (.aload_n 0, 1) := by decide +kernel
theorem dX12_bestPack_102 : decode cX12_bestPack 102 = .ok (.getfield 419, 3) := by decide +kernel
theorem dX12_bestPack_105 : decode cX12_bestPack 105 = .ok (.if_icmp .ge 23, 3) := by decide +kernel
theorem dX12_bestPack_108 : decode cX12_bestPack 108 = .ok (.aload_n 0, 1) := by decide +kernel
theorem dX12_bestPack_109 : decode cX12_bestPack 109 = .ok (.getfield 86, 3) := by decide +kernel
theorem dX12_bestPack_112 : decode cX12_bestPack 112 = .ok (.iload 6, 2) := by decide +kernel
theorem dX12_bestPack_114 : decode cX12_bestPack 114 = .ok (.aload_n 0, 1) := by decide +kernel
theorem dX12_bestPack_115 : decode cX12_bestPack 115 = .ok (.getfield 83, 3) := by decide +kernel
theorem dX12_bestPack_118 : decode cX12_bestPack 118 = .ok (.iload 6, 2) := by decide +kernel
theorem dX12_bestPack_120 : decode cX12_bestPack 120 = .ok (.iaload, 1) := by decide +kernel
theorem dX12_bestPack_121 : decode cX12_bestPack 121 = .ok (.iastore, 1) := by decide +kernel
theorem dX12_bestPack_122 : decode cX12_bestPack 122 = .ok (.iinc 6 1, 3) := by decide +kernel
theorem dX12_bestPack_125 : decode cX12_bestPack 125 = .ok (.goto (-26), 3) := by decide +kernel
theorem dX12_bestPack_128 : decode cX12_bestPack 128 = .ok (.aload_n 0, 1) := by decide +kernel
theorem dX12_bestPack_129 : decode cX12_bestPack 129 = .ok (.getfield 419, 3) := by decide +kernel
theorem dX12_bestPack_132 : decode cX12_bestPack 132 = .ok (.iconst 1, 1) := by decide +kernel
theorem dX12_bestPack_133 : decode cX12_bestPack 133 = .ok (.isub, 1) := by decide +kernel
theorem dX12_bestPack_134 : decode cX12_bestPack 134 = .ok (.istore 6, 2) := by decide +kernel
theorem dX12_bestPack_136 : decode cX12_bestPack 136 = .ok (.iload 6, 2) := by decide +kernel
theorem dX12_bestPack_138 : decode cX12_bestPack 138 = .ok (.ifCond .lt 28, 3) := by decide +kernel
theorem dX12_bestPack_141 : decode cX12_bestPack 141 = .ok (.aload_n 0, 1) := by decide +kernel
theorem dX12_bestPack_142 : decode cX12_bestPack 142 = .ok (.getfield 83, 3) := by decide +kernel
theorem dX12_bestPack_145 : decode cX12_bestPack 145 = .ok (.iload 6, 2) := by decide +kernel
theorem dX12_bestPack_147 : decode cX12_bestPack 147 = .ok (.iaload, 1) := by decide +kernel
theorem dX12_bestPack_148 : decode cX12_bestPack 148 = .ok (.iconst 4, 1) := by decide +kernel
theorem dX12_bestPack_149 : decode cX12_bestPack 149 = .ok (.if_icmp .ne 17, 3) := by decide +kernel
theorem dX12_bestPack_152 : decode cX12_bestPack 152 = .ok (.aload_n 0, 1) := by decide +kernel
theorem dX12_bestPack_153 : decode cX12_bestPack 153 = .ok (.getfield 83, 3) := by decide +kernel
theorem dX12_bestPack_156 : decode cX12_bestPack 156 = .ok (.iload 6, 2) := by decide +kernel
theorem dX12_bestPack_158 : decode cX12_bestPack 158 = .ok (.iconst 0, 1) := by decide +kernel
theorem dX12_bestPack_159 : decode cX12_bestPack 159 = .ok (.iastore, 1) := by decide +kernel
theorem dX12_bestPack_160 : decode cX12_bestPack 160 = .ok (.iinc 6 (-1), 3) := by decide +kernel
theorem dX12_bestPack_163 : decode cX12_bestPack 163 = .ok (.goto (-27), 3) := by decide +kernel
theorem dX12_bestPack_166 : decode cX12_bestPack 166 = .ok (.iload 6, 2) := by decide +kernel
theorem dX12_bestPack_168 : decode cX12_bestPack 168 = .ok (.ifCond .lt 7, 3) := by decide +kernel
theorem dX12_bestPack_171 : decode cX12_bestPack 171 = .ok (.iconst 1, 1) := by decide +kernel
theorem dX12_bestPack_172 : decode cX12_bestPack 172 = .ok (.goto 4, 3) := by decide +kernel
theorem dX12_bestPack_175 : decode cX12_bestPack 175 = .ok (.iconst 0, 1) := by decide +kernel
theorem dX12_bestPack_176 : decode cX12_bestPack 176 = .ok (.istore 4, 2) := by decide +kernel
theorem dX12_bestPack_178 : decode cX12_bestPack 178 = .ok (.iload 4, 2) := by decide +kernel
theorem dX12_bestPack_180 : decode cX12_bestPack 180 = .ok (.ifCond .eq 14, 3) := by decide +kernel
theorem dX12_bestPack_183 : decode cX12_bestPack 183 = .ok (.aload_n 0, 1) := by decide +kernel
theorem dX12_bestPack_184 : decode cX12_bestPack 184 = .ok (.getfield 83, 3) := by decide +kernel
theorem dX12_bestPack_187 : decode cX12_bestPack 187 = .ok (.iload 6, 2) := by decide +kernel
theorem dX12_bestPack_189 : decode cX12_bestPack 189 = .ok (.dup2, 1) := by decide +kernel
theorem dX12_bestPack_190 : decode cX12_bestPack 190 = .ok (.iaload, 1) := by decide +kernel
theorem dX12_bestPack_191 : decode cX12_bestPack 191 = .ok (.iconst 1, 1) := by decide +kernel
theorem dX12_bestPack_192 : decode cX12_bestPack 192 = .ok (.iadd, 1) := by decide +kernel
theorem dX12_bestPack_193 : decode cX12_bestPack 193 = .ok (.iastore, 1) := by decide +kernel
theorem dX12_bestPack_194 : decode cX12_bestPack 194 = .ok (.goto (-163), 3) := by decide +kernel
theorem dX12_bestPack_197 : decode cX12_bestPack 197 = .ok (.iload_n 3, 1) := by decide +kernel
theorem dX12_bestPack_198 : decode cX12_bestPack 198 = .ok (.ireturn, 1) := by decide +kernel
theorem dX12_pack_0 : decode cX12_pack 0 = .ok (.aload_n 0, 1) := by decide +kernel
theorem dX12_pack_1 : decode cX12_pack 1 = .ok (.iconst 0, 1) := by decide +kernel
theorem dX12_pack_2 : decode cX12_pack 2 = .ok (.putfield 1, 3) := by decide +kernel
theorem dX12_pack_5 : decode cX12_pack 5 = .ok (.aload_n 0, 1) := by decide +kernel
theorem dX12_pack_6 : decode cX12_pack 6 = .ok (.sipush 640, 3) := by decide +kernel
theorem dX12_pack_9 : decode cX12_pack 9 = .ok (.invokevirtual 238, 3) := by decide +kernel
theorem dX12_pack_12 : decode cX12_pack 12 = .ok (.aload_n 0, 1) := by decide +kernel
theorem dX12_pack_13 : decode cX12_pack 13 = .ok (.getfield 18, 3) := by decide +kernel
theorem dX12_pack_16 : decode cX12_pack 16 = .ok (.iconst 3, 1) := by decide +kernel
theorem dX12_pack_17 : decode cX12_pack 17 = .ok (.irem, 1) := by decide +kernel
theorem dX12_pack_18 : decode cX12_pack 18 = .ok (.ifCond .ne 18, 3) := by decide +kernel
theorem dX12_pack_21 : decode cX12_pack 21 = .ok (.aload_n 0, 1) := by decide +kernel
theorem dX12_pack_22 : decode cX12_pack 22 = .ok (.getfield 18, 3) := by decide +kernel
theorem dX12_pack_25 : decode cX12_pack 25 = .ok (.iconst 3, 1) := by decide +kernel
theorem dX12_pack_26 : decode cX12_pack 26 = .ok (.idiv, 1) := by decide +kernel
theorem dX12_pack_27 : decode cX12_pack 27 = .ok (.iconst 1, 1) := by decide +kernel
theorem dX12_pack_28 : decode cX12_pack 28 = .ok (.bipush 6, 2) := by decide +kernel
theorem dX12_pack_30 : decode cX12_pack 30 = .ok (.invokestatic 202, 3) := by decide +kernel
theorem dX12_pack_33 : decode cX12_pack 33 = .ok (.ifCond .ne 5, 3) := by decide +kernel
theorem dX12_pack_36 : decode cX12_pack 36 = .ok (.iconst (-1), 1) := by decide +kernel
theorem dX12_pack_37 : decode cX12_pack 37 = .ok (.ireturn, 1) := by decide +kernel
theorem dX12_pack_38 : decode cX12_pack 38 = .ok (.iconst 0, 1) := by decide +kernel
theorem dX12_pack_39 : decode cX12_pack 39 = .ok (.istore_n 1, 1) := by decide +kernel
theorem dX12_pack_40 : decode cX12_pack 40 = .ok (.iload_n 1, 1) := by decide +kernel
theorem dX12_pack_41 : decode cX12_pack 41 = .ok (.aload_n 0, 1) := by decide +kernel
theorem dX12_pack_42 : decode cX12_pack 42 = .ok (.getfield 18, 3) := by decide +kernel
theorem dX12_pack_45 : decode cX12_pack 45 = .ok (.if_icmp .ge 51, 3) := by decide +kernel
theorem dX12_pack_48 : decode cX12_pack 48 = .ok (.aload_n 0, 1) := by decide +kernel
theorem dX12_pack_49 : decode cX12_pack 49 = .ok (.aload_n 0, 1) := by decide +kernel
theorem dX12_pack_50 : decode cX12_pack 50 = .ok (.iload_n 1, 1) := by decide +kernel
theorem dX12_pack_51 : decode cX12_pack 51 = .ok (.invokevirtual 427, 3) := by decide +kernel
theorem dX12_pack_54 : decode cX12_pack 54 = .ok (.invokevirtual 287, 3) := by decide +kernel
theorem dX12_pack_57 : decode cX12_pack 57 = .ok (.ifCond .eq 31, 3) := by decide +kernel
theorem dX12_pack_60 : decode cX12_pack 60 = .ok (.aload_n 0, 1) := by decide +kernel
theorem dX12_pack_61 : decode cX12_pack 61 = .ok (.aload_n 0, 1) := by decide +kernel
theorem dX12_pack_62 : decode cX12_pack 62 = .ok (.iload_n 1, 1) := by decide +kernel
theorem dX12_pack_63 : decode cX12_pack 63 = .ok (.iconst 1, 1) := by decide +kernel
theorem dX12_pack_64 : decode cX12_pack 64 = .ok (.iadd, 1) := by decide +kernel
theorem dX12_pack_65 : decode cX12_pack 65 = .ok (.invokevirtual 427, 3) := by decide +kernel
theorem dX12_pack_68 : decode cX12_pack 68 = .ok (.invokevirtual 287, 3) := by decide +kernel
theorem dX12_pack_71 : decode cX12_pack 71 = .ok (.ifCond .eq 17, 3) := by decide +kernel
theorem dX12_pack_74 : decode cX12_pack 74 = .ok (.aload_n 0, 1) := by decide +kernel
theorem dX12_pack_75 : decode cX12_pack 75 = .ok (.aload_n 0, 1) := by decide +kernel
theorem dX12_pack_76 : decode cX12_pack 76 = .ok (.iload_n 1, 1) := by decide +kernel
theorem dX12_pack_77 : decode cX12_pack 77 = .ok (.iconst 2, 1) := by decide +kernel
theorem dX12_pack_78 : decode cX12_pack 78 = .ok (.iadd, 1) := by decide +kernel
theorem dX12_pack_79 : decode cX12_pack 79 = .ok (.invokevirtual 427, 3) := by decide +kernel
theorem dX12_pack_82 : decode cX12_pack 82 = .ok (.invokevirtual 306, 3) := by decide +kernel
theorem dX12_pack_85 : decode cX12_pack 85 = .ok (.ifCond .ne 5, 3) := by decide +kernel
theorem dX12_pack_88 : decode cX12_pack 88 = .ok (.iconst (-1), 1) := by decide +kernel
theorem dX12_pack_89 : decode cX12_pack 89 = .ok (.ireturn, 1) := by decide +kernel
theorem dX12_pack_90 : decode cX12_pack 90 = .ok (.iinc 1 3, 3) := by decide +kernel
theorem dX12_pack_93 : decode cX12_pack 93 = .ok (.goto (-53), 3) := by decide +kernel
theorem dX12_pack_96 : decode cX12_pack 96 = .ok (.aload_n 0, 1) := by decide +kernel
theorem dX12_pack_97 : decode cX12_pack 97 = .ok (.aload_n 0, 1) := by decide +kernel
theorem dX12_pack_98 : decode cX12_pack 98 = .ok (.getfield 18, 3) := by decide +kernel
theorem dX12_pack_101 : decode cX12_pack 101 = .ok (.iconst 3, 1) := by decide +kernel
theorem dX12_pack_102 : decode cX12_pack 102 = .ok (.idiv, 1) := by decide +kernel
theorem dX12_pack_103 : decode cX12_pack 103 = .ok (.putfield 419, 3) := by decide +kernel
theorem dX12_pack_106 : decode cX12_pack 106 = .ok (.iconst 0, 1) := by decide +kernel
theorem dX12_pack_107 : decode cX12_pack 107 = .ok (.istore_n 1, 1) := by decide +kernel
theorem dX12_pack_108 : decode cX12_pack 108 = .ok (.iload_n 1, 1) := by decide +kernel
theorem dX12_pack_109 : decode cX12_pack 109 = .ok (.aload_n 0, 1) := by decide +kernel
theorem dX12_pack_110 : decode cX12_pack 110 = .ok (.getfield 18, 3) := by decide +kernel
theorem dX12_pack_113 : decode cX12_pack 113 = .ok (.if_icmp .ge 20, 3) := by decide +kernel
theorem dX12_pack_116 : decode cX12_pack 116 = .ok (.aload_n 0, 1) := by decide +kernel
theorem dX12_pack_117 : decode cX12_pack 117 = .ok (.getfield 77, 3) := by decide +kernel
theorem dX12_pack_120 : decode cX12_pack 120 = .ok (.iload_n 1, 1) := by decide +kernel
theorem dX12_pack_121 : decode cX12_pack 121 = .ok (.aload_n 0, 1) := by decide +kernel
theorem dX12_pack_122 : decode cX12_pack 122 = .ok (.iload_n 1, 1) := by decide +kernel
theorem dX12_pack_123 : decode cX12_pack 123 = .ok (.invokevirtual 427, 3) := by decide +kernel
theorem dX12_pack_126 : decode cX12_pack 126 = .ok (.iastore, 1) := by decide +kernel
theorem dX12_pack_127 : decode cX12_pack 127 = .ok (.iinc 1 1, 3) := by decide +kernel
theorem dX12_pack_130 : decode cX12_pack 130 = .ok (.goto (-22), 3) := by decide +kernel
theorem dX12_pack_133 : decode cX12_pack 133 = .ok (.aload_n 0, 1) := by decide +kernel
theorem dX12_pack_134 : decode cX12_pack 134 = .ok (.iconst (-1), 1) := by decide +kernel
theorem dX12_pack_135 : decode cX12_pack 135 = .ok (.iconst 0, 1) := by decide +kernel
theorem dX12_pack_136 : decode cX12_pack 136 = .ok (.invokevirtual 430, 3) := by decide +kernel
theorem dX12_pack_139 : decode cX12_pack 139 = .ok (.istore_n 1, 1) := by decide +kernel
theorem dX12_pack_140 : decode cX12_pack 140 = .ok (.aload_n 0, 1) := by decide +kernel
theorem dX12_pack_141 : decode cX12_pack 141 = .ok (.aload_n 0, 1) := by decide +kernel
theorem dX12_pack_142 : decode cX12_pack 142 = .ok (.getfield 419, 3) := by decide +kernel
theorem dX12_pack_145 : decode cX12_pack 145 = .ok (.putfield 95, 3) := by decide +kernel
theorem dX12_pack_148 : decode cX12_pack 148 = .ok (.aload_n 0, 1) := by decide +kernel
theorem dX12_pack_149 : decode cX12_pack 149 = .ok (.aload_n 0, 1) := by decide +kernel
theorem dX12_pack_150 : decode cX12_pack 150 = .ok (.getfield 256, 3) := by decide +kernel
theorem dX12_pack_153 : decode cX12_pack 153 = .ok (.putfield 98, 3) := by decide +kernel
theorem dX12_pack_156 : decode cX12_pack 156 = .ok (.iconst 0, 1) := by decide +kernel
theorem dX12_pack_157 : decode cX12_pack 157 = .ok (.istore_n 2, 1) := by decide +kernel
theorem dX12_pack_158 : decode cX12_pack 158 = .ok (.iload_n 2, 1) := by decide +kernel
theorem dX12_pack_159 : decode cX12_pack 159 = .ok (.aload_n 0, 1) := by decide +kernel
theorem dX12_pack_160 : decode cX12_pack 160 = .ok (.getfield 18, 3) := by decide +kernel
theorem dX12_pack_163 : decode cX12_pack 163 = .ok (.if_icmp .ge 21, 3) := by decide +kernel
theorem dX12_pack_166 : decode cX12_pack 166 = .ok (.aload_n 0, 1) := by decide +kernel
theorem dX12_pack_167 : decode cX12_pack 167 = .ok (.getfield 80, 3) := by decide +kernel
theorem dX12_pack_170 : decode cX12_pack 170 = .ok (.iload_n 2, 1) := by decide +kernel
theorem dX12_pack_171 : decode cX12_pack 171 = .ok (.aload_n 0, 1) := by decide +kernel
theorem dX12_pack_172 : decode cX12_pack 172 = .ok (.getfield 77, 3) := by decide +kernel
theorem dX12_pack_175 : decode cX12_pack 175 = .ok (.iload_n 2, 1) := by decide +kernel
theorem dX12_pack_176 : decode cX12_pack 176 = .ok (.iaload, 1) := by decide +kernel
theorem dX12_pack_177 : decode cX12_pack 177 = .ok (.iastore, 1) := by decide +kernel
theorem dX12_pack_178 : decode cX12_pack 178 = .ok (.iinc 2 1, 3) := by decide +kernel
theorem dX12_pack_181 : decode cX12_pack 181 = .ok (.goto (-23), 3) := by decide +kernel
theorem dX12_pack_184 : decode cX12_pack 184 = .ok (.iconst 0, 1) := by decide +kernel
theorem dX12_pack_185 : decode cX12_pack 185 = .ok (.istore_n 2, 1) := by decide +kernel
theorem dX12_pack_186 : decode cX12_pack 186 = .ok (.iload_n 2, 1) := by decide +kernel
theorem dX12_pack_187 : decode cX12_pack 187 = .ok (.aload_n 0, 1) := by decide +kernel
theorem dX12_pack_188 : decode cX12_pack 188 = .ok (.getfield 419, 3) := by decide +kernel
theorem dX12_pack_191 : decode cX12_pack 191 = .ok (.if_icmp .ge 21, 3) := by decide +kernel
theorem dX12_pack_194 : decode cX12_pack 194 = .ok (.aload_n 0, 1) := by decide +kernel
theorem dX12_pack_195 : decode cX12_pack 195 = .ok (.getfield 89, 3) := by decide +kernel
theorem dX12_pack_198 : decode cX12_pack 198 = .ok (.iload_n 2, 1) := by decide +kernel
theorem dX12_pack_199 : decode cX12_pack 199 = .ok (.aload_n 0, 1) := by decide +kernel
theorem dX12_pack_200 : decode cX12_pack 200 = .ok (.getfield 86, 3) := by decide +kernel
theorem dX12_pack_203 : decode cX12_pack 203 = .ok (.iload_n 2, 1) := by decide +kernel
theorem dX12_pack_204 : decode cX12_pack 204 = .ok (.iaload, 1) := by decide +kernel
theorem dX12_pack_205 : decode cX12_pack 205 = .ok (.iastore, 1) := by decide +kernel
theorem dX12_pack_206 : decode cX12_pack 206 = .ok (.iinc 2 1, 3) := by decide +kernel
theorem dX12_pack_209 : decode cX12_pack 209 = .ok (.goto (-23), 3) := by decide +kernel
theorem dX12_pack_212 : decode cX12_pack 212 = .ok (.iload_n 1, 1) := by decide +kernel
theorem dX12_pack_213 : decode cX12_pack 213 = .ok (.ireturn, 1) := by decide +kernel
theorem dX12_packed_0 : decode cX12_packed 0 = .ok (.aload_n 0, 1) := by decide +kernel
theorem dX12_packed_1 : decode cX12_packed 1 = .ok (.iconst 0, 1) := by decide +kernel
theorem dX12_packed_2 : decode cX12_packed 2 = .ok (.putfield 1, 3) := by decide +kernel
theorem dX12_packed_5 : decode cX12_packed 5 = .ok (.iload_n 1, 1) := by decide +kernel
theorem dX12_packed_6 : decode cX12_packed 6 = .ok (.iconst 0, 1) := by decide +kernel
theorem dX12_packed_7 : decode cX12_packed 7 = .ok (.aload_n 0, 1) := by decide +kernel
theorem dX12_packed_8 : decode cX12_packed 8 = .ok (.getfield 95, 3) := by decide +kernel
theorem dX12_packed_11 : decode cX12_packed 11 = .ok (.iconst 1, 1) := by decide +kernel
theorem dX12_packed_12 : decode cX12_packed 12 = .ok (.isub, 1) := by decide +kernel
theorem dX12_packed_13 : decode cX12_packed 13 = .ok (.invokestatic 202, 3) := by decide +kernel
theorem dX12_packed_16 : decode cX12_packed 16 = .ok (.ifCond .eq 22, 3) := by decide +kernel
theorem dX12_packed_19 : decode cX12_packed 19 = .ok (.aload_n 0, 1) := by decide +kernel
theorem dX12_packed_20 : decode cX12_packed 20 = .ok (.getfield 89, 3) := by decide +kernel
theorem dX12_packed_23 : decode cX12_packed 23 = .ok (.iload_n 1, 1) := by decide +kernel
theorem dX12_packed_24 : decode cX12_packed 24 = .ok (.iaload, 1) := by decide +kernel
theorem dX12_packed_25 : decode cX12_packed 25 = .ok (.iconst 4, 1) := by decide +kernel
theorem dX12_packed_26 : decode cX12_packed 26 = .ok (.if_icmp .ge 12, 3) := by decide +kernel
theorem dX12_packed_29 : decode cX12_packed 29 = .ok (.aload_n 0, 1) := by decide +kernel
theorem dX12_packed_30 : decode cX12_packed 30 = .ok (.getfield 89, 3) := by decide +kernel
theorem dX12_packed_33 : decode cX12_packed 33 = .ok (.iload_n 1, 1) := by decide +kernel
theorem dX12_packed_34 : decode cX12_packed 34 = .ok (.iaload, 1) := by decide +kernel
theorem dX12_packed_35 : decode cX12_packed 35 = .ok (.goto 4, 3) := by decide +kernel
theorem dX12_packed_38 : decode cX12_packed 38 = .ok (.iconst (-1), 1) := by decide +kernel
theorem dX12_packed_39 : decode cX12_packed 39 = .ok (.ireturn, 1) := by decide +kernel
theorem dX12_price_0 : decode cX12_price 0 = .ok (.aload_n 0, 1) := by decide +kernel
theorem dX12_price_1 : decode cX12_price 1 = .ok (.iconst 0, 1) := by decide +kernel
theorem dX12_price_2 : decode cX12_price 2 = .ok (.putfield 1, 3) := by decide +kernel
theorem dX12_price_5 : decode cX12_price 5 = .ok (.aload_n 0, 1) := by decide +kernel
theorem dX12_price_6 : decode cX12_price 6 = .ok (.iload_n 1, 1) := by decide +kernel
theorem dX12_price_7 : decode cX12_price 7 = .ok (.invokevirtual 287, 3) := by decide +kernel
theorem dX12_price_10 : decode cX12_price 10 = .ok (.ifCond .eq 31, 3) := by decide +kernel
theorem dX12_price_13 : decode cX12_price 13 = .ok (.iload_n 2, 1) := by decide +kernel
theorem dX12_price_14 : decode cX12_price 14 = .ok (.iconst 1, 1) := by decide +kernel
theorem dX12_price_15 : decode cX12_price 15 = .ok (.bipush 99, 2) := by decide +kernel
theorem dX12_price_17 : decode cX12_price 17 = .ok (.invokestatic 202, 3) := by decide +kernel
theorem dX12_price_20 : decode cX12_price 20 = .ok (.ifCond .eq 21, 3) := by decide +kernel
theorem dX12_price_23 : decode cX12_price 23 = .ok (.aload_n 0, 1) := by decide +kernel
theorem dX12_price_24 : decode cX12_price 24 = .ok (.getfield 95, 3) := by decide +kernel
theorem dX12_price_27 : decode cX12_price 27 = .ok (.ifCond .lt 14, 3) := by decide +kernel
theorem dX12_price_30 : decode cX12_price 30 = .ok (.aload_n 0, 1) := by decide +kernel
theorem dX12_price_31 : decode cX12_price 31 = .ok (.getfield 98, 3) := by decide +kernel
theorem dX12_price_34 : decode cX12_price 34 = .ok (.aload_n 0, 1) := by decide +kernel
theorem dX12_price_35 : decode cX12_price 35 = .ok (.getfield 256, 3) := by decide +kernel
theorem dX12_price_38 : decode cX12_price 38 = .ok (.if_icmp .eq 5, 3) := by decide +kernel
theorem dX12_price_41 : decode cX12_price 41 = .ok (.iconst (-1), 1) := by decide +kernel
theorem dX12_price_42 : decode cX12_price 42 = .ok (.ireturn, 1) := by decide +kernel
theorem dX12_price_43 : decode cX12_price 43 = .ok (.aload_n 0, 1) := by decide +kernel
theorem dX12_price_44 : decode cX12_price 44 = .ok (.aload_n 0, 1) := by decide +kernel
theorem dX12_price_45 : decode cX12_price 45 = .ok (.getfield 95, 3) := by decide +kernel
theorem dX12_price_48 : decode cX12_price 48 = .ok (.putfield 419, 3) := by decide +kernel
theorem dX12_price_51 : decode cX12_price 51 = .ok (.iconst 0, 1) := by decide +kernel
theorem dX12_price_52 : decode cX12_price 52 = .ok (.istore_n 3, 1) := by decide +kernel
theorem dX12_price_53 : decode cX12_price 53 = .ok (.iload_n 3, 1) := by decide +kernel
theorem dX12_price_54 : decode cX12_price 54 = .ok (.iconst 3, 1) := by decide +kernel
theorem dX12_price_55 : decode cX12_price 55 = .ok (.aload_n 0, 1) := by decide +kernel
theorem dX12_price_56 : decode cX12_price 56 = .ok (.getfield 419, 3) := by decide +kernel
theorem dX12_price_59 : decode cX12_price 59 = .ok (.imul, 1) := by decide +kernel
theorem dX12_price_60 : decode cX12_price 60 = .ok (.if_icmp .ge 21, 3) := by decide +kernel
theorem dX12_price_63 : decode cX12_price 63 = .ok (.aload_n 0, 1) := by decide +kernel
theorem dX12_price_64 : decode cX12_price 64 = .ok (.getfield 77, 3) := by decide +kernel
theorem dX12_price_67 : decode cX12_price 67 = .ok (.iload_n 3, 1) := by decide +kernel
theorem dX12_price_68 : decode cX12_price 68 = .ok (.aload_n 0, 1) := by decide +kernel
theorem dX12_price_69 : decode cX12_price 69 = .ok (.getfield 80, 3) := by decide +kernel
theorem dX12_price_72 : decode cX12_price 72 = .ok (.iload_n 3, 1) := by decide +kernel
theorem dX12_price_73 : decode cX12_price 73 = .ok (.iaload, 1) := by decide +kernel
theorem dX12_price_74 : decode cX12_price 74 = .ok (.iastore, 1) := by decide +kernel
theorem dX12_price_75 : decode cX12_price 75 = .ok (.iinc 3 1, 3) := by decide +kernel
theorem dX12_price_78 : decode cX12_price 78 = .ok (.goto (-25), 3) := by decide +kernel
theorem dX12_price_81 : decode cX12_price 81 = .ok (.aload_n 0, 1) := by decide +kernel
theorem dX12_price_82 : decode cX12_price 82 = .ok (.iconst (-1), 1) := by decide +kernel
theorem dX12_price_83 : decode cX12_price 83 = .ok (.iconst 0, 1) := by decide +kernel
theorem dX12_price_84 : decode cX12_price 84 = .ok (.invokevirtual 430, 3) := by decide +kernel
theorem dX12_price_87 : decode cX12_price 87 = .ok (.istore_n 3, 1) := by decide +kernel
theorem dX12_price_88 : decode cX12_price 88 = .ok (.aload_n 0, 1) := by decide +kernel
theorem dX12_price_89 : decode cX12_price 89 = .ok (.iload_n 1, 1) := by decide +kernel
theorem dX12_price_90 : decode cX12_price 90 = .ok (.iload_n 2, 1) := by decide +kernel
theorem dX12_price_91 : decode cX12_price 91 = .ok (.invokevirtual 430, 3) := by decide +kernel
theorem dX12_price_94 : decode cX12_price 94 = .ok (.iload_n 3, 1) := by decide +kernel
theorem dX12_price_95 : decode cX12_price 95 = .ok (.isub, 1) := by decide +kernel
theorem dX12_price_96 : decode cX12_price 96 = .ok (.ireturn, 1) := by decide +kernel
theorem dX12_isLost_0 : decode cX12_isLost 0 = .ok (.aload_n 0, 1) := by decide +kernel
theorem dX12_isLost_1 : decode cX12_isLost 1 = .ok (.iload_n 1, 1) := by decide +kernel
theorem dX12_isLost_2 : decode cX12_isLost 2 = .ok (.invokevirtual 278, 3) := by decide +kernel
theorem dX12_isLost_5 : decode cX12_isLost 5 = .ok (.ifCond .eq 28, 3) := by decide +kernel
theorem dX12_isLost_8 : decode cX12_isLost 8 = .ok (.aload_n 0, 1) := by decide +kernel
theorem dX12_isLost_9 : decode cX12_isLost 9 = .ok (.iload_n 1, 1) := by decide +kernel
theorem dX12_isLost_10 : decode cX12_isLost 10 = .ok (.invokevirtual 272, 3) := by decide +kernel
theorem dX12_isLost_13 : decode cX12_isLost 13 = .ok (.iconst 3, 1) := by decide +kernel
theorem dX12_isLost_14 : decode cX12_isLost 14 = .ok (.if_icmp .eq 19, 3) := by decide +kernel
theorem dX12_isLost_17 : decode cX12_isLost 17 = .ok (.aload_n 0, 1) := by decide +kernel
theorem dX12_isLost_18 : decode cX12_isLost 18 = .ok (.iload_n 1, 1) := by decide +kernel
theorem dX12_isLost_19 : decode cX12_isLost 19 = .ok (.aload_n 0, 1) := by decide +kernel
theorem dX12_isLost_20 : decode cX12_isLost 20 = .ok (.invokevirtual 309, 3) := by decide +kernel
theorem dX12_isLost_23 : decode cX12_isLost 23 = .ok (.invokevirtual 312, 3) := by decide +kernel
theorem dX12_isLost_26 : decode cX12_isLost 26 = .ok (.ifCond .ne 7, 3) := by decide +kernel
theorem dX12_isLost_29 : decode cX12_isLost 29 = .ok (.iconst 1, 1) := by decide +kernel
theorem dX12_isLost_30 : decode cX12_isLost 30 = .ok (.goto 4, 3) := by decide +kernel
theorem dX12_isLost_33 : decode cX12_isLost 33 = .ok (.iconst 0, 1) := by decide +kernel
theorem dX12_isLost_34 : decode cX12_isLost 34 = .ok (.ireturn, 1) := by decide +kernel
theorem dX12_lostOf_0 : decode cX12_lostOf 0 = .ok (.iconst 0, 1) := by decide +kernel
theorem dX12_lostOf_1 : decode cX12_lostOf 1 = .ok (.istore_n 2, 1) := by decide +kernel
theorem dX12_lostOf_2 : decode cX12_lostOf 2 = .ok (.iconst 0, 1) := by decide +kernel
theorem dX12_lostOf_3 : decode cX12_lostOf 3 = .ok (.istore_n 3, 1) := by decide +kernel
theorem dX12_lostOf_4 : decode cX12_lostOf 4 = .ok (.iload_n 3, 1) := by decide +kernel
theorem dX12_lostOf_5 : decode cX12_lostOf 5 = .ok (.aload_n 0, 1) := by decide +kernel
theorem dX12_lostOf_6 : decode cX12_lostOf 6 = .ok (.getfield 33, 3) := by decide +kernel
theorem dX12_lostOf_9 : decode cX12_lostOf 9 = .ok (.bipush 34, 2) := by decide +kernel
theorem dX12_lostOf_11 : decode cX12_lostOf 11 = .ok (.iaload, 1) := by decide +kernel
theorem dX12_lostOf_12 : decode cX12_lostOf 12 = .ok (.if_icmp .ge 30, 3) := by decide +kernel
theorem dX12_lostOf_15 : decode cX12_lostOf 15 = .ok (.aload_n 0, 1) := by decide +kernel
theorem dX12_lostOf_16 : decode cX12_lostOf 16 = .ok (.iload_n 3, 1) := by decide +kernel
theorem dX12_lostOf_17 : decode cX12_lostOf 17 = .ok (.invokevirtual 433, 3) := by decide +kernel
theorem dX12_lostOf_20 : decode cX12_lostOf 20 = .ok (.ifCond .ne 6, 3) := by decide +kernel
theorem dX12_lostOf_23 : decode cX12_lostOf 23 = .ok (.goto 13, 3) := by decide +kernel
theorem dX12_lostOf_26 : decode cX12_lostOf 26 = .ok (.iload_n 2, 1) := by decide +kernel
theorem dX12_lostOf_27 : decode cX12_lostOf 27 = .ok (.iload_n 1, 1) := by decide +kernel
theorem dX12_lostOf_28 : decode cX12_lostOf 28 = .ok (.if_icmp .ne 5, 3) := by decide +kernel
theorem dX12_lostOf_31 : decode cX12_lostOf 31 = .ok (.iload_n 3, 1) := by decide +kernel
theorem dX12_lostOf_32 : decode cX12_lostOf 32 = .ok (.ireturn, 1) := by decide +kernel
theorem dX12_lostOf_33 : decode cX12_lostOf 33 = .ok (.iinc 2 1, 3) := by decide +kernel
theorem dX12_lostOf_36 : decode cX12_lostOf 36 = .ok (.iinc 3 1, 3) := by decide +kernel
theorem dX12_lostOf_39 : decode cX12_lostOf 39 = .ok (.goto (-35), 3) := by decide +kernel
theorem dX12_lostOf_42 : decode cX12_lostOf 42 = .ok (.iload_n 1, 1) := by decide +kernel
theorem dX12_lostOf_43 : decode cX12_lostOf 43 = .ok (.iconst (-1), 1) := by decide +kernel
theorem dX12_lostOf_44 : decode cX12_lostOf 44 = .ok (.if_icmp .ne 7, 3) := by decide +kernel
theorem dX12_lostOf_47 : decode cX12_lostOf 47 = .ok (.iload_n 2, 1) := by decide +kernel
theorem dX12_lostOf_48 : decode cX12_lostOf 48 = .ok (.goto 4, 3) := by decide +kernel
theorem dX12_lostOf_51 : decode cX12_lostOf 51 = .ok (.iconst (-1), 1) := by decide +kernel
theorem dX12_lostOf_52 : decode cX12_lostOf 52 = .ok (.ireturn, 1) := by decide +kernel
theorem dX12_lost_0 : decode cX12_lost 0 = .ok (.aload_n 0, 1) := by decide +kernel
theorem dX12_lost_1 : decode cX12_lost 1 = .ok (.iconst 0, 1) := by decide +kernel
theorem dX12_lost_2 : decode cX12_lost 2 = .ok (.putfield 1, 3) := by decide +kernel
theorem dX12_lost_5 : decode cX12_lost 5 = .ok (.iload_n 1, 1) := by decide +kernel
theorem dX12_lost_6 : decode cX12_lost 6 = .ok (.iconst (-1), 1) := by decide +kernel
theorem dX12_lost_7 : decode cX12_lost 7 = .ok (.if_icmp .ge 7, 3) := by decide +kernel
theorem dX12_lost_10 : decode cX12_lost 10 = .ok (.iconst (-1), 1) := by decide +kernel
theorem dX12_lost_11 : decode cX12_lost 11 = .ok (.goto 8, 3) := by decide +kernel
theorem dX12_lost_14 : decode cX12_lost 14 = .ok (.aload_n 0, 1) := by decide +kernel
theorem dX12_lost_15 : decode cX12_lost 15 = .ok (.iload_n 1, 1) := by decide +kernel
theorem dX12_lost_16 : decode cX12_lost 16 = .ok (.invokevirtual 436, 3) := by decide +kernel
theorem dX12_lost_19 : decode cX12_lost 19 = .ok (.ireturn, 1) := by decide +kernel
theorem dX12_fits_0 : decode cX12_fits 0 = .ok (.aload_n 0, 1) := by decide +kernel
theorem dX12_fits_1 : decode cX12_fits 1 = .ok (.iconst 0, 1) := by decide +kernel
theorem dX12_fits_2 : decode cX12_fits 2 = .ok (.putfield 1, 3) := by decide +kernel
theorem dX12_fits_5 : decode cX12_fits 5 = .ok (.aload_n 0, 1) := by decide +kernel
theorem dX12_fits_6 : decode cX12_fits 6 = .ok (.sipush 640, 3) := by decide +kernel
theorem dX12_fits_9 : decode cX12_fits 9 = .ok (.invokevirtual 238, 3) := by decide +kernel
theorem dX12_fits_12 : decode cX12_fits 12 = .ok (.aload_n 0, 1) := by decide +kernel
theorem dX12_fits_13 : decode cX12_fits 13 = .ok (.iconst (-1), 1) := by decide +kernel
theorem dX12_fits_14 : decode cX12_fits 14 = .ok (.invokevirtual 436, 3) := by decide +kernel
theorem dX12_fits_17 : decode cX12_fits 17 = .ok (.istore_n 2, 1) := by decide +kernel
theorem dX12_fits_18 : decode cX12_fits 18 = .ok (.iload_n 1, 1) := by decide +kernel
theorem dX12_fits_19 : decode cX12_fits 19 = .ok (.iconst 1, 1) := by decide +kernel
theorem dX12_fits_20 : decode cX12_fits 20 = .ok (.bipush 20, 2) := by decide +kernel
theorem dX12_fits_22 : decode cX12_fits 22 = .ok (.invokestatic 202, 3) := by decide +kernel
theorem dX12_fits_25 : decode cX12_fits 25 = .ok (.ifCond .eq 23, 3) := by decide +kernel
theorem dX12_fits_28 : decode cX12_fits 28 = .ok (.aload_n 0, 1) := by decide +kernel
theorem dX12_fits_29 : decode cX12_fits 29 = .ok (.getfield 18, 3) := by decide +kernel
theorem dX12_fits_32 : decode cX12_fits 32 = .ok (.iconst 2, 1) := by decide +kernel
theorem dX12_fits_33 : decode cX12_fits 33 = .ok (.aload_n 0, 1) := by decide +kernel
theorem dX12_fits_34 : decode cX12_fits 34 = .ok (.getfield 33, 3) := by decide +kernel
theorem dX12_fits_37 : decode cX12_fits 37 = .ok (.iconst 0, 1) := by decide +kernel
theorem dX12_fits_38 : decode cX12_fits 38 = .ok (.iaload, 1) := by decide +kernel
theorem dX12_fits_39 : decode cX12_fits 39 = .ok (.imul, 1) := by decide +kernel
theorem dX12_fits_40 : decode cX12_fits 40 = .ok (.if_icmp .ne 8, 3) := by decide +kernel
theorem dX12_fits_43 : decode cX12_fits 43 = .ok (.iload_n 2, 1) := by decide +kernel
theorem dX12_fits_44 : decode cX12_fits 44 = .ok (.iconst 4, 1) := by decide +kernel
theorem dX12_fits_45 : decode cX12_fits 45 = .ok (.if_icmp .le 5, 3) := by decide +kernel
theorem dX12_fits_48 : decode cX12_fits 48 = .ok (.iconst (-1), 1) := by decide +kernel
theorem dX12_fits_49 : decode cX12_fits 49 = .ok (.ireturn, 1) := by decide +kernel
theorem dX12_fits_50 : decode cX12_fits 50 = .ok (.iconst 0, 1) := by decide +kernel
theorem dX12_fits_51 : decode cX12_fits 51 = .ok (.istore_n 3, 1) := by decide +kernel
theorem dX12_fits_52 : decode cX12_fits 52 = .ok (.iload_n 3, 1) := by decide +kernel
theorem dX12_fits_53 : decode cX12_fits 53 = .ok (.aload_n 0, 1) := by decide +kernel
theorem dX12_fits_54 : decode cX12_fits 54 = .ok (.getfield 33, 3) := by decide +kernel
theorem dX12_fits_57 : decode cX12_fits 57 = .ok (.iconst 0, 1) := by decide +kernel
theorem dX12_fits_58 : decode cX12_fits 58 = .ok (.iaload, 1) := by decide +kernel
theorem dX12_fits_59 : decode cX12_fits 59 = .ok (.if_icmp .ge 51, 3) := by decide +kernel
theorem dX12_fits_62 : decode cX12_fits 62 = .ok (.aload_n 0, 1) := by decide +kernel
theorem dX12_fits_63 : decode cX12_fits 63 = .ok (.getfield 110, 3) := by decide +kernel
theorem dX12_fits_66 : decode cX12_fits 66 = .ok (.iload_n 3, 1) := by decide +kernel
theorem dX12_fits_67 : decode cX12_fits 67 = .ok (.sipush 256, 3) := by decide +kernel
theorem dX12_fits_70 : decode cX12_fits 70 = .ok (.aload_n 0, 1) := by decide +kernel
theorem dX12_fits_71 : decode cX12_fits 71 = .ok (.iconst 2, 1) := by decide +kernel
theorem dX12_fits_72 : decode cX12_fits 72 = .ok (.iload_n 3, 1) := by decide +kernel
theorem dX12_fits_73 : decode cX12_fits 73 = .ok (.imul, 1) := by decide +kernel
theorem dX12_fits_74 : decode cX12_fits 74 = .ok (.invokevirtual 427, 3) := by decide +kernel
theorem dX12_fits_77 : decode cX12_fits 77 = .ok (.imul, 1) := by decide +kernel
theorem dX12_fits_78 : decode cX12_fits 78 = .ok (.aload_n 0, 1) := by decide +kernel
theorem dX12_fits_79 : decode cX12_fits 79 = .ok (.iconst 2, 1) := by decide +kernel
theorem dX12_fits_80 : decode cX12_fits 80 = .ok (.iload_n 3, 1) := by decide +kernel
theorem dX12_fits_81 : decode cX12_fits 81 = .ok (.imul, 1) := by decide +kernel
theorem dX12_fits_82 : decode cX12_fits 82 = .ok (.iconst 1, 1) := by decide +kernel
theorem dX12_fits_83 : decode cX12_fits 83 = .ok (.iadd, 1) := by decide +kernel
theorem dX12_fits_84 : decode cX12_fits 84 = .ok (.invokevirtual 427, 3) := by decide +kernel
theorem dX12_fits_87 : decode cX12_fits 87 = .ok (.iadd, 1) := by decide +kernel
theorem dX12_fits_88 : decode cX12_fits 88 = .ok (.sipush 10000, 3) := by decide +kernel
theorem dX12_fits_91 : decode cX12_fits 91 = .ok (.isub, 1) := by decide +kernel
theorem dX12_fits_92 : decode cX12_fits 92 = .ok (.iastore, 1) := by decide +kernel
theorem dX12_fits_93 : decode cX12_fits 93 = .ok (.aload_n 0, 1) := by decide +kernel
theorem dX12_fits_94 : decode cX12_fits 94 = .ok (.getfield 113, 3) := by decide +kernel
theorem dX12_fits_97 : decode cX12_fits 97 = .ok (.iload_n 3, 1) := by decide +kernel
theorem dX12_fits_98 : decode cX12_fits 98 = .ok (.aload_n 0, 1) := by decide +kernel
theorem dX12_fits_99 : decode cX12_fits 99 = .ok (.iload_n 3, 1) := by decide +kernel
theorem dX12_fits_100 : decode cX12_fits 100 = .ok (.invokevirtual 300, 3) := by decide +kernel
theorem dX12_fits_103 : decode cX12_fits 103 = .ok (.iastore, 1) := by decide +kernel
theorem dX12_fits_104 : decode cX12_fits 104 = .ok (.iinc 3 1, 3) := by decide +kernel
theorem dX12_fits_107 : decode cX12_fits 107 = .ok (.goto (-55), 3) := by decide +kernel
theorem dX12_fits_110 : decode cX12_fits 110 = .ok (.iconst 0, 1) := by decide +kernel
theorem dX12_fits_111 : decode cX12_fits 111 = .ok (.istore_n 3, 1) := by decide +kernel
theorem dX12_fits_112 : decode cX12_fits 112 = .ok (.iload_n 3, 1) := by decide +kernel
theorem dX12_fits_113 : decode cX12_fits 113 = .ok (.iload_n 2, 1) := by decide +kernel
theorem dX12_fits_114 : decode cX12_fits 114 = .ok (.if_icmp .ge 65, 3) := by decide +kernel
theorem dX12_fits_117 : decode cX12_fits 117 = .ok (.aload_n 0, 1) := by decide +kernel
theorem dX12_fits_118 : decode cX12_fits 118 = .ok (.iload_n 3, 1) := by decide +kernel
theorem dX12_fits_119 : decode cX12_fits 119 = .ok (.invokevirtual 436, 3) := by decide +kernel
theorem dX12_fits_122 : decode cX12_fits 122 = .ok (.istore 4, 2) := by decide +kernel
theorem dX12_fits_124 : decode cX12_fits 124 = .ok (.aload_n 0, 1) := by decide +kernel
theorem dX12_fits_125 : decode cX12_fits 125 = .ok (.getfield 113, 3) := by decide +kernel
theorem dX12_fits_128 : decode cX12_fits 128 = .ok (.aload_n 0, 1) := by decide +kernel
theorem dX12_fits_129 : decode cX12_fits 129 = .ok (.iload 4, 2) := by decide +kernel
theorem dX12_fits_131 : decode cX12_fits 131 = .ok (.iconst 0, 1) := by decide +kernel
theorem dX12_fits_132 : decode cX12_fits 132 = .ok (.invokevirtual 265, 3) := by decide +kernel
theorem dX12_fits_135 : decode cX12_fits 135 = .ok (.dup2, 1) := by decide +kernel
theorem dX12_fits_136 : decode cX12_fits 136 = .ok (.iaload, 1) := by decide +kernel
theorem dX12_fits_137 : decode cX12_fits 137 = .ok (.aload_n 0, 1) := by decide +kernel
theorem dX12_fits_138 : decode cX12_fits 138 = .ok (.iload 4, 2) := by decide +kernel
theorem dX12_fits_140 : decode cX12_fits 140 = .ok (.invokevirtual 281, 3) := by decide +kernel
theorem dX12_fits_143 : decode cX12_fits 143 = .ok (.isub, 1) := by decide +kernel
theorem dX12_fits_144 : decode cX12_fits 144 = .ok (.iastore, 1) := by decide +kernel
theorem dX12_fits_145 : decode cX12_fits 145 = .ok (.aload_n 0, 1) := by decide +kernel
theorem dX12_fits_146 : decode cX12_fits 146 = .ok (.getfield 113, 3) := by decide +kernel
theorem dX12_fits_149 : decode cX12_fits 149 = .ok (.aload_n 0, 1) := by decide +kernel
theorem dX12_fits_150 : decode cX12_fits 150 = .ok (.iload 4, 2) := by decide +kernel
theorem dX12_fits_152 : decode cX12_fits 152 = .ok (.iconst 1, 1) := by decide +kernel
theorem dX12_fits_153 : decode cX12_fits 153 = .ok (.invokevirtual 265, 3) := by decide +kernel
theorem dX12_fits_156 : decode cX12_fits 156 = .ok (.dup2, 1) := by decide +kernel
theorem dX12_fits_157 : decode cX12_fits 157 = .ok (.iaload, 1) := by decide +kernel
theorem dX12_fits_158 : decode cX12_fits 158 = .ok (.aload_n 0, 1) := by decide +kernel
theorem dX12_fits_159 : decode cX12_fits 159 = .ok (.iload 4, 2) := by decide +kernel
theorem dX12_fits_161 : decode cX12_fits 161 = .ok (.invokevirtual 281, 3) := by decide +kernel
theorem dX12_fits_164 : decode cX12_fits 164 = .ok (.iadd, 1) := by decide +kernel
theorem dX12_fits_165 : decode cX12_fits 165 = .ok (.iastore, 1) := by decide +kernel
theorem dX12_fits_166 : decode cX12_fits 166 = .ok (.aload_n 0, 1) := by decide +kernel
theorem dX12_fits_167 : decode cX12_fits 167 = .ok (.getfield 107, 3) := by decide +kernel
theorem dX12_fits_170 : decode cX12_fits 170 = .ok (.iload_n 3, 1) := by decide +kernel
theorem dX12_fits_171 : decode cX12_fits 171 = .ok (.iconst 1, 1) := by decide +kernel
theorem dX12_fits_172 : decode cX12_fits 172 = .ok (.iastore, 1) := by decide +kernel
theorem dX12_fits_173 : decode cX12_fits 173 = .ok (.iinc 3 1, 3) := by decide +kernel
theorem dX12_fits_176 : decode cX12_fits 176 = .ok (.goto (-64), 3) := by decide +kernel
theorem dX12_fits_179 : decode cX12_fits 179 = .ok (.aload_n 0, 1) := by decide +kernel
theorem dX12_fits_180 : decode cX12_fits 180 = .ok (.iconst 0, 1) := by decide +kernel
theorem dX12_fits_181 : decode cX12_fits 181 = .ok (.putfield 439, 3) := by decide +kernel
theorem dX12_fits_184 : decode cX12_fits 184 = .ok (.iconst 0, 1) := by decide +kernel
theorem dX12_fits_185 : decode cX12_fits 185 = .ok (.istore_n 3, 1) := by decide +kernel
theorem dX12_fits_186 : decode cX12_fits 186 = .ok (.iconst 1, 1) := by decide +kernel
theorem dX12_fits_187 : decode cX12_fits 187 = .ok (.istore 4, 2) := by decide +kernel
theorem dX12_fits_189 : decode cX12_fits 189 = .ok (.iload 4, 2) := by decide +kernel
theorem dX12_fits_191 : decode cX12_fits 191 = .ok (.ifCond .eq 170, 3) := by decide +kernel
theorem dX12_fits_194 : decode cX12_fits 194 = .ok (.aload_n 0, 1) := by decide +kernel
theorem dX12_fits_195 : decode cX12_fits 195 = .ok (.iload_n 2, 1) := by decide +kernel
theorem dX12_fits_196 : decode cX12_fits 196 = .ok (.invokevirtual 442, 3) := by decide +kernel
theorem dX12_fits_199 : decode cX12_fits 199 = .ok (.ifCond .eq 96, 3) := by decide +kernel
theorem dX12_fits_202 : decode cX12_fits 202 = .ok (.iconst 0, 1) := by decide +kernel
theorem dX12_fits_203 : decode cX12_fits 203 = .ok (.istore 5, 2) := by decide +kernel
theorem dX12_fits_205 : decode cX12_fits 205 = .ok (.iload 5, 2) := by decide +kernel
theorem dX12_fits_207 : decode cX12_fits 207 = .ok (.iload_n 2, 1) := by decide +kernel
theorem dX12_fits_208 : decode cX12_fits 208 = .ok (.if_icmp .ge 79, 3) := by decide +kernel
theorem dX12_fits_211 : decode cX12_fits 211 = .ok (.iload_n 3, 1) := by decide +kernel
theorem dX12_fits_212 : decode cX12_fits 212 = .ok (.ifCond .eq 20, 3) := by decide +kernel
theorem dX12_fits_215 : decode cX12_fits 215 = .ok (.aload_n 0, 1) := by decide +kernel
theorem dX12_fits_216 : decode cX12_fits 216 = .ok (.getfield 107, 3) := by decide +kernel
theorem dX12_fits_219 : decode cX12_fits 219 = .ok (.iload 5, 2) := by decide +kernel
theorem dX12_fits_221 : decode cX12_fits 221 = .ok (.iaload, 1) := by decide +kernel
theorem dX12_fits_222 : decode cX12_fits 222 = .ok (.aload_n 0, 1) := by decide +kernel
theorem dX12_fits_223 : decode cX12_fits 223 = .ok (.getfield 101, 3) := by decide +kernel
theorem dX12_fits_226 : decode cX12_fits 226 = .ok (.iload 5, 2) := by decide +kernel
theorem dX12_fits_228 : decode cX12_fits 228 = .ok (.iaload, 1) := by decide +kernel
theorem dX12_fits_229 : decode cX12_fits 229 = .ok (.if_icmp .ge 17, 3) := by decide +kernel
theorem dX12_fits_232 : decode cX12_fits 232 = .ok (.aload_n 0, 1) := by decide +kernel
theorem dX12_fits_233 : decode cX12_fits 233 = .ok (.getfield 101, 3) := by decide +kernel
theorem dX12_fits_236 : decode cX12_fits 236 = .ok (.iload 5, 2) := by decide +kernel
theorem dX12_fits_238 : decode cX12_fits 238 = .ok (.aload_n 0, 1) := by decide +kernel
theorem dX12_fits_239 : decode cX12_fits 239 = .ok (.getfield 107, 3) := by decide +kernel
theorem dX12_fits_242 : decode cX12_fits 242 = .ok (.iload 5, 2) := by decide +kernel
theorem dX12_fits_244 : decode cX12_fits 244 = .ok (.iaload, 1) := by decide +kernel
theorem dX12_fits_245 : decode cX12_fits 245 = .ok (.iastore, 1) := by decide +kernel
theorem dX12_fits_246 : decode cX12_fits 246 = .ok (.iload_n 3, 1) := by decide +kernel
theorem dX12_fits_247 : decode cX12_fits 247 = .ok (.ifCond .eq 20, 3) := by decide +kernel
theorem dX12_fits_250 : decode cX12_fits 250 = .ok (.aload_n 0, 1) := by decide +kernel
theorem dX12_fits_251 : decode cX12_fits 251 = .ok (.getfield 107, 3) := by decide +kernel
theorem dX12_fits_254 : decode cX12_fits 254 = .ok (.iload 5, 2) := by decide +kernel
theorem dX12_fits_256 : decode cX12_fits 256 = .ok (.iaload, 1) := by decide +kernel
theorem dX12_fits_257 : decode cX12_fits 257 = .ok (.aload_n 0, 1) := by decide +kernel
theorem dX12_fits_258 : decode cX12_fits 258 = .ok (.getfield 104, 3) := by decide +kernel
theorem dX12_fits_261 : decode cX12_fits 261 = .ok (.iload 5, 2) := by decide +kernel
theorem dX12_fits_263 : decode cX12_fits 263 = .ok (.iaload, 1) := by decide +kernel
theorem dX12_fits_264 : decode cX12_fits 264 = .ok (.if_icmp .le 17, 3) := by decide +kernel
theorem dX12_fits_267 : decode cX12_fits 267 = .ok (.aload_n 0, 1) := by decide +kernel
theorem dX12_fits_268 : decode cX12_fits 268 = .ok (.getfield 104, 3) := by decide +kernel
theorem dX12_fits_271 : decode cX12_fits 271 = .ok (.iload 5, 2) := by decide +kernel
theorem dX12_fits_273 : decode cX12_fits 273 = .ok (.aload_n 0, 1) := by decide +kernel
theorem dX12_fits_274 : decode cX12_fits 274 = .ok (.getfield 107, 3) := by decide +kernel
theorem dX12_fits_277 : decode cX12_fits 277 = .ok (.iload 5, 2) := by decide +kernel
theorem dX12_fits_279 : decode cX12_fits 279 = .ok (.iaload, 1) := by decide +kernel
theorem dX12_fits_280 : decode cX12_fits 280 = .ok (.iastore, 1) := by decide +kernel
theorem dX12_fits_281 : decode cX12_fits 281 = .ok (.iinc 5 1, 3) := by decide +kernel
theorem dX12_fits_284 : decode cX12_fits 284 = .ok (.goto (-79), 3) := by decide +kernel
theorem dX12_fits_287 : decode cX12_fits 287 = .ok (.iinc 3 1, 3) := by decide +kernel
theorem dX12_fits_290 : decode cX12_fits 290 = .ok (.aload_n 0, 1) := by decide +kernel
theorem dX12_fits_291 : decode cX12_fits 291 = .ok (.iload_n 2, 1) := by decide +kernel
theorem dX12_fits_292 : decode cX12_fits 292 = .ok (.putfield 439, 3) := by decide +kernel
theorem dX12_fits_295 : decode cX12_fits 295 = .ok (.iload_n 2, 1) := by decide +kernel
theorem dX12_fits_296 : decode cX12_fits 296 = .ok (.iconst 1, 1) := by decide +kernel
theorem dX12_fits_297 : decode cX12_fits 297 = .ok (.isub, 1) := by decide +kernel
theorem dX12_fits_298 : decode cX12_fits 298 = .ok (.istore 5, 2) := by decide +kernel
theorem dX12_fits_300 : decode cX12_fits 300 = .ok (.iload 5, 2) := by decide +kernel
theorem dX12_fits_302 : decode cX12_fits 302 = .ok (.ifCond .lt 28, 3) := by decide +kernel
theorem dX12_fits_305 : decode cX12_fits 305 = .ok (.aload_n 0, 1) := by decide +kernel
theorem dX12_fits_306 : decode cX12_fits 306 = .ok (.getfield 107, 3) := by decide +kernel
theorem dX12_fits_309 : decode cX12_fits 309 = .ok (.iload 5, 2) := by decide +kernel
theorem dX12_fits_311 : decode cX12_fits 311 = .ok (.iaload, 1) := by decide +kernel
theorem dX12_fits_312 : decode cX12_fits 312 = .ok (.iload_n 1, 1) := by decide +kernel
theorem dX12_fits_313 : decode cX12_fits 313 = .ok (.if_icmp .ne 17, 3) := by decide +kernel
theorem dX12_fits_316 : decode cX12_fits 316 = .ok (.aload_n 0, 1) := by decide +kernel
theorem dX12_fits_317 : decode cX12_fits 317 = .ok (.getfield 107, 3) := by decide +kernel
theorem dX12_fits_320 : decode cX12_fits 320 = .ok (.iload 5, 2) := by decide +kernel
theorem dX12_fits_322 : decode cX12_fits 322 = .ok (.iconst 1, 1) := by decide +kernel
theorem dX12_fits_323 : decode cX12_fits 323 = .ok (.iastore, 1) := by decide +kernel
theorem dX12_fits_324 : decode cX12_fits 324 = .ok (.iinc 5 (-1), 3) := by decide +kernel
theorem dX12_fits_327 : decode cX12_fits 327 = .ok (.goto (-27), 3) := by decide +kernel
theorem dX12_fits_330 : decode cX12_fits 330 = .ok (.iload 5, 2) := by decide +kernel
theorem dX12_fits_332 : decode cX12_fits 332 = .ok (.ifCond .lt 7, 3) := by decide +kernel
theorem dX12_fits_335 : decode cX12_fits 335 = .ok (.iconst 1, 1) := by decide +kernel
theorem dX12_fits_336 : decode cX12_fits 336 = .ok (.goto 4, 3) := by decide +kernel
theorem dX12_fits_339 : decode cX12_fits 339 = .ok (.iconst 0, 1) := by decide +kernel
theorem dX12_fits_340 : decode cX12_fits 340 = .ok (.istore 4, 2) := by decide +kernel
theorem dX12_fits_342 : decode cX12_fits 342 = .ok (.iload 4, 2) := by decide +kernel
theorem dX12_fits_344 : decode cX12_fits 344 = .ok (.ifCond .eq 14, 3) := by decide +kernel
theorem dX12_fits_347 : decode cX12_fits 347 = .ok (.aload_n 0, 1) := by decide +kernel
theorem dX12_fits_348 : decode cX12_fits 348 = .ok (.getfield 107, 3) := by decide +kernel
theorem dX12_fits_351 : decode cX12_fits 351 = .ok (.iload 5, 2) := by decide +kernel
theorem dX12_fits_353 : decode cX12_fits 353 = .ok (.dup2, 1) := by decide +kernel
theorem dX12_fits_354 : decode cX12_fits 354 = .ok (.iaload, 1) := by decide +kernel
theorem dX12_fits_355 : decode cX12_fits 355 = .ok (.iconst 1, 1) := by decide +kernel
theorem dX12_fits_356 : decode cX12_fits 356 = .ok (.iadd, 1) := by decide +kernel
theorem dX12_fits_357 : decode cX12_fits 357 = .ok (.iastore, 1) := by decide +kernel
theorem dX12_fits_358 : decode cX12_fits 358 = .ok (.goto (-169), 3) := by decide +kernel
theorem dX12_fits_361 : decode cX12_fits 361 = .ok (.iload_n 3, 1) := by decide +kernel
theorem dX12_fits_362 : decode cX12_fits 362 = .ok (.ireturn, 1) := by decide +kernel
theorem dX12_isFit_0 : decode cX12_isFit 0 = .ok (.iconst 0, 1) := by decide +kernel
theorem dX12_isFit_1 : decode cX12_isFit 1 = .ok (.istore_n 2, 1) := by decide +kernel
theorem dX12_isFit_2 : decode cX12_isFit 2 = .ok (.iload_n 2, 1) := by decide +kernel
theorem dX12_isFit_3 : decode cX12_isFit 3 = .ok (.aload_n 0, 1) := by decide +kernel
theorem dX12_isFit_4 : decode cX12_isFit 4 = .ok (.getfield 33, 3) := by decide +kernel
theorem dX12_isFit_7 : decode cX12_isFit 7 = .ok (.iconst 0, 1) := by decide +kernel
theorem dX12_isFit_8 : decode cX12_isFit 8 = .ok (.iaload, 1) := by decide +kernel
theorem dX12_isFit_9 : decode cX12_isFit 9 = .ok (.if_icmp .ge 21, 3) := by decide +kernel
theorem dX12_isFit_12 : decode cX12_isFit 12 = .ok (.aload_n 0, 1) := by decide +kernel
theorem dX12_isFit_13 : decode cX12_isFit 13 = .ok (.getfield 68, 3) := by decide +kernel
theorem dX12_isFit_16 : decode cX12_isFit 16 = .ok (.iload_n 2, 1) := by decide +kernel
theorem dX12_isFit_17 : decode cX12_isFit 17 = .ok (.aload_n 0, 1) := by decide +kernel
theorem dX12_isFit_18 : decode cX12_isFit 18 = .ok (.getfield 113, 3) := by decide +kernel
theorem dX12_isFit_21 : decode cX12_isFit 21 = .ok (.iload_n 2, 1) := by decide +kernel
theorem dX12_isFit_22 : decode cX12_isFit 22 = .ok (.iaload, 1) := by decide +kernel
theorem dX12_isFit_23 : decode cX12_isFit 23 = .ok (.iastore, 1) := by decide +kernel
theorem dX12_isFit_24 : decode cX12_isFit 24 = .ok (.iinc 2 1, 3) := by decide +kernel
theorem dX12_isFit_27 : decode cX12_isFit 27 = .ok (.goto (-25), 3) := by decide +kernel
theorem dX12_isFit_30 : decode cX12_isFit 30 = .ok (.iconst 0, 1) := by decide +kernel
theorem dX12_isFit_31 : decode cX12_isFit 31 = .ok (.istore_n 2, 1) := by decide +kernel
theorem dX12_isFit_32 : decode cX12_isFit 32 = .ok (.iload_n 2, 1) := by decide +kernel
theorem dX12_isFit_33 : decode cX12_isFit 33 = .ok (.iload_n 1, 1) := by decide +kernel
theorem dX12_isFit_34 : decode cX12_isFit 34 = .ok (.if_icmp .ge 64, 3) := by decide +kernel
theorem dX12_isFit_37 : decode cX12_isFit 37 = .ok (.aload_n 0, 1) := by decide +kernel
theorem dX12_isFit_38 : decode cX12_isFit 38 = .ok (.iload_n 2, 1) := by decide +kernel
theorem dX12_isFit_39 : decode cX12_isFit 39 = .ok (.invokevirtual 436, 3) := by decide +kernel
theorem dX12_isFit_42 : decode cX12_isFit 42 = .ok (.istore_n 3, 1) := by decide +kernel
theorem dX12_isFit_43 : decode cX12_isFit 43 = .ok (.aload_n 0, 1) := by decide +kernel
theorem dX12_isFit_44 : decode cX12_isFit 44 = .ok (.aload_n 0, 1) := by decide +kernel
theorem dX12_isFit_45 : decode cX12_isFit 45 = .ok (.getfield 107, 3) := by decide +kernel
theorem dX12_isFit_48 : decode cX12_isFit 48 = .ok (.iload_n 2, 1) := by decide +kernel
theorem dX12_isFit_49 : decode cX12_isFit 49 = .ok (.iaload, 1) := by decide +kernel
theorem dX12_isFit_50 : decode cX12_isFit 50 = .ok (.aload_n 0, 1) := by decide +kernel
theorem dX12_isFit_51 : decode cX12_isFit 51 = .ok (.iload_n 3, 1) := by decide +kernel
theorem dX12_isFit_52 : decode cX12_isFit 52 = .ok (.invokevirtual 272, 3) := by decide +kernel
theorem dX12_isFit_55 : decode cX12_isFit 55 = .ok (.invokevirtual 275, 3) := by decide +kernel
theorem dX12_isFit_58 : decode cX12_isFit 58 = .ok (.istore 4, 2) := by decide +kernel
theorem dX12_isFit_60 : decode cX12_isFit 60 = .ok (.aload_n 0, 1) := by decide +kernel
theorem dX12_isFit_61 : decode cX12_isFit 61 = .ok (.getfield 68, 3) := by decide +kernel
theorem dX12_isFit_64 : decode cX12_isFit 64 = .ok (.aload_n 0, 1) := by decide +kernel
theorem dX12_isFit_65 : decode cX12_isFit 65 = .ok (.iload_n 3, 1) := by decide +kernel
theorem dX12_isFit_66 : decode cX12_isFit 66 = .ok (.iconst 0, 1) := by decide +kernel
theorem dX12_isFit_67 : decode cX12_isFit 67 = .ok (.invokevirtual 265, 3) := by decide +kernel
theorem dX12_isFit_70 : decode cX12_isFit 70 = .ok (.dup2, 1) := by decide +kernel
theorem dX12_isFit_71 : decode cX12_isFit 71 = .ok (.iaload, 1) := by decide +kernel
theorem dX12_isFit_72 : decode cX12_isFit 72 = .ok (.iload 4, 2) := by decide +kernel
theorem dX12_isFit_74 : decode cX12_isFit 74 = .ok (.iadd, 1) := by decide +kernel
theorem dX12_isFit_75 : decode cX12_isFit 75 = .ok (.iastore, 1) := by decide +kernel
theorem dX12_isFit_76 : decode cX12_isFit 76 = .ok (.aload_n 0, 1) := by decide +kernel
theorem dX12_isFit_77 : decode cX12_isFit 77 = .ok (.getfield 68, 3) := by decide +kernel
theorem dX12_isFit_80 : decode cX12_isFit 80 = .ok (.aload_n 0, 1) := by decide +kernel
theorem dX12_isFit_81 : decode cX12_isFit 81 = .ok (.iload_n 3, 1) := by decide +kernel
theorem dX12_isFit_82 : decode cX12_isFit 82 = .ok (.iconst 1, 1) := by decide +kernel
theorem dX12_isFit_83 : decode cX12_isFit 83 = .ok (.invokevirtual 265, 3) := by decide +kernel
theorem dX12_isFit_86 : decode cX12_isFit 86 = .ok (.dup2, 1) := by decide +kernel
theorem dX12_isFit_87 : decode cX12_isFit 87 = .ok (.iaload, 1) := by decide +kernel
theorem dX12_isFit_88 : decode cX12_isFit 88 = .ok (.iload 4, 2) := by decide +kernel
theorem dX12_isFit_90 : decode cX12_isFit 90 = .ok (.isub, 1) := by decide +kernel
theorem dX12_isFit_91 : decode cX12_isFit 91 = .ok (.iastore, 1) := by decide +kernel
theorem dX12_isFit_92 : decode cX12_isFit 92 = .ok (.iinc 2 1, 3) := by decide +kernel
theorem dX12_isFit_95 : decode cX12_isFit 95 = .ok (.goto (-63), 3) := by decide +kernel
theorem dX12_isFit_98 : decode cX12_isFit 98 = .ok (.iconst 0, 1) := by decide +kernel
theorem dX12_isFit_99 : decode cX12_isFit 99 = .ok (.istore_n 2, 1) := by decide +kernel
theorem dX12_isFit_100 : decode cX12_isFit 100 = .ok (.iload_n 2, 1) := by decide +kernel
theorem dX12_isFit_101 : decode cX12_isFit 101 = .ok (.aload_n 0, 1) := by decide +kernel
theorem dX12_isFit_102 : decode cX12_isFit 102 = .ok (.getfield 33, 3) := by decide +kernel
theorem dX12_isFit_105 : decode cX12_isFit 105 = .ok (.iconst 0, 1) := by decide +kernel
theorem dX12_isFit_106 : decode cX12_isFit 106 = .ok (.iaload, 1) := by decide +kernel
theorem dX12_isFit_107 : decode cX12_isFit 107 = .ok (.if_icmp .ge 34, 3) := by decide +kernel
theorem dX12_isFit_110 : decode cX12_isFit 110 = .ok (.aload_n 0, 1) := by decide +kernel
theorem dX12_isFit_111 : decode cX12_isFit 111 = .ok (.iload_n 2, 1) := by decide +kernel
theorem dX12_isFit_112 : decode cX12_isFit 112 = .ok (.invokevirtual 294, 3) := by decide +kernel
theorem dX12_isFit_115 : decode cX12_isFit 115 = .ok (.ifCond .eq 20, 3) := by decide +kernel
theorem dX12_isFit_118 : decode cX12_isFit 118 = .ok (.aload_n 0, 1) := by decide +kernel
theorem dX12_isFit_119 : decode cX12_isFit 119 = .ok (.getfield 68, 3) := by decide +kernel
theorem dX12_isFit_122 : decode cX12_isFit 122 = .ok (.iload_n 2, 1) := by decide +kernel
theorem dX12_isFit_123 : decode cX12_isFit 123 = .ok (.iaload, 1) := by decide +kernel
theorem dX12_isFit_124 : decode cX12_isFit 124 = .ok (.aload_n 0, 1) := by decide +kernel
theorem dX12_isFit_125 : decode cX12_isFit 125 = .ok (.getfield 110, 3) := by decide +kernel
theorem dX12_isFit_128 : decode cX12_isFit 128 = .ok (.iload_n 2, 1) := by decide +kernel
theorem dX12_isFit_129 : decode cX12_isFit 129 = .ok (.iaload, 1) := by decide +kernel
theorem dX12_isFit_130 : decode cX12_isFit 130 = .ok (.if_icmp .eq 5, 3) := by decide +kernel
theorem dX12_isFit_133 : decode cX12_isFit 133 = .ok (.iconst 0, 1) := by decide +kernel
theorem dX12_isFit_134 : decode cX12_isFit 134 = .ok (.ireturn, 1) := by decide +kernel
theorem dX12_isFit_135 : decode cX12_isFit 135 = .ok (.iinc 2 1, 3) := by decide +kernel
theorem dX12_isFit_138 : decode cX12_isFit 138 = .ok (.goto (-38), 3) := by decide +kernel
theorem dX12_isFit_141 : decode cX12_isFit 141 = .ok (.iconst 1, 1) := by decide +kernel
theorem dX12_isFit_142 : decode cX12_isFit 142 = .ok (.ireturn, 1) := by decide +kernel
theorem dX12_fit_0 : decode cX12_fit 0 = .ok (.aload_n 0, 1) := by decide +kernel
theorem dX12_fit_1 : decode cX12_fit 1 = .ok (.iconst 0, 1) := by decide +kernel
theorem dX12_fit_2 : decode cX12_fit 2 = .ok (.putfield 1, 3) := by decide +kernel
theorem dX12_fit_5 : decode cX12_fit 5 = .ok (.iload_n 1, 1) := by decide +kernel
theorem dX12_fit_6 : decode cX12_fit 6 = .ok (.iconst 0, 1) := by decide +kernel
theorem dX12_fit_7 : decode cX12_fit 7 = .ok (.aload_n 0, 1) := by decide +kernel
theorem dX12_fit_8 : decode cX12_fit 8 = .ok (.getfield 439, 3) := by decide +kernel
theorem dX12_fit_11 : decode cX12_fit 11 = .ok (.iconst 1, 1) := by decide +kernel
theorem dX12_fit_12 : decode cX12_fit 12 = .ok (.isub, 1) := by decide +kernel
theorem dX12_fit_13 : decode cX12_fit 13 = .ok (.invokestatic 202, 3) := by decide +kernel
theorem dX12_fit_16 : decode cX12_fit 16 = .ok (.ifCond .eq 34, 3) := by decide +kernel
theorem dX12_fit_19 : decode cX12_fit 19 = .ok (.iload_n 2, 1) := by decide +kernel
theorem dX12_fit_20 : decode cX12_fit 20 = .ok (.iconst 0, 1) := by decide +kernel
theorem dX12_fit_21 : decode cX12_fit 21 = .ok (.iconst 1, 1) := by decide +kernel
theorem dX12_fit_22 : decode cX12_fit 22 = .ok (.invokestatic 202, 3) := by decide +kernel
theorem dX12_fit_25 : decode cX12_fit 25 = .ok (.ifCond .eq 25, 3) := by decide +kernel
theorem dX12_fit_28 : decode cX12_fit 28 = .ok (.iload_n 2, 1) := by decide +kernel
theorem dX12_fit_29 : decode cX12_fit 29 = .ok (.ifCond .ne 12, 3) := by decide +kernel
theorem dX12_fit_32 : decode cX12_fit 32 = .ok (.aload_n 0, 1) := by decide +kernel
theorem dX12_fit_33 : decode cX12_fit 33 = .ok (.getfield 101, 3) := by decide +kernel
theorem dX12_fit_36 : decode cX12_fit 36 = .ok (.iload_n 1, 1) := by decide +kernel
theorem dX12_fit_37 : decode cX12_fit 37 = .ok (.iaload, 1) := by decide +kernel
theorem dX12_fit_38 : decode cX12_fit 38 = .ok (.goto 13, 3) := by decide +kernel
theorem dX12_fit_41 : decode cX12_fit 41 = .ok (.aload_n 0, 1) := by decide +kernel
theorem dX12_fit_42 : decode cX12_fit 42 = .ok (.getfield 104, 3) := by decide +kernel
theorem dX12_fit_45 : decode cX12_fit 45 = .ok (.iload_n 1, 1) := by decide +kernel
theorem dX12_fit_46 : decode cX12_fit 46 = .ok (.iaload, 1) := by decide +kernel
theorem dX12_fit_47 : decode cX12_fit 47 = .ok (.goto 4, 3) := by decide +kernel
theorem dX12_fit_50 : decode cX12_fit 50 = .ok (.iconst (-1), 1) := by decide +kernel
theorem dX12_fit_51 : decode cX12_fit 51 = .ok (.ireturn, 1) := by decide +kernel
theorem dX12_owedBy_0 : decode cX12_owedBy 0 = .ok (.iconst 0, 1) := by decide +kernel
theorem dX12_owedBy_1 : decode cX12_owedBy 1 = .ok (.istore 4, 2) := by decide +kernel
theorem dX12_owedBy_3 : decode cX12_owedBy 3 = .ok (.iconst 0, 1) := by decide +kernel
theorem dX12_owedBy_4 : decode cX12_owedBy 4 = .ok (.istore 5, 2) := by decide +kernel
theorem dX12_owedBy_6 : decode cX12_owedBy 6 = .ok (.iload 5, 2) := by decide +kernel
theorem dX12_owedBy_8 : decode cX12_owedBy 8 = .ok (.aload_n 0, 1) := by decide +kernel
theorem dX12_owedBy_9 : decode cX12_owedBy 9 = .ok (.getfield 33, 3) := by decide +kernel
theorem dX12_owedBy_12 : decode cX12_owedBy 12 = .ok (.bipush 34, 2) := by decide +kernel
theorem dX12_owedBy_14 : decode cX12_owedBy 14 = .ok (.iaload, 1) := by decide +kernel
theorem dX12_owedBy_15 : decode cX12_owedBy 15 = .ok (.if_icmp .ge 141, 3) := by decide +kernel
theorem dX12_owedBy_18 : decode cX12_owedBy 18 = .ok (.aload_n 0, 1) := by decide +kernel
theorem dX12_owedBy_19 : decode cX12_owedBy 19 = .ok (.iload 5, 2) := by decide +kernel
theorem dX12_owedBy_21 : decode cX12_owedBy 21 = .ok (.invokevirtual 278, 3) := by decide +kernel
theorem dX12_owedBy_24 : decode cX12_owedBy 24 = .ok (.ifCond .eq 126, 3) := by decide +kernel
theorem dX12_owedBy_27 : decode cX12_owedBy 27 = .ok (.aload_n 0, 1) := by decide +kernel
theorem dX12_owedBy_28 : decode cX12_owedBy 28 = .ok (.iload 5, 2) := by decide +kernel
theorem dX12_owedBy_30 : decode cX12_owedBy 30 = .ok (.iconst 0, 1) := by decide +kernel
theorem dX12_owedBy_31 : decode cX12_owedBy 31 = .ok (.invokevirtual 265, 3) := by decide +kernel
theorem dX12_owedBy_34 : decode cX12_owedBy 34 = .ok (.iload_n 1, 1) := by decide +kernel
theorem dX12_owedBy_35 : decode cX12_owedBy 35 = .ok (.if_icmp .eq 6, 3) := by decide +kernel
theorem dX12_owedBy_38 : decode cX12_owedBy 38 = .ok (.goto 112, 3) := by decide +kernel
theorem dX12_owedBy_41 : decode cX12_owedBy 41 = .ok (.aload_n 0, 1) := by decide +kernel
theorem dX12_owedBy_42 : decode cX12_owedBy 42 = .ok (.iload 5, 2) := by decide +kernel
theorem dX12_owedBy_44 : decode cX12_owedBy 44 = .ok (.bipush 6, 2) := by decide +kernel
theorem dX12_owedBy_46 : decode cX12_owedBy 46 = .ok (.invokevirtual 265, 3) := by decide +kernel
theorem dX12_owedBy_49 : decode cX12_owedBy 49 = .ok (.ifCond .lt 18, 3) := by decide +kernel
theorem dX12_owedBy_52 : decode cX12_owedBy 52 = .ok (.iload_n 2, 1) := by decide +kernel
theorem dX12_owedBy_53 : decode cX12_owedBy 53 = .ok (.aload_n 0, 1) := by decide +kernel
theorem dX12_owedBy_54 : decode cX12_owedBy 54 = .ok (.iload 5, 2) := by decide +kernel
theorem dX12_owedBy_56 : decode cX12_owedBy 56 = .ok (.bipush 6, 2) := by decide +kernel
theorem dX12_owedBy_58 : decode cX12_owedBy 58 = .ok (.invokevirtual 265, 3) := by decide +kernel
theorem dX12_owedBy_61 : decode cX12_owedBy 61 = .ok (.invokestatic 259, 3) := by decide +kernel
theorem dX12_owedBy_64 : decode cX12_owedBy 64 = .ok (.ifCond .ne 29, 3) := by decide +kernel
theorem dX12_owedBy_67 : decode cX12_owedBy 67 = .ok (.aload_n 0, 1) := by decide +kernel
theorem dX12_owedBy_68 : decode cX12_owedBy 68 = .ok (.iload 5, 2) := by decide +kernel
theorem dX12_owedBy_70 : decode cX12_owedBy 70 = .ok (.bipush 7, 2) := by decide +kernel
theorem dX12_owedBy_72 : decode cX12_owedBy 72 = .ok (.invokevirtual 265, 3) := by decide +kernel
theorem dX12_owedBy_75 : decode cX12_owedBy 75 = .ok (.ifCond .lt 22, 3) := by decide +kernel
theorem dX12_owedBy_78 : decode cX12_owedBy 78 = .ok (.iload_n 2, 1) := by decide +kernel
theorem dX12_owedBy_79 : decode cX12_owedBy 79 = .ok (.aload_n 0, 1) := by decide +kernel
theorem dX12_owedBy_80 : decode cX12_owedBy 80 = .ok (.iload 5, 2) := by decide +kernel
theorem dX12_owedBy_82 : decode cX12_owedBy 82 = .ok (.bipush 7, 2) := by decide +kernel
theorem dX12_owedBy_84 : decode cX12_owedBy 84 = .ok (.invokevirtual 265, 3) := by decide +kernel
theorem dX12_owedBy_87 : decode cX12_owedBy 87 = .ok (.invokestatic 259, 3) := by decide +kernel
theorem dX12_owedBy_90 : decode cX12_owedBy 90 = .ok (.ifCond .eq 7, 3) := by decide +kernel
theorem dX12_owedBy_93 : decode cX12_owedBy 93 = .ok (.iconst 1, 1) := by decide +kernel
theorem dX12_owedBy_94 : decode cX12_owedBy 94 = .ok (.goto 4, 3) := by decide +kernel
theorem dX12_owedBy_97 : decode cX12_owedBy 97 = .ok (.iconst 0, 1) := by decide +kernel
theorem dX12_owedBy_98 : decode cX12_owedBy 98 = .ok (.istore 6, 2) := by decide +kernel
theorem dX12_owedBy_100 : decode cX12_owedBy 100 = .ok (.aload_n 0, 1) := by decide +kernel
theorem dX12_owedBy_101 : decode cX12_owedBy 101 = .ok (.iload 5, 2) := by decide +kernel
theorem dX12_owedBy_103 : decode cX12_owedBy 103 = .ok (.iload_n 2, 1) := by decide +kernel
theorem dX12_owedBy_104 : decode cX12_owedBy 104 = .ok (.invokevirtual 312, 3) := by decide +kernel
theorem dX12_owedBy_107 : decode cX12_owedBy 107 = .ok (.ifCond .eq 17, 3) := by decide +kernel
theorem dX12_owedBy_110 : decode cX12_owedBy 110 = .ok (.iload 4, 2) := by decide +kernel
theorem dX12_owedBy_112 : decode cX12_owedBy 112 = .ok (.aload_n 0, 1) := by decide +kernel
theorem dX12_owedBy_113 : decode cX12_owedBy 113 = .ok (.iload 5, 2) := by decide +kernel
theorem dX12_owedBy_115 : decode cX12_owedBy 115 = .ok (.invokevirtual 281, 3) := by decide +kernel
theorem dX12_owedBy_118 : decode cX12_owedBy 118 = .ok (.iadd, 1) := by decide +kernel
theorem dX12_owedBy_119 : decode cX12_owedBy 119 = .ok (.istore 4, 2) := by decide +kernel
theorem dX12_owedBy_121 : decode cX12_owedBy 121 = .ok (.goto 29, 3) := by decide +kernel
theorem dX12_owedBy_124 : decode cX12_owedBy 124 = .ok (.iload_n 3, 1) := by decide +kernel
theorem dX12_owedBy_125 : decode cX12_owedBy 125 = .ok (.ifCond .ne 25, 3) := by decide +kernel
theorem dX12_owedBy_128 : decode cX12_owedBy 128 = .ok (.iload 6, 2) := by decide +kernel
theorem dX12_owedBy_130 : decode cX12_owedBy 130 = .ok (.ifCond .eq 20, 3) := by decide +kernel
theorem dX12_owedBy_133 : decode cX12_owedBy 133 = .ok (.iload 4, 2) := by decide +kernel
theorem dX12_owedBy_135 : decode cX12_owedBy 135 = .ok (.aload_n 0, 1) := by decide +kernel
theorem dX12_owedBy_136 : decode cX12_owedBy 136 = .ok (.bipush 99, 2) := by decide +kernel
theorem dX12_owedBy_138 : decode cX12_owedBy 138 = .ok (.aload_n 0, 1) := by decide +kernel
theorem dX12_owedBy_139 : decode cX12_owedBy 139 = .ok (.iload 5, 2) := by decide +kernel
theorem dX12_owedBy_141 : decode cX12_owedBy 141 = .ok (.invokevirtual 272, 3) := by decide +kernel
theorem dX12_owedBy_144 : decode cX12_owedBy 144 = .ok (.invokevirtual 275, 3) := by decide +kernel
theorem dX12_owedBy_147 : decode cX12_owedBy 147 = .ok (.iadd, 1) := by decide +kernel
theorem dX12_owedBy_148 : decode cX12_owedBy 148 = .ok (.istore 4, 2) := by decide +kernel
theorem dX12_owedBy_150 : decode cX12_owedBy 150 = .ok (.iinc 5 1, 3) := by decide +kernel
theorem dX12_owedBy_153 : decode cX12_owedBy 153 = .ok (.goto (-147), 3) := by decide +kernel
theorem dX12_owedBy_156 : decode cX12_owedBy 156 = .ok (.iload 4, 2) := by decide +kernel
theorem dX12_owedBy_158 : decode cX12_owedBy 158 = .ok (.ireturn, 1) := by decide +kernel
theorem dX12_isFound_0 : decode cX12_isFound 0 = .ok (.iload_n 1, 1) := by decide +kernel
theorem dX12_isFound_1 : decode cX12_isFound 1 = .ok (.iconst 0, 1) := by decide +kernel
theorem dX12_isFound_2 : decode cX12_isFound 2 = .ok (.iconst 1, 1) := by decide +kernel
theorem dX12_isFound_3 : decode cX12_isFound 3 = .ok (.aload_n 0, 1) := by decide +kernel
theorem dX12_isFound_4 : decode cX12_isFound 4 = .ok (.getfield 33, 3) := by decide +kernel
theorem dX12_isFound_7 : decode cX12_isFound 7 = .ok (.iconst 0, 1) := by decide +kernel
theorem dX12_isFound_8 : decode cX12_isFound 8 = .ok (.iaload, 1) := by decide +kernel
theorem dX12_isFound_9 : decode cX12_isFound 9 = .ok (.ishl, 1) := by decide +kernel
theorem dX12_isFound_10 : decode cX12_isFound 10 = .ok (.iconst 1, 1) := by decide +kernel
theorem dX12_isFound_11 : decode cX12_isFound 11 = .ok (.isub, 1) := by decide +kernel
theorem dX12_isFound_12 : decode cX12_isFound 12 = .ok (.invokestatic 202, 3) := by decide +kernel
theorem dX12_isFound_15 : decode cX12_isFound 15 = .ok (.ireturn, 1) := by decide +kernel
theorem dX12_owed_0 : decode cX12_owed 0 = .ok (.aload_n 0, 1) := by decide +kernel
theorem dX12_owed_1 : decode cX12_owed 1 = .ok (.iconst 0, 1) := by decide +kernel
theorem dX12_owed_2 : decode cX12_owed 2 = .ok (.putfield 1, 3) := by decide +kernel
theorem dX12_owed_5 : decode cX12_owed 5 = .ok (.aload_n 0, 1) := by decide +kernel
theorem dX12_owed_6 : decode cX12_owed 6 = .ok (.iload_n 1, 1) := by decide +kernel
theorem dX12_owed_7 : decode cX12_owed 7 = .ok (.invokevirtual 287, 3) := by decide +kernel
theorem dX12_owed_10 : decode cX12_owed 10 = .ok (.ifCond .eq 38, 3) := by decide +kernel
theorem dX12_owed_13 : decode cX12_owed 13 = .ok (.aload_n 0, 1) := by decide +kernel
theorem dX12_owed_14 : decode cX12_owed 14 = .ok (.iload_n 2, 1) := by decide +kernel
theorem dX12_owed_15 : decode cX12_owed 15 = .ok (.invokevirtual 445, 3) := by decide +kernel
theorem dX12_owed_18 : decode cX12_owed 18 = .ok (.ifCond .eq 30, 3) := by decide +kernel
theorem dX12_owed_21 : decode cX12_owed 21 = .ok (.iload_n 3, 1) := by decide +kernel
theorem dX12_owed_22 : decode cX12_owed 22 = .ok (.iconst 0, 1) := by decide +kernel
theorem dX12_owed_23 : decode cX12_owed 23 = .ok (.iconst 1, 1) := by decide +kernel
theorem dX12_owed_24 : decode cX12_owed 24 = .ok (.invokestatic 202, 3) := by decide +kernel
theorem dX12_owed_27 : decode cX12_owed 27 = .ok (.ifCond .eq 21, 3) := by decide +kernel
theorem dX12_owed_30 : decode cX12_owed 30 = .ok (.aload_n 0, 1) := by decide +kernel
theorem dX12_owed_31 : decode cX12_owed 31 = .ok (.iload_n 1, 1) := by decide +kernel
theorem dX12_owed_32 : decode cX12_owed 32 = .ok (.iload_n 2, 1) := by decide +kernel
theorem dX12_owed_33 : decode cX12_owed 33 = .ok (.iload_n 3, 1) := by decide +kernel
theorem dX12_owed_34 : decode cX12_owed 34 = .ok (.ifCond .ne 7, 3) := by decide +kernel
theorem dX12_owed_37 : decode cX12_owed 37 = .ok (.iconst 1, 1) := by decide +kernel
theorem dX12_owed_38 : decode cX12_owed 38 = .ok (.goto 4, 3) := by decide +kernel
theorem dX12_owed_41 : decode cX12_owed 41 = .ok (.iconst 0, 1) := by decide +kernel
theorem dX12_owed_42 : decode cX12_owed 42 = .ok (.invokevirtual 448, 3) := by decide +kernel
theorem dX12_owed_45 : decode cX12_owed 45 = .ok (.goto 4, 3) := by decide +kernel
theorem dX12_owed_48 : decode cX12_owed 48 = .ok (.iconst (-1), 1) := by decide +kernel
theorem dX12_owed_49 : decode cX12_owed 49 = .ok (.ireturn, 1) := by decide +kernel
theorem dX12_proof_0 : decode cX12_proof 0 = .ok (.aload_n 0, 1) := by decide +kernel
theorem dX12_proof_1 : decode cX12_proof 1 = .ok (.iconst 0, 1) := by decide +kernel
theorem dX12_proof_2 : decode cX12_proof 2 = .ok (.putfield 1, 3) := by decide +kernel
theorem dX12_proof_5 : decode cX12_proof 5 = .ok (.aload_n 0, 1) := by decide +kernel
theorem dX12_proof_6 : decode cX12_proof 6 = .ok (.iload_n 1, 1) := by decide +kernel
theorem dX12_proof_7 : decode cX12_proof 7 = .ok (.invokevirtual 287, 3) := by decide +kernel
theorem dX12_proof_10 : decode cX12_proof 10 = .ok (.ifCond .ne 5, 3) := by decide +kernel
theorem dX12_proof_13 : decode cX12_proof 13 = .ok (.iconst (-1), 1) := by decide +kernel
theorem dX12_proof_14 : decode cX12_proof 14 = .ok (.ireturn, 1) := by decide +kernel
theorem dX12_proof_15 : decode cX12_proof 15 = .ok (.iconst 1, 1) := by decide +kernel
theorem dX12_proof_16 : decode cX12_proof 16 = .ok (.aload_n 0, 1) := by decide +kernel
theorem dX12_proof_17 : decode cX12_proof 17 = .ok (.getfield 33, 3) := by decide +kernel
theorem dX12_proof_20 : decode cX12_proof 20 = .ok (.iconst 0, 1) := by decide +kernel
theorem dX12_proof_21 : decode cX12_proof 21 = .ok (.iaload, 1) := by decide +kernel
theorem dX12_proof_22 : decode cX12_proof 22 = .ok (.ishl, 1) := by decide +kernel
theorem dX12_proof_23 : decode cX12_proof 23 = .ok (.iconst 1, 1) := by decide +kernel
theorem dX12_proof_24 : decode cX12_proof 24 = .ok (.isub, 1) := by decide +kernel
theorem dX12_proof_25 : decode cX12_proof 25 = .ok (.istore_n 2, 1) := by decide +kernel
theorem dX12_proof_26 : decode cX12_proof 26 = .ok (.aload_n 0, 1) := by decide +kernel
theorem dX12_proof_27 : decode cX12_proof 27 = .ok (.iload_n 1, 1) := by decide +kernel
theorem dX12_proof_28 : decode cX12_proof 28 = .ok (.iload_n 2, 1) := by decide +kernel
theorem dX12_proof_29 : decode cX12_proof 29 = .ok (.iconst 1, 1) := by decide +kernel
theorem dX12_proof_30 : decode cX12_proof 30 = .ok (.invokevirtual 448, 3) := by decide +kernel
theorem dX12_proof_33 : decode cX12_proof 33 = .ok (.istore_n 3, 1) := by decide +kernel
theorem dX12_proof_34 : decode cX12_proof 34 = .ok (.iload_n 2, 1) := by decide +kernel
theorem dX12_proof_35 : decode cX12_proof 35 = .ok (.istore 4, 2) := by decide +kernel
theorem dX12_proof_37 : decode cX12_proof 37 = .ok (.iconst 0, 1) := by decide +kernel
theorem dX12_proof_38 : decode cX12_proof 38 = .ok (.istore 5, 2) := by decide +kernel
theorem dX12_proof_40 : decode cX12_proof 40 = .ok (.iload 5, 2) := by decide +kernel
theorem dX12_proof_42 : decode cX12_proof 42 = .ok (.iload_n 2, 1) := by decide +kernel
theorem dX12_proof_43 : decode cX12_proof 43 = .ok (.if_icmp .gt 58, 3) := by decide +kernel
theorem dX12_proof_46 : decode cX12_proof 46 = .ok (.iload 5, 2) := by decide +kernel
theorem dX12_proof_48 : decode cX12_proof 48 = .ok (.invokestatic 452, 3) := by decide +kernel
theorem dX12_proof_51 : decode cX12_proof 51 = .ok (.iload 4, 2) := by decide +kernel
theorem dX12_proof_53 : decode cX12_proof 53 = .ok (.invokestatic 452, 3) := by decide +kernel
theorem dX12_proof_56 : decode cX12_proof 56 = .ok (.if_icmp .lt 23, 3) := by decide +kernel
theorem dX12_proof_59 : decode cX12_proof 59 = .ok (.iload 5, 2) := by decide +kernel
theorem dX12_proof_61 : decode cX12_proof 61 = .ok (.invokestatic 452, 3) := by decide +kernel
theorem dX12_proof_64 : decode cX12_proof 64 = .ok (.iload 4, 2) := by decide +kernel
theorem dX12_proof_66 : decode cX12_proof 66 = .ok (.invokestatic 452, 3) := by decide +kernel
theorem dX12_proof_69 : decode cX12_proof 69 = .ok (.if_icmp .ne 26, 3) := by decide +kernel
theorem dX12_proof_72 : decode cX12_proof 72 = .ok (.iload 5, 2) := by decide +kernel
theorem dX12_proof_74 : decode cX12_proof 74 = .ok (.iload 4, 2) := by decide +kernel
theorem dX12_proof_76 : decode cX12_proof 76 = .ok (.if_icmp .ge 19, 3) := by decide +kernel
theorem dX12_proof_79 : decode cX12_proof 79 = .ok (.aload_n 0, 1) := by decide +kernel
theorem dX12_proof_80 : decode cX12_proof 80 = .ok (.iload_n 1, 1) := by decide +kernel
theorem dX12_proof_81 : decode cX12_proof 81 = .ok (.iload 5, 2) := by decide +kernel
theorem dX12_proof_83 : decode cX12_proof 83 = .ok (.iconst 1, 1) := by decide +kernel
theorem dX12_proof_84 : decode cX12_proof 84 = .ok (.invokevirtual 448, 3) := by decide +kernel
theorem dX12_proof_87 : decode cX12_proof 87 = .ok (.iload_n 3, 1) := by decide +kernel
theorem dX12_proof_88 : decode cX12_proof 88 = .ok (.if_icmp .ne 7, 3) := by decide +kernel
theorem dX12_proof_91 : decode cX12_proof 91 = .ok (.iload 5, 2) := by decide +kernel
theorem dX12_proof_93 : decode cX12_proof 93 = .ok (.istore 4, 2) := by decide +kernel
theorem dX12_proof_95 : decode cX12_proof 95 = .ok (.iinc 5 1, 3) := by decide +kernel
theorem dX12_proof_98 : decode cX12_proof 98 = .ok (.goto (-58), 3) := by decide +kernel
theorem dX12_proof_101 : decode cX12_proof 101 = .ok (.iload 4, 2) := by decide +kernel
theorem dX12_proof_103 : decode cX12_proof 103 = .ok (.ireturn, 1) := by decide +kernel
theorem dX12_witness_0 : decode cX12_witness 0 = .ok (.aload_n 0, 1) := by decide +kernel
theorem dX12_witness_1 : decode cX12_witness 1 = .ok (.iconst 0, 1) := by decide +kernel
theorem dX12_witness_2 : decode cX12_witness 2 = .ok (.putfield 1, 3) := by decide +kernel
theorem dX12_witness_5 : decode cX12_witness 5 = .ok (.aload_n 0, 1) := by decide +kernel
theorem dX12_witness_6 : decode cX12_witness 6 = .ok (.iload_n 1, 1) := by decide +kernel
theorem dX12_witness_7 : decode cX12_witness 7 = .ok (.invokevirtual 262, 3) := by decide +kernel
theorem dX12_witness_10 : decode cX12_witness 10 = .ok (.ifCond .ne 5, 3) := by decide +kernel
theorem dX12_witness_13 : decode cX12_witness 13 = .ok (.iconst (-1), 1) := by decide +kernel
theorem dX12_witness_14 : decode cX12_witness 14 = .ok (.ireturn, 1) := by decide +kernel
theorem dX12_witness_15 : decode cX12_witness 15 = .ok (.iconst (-1), 1) := by decide +kernel
theorem dX12_witness_16 : decode cX12_witness 16 = .ok (.istore_n 2, 1) := by decide +kernel
theorem dX12_witness_17 : decode cX12_witness 17 = .ok (.iconst 0, 1) := by decide +kernel
theorem dX12_witness_18 : decode cX12_witness 18 = .ok (.istore_n 3, 1) := by decide +kernel
theorem dX12_witness_19 : decode cX12_witness 19 = .ok (.iload_n 3, 1) := by decide +kernel
theorem dX12_witness_20 : decode cX12_witness 20 = .ok (.iconst 1, 1) := by decide +kernel
theorem dX12_witness_21 : decode cX12_witness 21 = .ok (.aload_n 0, 1) := by decide +kernel
theorem dX12_witness_22 : decode cX12_witness 22 = .ok (.getfield 33, 3) := by decide +kernel
theorem dX12_witness_25 : decode cX12_witness 25 = .ok (.iconst 0, 1) := by decide +kernel
theorem dX12_witness_26 : decode cX12_witness 26 = .ok (.iaload, 1) := by decide +kernel
theorem dX12_witness_27 : decode cX12_witness 27 = .ok (.ishl, 1) := by decide +kernel
theorem dX12_witness_28 : decode cX12_witness 28 = .ok (.if_icmp .ge 35, 3) := by decide +kernel
theorem dX12_witness_31 : decode cX12_witness 31 = .ok (.iload_n 2, 1) := by decide +kernel
theorem dX12_witness_32 : decode cX12_witness 32 = .ok (.ifCond .lt 14, 3) := by decide +kernel
theorem dX12_witness_35 : decode cX12_witness 35 = .ok (.iload_n 3, 1) := by decide +kernel
theorem dX12_witness_36 : decode cX12_witness 36 = .ok (.invokestatic 452, 3) := by decide +kernel
theorem dX12_witness_39 : decode cX12_witness 39 = .ok (.iload_n 2, 1) := by decide +kernel
theorem dX12_witness_40 : decode cX12_witness 40 = .ok (.invokestatic 452, 3) := by decide +kernel
theorem dX12_witness_43 : decode cX12_witness 43 = .ok (.if_icmp .ge 14, 3) := by decide +kernel
theorem dX12_witness_46 : decode cX12_witness 46 = .ok (.aload_n 0, 1) := by decide +kernel
theorem dX12_witness_47 : decode cX12_witness 47 = .ok (.iload_n 1, 1) := by decide +kernel
theorem dX12_witness_48 : decode cX12_witness 48 = .ok (.iload_n 3, 1) := by decide +kernel
theorem dX12_witness_49 : decode cX12_witness 49 = .ok (.invokevirtual 312, 3) := by decide +kernel
theorem dX12_witness_52 : decode cX12_witness 52 = .ok (.ifCond .eq 5, 3) := by decide +kernel
theorem dX12_witness_55 : decode cX12_witness 55 = .ok (.iload_n 3, 1) := by decide +kernel
theorem dX12_witness_56 : decode cX12_witness 56 = .ok (.istore_n 2, 1) := by decide +kernel
theorem dX12_witness_57 : decode cX12_witness 57 = .ok (.iinc 3 1, 3) := by decide +kernel
theorem dX12_witness_60 : decode cX12_witness 60 = .ok (.goto (-41), 3) := by decide +kernel
theorem dX12_witness_63 : decode cX12_witness 63 = .ok (.iload_n 2, 1) := by decide +kernel
theorem dX12_witness_64 : decode cX12_witness 64 = .ok (.ireturn, 1) := by decide +kernel
theorem dX12_draw_0 : decode cX12_draw 0 = .ok (.aload_n 0, 1) := by decide +kernel
theorem dX12_draw_1 : decode cX12_draw 1 = .ok (.aload_n 0, 1) := by decide +kernel
theorem dX12_draw_2 : decode cX12_draw 2 = .ok (.getfield 455, 3) := by decide +kernel
theorem dX12_draw_5 : decode cX12_draw 5 = .ok (.ldc_w 458, 3) := by decide +kernel
theorem dX12_draw_8 : decode cX12_draw 8 = .ok (.imul, 1) := by decide +kernel
theorem dX12_draw_9 : decode cX12_draw 9 = .ok (.sipush 12345, 3) := by decide +kernel
theorem dX12_draw_12 : decode cX12_draw 12 = .ok (.iadd, 1) := by decide +kernel
theorem dX12_draw_13 : decode cX12_draw 13 = .ok (.putfield 455, 3) := by decide +kernel
theorem dX12_draw_16 : decode cX12_draw 16 = .ok (.aload_n 0, 1) := by decide +kernel
theorem dX12_draw_17 : decode cX12_draw 17 = .ok (.getfield 455, 3) := by decide +kernel
theorem dX12_draw_20 : decode cX12_draw 20 = .ok (.bipush 8, 2) := by decide +kernel
theorem dX12_draw_22 : decode cX12_draw 22 = .ok (.iushr, 1) := by decide +kernel
theorem dX12_draw_23 : decode cX12_draw 23 = .ok (.iload_n 1, 1) := by decide +kernel
theorem dX12_draw_24 : decode cX12_draw 24 = .ok (.irem, 1) := by decide +kernel
theorem dX12_draw_25 : decode cX12_draw 25 = .ok (.ireturn, 1) := by decide +kernel
theorem dX12_latestFrom_0 : decode cX12_latestFrom 0 = .ok (.iconst (-1), 1) := by decide +kernel
theorem dX12_latestFrom_1 : decode cX12_latestFrom 1 = .ok (.istore_n 2, 1) := by decide +kernel
theorem dX12_latestFrom_2 : decode cX12_latestFrom 2 = .ok (.iload_n 1, 1) := by decide +kernel
theorem dX12_latestFrom_3 : decode cX12_latestFrom 3 = .ok (.istore_n 3, 1) := by decide +kernel
theorem dX12_latestFrom_4 : decode cX12_latestFrom 4 = .ok (.iload_n 3, 1) := by decide +kernel
theorem dX12_latestFrom_5 : decode cX12_latestFrom 5 = .ok (.aload_n 0, 1) := by decide +kernel
theorem dX12_latestFrom_6 : decode cX12_latestFrom 6 = .ok (.getfield 33, 3) := by decide +kernel
theorem dX12_latestFrom_9 : decode cX12_latestFrom 9 = .ok (.bipush 34, 2) := by decide +kernel
theorem dX12_latestFrom_11 : decode cX12_latestFrom 11 = .ok (.iaload, 1) := by decide +kernel
theorem dX12_latestFrom_12 : decode cX12_latestFrom 12 = .ok (.if_icmp .ge 23, 3) := by decide +kernel
theorem dX12_latestFrom_15 : decode cX12_latestFrom 15 = .ok (.aload_n 0, 1) := by decide +kernel
theorem dX12_latestFrom_16 : decode cX12_latestFrom 16 = .ok (.iload_n 3, 1) := by decide +kernel
theorem dX12_latestFrom_17 : decode cX12_latestFrom 17 = .ok (.invokevirtual 278, 3) := by decide +kernel
theorem dX12_latestFrom_20 : decode cX12_latestFrom 20 = .ok (.ifCond .eq 7, 3) := by decide +kernel
theorem dX12_latestFrom_23 : decode cX12_latestFrom 23 = .ok (.iload_n 3, 1) := by decide +kernel
theorem dX12_latestFrom_24 : decode cX12_latestFrom 24 = .ok (.goto 4, 3) := by decide +kernel
theorem dX12_latestFrom_27 : decode cX12_latestFrom 27 = .ok (.iload_n 2, 1) := by decide +kernel
theorem dX12_latestFrom_28 : decode cX12_latestFrom 28 = .ok (.istore_n 2, 1) := by decide +kernel
theorem dX12_latestFrom_29 : decode cX12_latestFrom 29 = .ok (.iinc 3 1, 3) := by decide +kernel
theorem dX12_latestFrom_32 : decode cX12_latestFrom 32 = .ok (.goto (-28), 3) := by decide +kernel
theorem dX12_latestFrom_35 : decode cX12_latestFrom 35 = .ok (.iload_n 2, 1) := by decide +kernel
theorem dX12_latestFrom_36 : decode cX12_latestFrom 36 = .ok (.ireturn, 1) := by decide +kernel
theorem dX12_lasts_0 : decode cX12_lasts 0 = .ok (.aload_n 0, 1) := by decide +kernel
theorem dX12_lasts_1 : decode cX12_lasts 1 = .ok (.iconst 0, 1) := by decide +kernel
theorem dX12_lasts_2 : decode cX12_lasts 2 = .ok (.putfield 1, 3) := by decide +kernel
theorem dX12_lasts_5 : decode cX12_lasts 5 = .ok (.iload_n 1, 1) := by decide +kernel
theorem dX12_lasts_6 : decode cX12_lasts 6 = .ok (.iconst 0, 1) := by decide +kernel
theorem dX12_lasts_7 : decode cX12_lasts 7 = .ok (.iconst 2, 1) := by decide +kernel
theorem dX12_lasts_8 : decode cX12_lasts 8 = .ok (.invokestatic 202, 3) := by decide +kernel
theorem dX12_lasts_11 : decode cX12_lasts 11 = .ok (.ifCond .eq 21, 3) := by decide +kernel
theorem dX12_lasts_14 : decode cX12_lasts 14 = .ok (.aload_n 0, 1) := by decide +kernel
theorem dX12_lasts_15 : decode cX12_lasts 15 = .ok (.getfield 33, 3) := by decide +kernel
theorem dX12_lasts_18 : decode cX12_lasts 18 = .ok (.iconst 0, 1) := by decide +kernel
theorem dX12_lasts_19 : decode cX12_lasts 19 = .ok (.iaload, 1) := by decide +kernel
theorem dX12_lasts_20 : decode cX12_lasts 20 = .ok (.ifCond .eq 12, 3) := by decide +kernel
theorem dX12_lasts_23 : decode cX12_lasts 23 = .ok (.aload_n 0, 1) := by decide +kernel
theorem dX12_lasts_24 : decode cX12_lasts 24 = .ok (.getfield 33, 3) := by decide +kernel
theorem dX12_lasts_27 : decode cX12_lasts 27 = .ok (.iconst 1, 1) := by decide +kernel
theorem dX12_lasts_28 : decode cX12_lasts 28 = .ok (.iaload, 1) := by decide +kernel
theorem dX12_lasts_29 : decode cX12_lasts 29 = .ok (.ifCond .ne 5, 3) := by decide +kernel
theorem dX12_lasts_32 : decode cX12_lasts 32 = .ok (.iconst (-1), 1) := by decide +kernel
theorem dX12_lasts_33 : decode cX12_lasts 33 = .ok (.ireturn, 1) := by decide +kernel
theorem dX12_lasts_34 : decode cX12_lasts 34 = .ok (.aload_n 0, 1) := by decide +kernel
theorem dX12_lasts_35 : decode cX12_lasts 35 = .ok (.invokevirtual 380, 3) := by decide +kernel
theorem dX12_lasts_38 : decode cX12_lasts 38 = .ok (.aload_n 0, 1) := by decide +kernel
theorem dX12_lasts_39 : decode cX12_lasts 39 = .ok (.iload_n 2, 1) := by decide +kernel
theorem dX12_lasts_40 : decode cX12_lasts 40 = .ok (.putfield 455, 3) := by decide +kernel
theorem dX12_lasts_43 : decode cX12_lasts 43 = .ok (.aload_n 0, 1) := by decide +kernel
theorem dX12_lasts_44 : decode cX12_lasts 44 = .ok (.getfield 33, 3) := by decide +kernel
theorem dX12_lasts_47 : decode cX12_lasts 47 = .ok (.bipush 34, 2) := by decide +kernel
theorem dX12_lasts_49 : decode cX12_lasts 49 = .ok (.iaload, 1) := by decide +kernel
theorem dX12_lasts_50 : decode cX12_lasts 50 = .ok (.istore_n 3, 1) := by decide +kernel
theorem dX12_lasts_51 : decode cX12_lasts 51 = .ok (.iconst 0, 1) := by decide +kernel
theorem dX12_lasts_52 : decode cX12_lasts 52 = .ok (.istore 4, 2) := by decide +kernel
theorem dX12_lasts_54 : decode cX12_lasts 54 = .ok (.iconst 0, 1) := by decide +kernel
theorem dX12_lasts_55 : decode cX12_lasts 55 = .ok (.istore 5, 2) := by decide +kernel
theorem dX12_lasts_57 : decode cX12_lasts 57 = .ok (.iconst 0, 1) := by decide +kernel
theorem dX12_lasts_58 : decode cX12_lasts 58 = .ok (.istore 6, 2) := by decide +kernel
theorem dX12_lasts_60 : decode cX12_lasts 60 = .ok (.iload 6, 2) := by decide +kernel
theorem dX12_lasts_62 : decode cX12_lasts 62 = .ok (.sipush 200, 3) := by decide +kernel
theorem dX12_lasts_65 : decode cX12_lasts 65 = .ok (.if_icmp .ge 163, 3) := by decide +kernel
theorem dX12_lasts_68 : decode cX12_lasts 68 = .ok (.iload 5, 2) := by decide +kernel
theorem dX12_lasts_70 : decode cX12_lasts 70 = .ok (.bipush 10, 2) := by decide +kernel
theorem dX12_lasts_72 : decode cX12_lasts 72 = .ok (.if_icmp .ge 156, 3) := by decide +kernel
theorem dX12_lasts_75 : decode cX12_lasts 75 = .ok (.aload_n 0, 1) := by decide +kernel
theorem dX12_lasts_76 : decode cX12_lasts 76 = .ok (.aload_n 0, 1) := by decide +kernel
theorem dX12_lasts_77 : decode cX12_lasts 77 = .ok (.getfield 33, 3) := by decide +kernel
theorem dX12_lasts_80 : decode cX12_lasts 80 = .ok (.iconst 0, 1) := by decide +kernel
theorem dX12_lasts_81 : decode cX12_lasts 81 = .ok (.iaload, 1) := by decide +kernel
theorem dX12_lasts_82 : decode cX12_lasts 82 = .ok (.invokevirtual 459, 3) := by decide +kernel
theorem dX12_lasts_85 : decode cX12_lasts 85 = .ok (.istore 7, 2) := by decide +kernel
theorem dX12_lasts_87 : decode cX12_lasts 87 = .ok (.aload_n 0, 1) := by decide +kernel
theorem dX12_lasts_88 : decode cX12_lasts 88 = .ok (.aload_n 0, 1) := by decide +kernel
theorem dX12_lasts_89 : decode cX12_lasts 89 = .ok (.getfield 33, 3) := by decide +kernel
theorem dX12_lasts_92 : decode cX12_lasts 92 = .ok (.iconst 0, 1) := by decide +kernel
theorem dX12_lasts_93 : decode cX12_lasts 93 = .ok (.iaload, 1) := by decide +kernel
theorem dX12_lasts_94 : decode cX12_lasts 94 = .ok (.invokevirtual 459, 3) := by decide +kernel
theorem dX12_lasts_97 : decode cX12_lasts 97 = .ok (.istore 8, 2) := by decide +kernel
theorem dX12_lasts_99 : decode cX12_lasts 99 = .ok (.aload_n 0, 1) := by decide +kernel
theorem dX12_lasts_100 : decode cX12_lasts 100 = .ok (.aload_n 0, 1) := by decide +kernel
theorem dX12_lasts_101 : decode cX12_lasts 101 = .ok (.getfield 33, 3) := by decide +kernel
theorem dX12_lasts_104 : decode cX12_lasts 104 = .ok (.iconst 1, 1) := by decide +kernel
theorem dX12_lasts_105 : decode cX12_lasts 105 = .ok (.iaload, 1) := by decide +kernel
theorem dX12_lasts_106 : decode cX12_lasts 106 = .ok (.invokevirtual 459, 3) := by decide +kernel
theorem dX12_lasts_109 : decode cX12_lasts 109 = .ok (.istore 9, 2) := by decide +kernel
theorem dX12_lasts_111 : decode cX12_lasts 111 = .ok (.iconst 1, 1) := by decide +kernel
theorem dX12_lasts_112 : decode cX12_lasts 112 = .ok (.aload_n 0, 1) := by decide +kernel
theorem dX12_lasts_113 : decode cX12_lasts 113 = .ok (.bipush 99, 2) := by decide +kernel
theorem dX12_lasts_115 : decode cX12_lasts 115 = .ok (.invokevirtual 459, 3) := by decide +kernel
theorem dX12_lasts_118 : decode cX12_lasts 118 = .ok (.iadd, 1) := by decide +kernel
theorem dX12_lasts_119 : decode cX12_lasts 119 = .ok (.istore 10, 2) := by decide +kernel
theorem dX12_lasts_121 : decode cX12_lasts 121 = .ok (.iload_n 1, 1) := by decide +kernel
theorem dX12_lasts_122 : decode cX12_lasts 122 = .ok (.iconst 1, 1) := by decide +kernel
theorem dX12_lasts_123 : decode cX12_lasts 123 = .ok (.if_icmp .ne 30, 3) := by decide +kernel
theorem dX12_lasts_126 : decode cX12_lasts 126 = .ok (.aload_n 0, 1) := by decide +kernel
theorem dX12_lasts_127 : decode cX12_lasts 127 = .ok (.iload_n 3, 1) := by decide +kernel
theorem dX12_lasts_128 : decode cX12_lasts 128 = .ok (.invokevirtual 462, 3) := by decide +kernel
theorem dX12_lasts_131 : decode cX12_lasts 131 = .ok (.istore 11, 2) := by decide +kernel
theorem dX12_lasts_133 : decode cX12_lasts 133 = .ok (.iload 11, 2) := by decide +kernel
theorem dX12_lasts_135 : decode cX12_lasts 135 = .ok (.ifCond .lt 18, 3) := by decide +kernel
theorem dX12_lasts_138 : decode cX12_lasts 138 = .ok (.aload_n 0, 1) := by decide +kernel
theorem dX12_lasts_139 : decode cX12_lasts 139 = .ok (.iload 11, 2) := by decide +kernel
theorem dX12_lasts_141 : decode cX12_lasts 141 = .ok (.invokevirtual 336, 3) := by decide +kernel
theorem dX12_lasts_144 : decode cX12_lasts 144 = .ok (.ifCond .ne 9, 3) := by decide +kernel
theorem dX12_lasts_147 : decode cX12_lasts 147 = .ok (.aload_n 0, 1) := by decide +kernel
theorem dX12_lasts_148 : decode cX12_lasts 148 = .ok (.iload 11, 2) := by decide +kernel
theorem dX12_lasts_150 : decode cX12_lasts 150 = .ok (.invokevirtual 339, 3) := by decide +kernel
theorem dX12_lasts_153 : decode cX12_lasts 153 = .ok (.aload_n 0, 1) := by decide +kernel
theorem dX12_lasts_154 : decode cX12_lasts 154 = .ok (.iload 7, 2) := by decide +kernel
theorem dX12_lasts_156 : decode cX12_lasts 156 = .ok (.iload 8, 2) := by decide +kernel
theorem dX12_lasts_158 : decode cX12_lasts 158 = .ok (.iload 9, 2) := by decide +kernel
theorem dX12_lasts_160 : decode cX12_lasts 160 = .ok (.invokevirtual 326, 3) := by decide +kernel
theorem dX12_lasts_163 : decode cX12_lasts 163 = .ok (.istore 11, 2) := by decide +kernel
theorem dX12_lasts_165 : decode cX12_lasts 165 = .ok (.iload 5, 2) := by decide +kernel
theorem dX12_lasts_167 : decode cX12_lasts 167 = .ok (.iload 11, 2) := by decide +kernel
theorem dX12_lasts_169 : decode cX12_lasts 169 = .ok (.iconst 1, 1) := by decide +kernel
theorem dX12_lasts_170 : decode cX12_lasts 170 = .ok (.if_icmp .le 7, 3) := by decide +kernel
theorem dX12_lasts_173 : decode cX12_lasts 173 = .ok (.iconst 1, 1) := by decide +kernel
theorem dX12_lasts_174 : decode cX12_lasts 174 = .ok (.goto 4, 3) := by decide +kernel
theorem dX12_lasts_177 : decode cX12_lasts 177 = .ok (.iconst 0, 1) := by decide +kernel
theorem dX12_lasts_178 : decode cX12_lasts 178 = .ok (.iadd, 1) := by decide +kernel
theorem dX12_lasts_179 : decode cX12_lasts 179 = .ok (.istore 5, 2) := by decide +kernel
theorem dX12_lasts_181 : decode cX12_lasts 181 = .ok (.iload 11, 2) := by decide +kernel
theorem dX12_lasts_183 : decode cX12_lasts 183 = .ok (.ifCond .le 6, 3) := by decide +kernel
theorem dX12_lasts_186 : decode cX12_lasts 186 = .ok (.goto 36, 3) := by decide +kernel
theorem dX12_lasts_189 : decode cX12_lasts 189 = .ok (.aload_n 0, 1) := by decide +kernel
theorem dX12_lasts_190 : decode cX12_lasts 190 = .ok (.iload 7, 2) := by decide +kernel
theorem dX12_lasts_192 : decode cX12_lasts 192 = .ok (.iload 8, 2) := by decide +kernel
theorem dX12_lasts_194 : decode cX12_lasts 194 = .ok (.iload 10, 2) := by decide +kernel
theorem dX12_lasts_196 : decode cX12_lasts 196 = .ok (.iload 9, 2) := by decide +kernel
theorem dX12_lasts_198 : decode cX12_lasts 198 = .ok (.invokevirtual 332, 3) := by decide +kernel
theorem dX12_lasts_201 : decode cX12_lasts 201 = .ok (.iinc 4 1, 3) := by decide +kernel
theorem dX12_lasts_204 : decode cX12_lasts 204 = .ok (.iload_n 1, 1) := by decide +kernel
theorem dX12_lasts_205 : decode cX12_lasts 205 = .ok (.iconst 2, 1) := by decide +kernel
theorem dX12_lasts_206 : decode cX12_lasts 206 = .ok (.if_icmp .ne 16, 3) := by decide +kernel
theorem dX12_lasts_209 : decode cX12_lasts 209 = .ok (.aload_n 0, 1) := by decide +kernel
theorem dX12_lasts_210 : decode cX12_lasts 210 = .ok (.iconst (-1), 1) := by decide +kernel
theorem dX12_lasts_211 : decode cX12_lasts 211 = .ok (.invokevirtual 365, 3) := by decide +kernel
theorem dX12_lasts_214 : decode cX12_lasts 214 = .ok (.ifCond .lt 8, 3) := by decide +kernel
theorem dX12_lasts_217 : decode cX12_lasts 217 = .ok (.aload_n 0, 1) := by decide +kernel
theorem dX12_lasts_218 : decode cX12_lasts 218 = .ok (.invokevirtual 371, 3) := by decide +kernel
theorem dX12_lasts_221 : decode cX12_lasts 221 = .ok (.pop, 1) := by decide +kernel
theorem dX12_lasts_222 : decode cX12_lasts 222 = .ok (.iinc 6 1, 3) := by decide +kernel
theorem dX12_lasts_225 : decode cX12_lasts 225 = .ok (.goto (-165), 3) := by decide +kernel
theorem dX12_lasts_228 : decode cX12_lasts 228 = .ok (.aload_n 0, 1) := by decide +kernel
theorem dX12_lasts_229 : decode cX12_lasts 229 = .ok (.invokevirtual 383, 3) := by decide +kernel
theorem dX12_lasts_232 : decode cX12_lasts 232 = .ok (.iload 4, 2) := by decide +kernel
theorem dX12_lasts_234 : decode cX12_lasts 234 = .ok (.ireturn, 1) := by decide +kernel
theorem dX12_image_0 : decode cX12_image 0 = .ok (.aload_n 0, 1) := by decide +kernel
theorem dX12_image_1 : decode cX12_image 1 = .ok (.iconst 0, 1) := by decide +kernel
theorem dX12_image_2 : decode cX12_image 2 = .ok (.putfield 1, 3) := by decide +kernel
theorem dX12_image_5 : decode cX12_image 5 = .ok (.iload_n 1, 1) := by decide +kernel
theorem dX12_image_6 : decode cX12_image 6 = .ok (.iconst 0, 1) := by decide +kernel
theorem dX12_image_7 : decode cX12_image 7 = .ok (.iconst 1, 1) := by decide +kernel
theorem dX12_image_8 : decode cX12_image 8 = .ok (.invokestatic 202, 3) := by decide +kernel
theorem dX12_image_11 : decode cX12_image 11 = .ok (.ifCond .ne 5, 3) := by decide +kernel
theorem dX12_image_14 : decode cX12_image 14 = .ok (.iconst 0, 1) := by decide +kernel
theorem dX12_image_15 : decode cX12_image 15 = .ok (.ireturn, 1) := by decide +kernel
theorem dX12_image_16 : decode cX12_image 16 = .ok (.iconst 0, 1) := by decide +kernel
theorem dX12_image_17 : decode cX12_image 17 = .ok (.istore_n 2, 1) := by decide +kernel
theorem dX12_image_18 : decode cX12_image 18 = .ok (.iload_n 2, 1) := by decide +kernel
theorem dX12_image_19 : decode cX12_image 19 = .ok (.sipush 787, 3) := by decide +kernel
theorem dX12_image_22 : decode cX12_image 22 = .ok (.if_icmp .ge 27, 3) := by decide +kernel
theorem dX12_image_25 : decode cX12_image 25 = .ok (.aload_n 0, 1) := by decide +kernel
theorem dX12_image_26 : decode cX12_image 26 = .ok (.getfield 116, 3) := by decide +kernel
theorem dX12_image_29 : decode cX12_image 29 = .ok (.sipush 788, 3) := by decide +kernel
theorem dX12_image_32 : decode cX12_image 32 = .ok (.iload_n 1, 1) := by decide +kernel
theorem dX12_image_33 : decode cX12_image 33 = .ok (.imul, 1) := by decide +kernel
theorem dX12_image_34 : decode cX12_image 34 = .ok (.iload_n 2, 1) := by decide +kernel
theorem dX12_image_35 : decode cX12_image 35 = .ok (.iadd, 1) := by decide +kernel
theorem dX12_image_36 : decode cX12_image 36 = .ok (.aload_n 0, 1) := by decide +kernel
theorem dX12_image_37 : decode cX12_image 37 = .ok (.getfield 33, 3) := by decide +kernel
theorem dX12_image_40 : decode cX12_image 40 = .ok (.iload_n 2, 1) := by decide +kernel
theorem dX12_image_41 : decode cX12_image 41 = .ok (.iaload, 1) := by decide +kernel
theorem dX12_image_42 : decode cX12_image 42 = .ok (.iastore, 1) := by decide +kernel
theorem dX12_image_43 : decode cX12_image 43 = .ok (.iinc 2 1, 3) := by decide +kernel
theorem dX12_image_46 : decode cX12_image 46 = .ok (.goto (-28), 3) := by decide +kernel
theorem dX12_image_49 : decode cX12_image 49 = .ok (.aload_n 0, 1) := by decide +kernel
theorem dX12_image_50 : decode cX12_image 50 = .ok (.getfield 116, 3) := by decide +kernel
theorem dX12_image_53 : decode cX12_image 53 = .ok (.sipush 788, 3) := by decide +kernel
theorem dX12_image_56 : decode cX12_image 56 = .ok (.iload_n 1, 1) := by decide +kernel
theorem dX12_image_57 : decode cX12_image 57 = .ok (.imul, 1) := by decide +kernel
theorem dX12_image_58 : decode cX12_image 58 = .ok (.sipush 787, 3) := by decide +kernel
theorem dX12_image_61 : decode cX12_image 61 = .ok (.iadd, 1) := by decide +kernel
theorem dX12_image_62 : decode cX12_image 62 = .ok (.aload_n 0, 1) := by decide +kernel
theorem dX12_image_63 : decode cX12_image 63 = .ok (.getfield 256, 3) := by decide +kernel
theorem dX12_image_66 : decode cX12_image 66 = .ok (.iastore, 1) := by decide +kernel
theorem dX12_image_67 : decode cX12_image 67 = .ok (.iconst 0, 1) := by decide +kernel
theorem dX12_image_68 : decode cX12_image 68 = .ok (.istore_n 2, 1) := by decide +kernel
theorem dX12_image_69 : decode cX12_image 69 = .ok (.iload_n 2, 1) := by decide +kernel
theorem dX12_image_70 : decode cX12_image 70 = .ok (.bipush 15, 2) := by decide +kernel
theorem dX12_image_72 : decode cX12_image 72 = .ok (.if_icmp .ge 26, 3) := by decide +kernel
theorem dX12_image_75 : decode cX12_image 75 = .ok (.aload_n 0, 1) := by decide +kernel
theorem dX12_image_76 : decode cX12_image 76 = .ok (.getfield 119, 3) := by decide +kernel
theorem dX12_image_79 : decode cX12_image 79 = .ok (.bipush 15, 2) := by decide +kernel
theorem dX12_image_81 : decode cX12_image 81 = .ok (.iload_n 1, 1) := by decide +kernel
theorem dX12_image_82 : decode cX12_image 82 = .ok (.imul, 1) := by decide +kernel
theorem dX12_image_83 : decode cX12_image 83 = .ok (.iload_n 2, 1) := by decide +kernel
theorem dX12_image_84 : decode cX12_image 84 = .ok (.iadd, 1) := by decide +kernel
theorem dX12_image_85 : decode cX12_image 85 = .ok (.aload_n 0, 1) := by decide +kernel
theorem dX12_image_86 : decode cX12_image 86 = .ok (.getfield 43, 3) := by decide +kernel
theorem dX12_image_89 : decode cX12_image 89 = .ok (.iload_n 2, 1) := by decide +kernel
theorem dX12_image_90 : decode cX12_image 90 = .ok (.laload, 1) := by decide +kernel
theorem dX12_image_91 : decode cX12_image 91 = .ok (.lastore, 1) := by decide +kernel
theorem dX12_image_92 : decode cX12_image 92 = .ok (.iinc 2 1, 3) := by decide +kernel
theorem dX12_image_95 : decode cX12_image 95 = .ok (.goto (-26), 3) := by decide +kernel
theorem dX12_image_98 : decode cX12_image 98 = .ok (.aload_n 0, 1) := by decide +kernel
theorem dX12_image_99 : decode cX12_image 99 = .ok (.getfield 122, 3) := by decide +kernel
theorem dX12_image_102 : decode cX12_image 102 = .ok (.iload_n 1, 1) := by decide +kernel
theorem dX12_image_103 : decode cX12_image 103 = .ok (.iconst 1, 1) := by decide +kernel
theorem dX12_image_104 : decode cX12_image 104 = .ok (.bastore, 1) := by decide +kernel
theorem dX12_image_105 : decode cX12_image 105 = .ok (.iconst 1, 1) := by decide +kernel
theorem dX12_image_106 : decode cX12_image 106 = .ok (.ireturn, 1) := by decide +kernel
theorem dX12_restore_0 : decode cX12_restore 0 = .ok (.aload_n 0, 1) := by decide +kernel
theorem dX12_restore_1 : decode cX12_restore 1 = .ok (.iconst 0, 1) := by decide +kernel
theorem dX12_restore_2 : decode cX12_restore 2 = .ok (.putfield 1, 3) := by decide +kernel
theorem dX12_restore_5 : decode cX12_restore 5 = .ok (.iload_n 1, 1) := by decide +kernel
theorem dX12_restore_6 : decode cX12_restore 6 = .ok (.iconst 0, 1) := by decide +kernel
theorem dX12_restore_7 : decode cX12_restore 7 = .ok (.iconst 1, 1) := by decide +kernel
theorem dX12_restore_8 : decode cX12_restore 8 = .ok (.invokestatic 202, 3) := by decide +kernel
theorem dX12_restore_11 : decode cX12_restore 11 = .ok (.ifCond .eq 12, 3) := by decide +kernel
theorem dX12_restore_14 : decode cX12_restore 14 = .ok (.aload_n 0, 1) := by decide +kernel
theorem dX12_restore_15 : decode cX12_restore 15 = .ok (.getfield 122, 3) := by decide +kernel
theorem dX12_restore_18 : decode cX12_restore 18 = .ok (.iload_n 1, 1) := by decide +kernel
theorem dX12_restore_19 : decode cX12_restore 19 = .ok (.baload, 1) := by decide +kernel
theorem dX12_restore_20 : decode cX12_restore 20 = .ok (.ifCond .ne 5, 3) := by decide +kernel
theorem dX12_restore_23 : decode cX12_restore 23 = .ok (.iconst 0, 1) := by decide +kernel
theorem dX12_restore_24 : decode cX12_restore 24 = .ok (.ireturn, 1) := by decide +kernel
theorem dX12_restore_25 : decode cX12_restore 25 = .ok (.iconst 0, 1) := by decide +kernel
theorem dX12_restore_26 : decode cX12_restore 26 = .ok (.istore_n 2, 1) := by decide +kernel
theorem dX12_restore_27 : decode cX12_restore 27 = .ok (.iload_n 2, 1) := by decide +kernel
theorem dX12_restore_28 : decode cX12_restore 28 = .ok (.sipush 787, 3) := by decide +kernel
theorem dX12_restore_31 : decode cX12_restore 31 = .ok (.if_icmp .ge 27, 3) := by decide +kernel
theorem dX12_restore_34 : decode cX12_restore 34 = .ok (.aload_n 0, 1) := by decide +kernel
theorem dX12_restore_35 : decode cX12_restore 35 = .ok (.getfield 33, 3) := by decide +kernel
theorem dX12_restore_38 : decode cX12_restore 38 = .ok (.iload_n 2, 1) := by decide +kernel
theorem dX12_restore_39 : decode cX12_restore 39 = .ok (.aload_n 0, 1) := by decide +kernel
theorem dX12_restore_40 : decode cX12_restore 40 = .ok (.getfield 116, 3) := by decide +kernel
theorem dX12_restore_43 : decode cX12_restore 43 = .ok (.sipush 788, 3) := by decide +kernel
theorem dX12_restore_46 : decode cX12_restore 46 = .ok (.iload_n 1, 1) := by decide +kernel
theorem dX12_restore_47 : decode cX12_restore 47 = .ok (.imul, 1) := by decide +kernel
theorem dX12_restore_48 : decode cX12_restore 48 = .ok (.iload_n 2, 1) := by decide +kernel
theorem dX12_restore_49 : decode cX12_restore 49 = .ok (.iadd, 1) := by decide +kernel
theorem dX12_restore_50 : decode cX12_restore 50 = .ok (.iaload, 1) := by decide +kernel
theorem dX12_restore_51 : decode cX12_restore 51 = .ok (.iastore, 1) := by decide +kernel
theorem dX12_restore_52 : decode cX12_restore 52 = .ok (.iinc 2 1, 3) := by decide +kernel
theorem dX12_restore_55 : decode cX12_restore 55 = .ok (.goto (-28), 3) := by decide +kernel
theorem dX12_restore_58 : decode cX12_restore 58 = .ok (.aload_n 0, 1) := by decide +kernel
theorem dX12_restore_59 : decode cX12_restore 59 = .ok (.aload_n 0, 1) := by decide +kernel
theorem dX12_restore_60 : decode cX12_restore 60 = .ok (.getfield 116, 3) := by decide +kernel
theorem dX12_restore_63 : decode cX12_restore 63 = .ok (.sipush 788, 3) := by decide +kernel
theorem dX12_restore_66 : decode cX12_restore 66 = .ok (.iload_n 1, 1) := by decide +kernel
theorem dX12_restore_67 : decode cX12_restore 67 = .ok (.imul, 1) := by decide +kernel
theorem dX12_restore_68 : decode cX12_restore 68 = .ok (.sipush 787, 3) := by decide +kernel
theorem dX12_restore_71 : decode cX12_restore 71 = .ok (.iadd, 1) := by decide +kernel
theorem dX12_restore_72 : decode cX12_restore 72 = .ok (.iaload, 1) := by decide +kernel
theorem dX12_restore_73 : decode cX12_restore 73 = .ok (.putfield 256, 3) := by decide +kernel
theorem dX12_restore_76 : decode cX12_restore 76 = .ok (.iconst 0, 1) := by decide +kernel
theorem dX12_restore_77 : decode cX12_restore 77 = .ok (.istore_n 2, 1) := by decide +kernel
theorem dX12_restore_78 : decode cX12_restore 78 = .ok (.iload_n 2, 1) := by decide +kernel
theorem dX12_restore_79 : decode cX12_restore 79 = .ok (.bipush 15, 2) := by decide +kernel
theorem dX12_restore_81 : decode cX12_restore 81 = .ok (.if_icmp .ge 26, 3) := by decide +kernel
theorem dX12_restore_84 : decode cX12_restore 84 = .ok (.aload_n 0, 1) := by decide +kernel
theorem dX12_restore_85 : decode cX12_restore 85 = .ok (.getfield 43, 3) := by decide +kernel
theorem dX12_restore_88 : decode cX12_restore 88 = .ok (.iload_n 2, 1) := by decide +kernel
theorem dX12_restore_89 : decode cX12_restore 89 = .ok (.aload_n 0, 1) := by decide +kernel
theorem dX12_restore_90 : decode cX12_restore 90 = .ok (.getfield 119, 3) := by decide +kernel
theorem dX12_restore_93 : decode cX12_restore 93 = .ok (.bipush 15, 2) := by decide +kernel
theorem dX12_restore_95 : decode cX12_restore 95 = .ok (.iload_n 1, 1) := by decide +kernel
theorem dX12_restore_96 : decode cX12_restore 96 = .ok (.imul, 1) := by decide +kernel
theorem dX12_restore_97 : decode cX12_restore 97 = .ok (.iload_n 2, 1) := by decide +kernel
theorem dX12_restore_98 : decode cX12_restore 98 = .ok (.iadd, 1) := by decide +kernel
theorem dX12_restore_99 : decode cX12_restore 99 = .ok (.laload, 1) := by decide +kernel
theorem dX12_restore_100 : decode cX12_restore 100 = .ok (.lastore, 1) := by decide +kernel
theorem dX12_restore_101 : decode cX12_restore 101 = .ok (.iinc 2 1, 3) := by decide +kernel
theorem dX12_restore_104 : decode cX12_restore 104 = .ok (.goto (-26), 3) := by decide +kernel
theorem dX12_restore_107 : decode cX12_restore 107 = .ok (.aload_n 0, 1) := by decide +kernel
theorem dX12_restore_108 : decode cX12_restore 108 = .ok (.iconst 0, 1) := by decide +kernel
theorem dX12_restore_109 : decode cX12_restore 109 = .ok (.putfield 250, 3) := by decide +kernel
theorem dX12_restore_112 : decode cX12_restore 112 = .ok (.iconst 1, 1) := by decide +kernel
theorem dX12_restore_113 : decode cX12_restore 113 = .ok (.ireturn, 1) := by decide +kernel
theorem dX12_count_0 : decode cX12_count 0 = .ok (.aload_n 0, 1) := by decide +kernel
theorem dX12_count_1 : decode cX12_count 1 = .ok (.iconst 0, 1) := by decide +kernel
theorem dX12_count_2 : decode cX12_count 2 = .ok (.putfield 1, 3) := by decide +kernel
theorem dX12_count_5 : decode cX12_count 5 = .ok (.iload_n 1, 1) := by decide +kernel
theorem dX12_count_6 : decode cX12_count 6 = .ok (.tableswitch 69 4 8 #[34, 42, 47, 55, 64], 34) := by decide +kernel
theorem dX12_count_40 : decode cX12_count 40 = .ok (.aload_n 0, 1) := by decide +kernel
theorem dX12_count_41 : decode cX12_count 41 = .ok (.getfield 33, 3) := by decide +kernel
theorem dX12_count_44 : decode cX12_count 44 = .ok (.bipush 34, 2) := by decide +kernel
theorem dX12_count_46 : decode cX12_count 46 = .ok (.iaload, 1) := by decide +kernel
theorem dX12_count_47 : decode cX12_count 47 = .ok (.ireturn, 1) := by decide +kernel
theorem dX12_count_48 : decode cX12_count 48 = .ok (.aload_n 0, 1) := by decide +kernel
theorem dX12_count_49 : decode cX12_count 49 = .ok (.invokevirtual 410, 3) := by decide +kernel
theorem dX12_count_52 : decode cX12_count 52 = .ok (.ireturn, 1) := by decide +kernel
theorem dX12_count_53 : decode cX12_count 53 = .ok (.aload_n 0, 1) := by decide +kernel
theorem dX12_count_54 : decode cX12_count 54 = .ok (.getfield 33, 3) := by decide +kernel
theorem dX12_count_57 : decode cX12_count 57 = .ok (.bipush 35, 2) := by decide +kernel
theorem dX12_count_59 : decode cX12_count 59 = .ok (.iaload, 1) := by decide +kernel
theorem dX12_count_60 : decode cX12_count 60 = .ok (.ireturn, 1) := by decide +kernel
theorem dX12_count_61 : decode cX12_count 61 = .ok (.aload_n 0, 1) := by decide +kernel
theorem dX12_count_62 : decode cX12_count 62 = .ok (.getfield 33, 3) := by decide +kernel
theorem dX12_count_65 : decode cX12_count 65 = .ok (.sipush 586, 3) := by decide +kernel
theorem dX12_count_68 : decode cX12_count 68 = .ok (.iaload, 1) := by decide +kernel
theorem dX12_count_69 : decode cX12_count 69 = .ok (.ireturn, 1) := by decide +kernel
theorem dX12_count_70 : decode cX12_count 70 = .ok (.aload_n 0, 1) := by decide +kernel
theorem dX12_count_71 : decode cX12_count 71 = .ok (.getfield 7, 3) := by decide +kernel
theorem dX12_count_74 : decode cX12_count 74 = .ok (.ireturn, 1) := by decide +kernel
theorem dX12_count_75 : decode cX12_count 75 = .ok (.iload_n 1, 1) := by decide +kernel
theorem dX12_count_76 : decode cX12_count 76 = .ok (.iconst 0, 1) := by decide +kernel
theorem dX12_count_77 : decode cX12_count 77 = .ok (.iconst 3, 1) := by decide +kernel
theorem dX12_count_78 : decode cX12_count 78 = .ok (.invokestatic 202, 3) := by decide +kernel
theorem dX12_count_81 : decode cX12_count 81 = .ok (.ifCond .eq 12, 3) := by decide +kernel
theorem dX12_count_84 : decode cX12_count 84 = .ok (.aload_n 0, 1) := by decide +kernel
theorem dX12_count_85 : decode cX12_count 85 = .ok (.getfield 33, 3) := by decide +kernel
theorem dX12_count_88 : decode cX12_count 88 = .ok (.iload_n 1, 1) := by decide +kernel
theorem dX12_count_89 : decode cX12_count 89 = .ok (.iaload, 1) := by decide +kernel
theorem dX12_count_90 : decode cX12_count 90 = .ok (.goto 4, 3) := by decide +kernel
theorem dX12_count_93 : decode cX12_count 93 = .ok (.iconst (-1), 1) := by decide +kernel
theorem dX12_count_94 : decode cX12_count 94 = .ok (.ireturn, 1) := by decide +kernel
theorem dJ6_bitCount_0f7a4_0 : decode cJ6_bitCount_0f7a4 0 = .ok (.iload_n 0, 1) := by decide +kernel
theorem dJ6_bitCount_0f7a4_1 : decode cJ6_bitCount_0f7a4 1 = .ok (.iload_n 0, 1) := by decide +kernel
theorem dJ6_bitCount_0f7a4_2 : decode cJ6_bitCount_0f7a4 2 = .ok (.iconst 1, 1) := by decide +kernel
theorem dJ6_bitCount_0f7a4_3 : decode cJ6_bitCount_0f7a4 3 = .ok (.iushr, 1) := by decide +kernel
theorem dJ6_bitCount_0f7a4_4 : decode cJ6_bitCount_0f7a4 4 = .ok (.ldc_w 265, 3) := by decide +kernel
theorem dJ6_bitCount_0f7a4_7 : decode cJ6_bitCount_0f7a4 7 = .ok (.iand, 1) := by decide +kernel
theorem dJ6_bitCount_0f7a4_8 : decode cJ6_bitCount_0f7a4 8 = .ok (.isub, 1) := by decide +kernel
theorem dJ6_bitCount_0f7a4_9 : decode cJ6_bitCount_0f7a4 9 = .ok (.istore_n 0, 1) := by decide +kernel
theorem dJ6_bitCount_0f7a4_10 : decode cJ6_bitCount_0f7a4 10 = .ok (.iload_n 0, 1) := by decide +kernel
theorem dJ6_bitCount_0f7a4_11 : decode cJ6_bitCount_0f7a4 11 = .ok (.ldc_w 266, 3) := by decide +kernel
theorem dJ6_bitCount_0f7a4_14 : decode cJ6_bitCount_0f7a4 14 = .ok (.iand, 1) := by decide +kernel
theorem dJ6_bitCount_0f7a4_15 : decode cJ6_bitCount_0f7a4 15 = .ok (.iload_n 0, 1) := by decide +kernel
theorem dJ6_bitCount_0f7a4_16 : decode cJ6_bitCount_0f7a4 16 = .ok (.iconst 2, 1) := by decide +kernel
theorem dJ6_bitCount_0f7a4_17 : decode cJ6_bitCount_0f7a4 17 = .ok (.iushr, 1) := by decide +kernel
theorem dJ6_bitCount_0f7a4_18 : decode cJ6_bitCount_0f7a4 18 = .ok (.ldc_w 266, 3) := by decide +kernel
theorem dJ6_bitCount_0f7a4_21 : decode cJ6_bitCount_0f7a4 21 = .ok (.iand, 1) := by decide +kernel
theorem dJ6_bitCount_0f7a4_22 : decode cJ6_bitCount_0f7a4 22 = .ok (.iadd, 1) := by decide +kernel
theorem dJ6_bitCount_0f7a4_23 : decode cJ6_bitCount_0f7a4 23 = .ok (.istore_n 0, 1) := by decide +kernel
theorem dJ6_bitCount_0f7a4_24 : decode cJ6_bitCount_0f7a4 24 = .ok (.iload_n 0, 1) := by decide +kernel
theorem dJ6_bitCount_0f7a4_25 : decode cJ6_bitCount_0f7a4 25 = .ok (.iload_n 0, 1) := by decide +kernel
theorem dJ6_bitCount_0f7a4_26 : decode cJ6_bitCount_0f7a4 26 = .ok (.iconst 4, 1) := by decide +kernel
theorem dJ6_bitCount_0f7a4_27 : decode cJ6_bitCount_0f7a4 27 = .ok (.iushr, 1) := by decide +kernel
theorem dJ6_bitCount_0f7a4_28 : decode cJ6_bitCount_0f7a4 28 = .ok (.iadd, 1) := by decide +kernel
theorem dJ6_bitCount_0f7a4_29 : decode cJ6_bitCount_0f7a4 29 = .ok (.ldc_w 267, 3) := by decide +kernel
theorem dJ6_bitCount_0f7a4_32 : decode cJ6_bitCount_0f7a4 32 = .ok (.iand, 1) := by decide +kernel
theorem dJ6_bitCount_0f7a4_33 : decode cJ6_bitCount_0f7a4 33 = .ok (.istore_n 0, 1) := by decide +kernel
theorem dJ6_bitCount_0f7a4_34 : decode cJ6_bitCount_0f7a4 34 = .ok (.iload_n 0, 1) := by decide +kernel
theorem dJ6_bitCount_0f7a4_35 : decode cJ6_bitCount_0f7a4 35 = .ok (.iload_n 0, 1) := by decide +kernel
theorem dJ6_bitCount_0f7a4_36 : decode cJ6_bitCount_0f7a4 36 = .ok (.bipush 8, 2) := by decide +kernel
theorem dJ6_bitCount_0f7a4_38 : decode cJ6_bitCount_0f7a4 38 = .ok (.iushr, 1) := by decide +kernel
theorem dJ6_bitCount_0f7a4_39 : decode cJ6_bitCount_0f7a4 39 = .ok (.iadd, 1) := by decide +kernel
theorem dJ6_bitCount_0f7a4_40 : decode cJ6_bitCount_0f7a4 40 = .ok (.istore_n 0, 1) := by decide +kernel
theorem dJ6_bitCount_0f7a4_41 : decode cJ6_bitCount_0f7a4 41 = .ok (.iload_n 0, 1) := by decide +kernel
theorem dJ6_bitCount_0f7a4_42 : decode cJ6_bitCount_0f7a4 42 = .ok (.iload_n 0, 1) := by decide +kernel
theorem dJ6_bitCount_0f7a4_43 : decode cJ6_bitCount_0f7a4 43 = .ok (.bipush 16, 2) := by decide +kernel
theorem dJ6_bitCount_0f7a4_45 : decode cJ6_bitCount_0f7a4 45 = .ok (.iushr, 1) := by decide +kernel
theorem dJ6_bitCount_0f7a4_46 : decode cJ6_bitCount_0f7a4 46 = .ok (.iadd, 1) := by decide +kernel
theorem dJ6_bitCount_0f7a4_47 : decode cJ6_bitCount_0f7a4 47 = .ok (.istore_n 0, 1) := by decide +kernel
theorem dJ6_bitCount_0f7a4_48 : decode cJ6_bitCount_0f7a4 48 = .ok (.iload_n 0, 1) := by decide +kernel
theorem dJ6_bitCount_0f7a4_49 : decode cJ6_bitCount_0f7a4 49 = .ok (.bipush 63, 2) := by decide +kernel
theorem dJ6_bitCount_0f7a4_51 : decode cJ6_bitCount_0f7a4 51 = .ok (.iand, 1) := by decide +kernel
theorem dJ6_bitCount_0f7a4_52 : decode cJ6_bitCount_0f7a4 52 = .ok (.ireturn, 1) := by decide +kernel
theorem dJ9_max_7cf53_0 : decode cJ9_max_7cf53 0 = .ok (.iload_n 0, 1) := by decide +kernel
theorem dJ9_max_7cf53_1 : decode cJ9_max_7cf53 1 = .ok (.iload_n 1, 1) := by decide +kernel
theorem dJ9_max_7cf53_2 : decode cJ9_max_7cf53 2 = .ok (.if_icmp .lt 7, 3) := by decide +kernel
theorem dJ9_max_7cf53_5 : decode cJ9_max_7cf53 5 = .ok (.iload_n 0, 1) := by decide +kernel
theorem dJ9_max_7cf53_6 : decode cJ9_max_7cf53 6 = .ok (.goto 4, 3) := by decide +kernel
theorem dJ9_max_7cf53_9 : decode cJ9_max_7cf53 9 = .ok (.iload_n 1, 1) := by decide +kernel
theorem dJ9_max_7cf53_10 : decode cJ9_max_7cf53 10 = .ok (.ireturn, 1) := by decide +kernel
theorem dJ9_min_7cf53_0 : decode cJ9_min_7cf53 0 = .ok (.iload_n 0, 1) := by decide +kernel
theorem dJ9_min_7cf53_1 : decode cJ9_min_7cf53 1 = .ok (.iload_n 1, 1) := by decide +kernel
theorem dJ9_min_7cf53_2 : decode cJ9_min_7cf53 2 = .ok (.if_icmp .gt 7, 3) := by decide +kernel
theorem dJ9_min_7cf53_5 : decode cJ9_min_7cf53 5 = .ok (.iload_n 0, 1) := by decide +kernel
theorem dJ9_min_7cf53_6 : decode cJ9_min_7cf53 6 = .ok (.goto 4, 3) := by decide +kernel
theorem dJ9_min_7cf53_9 : decode cJ9_min_7cf53 9 = .ok (.iload_n 1, 1) := by decide +kernel
theorem dJ9_min_7cf53_10 : decode cJ9_min_7cf53 10 = .ok (.ireturn, 1) := by decide +kernel
theorem dL_body_0 : decode cL_body 0 = .ok (.aload_n 3, 1) := by decide +kernel
theorem dL_body_1 : decode cL_body 1 = .ok (.iconst 0, 1) := by decide +kernel
theorem dL_body_2 : decode cL_body 2 = .ok (.aload_n 0, 1) := by decide +kernel
theorem dL_body_3 : decode cL_body 3 = .ok (.iload_n 1, 1) := by decide +kernel
theorem dL_body_4 : decode cL_body 4 = .ok (.iload_n 2, 1) := by decide +kernel
theorem dL_body_5 : decode cL_body 5 = .ok (.invokevirtual 7, 3) := by decide +kernel
theorem dL_body_8 : decode cL_body 8 = .ok (.i2l, 1) := by decide +kernel
theorem dL_body_9 : decode cL_body 9 = .ok (.lastore, 1) := by decide +kernel
theorem dL_body_10 : decode cL_body 10 = .ok (.goto 7, 3) := by decide +kernel
theorem dL_body_13 : decode cL_body 13 = .ok (.astore 4, 2) := by decide +kernel
theorem dL_body_15 : decode cL_body 15 = .ok (.iconst 1, 1) := by decide +kernel
theorem dL_body_16 : decode cL_body 16 = .ok (.ireturn, 1) := by decide +kernel
theorem dL_body_17 : decode cL_body 17 = .ok (.iconst 0, 1) := by decide +kernel
theorem dL_body_18 : decode cL_body 18 = .ok (.ireturn, 1) := by decide +kernel
theorem dL_kind_0 : decode cL_kind 0 = .ok (.aload_n 3, 1) := by decide +kernel
theorem dL_kind_1 : decode cL_kind 1 = .ok (.iconst 0, 1) := by decide +kernel
theorem dL_kind_2 : decode cL_kind 2 = .ok (.aload_n 0, 1) := by decide +kernel
theorem dL_kind_3 : decode cL_kind 3 = .ok (.iload_n 1, 1) := by decide +kernel
theorem dL_kind_4 : decode cL_kind 4 = .ok (.iload_n 2, 1) := by decide +kernel
theorem dL_kind_5 : decode cL_kind 5 = .ok (.invokevirtual 15, 3) := by decide +kernel
theorem dL_kind_8 : decode cL_kind 8 = .ok (.i2l, 1) := by decide +kernel
theorem dL_kind_9 : decode cL_kind 9 = .ok (.lastore, 1) := by decide +kernel
theorem dL_kind_10 : decode cL_kind 10 = .ok (.goto 7, 3) := by decide +kernel
theorem dL_kind_13 : decode cL_kind 13 = .ok (.astore 4, 2) := by decide +kernel
theorem dL_kind_15 : decode cL_kind 15 = .ok (.iconst 1, 1) := by decide +kernel
theorem dL_kind_16 : decode cL_kind 16 = .ok (.ireturn, 1) := by decide +kernel
theorem dL_kind_17 : decode cL_kind 17 = .ok (.iconst 0, 1) := by decide +kernel
theorem dL_kind_18 : decode cL_kind 18 = .ok (.ireturn, 1) := by decide +kernel
theorem dL_deal_0 : decode cL_deal 0 = .ok (.aload_n 3, 1) := by decide +kernel
theorem dL_deal_1 : decode cL_deal 1 = .ok (.iconst 0, 1) := by decide +kernel
theorem dL_deal_2 : decode cL_deal 2 = .ok (.aload_n 0, 1) := by decide +kernel
theorem dL_deal_3 : decode cL_deal 3 = .ok (.iload_n 1, 1) := by decide +kernel
theorem dL_deal_4 : decode cL_deal 4 = .ok (.iload_n 2, 1) := by decide +kernel
theorem dL_deal_5 : decode cL_deal 5 = .ok (.invokevirtual 18, 3) := by decide +kernel
theorem dL_deal_8 : decode cL_deal 8 = .ok (.i2l, 1) := by decide +kernel
theorem dL_deal_9 : decode cL_deal 9 = .ok (.lastore, 1) := by decide +kernel
theorem dL_deal_10 : decode cL_deal 10 = .ok (.goto 7, 3) := by decide +kernel
theorem dL_deal_13 : decode cL_deal 13 = .ok (.astore 4, 2) := by decide +kernel
theorem dL_deal_15 : decode cL_deal 15 = .ok (.iconst 1, 1) := by decide +kernel
theorem dL_deal_16 : decode cL_deal 16 = .ok (.ireturn, 1) := by decide +kernel
theorem dL_deal_17 : decode cL_deal 17 = .ok (.iconst 0, 1) := by decide +kernel
theorem dL_deal_18 : decode cL_deal 18 = .ok (.ireturn, 1) := by decide +kernel
theorem dL_law_0 : decode cL_law 0 = .ok (.new 8, 3) := by decide +kernel
theorem dL_law_3 : decode cL_law 3 = .ok (.dup, 1) := by decide +kernel
theorem dL_law_4 : decode cL_law 4 = .ok (.invokespecial 21, 3) := by decide +kernel
theorem dL_law_7 : decode cL_law 7 = .ok (.astore_n 1, 1) := by decide +kernel
theorem dL_law_8 : decode cL_law 8 = .ok (.new 22, 3) := by decide +kernel
theorem dL_law_11 : decode cL_law 11 = .ok (.dup, 1) := by decide +kernel
theorem dL_law_12 : decode cL_law 12 = .ok (.invokespecial 24, 3) := by decide +kernel
theorem dL_law_15 : decode cL_law 15 = .ok (.astore_n 2, 1) := by decide +kernel
theorem dL_law_16 : decode cL_law 16 = .ok (.iconst 1, 1) := by decide +kernel
theorem dL_law_17 : decode cL_law 17 = .ok (.newarray .long, 2) := by decide +kernel
theorem dL_law_19 : decode cL_law 19 = .ok (.astore_n 3, 1) := by decide +kernel
theorem dL_law_20 : decode cL_law 20 = .ok (.iconst 0, 1) := by decide +kernel
theorem dL_law_21 : decode cL_law 21 = .ok (.istore 4, 2) := by decide +kernel
theorem dL_law_23 : decode cL_law 23 = .ok (.iload 4, 2) := by decide +kernel
theorem dL_law_25 : decode cL_law 25 = .ok (.aload_n 0, 1) := by decide +kernel
theorem dL_law_26 : decode cL_law 26 = .ok (.arraylength, 1) := by decide +kernel
theorem dL_law_27 : decode cL_law 27 = .ok (.bipush 6, 2) := by decide +kernel
theorem dL_law_29 : decode cL_law 29 = .ok (.isub, 1) := by decide +kernel
theorem dL_law_30 : decode cL_law 30 = .ok (.if_icmp .gt 1716, 3) := by decide +kernel
theorem dL_law_33 : decode cL_law 33 = .ok (.aload_n 0, 1) := by decide +kernel
theorem dL_law_34 : decode cL_law 34 = .ok (.iload 4, 2) := by decide +kernel
theorem dL_law_36 : decode cL_law 36 = .ok (.iaload, 1) := by decide +kernel
theorem dL_law_37 : decode cL_law 37 = .ok (.bipush 63, 2) := by decide +kernel
theorem dL_law_39 : decode cL_law 39 = .ok (.iand, 1) := by decide +kernel
theorem dL_law_40 : decode cL_law 40 = .ok (.tableswitch 1700 0 46 #[204, 277, 302, 315, 328, 396, 464, 532, 569, 606, 667, 692, 729, 742, 767, 792, 805, 842, 855, 868, 905, 954, 991, 1028, 1065, 1090, 1127, 1140, 1165, 1190, 1239, 1264, 1277, 1302, 1327, 1340, 1365, 1402, 1427, 1452, 1489, 1538, 1563, 1588, 1625, 1650, 1675], 204) := by decide +kernel
theorem dL_law_244 : decode cL_law 244 = .ok (.aload_n 1, 1) := by decide +kernel
theorem dL_law_245 : decode cL_law 245 = .ok (.aload_n 0, 1) := by decide +kernel
theorem dL_law_246 : decode cL_law 246 = .ok (.iload 4, 2) := by decide +kernel
theorem dL_law_248 : decode cL_law 248 = .ok (.iconst 1, 1) := by decide +kernel
theorem dL_law_249 : decode cL_law 249 = .ok (.iadd, 1) := by decide +kernel
theorem dL_law_250 : decode cL_law 250 = .ok (.iaload, 1) := by decide +kernel
theorem dL_law_251 : decode cL_law 251 = .ok (.aload_n 0, 1) := by decide +kernel
theorem dL_law_252 : decode cL_law 252 = .ok (.iload 4, 2) := by decide +kernel
theorem dL_law_254 : decode cL_law 254 = .ok (.iconst 2, 1) := by decide +kernel
theorem dL_law_255 : decode cL_law 255 = .ok (.iadd, 1) := by decide +kernel
theorem dL_law_256 : decode cL_law 256 = .ok (.iaload, 1) := by decide +kernel
theorem dL_law_257 : decode cL_law 257 = .ok (.aload_n 0, 1) := by decide +kernel
theorem dL_law_258 : decode cL_law 258 = .ok (.iload 4, 2) := by decide +kernel
theorem dL_law_260 : decode cL_law 260 = .ok (.iconst 3, 1) := by decide +kernel
theorem dL_law_261 : decode cL_law 261 = .ok (.iadd, 1) := by decide +kernel
theorem dL_law_262 : decode cL_law 262 = .ok (.iaload, 1) := by decide +kernel
theorem dL_law_263 : decode cL_law 263 = .ok (.aload_n 0, 1) := by decide +kernel
theorem dL_law_264 : decode cL_law 264 = .ok (.iload 4, 2) := by decide +kernel
theorem dL_law_266 : decode cL_law 266 = .ok (.iconst 4, 1) := by decide +kernel
theorem dL_law_267 : decode cL_law 267 = .ok (.iadd, 1) := by decide +kernel
theorem dL_law_268 : decode cL_law 268 = .ok (.iaload, 1) := by decide +kernel
theorem dL_law_269 : decode cL_law 269 = .ok (.aload_n 0, 1) := by decide +kernel
theorem dL_law_270 : decode cL_law 270 = .ok (.iload 4, 2) := by decide +kernel
theorem dL_law_272 : decode cL_law 272 = .ok (.iconst 5, 1) := by decide +kernel
theorem dL_law_273 : decode cL_law 273 = .ok (.iadd, 1) := by decide +kernel
theorem dL_law_274 : decode cL_law 274 = .ok (.iaload, 1) := by decide +kernel
theorem dL_law_275 : decode cL_law 275 = .ok (.invokevirtual 25, 3) := by decide +kernel
theorem dL_law_278 : decode cL_law 278 = .ok (.aload_n 2, 1) := by decide +kernel
theorem dL_law_279 : decode cL_law 279 = .ok (.aload_n 0, 1) := by decide +kernel
theorem dL_law_280 : decode cL_law 280 = .ok (.iload 4, 2) := by decide +kernel
theorem dL_law_282 : decode cL_law 282 = .ok (.iconst 1, 1) := by decide +kernel
theorem dL_law_283 : decode cL_law 283 = .ok (.iadd, 1) := by decide +kernel
theorem dL_law_284 : decode cL_law 284 = .ok (.iaload, 1) := by decide +kernel
theorem dL_law_285 : decode cL_law 285 = .ok (.aload_n 0, 1) := by decide +kernel
theorem dL_law_286 : decode cL_law 286 = .ok (.iload 4, 2) := by decide +kernel
theorem dL_law_288 : decode cL_law 288 = .ok (.iconst 2, 1) := by decide +kernel
theorem dL_law_289 : decode cL_law 289 = .ok (.iadd, 1) := by decide +kernel
theorem dL_law_290 : decode cL_law 290 = .ok (.iaload, 1) := by decide +kernel
theorem dL_law_291 : decode cL_law 291 = .ok (.aload_n 0, 1) := by decide +kernel
theorem dL_law_292 : decode cL_law 292 = .ok (.iload 4, 2) := by decide +kernel
theorem dL_law_294 : decode cL_law 294 = .ok (.iconst 3, 1) := by decide +kernel
theorem dL_law_295 : decode cL_law 295 = .ok (.iadd, 1) := by decide +kernel
theorem dL_law_296 : decode cL_law 296 = .ok (.iaload, 1) := by decide +kernel
theorem dL_law_297 : decode cL_law 297 = .ok (.aload_n 0, 1) := by decide +kernel
theorem dL_law_298 : decode cL_law 298 = .ok (.iload 4, 2) := by decide +kernel
theorem dL_law_300 : decode cL_law 300 = .ok (.iconst 4, 1) := by decide +kernel
theorem dL_law_301 : decode cL_law 301 = .ok (.iadd, 1) := by decide +kernel
theorem dL_law_302 : decode cL_law 302 = .ok (.iaload, 1) := by decide +kernel
theorem dL_law_303 : decode cL_law 303 = .ok (.aload_n 0, 1) := by decide +kernel
theorem dL_law_304 : decode cL_law 304 = .ok (.iload 4, 2) := by decide +kernel
theorem dL_law_306 : decode cL_law 306 = .ok (.iconst 5, 1) := by decide +kernel
theorem dL_law_307 : decode cL_law 307 = .ok (.iadd, 1) := by decide +kernel
theorem dL_law_308 : decode cL_law 308 = .ok (.iaload, 1) := by decide +kernel
theorem dL_law_309 : decode cL_law 309 = .ok (.invokevirtual 29, 3) := by decide +kernel
theorem dL_law_312 : decode cL_law 312 = .ok (.if_icmp .eq 1428, 3) := by decide +kernel
theorem dL_law_315 : decode cL_law 315 = .ok (.iconst 0, 1) := by decide +kernel
theorem dL_law_316 : decode cL_law 316 = .ok (.ireturn, 1) := by decide +kernel
theorem dL_law_317 : decode cL_law 317 = .ok (.aload_n 1, 1) := by decide +kernel
theorem dL_law_318 : decode cL_law 318 = .ok (.aload_n 0, 1) := by decide +kernel
theorem dL_law_319 : decode cL_law 319 = .ok (.iload 4, 2) := by decide +kernel
theorem dL_law_321 : decode cL_law 321 = .ok (.iconst 1, 1) := by decide +kernel
theorem dL_law_322 : decode cL_law 322 = .ok (.iadd, 1) := by decide +kernel
theorem dL_law_323 : decode cL_law 323 = .ok (.iaload, 1) := by decide +kernel
theorem dL_law_324 : decode cL_law 324 = .ok (.invokevirtual 30, 3) := by decide +kernel
theorem dL_law_327 : decode cL_law 327 = .ok (.aload_n 2, 1) := by decide +kernel
theorem dL_law_328 : decode cL_law 328 = .ok (.aload_n 0, 1) := by decide +kernel
theorem dL_law_329 : decode cL_law 329 = .ok (.iload 4, 2) := by decide +kernel
theorem dL_law_331 : decode cL_law 331 = .ok (.iconst 1, 1) := by decide +kernel
theorem dL_law_332 : decode cL_law 332 = .ok (.iadd, 1) := by decide +kernel
theorem dL_law_333 : decode cL_law 333 = .ok (.iaload, 1) := by decide +kernel
theorem dL_law_334 : decode cL_law 334 = .ok (.invokevirtual 34, 3) := by decide +kernel
theorem dL_law_337 : decode cL_law 337 = .ok (.if_icmp .eq 1403, 3) := by decide +kernel
theorem dL_law_340 : decode cL_law 340 = .ok (.iconst 0, 1) := by decide +kernel
theorem dL_law_341 : decode cL_law 341 = .ok (.ireturn, 1) := by decide +kernel
theorem dL_law_342 : decode cL_law 342 = .ok (.aload_n 1, 1) := by decide +kernel
theorem dL_law_343 : decode cL_law 343 = .ok (.invokevirtual 35, 3) := by decide +kernel
theorem dL_law_346 : decode cL_law 346 = .ok (.aload_n 2, 1) := by decide +kernel
theorem dL_law_347 : decode cL_law 347 = .ok (.invokevirtual 39, 3) := by decide +kernel
theorem dL_law_350 : decode cL_law 350 = .ok (.if_icmp .eq 1390, 3) := by decide +kernel
theorem dL_law_353 : decode cL_law 353 = .ok (.iconst 0, 1) := by decide +kernel
theorem dL_law_354 : decode cL_law 354 = .ok (.ireturn, 1) := by decide +kernel
theorem dL_law_355 : decode cL_law 355 = .ok (.aload_n 1, 1) := by decide +kernel
theorem dL_law_356 : decode cL_law 356 = .ok (.invokevirtual 40, 3) := by decide +kernel
theorem dL_law_359 : decode cL_law 359 = .ok (.aload_n 2, 1) := by decide +kernel
theorem dL_law_360 : decode cL_law 360 = .ok (.invokevirtual 43, 3) := by decide +kernel
theorem dL_law_363 : decode cL_law 363 = .ok (.if_icmp .eq 1377, 3) := by decide +kernel
theorem dL_law_366 : decode cL_law 366 = .ok (.iconst 0, 1) := by decide +kernel
theorem dL_law_367 : decode cL_law 367 = .ok (.ireturn, 1) := by decide +kernel
theorem dL_law_368 : decode cL_law 368 = .ok (.aload_n 1, 1) := by decide +kernel
theorem dL_law_369 : decode cL_law 369 = .ok (.aload_n 0, 1) := by decide +kernel
theorem dL_law_370 : decode cL_law 370 = .ok (.iload 4, 2) := by decide +kernel
theorem dL_law_372 : decode cL_law 372 = .ok (.iconst 1, 1) := by decide +kernel
theorem dL_law_373 : decode cL_law 373 = .ok (.iadd, 1) := by decide +kernel
theorem dL_law_374 : decode cL_law 374 = .ok (.iaload, 1) := by decide +kernel
theorem dL_law_375 : decode cL_law 375 = .ok (.aload_n 0, 1) := by decide +kernel
theorem dL_law_376 : decode cL_law 376 = .ok (.iload 4, 2) := by decide +kernel
theorem dL_law_378 : decode cL_law 378 = .ok (.iconst 2, 1) := by decide +kernel
theorem dL_law_379 : decode cL_law 379 = .ok (.iadd, 1) := by decide +kernel
theorem dL_law_380 : decode cL_law 380 = .ok (.iaload, 1) := by decide +kernel
theorem dL_law_381 : decode cL_law 381 = .ok (.aload_n 3, 1) := by decide +kernel
theorem dL_law_382 : decode cL_law 382 = .ok (.invokestatic 44, 3) := by decide +kernel
theorem dL_law_385 : decode cL_law 385 = .ok (.istore 5, 2) := by decide +kernel
theorem dL_law_387 : decode cL_law 387 = .ok (.aload_n 2, 1) := by decide +kernel
theorem dL_law_388 : decode cL_law 388 = .ok (.aload_n 0, 1) := by decide +kernel
theorem dL_law_389 : decode cL_law 389 = .ok (.iload 4, 2) := by decide +kernel
theorem dL_law_391 : decode cL_law 391 = .ok (.iconst 1, 1) := by decide +kernel
theorem dL_law_392 : decode cL_law 392 = .ok (.iadd, 1) := by decide +kernel
theorem dL_law_393 : decode cL_law 393 = .ok (.iaload, 1) := by decide +kernel
theorem dL_law_394 : decode cL_law 394 = .ok (.aload_n 0, 1) := by decide +kernel
theorem dL_law_395 : decode cL_law 395 = .ok (.iload 4, 2) := by decide +kernel
theorem dL_law_397 : decode cL_law 397 = .ok (.iconst 2, 1) := by decide +kernel
theorem dL_law_398 : decode cL_law 398 = .ok (.iadd, 1) := by decide +kernel
theorem dL_law_399 : decode cL_law 399 = .ok (.iaload, 1) := by decide +kernel
theorem dL_law_400 : decode cL_law 400 = .ok (.invokevirtual 49, 3) := by decide +kernel
theorem dL_law_403 : decode cL_law 403 = .ok (.istore 6, 2) := by decide +kernel
theorem dL_law_405 : decode cL_law 405 = .ok (.aload_n 2, 1) := by decide +kernel
theorem dL_law_406 : decode cL_law 406 = .ok (.invokevirtual 50, 3) := by decide +kernel
theorem dL_law_409 : decode cL_law 409 = .ok (.iload 5, 2) := by decide +kernel
theorem dL_law_411 : decode cL_law 411 = .ok (.if_icmp .eq 5, 3) := by decide +kernel
theorem dL_law_414 : decode cL_law 414 = .ok (.iconst 0, 1) := by decide +kernel
theorem dL_law_415 : decode cL_law 415 = .ok (.ireturn, 1) := by decide +kernel
theorem dL_law_416 : decode cL_law 416 = .ok (.iload 5, 2) := by decide +kernel
theorem dL_law_418 : decode cL_law 418 = .ok (.ifCond .ne 15, 3) := by decide +kernel
theorem dL_law_421 : decode cL_law 421 = .ok (.aload_n 3, 1) := by decide +kernel
theorem dL_law_422 : decode cL_law 422 = .ok (.iconst 0, 1) := by decide +kernel
theorem dL_law_423 : decode cL_law 423 = .ok (.laload, 1) := by decide +kernel
theorem dL_law_424 : decode cL_law 424 = .ok (.iload 6, 2) := by decide +kernel
theorem dL_law_426 : decode cL_law 426 = .ok (.i2l, 1) := by decide +kernel
theorem dL_law_427 : decode cL_law 427 = .ok (.lcmp, 1) := by decide +kernel
theorem dL_law_428 : decode cL_law 428 = .ok (.ifCond .eq 5, 3) := by decide +kernel
theorem dL_law_431 : decode cL_law 431 = .ok (.iconst 0, 1) := by decide +kernel
theorem dL_law_432 : decode cL_law 432 = .ok (.ireturn, 1) := by decide +kernel
theorem dL_law_433 : decode cL_law 433 = .ok (.goto 1307, 3) := by decide +kernel
theorem dL_law_436 : decode cL_law 436 = .ok (.aload_n 1, 1) := by decide +kernel
theorem dL_law_437 : decode cL_law 437 = .ok (.aload_n 0, 1) := by decide +kernel
theorem dL_law_438 : decode cL_law 438 = .ok (.iload 4, 2) := by decide +kernel
theorem dL_law_440 : decode cL_law 440 = .ok (.iconst 1, 1) := by decide +kernel
theorem dL_law_441 : decode cL_law 441 = .ok (.iadd, 1) := by decide +kernel
theorem dL_law_442 : decode cL_law 442 = .ok (.iaload, 1) := by decide +kernel
theorem dL_law_443 : decode cL_law 443 = .ok (.aload_n 0, 1) := by decide +kernel
theorem dL_law_444 : decode cL_law 444 = .ok (.iload 4, 2) := by decide +kernel
theorem dL_law_446 : decode cL_law 446 = .ok (.iconst 2, 1) := by decide +kernel
theorem dL_law_447 : decode cL_law 447 = .ok (.iadd, 1) := by decide +kernel
theorem dL_law_448 : decode cL_law 448 = .ok (.iaload, 1) := by decide +kernel
theorem dL_law_449 : decode cL_law 449 = .ok (.aload_n 3, 1) := by decide +kernel
theorem dL_law_450 : decode cL_law 450 = .ok (.invokestatic 53, 3) := by decide +kernel
theorem dL_law_453 : decode cL_law 453 = .ok (.istore 5, 2) := by decide +kernel
theorem dL_law_455 : decode cL_law 455 = .ok (.aload_n 2, 1) := by decide +kernel
theorem dL_law_456 : decode cL_law 456 = .ok (.aload_n 0, 1) := by decide +kernel
theorem dL_law_457 : decode cL_law 457 = .ok (.iload 4, 2) := by decide +kernel
theorem dL_law_459 : decode cL_law 459 = .ok (.iconst 1, 1) := by decide +kernel
theorem dL_law_460 : decode cL_law 460 = .ok (.iadd, 1) := by decide +kernel
theorem dL_law_461 : decode cL_law 461 = .ok (.iaload, 1) := by decide +kernel
theorem dL_law_462 : decode cL_law 462 = .ok (.aload_n 0, 1) := by decide +kernel
theorem dL_law_463 : decode cL_law 463 = .ok (.iload 4, 2) := by decide +kernel
theorem dL_law_465 : decode cL_law 465 = .ok (.iconst 2, 1) := by decide +kernel
theorem dL_law_466 : decode cL_law 466 = .ok (.iadd, 1) := by decide +kernel
theorem dL_law_467 : decode cL_law 467 = .ok (.iaload, 1) := by decide +kernel
theorem dL_law_468 : decode cL_law 468 = .ok (.invokevirtual 55, 3) := by decide +kernel
theorem dL_law_471 : decode cL_law 471 = .ok (.istore 6, 2) := by decide +kernel
theorem dL_law_473 : decode cL_law 473 = .ok (.aload_n 2, 1) := by decide +kernel
theorem dL_law_474 : decode cL_law 474 = .ok (.invokevirtual 50, 3) := by decide +kernel
theorem dL_law_477 : decode cL_law 477 = .ok (.iload 5, 2) := by decide +kernel
theorem dL_law_479 : decode cL_law 479 = .ok (.if_icmp .eq 5, 3) := by decide +kernel
theorem dL_law_482 : decode cL_law 482 = .ok (.iconst 0, 1) := by decide +kernel
theorem dL_law_483 : decode cL_law 483 = .ok (.ireturn, 1) := by decide +kernel
theorem dL_law_484 : decode cL_law 484 = .ok (.iload 5, 2) := by decide +kernel
theorem dL_law_486 : decode cL_law 486 = .ok (.ifCond .ne 15, 3) := by decide +kernel
theorem dL_law_489 : decode cL_law 489 = .ok (.aload_n 3, 1) := by decide +kernel
theorem dL_law_490 : decode cL_law 490 = .ok (.iconst 0, 1) := by decide +kernel
theorem dL_law_491 : decode cL_law 491 = .ok (.laload, 1) := by decide +kernel
theorem dL_law_492 : decode cL_law 492 = .ok (.iload 6, 2) := by decide +kernel
theorem dL_law_494 : decode cL_law 494 = .ok (.i2l, 1) := by decide +kernel
theorem dL_law_495 : decode cL_law 495 = .ok (.lcmp, 1) := by decide +kernel
theorem dL_law_496 : decode cL_law 496 = .ok (.ifCond .eq 5, 3) := by decide +kernel
theorem dL_law_499 : decode cL_law 499 = .ok (.iconst 0, 1) := by decide +kernel
theorem dL_law_500 : decode cL_law 500 = .ok (.ireturn, 1) := by decide +kernel
theorem dL_law_501 : decode cL_law 501 = .ok (.goto 1239, 3) := by decide +kernel
theorem dL_law_504 : decode cL_law 504 = .ok (.aload_n 1, 1) := by decide +kernel
theorem dL_law_505 : decode cL_law 505 = .ok (.aload_n 0, 1) := by decide +kernel
theorem dL_law_506 : decode cL_law 506 = .ok (.iload 4, 2) := by decide +kernel
theorem dL_law_508 : decode cL_law 508 = .ok (.iconst 1, 1) := by decide +kernel
theorem dL_law_509 : decode cL_law 509 = .ok (.iadd, 1) := by decide +kernel
theorem dL_law_510 : decode cL_law 510 = .ok (.iaload, 1) := by decide +kernel
theorem dL_law_511 : decode cL_law 511 = .ok (.aload_n 0, 1) := by decide +kernel
theorem dL_law_512 : decode cL_law 512 = .ok (.iload 4, 2) := by decide +kernel
theorem dL_law_514 : decode cL_law 514 = .ok (.iconst 2, 1) := by decide +kernel
theorem dL_law_515 : decode cL_law 515 = .ok (.iadd, 1) := by decide +kernel
theorem dL_law_516 : decode cL_law 516 = .ok (.iaload, 1) := by decide +kernel
theorem dL_law_517 : decode cL_law 517 = .ok (.aload_n 3, 1) := by decide +kernel
theorem dL_law_518 : decode cL_law 518 = .ok (.invokestatic 56, 3) := by decide +kernel
theorem dL_law_521 : decode cL_law 521 = .ok (.istore 5, 2) := by decide +kernel
theorem dL_law_523 : decode cL_law 523 = .ok (.aload_n 2, 1) := by decide +kernel
theorem dL_law_524 : decode cL_law 524 = .ok (.aload_n 0, 1) := by decide +kernel
theorem dL_law_525 : decode cL_law 525 = .ok (.iload 4, 2) := by decide +kernel
theorem dL_law_527 : decode cL_law 527 = .ok (.iconst 1, 1) := by decide +kernel
theorem dL_law_528 : decode cL_law 528 = .ok (.iadd, 1) := by decide +kernel
theorem dL_law_529 : decode cL_law 529 = .ok (.iaload, 1) := by decide +kernel
theorem dL_law_530 : decode cL_law 530 = .ok (.aload_n 0, 1) := by decide +kernel
theorem dL_law_531 : decode cL_law 531 = .ok (.iload 4, 2) := by decide +kernel
theorem dL_law_533 : decode cL_law 533 = .ok (.iconst 2, 1) := by decide +kernel
theorem dL_law_534 : decode cL_law 534 = .ok (.iadd, 1) := by decide +kernel
theorem dL_law_535 : decode cL_law 535 = .ok (.iaload, 1) := by decide +kernel
theorem dL_law_536 : decode cL_law 536 = .ok (.invokevirtual 58, 3) := by decide +kernel
theorem dL_law_539 : decode cL_law 539 = .ok (.istore 6, 2) := by decide +kernel
theorem dL_law_541 : decode cL_law 541 = .ok (.aload_n 2, 1) := by decide +kernel
theorem dL_law_542 : decode cL_law 542 = .ok (.invokevirtual 50, 3) := by decide +kernel
theorem dL_law_545 : decode cL_law 545 = .ok (.iload 5, 2) := by decide +kernel
theorem dL_law_547 : decode cL_law 547 = .ok (.if_icmp .eq 5, 3) := by decide +kernel
theorem dL_law_550 : decode cL_law 550 = .ok (.iconst 0, 1) := by decide +kernel
theorem dL_law_551 : decode cL_law 551 = .ok (.ireturn, 1) := by decide +kernel
theorem dL_law_552 : decode cL_law 552 = .ok (.iload 5, 2) := by decide +kernel
theorem dL_law_554 : decode cL_law 554 = .ok (.ifCond .ne 15, 3) := by decide +kernel
theorem dL_law_557 : decode cL_law 557 = .ok (.aload_n 3, 1) := by decide +kernel
theorem dL_law_558 : decode cL_law 558 = .ok (.iconst 0, 1) := by decide +kernel
theorem dL_law_559 : decode cL_law 559 = .ok (.laload, 1) := by decide +kernel
theorem dL_law_560 : decode cL_law 560 = .ok (.iload 6, 2) := by decide +kernel
theorem dL_law_562 : decode cL_law 562 = .ok (.i2l, 1) := by decide +kernel
theorem dL_law_563 : decode cL_law 563 = .ok (.lcmp, 1) := by decide +kernel
theorem dL_law_564 : decode cL_law 564 = .ok (.ifCond .eq 5, 3) := by decide +kernel
theorem dL_law_567 : decode cL_law 567 = .ok (.iconst 0, 1) := by decide +kernel
theorem dL_law_568 : decode cL_law 568 = .ok (.ireturn, 1) := by decide +kernel
theorem dL_law_569 : decode cL_law 569 = .ok (.goto 1171, 3) := by decide +kernel
theorem dL_law_572 : decode cL_law 572 = .ok (.aload_n 1, 1) := by decide +kernel
theorem dL_law_573 : decode cL_law 573 = .ok (.aload_n 0, 1) := by decide +kernel
theorem dL_law_574 : decode cL_law 574 = .ok (.iload 4, 2) := by decide +kernel
theorem dL_law_576 : decode cL_law 576 = .ok (.iconst 1, 1) := by decide +kernel
theorem dL_law_577 : decode cL_law 577 = .ok (.iadd, 1) := by decide +kernel
theorem dL_law_578 : decode cL_law 578 = .ok (.iaload, 1) := by decide +kernel
theorem dL_law_579 : decode cL_law 579 = .ok (.aload_n 0, 1) := by decide +kernel
theorem dL_law_580 : decode cL_law 580 = .ok (.iload 4, 2) := by decide +kernel
theorem dL_law_582 : decode cL_law 582 = .ok (.iconst 2, 1) := by decide +kernel
theorem dL_law_583 : decode cL_law 583 = .ok (.iadd, 1) := by decide +kernel
theorem dL_law_584 : decode cL_law 584 = .ok (.iaload, 1) := by decide +kernel
theorem dL_law_585 : decode cL_law 585 = .ok (.invokevirtual 59, 3) := by decide +kernel
theorem dL_law_588 : decode cL_law 588 = .ok (.aload_n 2, 1) := by decide +kernel
theorem dL_law_589 : decode cL_law 589 = .ok (.aload_n 0, 1) := by decide +kernel
theorem dL_law_590 : decode cL_law 590 = .ok (.iload 4, 2) := by decide +kernel
theorem dL_law_592 : decode cL_law 592 = .ok (.iconst 1, 1) := by decide +kernel
theorem dL_law_593 : decode cL_law 593 = .ok (.iadd, 1) := by decide +kernel
theorem dL_law_594 : decode cL_law 594 = .ok (.iaload, 1) := by decide +kernel
theorem dL_law_595 : decode cL_law 595 = .ok (.aload_n 0, 1) := by decide +kernel
theorem dL_law_596 : decode cL_law 596 = .ok (.iload 4, 2) := by decide +kernel
theorem dL_law_598 : decode cL_law 598 = .ok (.iconst 2, 1) := by decide +kernel
theorem dL_law_599 : decode cL_law 599 = .ok (.iadd, 1) := by decide +kernel
theorem dL_law_600 : decode cL_law 600 = .ok (.iaload, 1) := by decide +kernel
theorem dL_law_601 : decode cL_law 601 = .ok (.invokevirtual 62, 3) := by decide +kernel
theorem dL_law_604 : decode cL_law 604 = .ok (.if_icmp .eq 1136, 3) := by decide +kernel
theorem dL_law_607 : decode cL_law 607 = .ok (.iconst 0, 1) := by decide +kernel
theorem dL_law_608 : decode cL_law 608 = .ok (.ireturn, 1) := by decide +kernel
theorem dL_law_609 : decode cL_law 609 = .ok (.aload_n 1, 1) := by decide +kernel
theorem dL_law_610 : decode cL_law 610 = .ok (.aload_n 0, 1) := by decide +kernel
theorem dL_law_611 : decode cL_law 611 = .ok (.iload 4, 2) := by decide +kernel
theorem dL_law_613 : decode cL_law 613 = .ok (.iconst 1, 1) := by decide +kernel
theorem dL_law_614 : decode cL_law 614 = .ok (.iadd, 1) := by decide +kernel
theorem dL_law_615 : decode cL_law 615 = .ok (.iaload, 1) := by decide +kernel
theorem dL_law_616 : decode cL_law 616 = .ok (.aload_n 0, 1) := by decide +kernel
theorem dL_law_617 : decode cL_law 617 = .ok (.iload 4, 2) := by decide +kernel
theorem dL_law_619 : decode cL_law 619 = .ok (.iconst 2, 1) := by decide +kernel
theorem dL_law_620 : decode cL_law 620 = .ok (.iadd, 1) := by decide +kernel
theorem dL_law_621 : decode cL_law 621 = .ok (.iaload, 1) := by decide +kernel
theorem dL_law_622 : decode cL_law 622 = .ok (.invokevirtual 63, 3) := by decide +kernel
theorem dL_law_625 : decode cL_law 625 = .ok (.aload_n 2, 1) := by decide +kernel
theorem dL_law_626 : decode cL_law 626 = .ok (.aload_n 0, 1) := by decide +kernel
theorem dL_law_627 : decode cL_law 627 = .ok (.iload 4, 2) := by decide +kernel
theorem dL_law_629 : decode cL_law 629 = .ok (.iconst 1, 1) := by decide +kernel
theorem dL_law_630 : decode cL_law 630 = .ok (.iadd, 1) := by decide +kernel
theorem dL_law_631 : decode cL_law 631 = .ok (.iaload, 1) := by decide +kernel
theorem dL_law_632 : decode cL_law 632 = .ok (.aload_n 0, 1) := by decide +kernel
theorem dL_law_633 : decode cL_law 633 = .ok (.iload 4, 2) := by decide +kernel
theorem dL_law_635 : decode cL_law 635 = .ok (.iconst 2, 1) := by decide +kernel
theorem dL_law_636 : decode cL_law 636 = .ok (.iadd, 1) := by decide +kernel
theorem dL_law_637 : decode cL_law 637 = .ok (.iaload, 1) := by decide +kernel
theorem dL_law_638 : decode cL_law 638 = .ok (.invokevirtual 66, 3) := by decide +kernel
theorem dL_law_641 : decode cL_law 641 = .ok (.if_icmp .eq 1099, 3) := by decide +kernel
theorem dL_law_644 : decode cL_law 644 = .ok (.iconst 0, 1) := by decide +kernel
theorem dL_law_645 : decode cL_law 645 = .ok (.ireturn, 1) := by decide +kernel
theorem dL_law_646 : decode cL_law 646 = .ok (.aload_n 1, 1) := by decide +kernel
theorem dL_law_647 : decode cL_law 647 = .ok (.aload_n 0, 1) := by decide +kernel
theorem dL_law_648 : decode cL_law 648 = .ok (.iload 4, 2) := by decide +kernel
theorem dL_law_650 : decode cL_law 650 = .ok (.iconst 1, 1) := by decide +kernel
theorem dL_law_651 : decode cL_law 651 = .ok (.iadd, 1) := by decide +kernel
theorem dL_law_652 : decode cL_law 652 = .ok (.iaload, 1) := by decide +kernel
theorem dL_law_653 : decode cL_law 653 = .ok (.aload_n 0, 1) := by decide +kernel
theorem dL_law_654 : decode cL_law 654 = .ok (.iload 4, 2) := by decide +kernel
theorem dL_law_656 : decode cL_law 656 = .ok (.iconst 2, 1) := by decide +kernel
theorem dL_law_657 : decode cL_law 657 = .ok (.iadd, 1) := by decide +kernel
theorem dL_law_658 : decode cL_law 658 = .ok (.iaload, 1) := by decide +kernel
theorem dL_law_659 : decode cL_law 659 = .ok (.aload_n 0, 1) := by decide +kernel
theorem dL_law_660 : decode cL_law 660 = .ok (.iload 4, 2) := by decide +kernel
theorem dL_law_662 : decode cL_law 662 = .ok (.iconst 3, 1) := by decide +kernel
theorem dL_law_663 : decode cL_law 663 = .ok (.iadd, 1) := by decide +kernel
theorem dL_law_664 : decode cL_law 664 = .ok (.iaload, 1) := by decide +kernel
theorem dL_law_665 : decode cL_law 665 = .ok (.aload_n 0, 1) := by decide +kernel
theorem dL_law_666 : decode cL_law 666 = .ok (.iload 4, 2) := by decide +kernel
theorem dL_law_668 : decode cL_law 668 = .ok (.iconst 4, 1) := by decide +kernel
theorem dL_law_669 : decode cL_law 669 = .ok (.iadd, 1) := by decide +kernel
theorem dL_law_670 : decode cL_law 670 = .ok (.iaload, 1) := by decide +kernel
theorem dL_law_671 : decode cL_law 671 = .ok (.invokevirtual 67, 3) := by decide +kernel
theorem dL_law_674 : decode cL_law 674 = .ok (.aload_n 2, 1) := by decide +kernel
theorem dL_law_675 : decode cL_law 675 = .ok (.aload_n 0, 1) := by decide +kernel
theorem dL_law_676 : decode cL_law 676 = .ok (.iload 4, 2) := by decide +kernel
theorem dL_law_678 : decode cL_law 678 = .ok (.iconst 1, 1) := by decide +kernel
theorem dL_law_679 : decode cL_law 679 = .ok (.iadd, 1) := by decide +kernel
theorem dL_law_680 : decode cL_law 680 = .ok (.iaload, 1) := by decide +kernel
theorem dL_law_681 : decode cL_law 681 = .ok (.aload_n 0, 1) := by decide +kernel
theorem dL_law_682 : decode cL_law 682 = .ok (.iload 4, 2) := by decide +kernel
theorem dL_law_684 : decode cL_law 684 = .ok (.iconst 2, 1) := by decide +kernel
theorem dL_law_685 : decode cL_law 685 = .ok (.iadd, 1) := by decide +kernel
theorem dL_law_686 : decode cL_law 686 = .ok (.iaload, 1) := by decide +kernel
theorem dL_law_687 : decode cL_law 687 = .ok (.aload_n 0, 1) := by decide +kernel
theorem dL_law_688 : decode cL_law 688 = .ok (.iload 4, 2) := by decide +kernel
theorem dL_law_690 : decode cL_law 690 = .ok (.iconst 3, 1) := by decide +kernel
theorem dL_law_691 : decode cL_law 691 = .ok (.iadd, 1) := by decide +kernel
theorem dL_law_692 : decode cL_law 692 = .ok (.iaload, 1) := by decide +kernel
theorem dL_law_693 : decode cL_law 693 = .ok (.aload_n 0, 1) := by decide +kernel
theorem dL_law_694 : decode cL_law 694 = .ok (.iload 4, 2) := by decide +kernel
theorem dL_law_696 : decode cL_law 696 = .ok (.iconst 4, 1) := by decide +kernel
theorem dL_law_697 : decode cL_law 697 = .ok (.iadd, 1) := by decide +kernel
theorem dL_law_698 : decode cL_law 698 = .ok (.iaload, 1) := by decide +kernel
theorem dL_law_699 : decode cL_law 699 = .ok (.invokevirtual 71, 3) := by decide +kernel
theorem dL_law_702 : decode cL_law 702 = .ok (.if_icmp .eq 1038, 3) := by decide +kernel
theorem dL_law_705 : decode cL_law 705 = .ok (.iconst 0, 1) := by decide +kernel
theorem dL_law_706 : decode cL_law 706 = .ok (.ireturn, 1) := by decide +kernel
theorem dL_law_707 : decode cL_law 707 = .ok (.aload_n 1, 1) := by decide +kernel
theorem dL_law_708 : decode cL_law 708 = .ok (.aload_n 0, 1) := by decide +kernel
theorem dL_law_709 : decode cL_law 709 = .ok (.iload 4, 2) := by decide +kernel
theorem dL_law_711 : decode cL_law 711 = .ok (.iconst 1, 1) := by decide +kernel
theorem dL_law_712 : decode cL_law 712 = .ok (.iadd, 1) := by decide +kernel
theorem dL_law_713 : decode cL_law 713 = .ok (.iaload, 1) := by decide +kernel
theorem dL_law_714 : decode cL_law 714 = .ok (.invokevirtual 72, 3) := by decide +kernel
theorem dL_law_717 : decode cL_law 717 = .ok (.aload_n 2, 1) := by decide +kernel
theorem dL_law_718 : decode cL_law 718 = .ok (.aload_n 0, 1) := by decide +kernel
theorem dL_law_719 : decode cL_law 719 = .ok (.iload 4, 2) := by decide +kernel
theorem dL_law_721 : decode cL_law 721 = .ok (.iconst 1, 1) := by decide +kernel
theorem dL_law_722 : decode cL_law 722 = .ok (.iadd, 1) := by decide +kernel
theorem dL_law_723 : decode cL_law 723 = .ok (.iaload, 1) := by decide +kernel
theorem dL_law_724 : decode cL_law 724 = .ok (.invokevirtual 76, 3) := by decide +kernel
theorem dL_law_727 : decode cL_law 727 = .ok (.if_icmp .eq 1013, 3) := by decide +kernel
theorem dL_law_730 : decode cL_law 730 = .ok (.iconst 0, 1) := by decide +kernel
theorem dL_law_731 : decode cL_law 731 = .ok (.ireturn, 1) := by decide +kernel
theorem dL_law_732 : decode cL_law 732 = .ok (.aload_n 1, 1) := by decide +kernel
theorem dL_law_733 : decode cL_law 733 = .ok (.aload_n 0, 1) := by decide +kernel
theorem dL_law_734 : decode cL_law 734 = .ok (.iload 4, 2) := by decide +kernel
theorem dL_law_736 : decode cL_law 736 = .ok (.iconst 1, 1) := by decide +kernel
theorem dL_law_737 : decode cL_law 737 = .ok (.iadd, 1) := by decide +kernel
theorem dL_law_738 : decode cL_law 738 = .ok (.iaload, 1) := by decide +kernel
theorem dL_law_739 : decode cL_law 739 = .ok (.aload_n 0, 1) := by decide +kernel
theorem dL_law_740 : decode cL_law 740 = .ok (.iload 4, 2) := by decide +kernel
theorem dL_law_742 : decode cL_law 742 = .ok (.iconst 2, 1) := by decide +kernel
theorem dL_law_743 : decode cL_law 743 = .ok (.iadd, 1) := by decide +kernel
theorem dL_law_744 : decode cL_law 744 = .ok (.iaload, 1) := by decide +kernel
theorem dL_law_745 : decode cL_law 745 = .ok (.invokevirtual 77, 3) := by decide +kernel
theorem dL_law_748 : decode cL_law 748 = .ok (.aload_n 2, 1) := by decide +kernel
theorem dL_law_749 : decode cL_law 749 = .ok (.aload_n 0, 1) := by decide +kernel
theorem dL_law_750 : decode cL_law 750 = .ok (.iload 4, 2) := by decide +kernel
theorem dL_law_752 : decode cL_law 752 = .ok (.iconst 1, 1) := by decide +kernel
theorem dL_law_753 : decode cL_law 753 = .ok (.iadd, 1) := by decide +kernel
theorem dL_law_754 : decode cL_law 754 = .ok (.iaload, 1) := by decide +kernel
theorem dL_law_755 : decode cL_law 755 = .ok (.aload_n 0, 1) := by decide +kernel
theorem dL_law_756 : decode cL_law 756 = .ok (.iload 4, 2) := by decide +kernel
theorem dL_law_758 : decode cL_law 758 = .ok (.iconst 2, 1) := by decide +kernel
theorem dL_law_759 : decode cL_law 759 = .ok (.iadd, 1) := by decide +kernel
theorem dL_law_760 : decode cL_law 760 = .ok (.iaload, 1) := by decide +kernel
theorem dL_law_761 : decode cL_law 761 = .ok (.invokevirtual 80, 3) := by decide +kernel
theorem dL_law_764 : decode cL_law 764 = .ok (.if_icmp .eq 976, 3) := by decide +kernel
theorem dL_law_767 : decode cL_law 767 = .ok (.iconst 0, 1) := by decide +kernel
theorem dL_law_768 : decode cL_law 768 = .ok (.ireturn, 1) := by decide +kernel
theorem dL_law_769 : decode cL_law 769 = .ok (.aload_n 1, 1) := by decide +kernel
theorem dL_law_770 : decode cL_law 770 = .ok (.invokevirtual 81, 3) := by decide +kernel
theorem dL_law_773 : decode cL_law 773 = .ok (.aload_n 2, 1) := by decide +kernel
theorem dL_law_774 : decode cL_law 774 = .ok (.invokevirtual 84, 3) := by decide +kernel
theorem dL_law_777 : decode cL_law 777 = .ok (.if_icmp .eq 963, 3) := by decide +kernel
theorem dL_law_780 : decode cL_law 780 = .ok (.iconst 0, 1) := by decide +kernel
theorem dL_law_781 : decode cL_law 781 = .ok (.ireturn, 1) := by decide +kernel
theorem dL_law_782 : decode cL_law 782 = .ok (.aload_n 1, 1) := by decide +kernel
theorem dL_law_783 : decode cL_law 783 = .ok (.aload_n 0, 1) := by decide +kernel
theorem dL_law_784 : decode cL_law 784 = .ok (.iload 4, 2) := by decide +kernel
theorem dL_law_786 : decode cL_law 786 = .ok (.iconst 1, 1) := by decide +kernel
theorem dL_law_787 : decode cL_law 787 = .ok (.iadd, 1) := by decide +kernel
theorem dL_law_788 : decode cL_law 788 = .ok (.iaload, 1) := by decide +kernel
theorem dL_law_789 : decode cL_law 789 = .ok (.invokevirtual 85, 3) := by decide +kernel
theorem dL_law_792 : decode cL_law 792 = .ok (.aload_n 2, 1) := by decide +kernel
theorem dL_law_793 : decode cL_law 793 = .ok (.aload_n 0, 1) := by decide +kernel
theorem dL_law_794 : decode cL_law 794 = .ok (.iload 4, 2) := by decide +kernel
theorem dL_law_796 : decode cL_law 796 = .ok (.iconst 1, 1) := by decide +kernel
theorem dL_law_797 : decode cL_law 797 = .ok (.iadd, 1) := by decide +kernel
theorem dL_law_798 : decode cL_law 798 = .ok (.iaload, 1) := by decide +kernel
theorem dL_law_799 : decode cL_law 799 = .ok (.invokevirtual 88, 3) := by decide +kernel
theorem dL_law_802 : decode cL_law 802 = .ok (.if_icmp .eq 938, 3) := by decide +kernel
theorem dL_law_805 : decode cL_law 805 = .ok (.iconst 0, 1) := by decide +kernel
theorem dL_law_806 : decode cL_law 806 = .ok (.ireturn, 1) := by decide +kernel
theorem dL_law_807 : decode cL_law 807 = .ok (.aload_n 1, 1) := by decide +kernel
theorem dL_law_808 : decode cL_law 808 = .ok (.aload_n 0, 1) := by decide +kernel
theorem dL_law_809 : decode cL_law 809 = .ok (.iload 4, 2) := by decide +kernel
theorem dL_law_811 : decode cL_law 811 = .ok (.iconst 1, 1) := by decide +kernel
theorem dL_law_812 : decode cL_law 812 = .ok (.iadd, 1) := by decide +kernel
theorem dL_law_813 : decode cL_law 813 = .ok (.iaload, 1) := by decide +kernel
theorem dL_law_814 : decode cL_law 814 = .ok (.invokevirtual 89, 3) := by decide +kernel
theorem dL_law_817 : decode cL_law 817 = .ok (.aload_n 2, 1) := by decide +kernel
theorem dL_law_818 : decode cL_law 818 = .ok (.aload_n 0, 1) := by decide +kernel
theorem dL_law_819 : decode cL_law 819 = .ok (.iload 4, 2) := by decide +kernel
theorem dL_law_821 : decode cL_law 821 = .ok (.iconst 1, 1) := by decide +kernel
theorem dL_law_822 : decode cL_law 822 = .ok (.iadd, 1) := by decide +kernel
theorem dL_law_823 : decode cL_law 823 = .ok (.iaload, 1) := by decide +kernel
theorem dL_law_824 : decode cL_law 824 = .ok (.invokevirtual 92, 3) := by decide +kernel
theorem dL_law_827 : decode cL_law 827 = .ok (.if_icmp .eq 913, 3) := by decide +kernel
theorem dL_law_830 : decode cL_law 830 = .ok (.iconst 0, 1) := by decide +kernel
theorem dL_law_831 : decode cL_law 831 = .ok (.ireturn, 1) := by decide +kernel
theorem dL_law_832 : decode cL_law 832 = .ok (.aload_n 1, 1) := by decide +kernel
theorem dL_law_833 : decode cL_law 833 = .ok (.invokevirtual 93, 3) := by decide +kernel
theorem dL_law_836 : decode cL_law 836 = .ok (.aload_n 2, 1) := by decide +kernel
theorem dL_law_837 : decode cL_law 837 = .ok (.invokevirtual 96, 3) := by decide +kernel
theorem dL_law_840 : decode cL_law 840 = .ok (.if_icmp .eq 900, 3) := by decide +kernel
theorem dL_law_843 : decode cL_law 843 = .ok (.iconst 0, 1) := by decide +kernel
theorem dL_law_844 : decode cL_law 844 = .ok (.ireturn, 1) := by decide +kernel
theorem dL_law_845 : decode cL_law 845 = .ok (.aload_n 1, 1) := by decide +kernel
theorem dL_law_846 : decode cL_law 846 = .ok (.aload_n 0, 1) := by decide +kernel
theorem dL_law_847 : decode cL_law 847 = .ok (.iload 4, 2) := by decide +kernel
theorem dL_law_849 : decode cL_law 849 = .ok (.iconst 1, 1) := by decide +kernel
theorem dL_law_850 : decode cL_law 850 = .ok (.iadd, 1) := by decide +kernel
theorem dL_law_851 : decode cL_law 851 = .ok (.iaload, 1) := by decide +kernel
theorem dL_law_852 : decode cL_law 852 = .ok (.aload_n 0, 1) := by decide +kernel
theorem dL_law_853 : decode cL_law 853 = .ok (.iload 4, 2) := by decide +kernel
theorem dL_law_855 : decode cL_law 855 = .ok (.iconst 2, 1) := by decide +kernel
theorem dL_law_856 : decode cL_law 856 = .ok (.iadd, 1) := by decide +kernel
theorem dL_law_857 : decode cL_law 857 = .ok (.iaload, 1) := by decide +kernel
theorem dL_law_858 : decode cL_law 858 = .ok (.invokevirtual 97, 3) := by decide +kernel
theorem dL_law_861 : decode cL_law 861 = .ok (.aload_n 2, 1) := by decide +kernel
theorem dL_law_862 : decode cL_law 862 = .ok (.aload_n 0, 1) := by decide +kernel
theorem dL_law_863 : decode cL_law 863 = .ok (.iload 4, 2) := by decide +kernel
theorem dL_law_865 : decode cL_law 865 = .ok (.iconst 1, 1) := by decide +kernel
theorem dL_law_866 : decode cL_law 866 = .ok (.iadd, 1) := by decide +kernel
theorem dL_law_867 : decode cL_law 867 = .ok (.iaload, 1) := by decide +kernel
theorem dL_law_868 : decode cL_law 868 = .ok (.aload_n 0, 1) := by decide +kernel
theorem dL_law_869 : decode cL_law 869 = .ok (.iload 4, 2) := by decide +kernel
theorem dL_law_871 : decode cL_law 871 = .ok (.iconst 2, 1) := by decide +kernel
theorem dL_law_872 : decode cL_law 872 = .ok (.iadd, 1) := by decide +kernel
theorem dL_law_873 : decode cL_law 873 = .ok (.iaload, 1) := by decide +kernel
theorem dL_law_874 : decode cL_law 874 = .ok (.invokevirtual 100, 3) := by decide +kernel
theorem dL_law_877 : decode cL_law 877 = .ok (.if_icmp .eq 863, 3) := by decide +kernel
theorem dL_law_880 : decode cL_law 880 = .ok (.iconst 0, 1) := by decide +kernel
theorem dL_law_881 : decode cL_law 881 = .ok (.ireturn, 1) := by decide +kernel
theorem dL_law_882 : decode cL_law 882 = .ok (.aload_n 1, 1) := by decide +kernel
theorem dL_law_883 : decode cL_law 883 = .ok (.invokevirtual 101, 3) := by decide +kernel
theorem dL_law_886 : decode cL_law 886 = .ok (.aload_n 2, 1) := by decide +kernel
theorem dL_law_887 : decode cL_law 887 = .ok (.invokevirtual 104, 3) := by decide +kernel
theorem dL_law_890 : decode cL_law 890 = .ok (.if_icmp .eq 850, 3) := by decide +kernel
theorem dL_law_893 : decode cL_law 893 = .ok (.iconst 0, 1) := by decide +kernel
theorem dL_law_894 : decode cL_law 894 = .ok (.ireturn, 1) := by decide +kernel
theorem dL_law_895 : decode cL_law 895 = .ok (.aload_n 1, 1) := by decide +kernel
theorem dL_law_896 : decode cL_law 896 = .ok (.invokevirtual 105, 3) := by decide +kernel
theorem dL_law_899 : decode cL_law 899 = .ok (.aload_n 2, 1) := by decide +kernel
theorem dL_law_900 : decode cL_law 900 = .ok (.invokevirtual 108, 3) := by decide +kernel
theorem dL_law_903 : decode cL_law 903 = .ok (.if_icmp .eq 837, 3) := by decide +kernel
theorem dL_law_906 : decode cL_law 906 = .ok (.iconst 0, 1) := by decide +kernel
theorem dL_law_907 : decode cL_law 907 = .ok (.ireturn, 1) := by decide +kernel
theorem dL_law_908 : decode cL_law 908 = .ok (.aload_n 1, 1) := by decide +kernel
theorem dL_law_909 : decode cL_law 909 = .ok (.aload_n 0, 1) := by decide +kernel
theorem dL_law_910 : decode cL_law 910 = .ok (.iload 4, 2) := by decide +kernel
theorem dL_law_912 : decode cL_law 912 = .ok (.iconst 1, 1) := by decide +kernel
theorem dL_law_913 : decode cL_law 913 = .ok (.iadd, 1) := by decide +kernel
theorem dL_law_914 : decode cL_law 914 = .ok (.iaload, 1) := by decide +kernel
theorem dL_law_915 : decode cL_law 915 = .ok (.aload_n 0, 1) := by decide +kernel
theorem dL_law_916 : decode cL_law 916 = .ok (.iload 4, 2) := by decide +kernel
theorem dL_law_918 : decode cL_law 918 = .ok (.iconst 2, 1) := by decide +kernel
theorem dL_law_919 : decode cL_law 919 = .ok (.iadd, 1) := by decide +kernel
theorem dL_law_920 : decode cL_law 920 = .ok (.iaload, 1) := by decide +kernel
theorem dL_law_921 : decode cL_law 921 = .ok (.invokevirtual 109, 3) := by decide +kernel
theorem dL_law_924 : decode cL_law 924 = .ok (.aload_n 2, 1) := by decide +kernel
theorem dL_law_925 : decode cL_law 925 = .ok (.aload_n 0, 1) := by decide +kernel
theorem dL_law_926 : decode cL_law 926 = .ok (.iload 4, 2) := by decide +kernel
theorem dL_law_928 : decode cL_law 928 = .ok (.iconst 1, 1) := by decide +kernel
theorem dL_law_929 : decode cL_law 929 = .ok (.iadd, 1) := by decide +kernel
theorem dL_law_930 : decode cL_law 930 = .ok (.iaload, 1) := by decide +kernel
theorem dL_law_931 : decode cL_law 931 = .ok (.aload_n 0, 1) := by decide +kernel
theorem dL_law_932 : decode cL_law 932 = .ok (.iload 4, 2) := by decide +kernel
theorem dL_law_934 : decode cL_law 934 = .ok (.iconst 2, 1) := by decide +kernel
theorem dL_law_935 : decode cL_law 935 = .ok (.iadd, 1) := by decide +kernel
theorem dL_law_936 : decode cL_law 936 = .ok (.iaload, 1) := by decide +kernel
theorem dL_law_937 : decode cL_law 937 = .ok (.invokevirtual 112, 3) := by decide +kernel
theorem dL_law_940 : decode cL_law 940 = .ok (.if_icmp .eq 800, 3) := by decide +kernel
theorem dL_law_943 : decode cL_law 943 = .ok (.iconst 0, 1) := by decide +kernel
theorem dL_law_944 : decode cL_law 944 = .ok (.ireturn, 1) := by decide +kernel
theorem dL_law_945 : decode cL_law 945 = .ok (.aload_n 1, 1) := by decide +kernel
theorem dL_law_946 : decode cL_law 946 = .ok (.aload_n 0, 1) := by decide +kernel
theorem dL_law_947 : decode cL_law 947 = .ok (.iload 4, 2) := by decide +kernel
theorem dL_law_949 : decode cL_law 949 = .ok (.iconst 1, 1) := by decide +kernel
theorem dL_law_950 : decode cL_law 950 = .ok (.iadd, 1) := by decide +kernel
theorem dL_law_951 : decode cL_law 951 = .ok (.iaload, 1) := by decide +kernel
theorem dL_law_952 : decode cL_law 952 = .ok (.aload_n 0, 1) := by decide +kernel
theorem dL_law_953 : decode cL_law 953 = .ok (.iload 4, 2) := by decide +kernel
theorem dL_law_955 : decode cL_law 955 = .ok (.iconst 2, 1) := by decide +kernel
theorem dL_law_956 : decode cL_law 956 = .ok (.iadd, 1) := by decide +kernel
theorem dL_law_957 : decode cL_law 957 = .ok (.iaload, 1) := by decide +kernel
theorem dL_law_958 : decode cL_law 958 = .ok (.aload_n 0, 1) := by decide +kernel
theorem dL_law_959 : decode cL_law 959 = .ok (.iload 4, 2) := by decide +kernel
theorem dL_law_961 : decode cL_law 961 = .ok (.iconst 3, 1) := by decide +kernel
theorem dL_law_962 : decode cL_law 962 = .ok (.iadd, 1) := by decide +kernel
theorem dL_law_963 : decode cL_law 963 = .ok (.iaload, 1) := by decide +kernel
theorem dL_law_964 : decode cL_law 964 = .ok (.invokevirtual 113, 3) := by decide +kernel
theorem dL_law_967 : decode cL_law 967 = .ok (.aload_n 2, 1) := by decide +kernel
theorem dL_law_968 : decode cL_law 968 = .ok (.aload_n 0, 1) := by decide +kernel
theorem dL_law_969 : decode cL_law 969 = .ok (.iload 4, 2) := by decide +kernel
theorem dL_law_971 : decode cL_law 971 = .ok (.iconst 1, 1) := by decide +kernel
theorem dL_law_972 : decode cL_law 972 = .ok (.iadd, 1) := by decide +kernel
theorem dL_law_973 : decode cL_law 973 = .ok (.iaload, 1) := by decide +kernel
theorem dL_law_974 : decode cL_law 974 = .ok (.aload_n 0, 1) := by decide +kernel
theorem dL_law_975 : decode cL_law 975 = .ok (.iload 4, 2) := by decide +kernel
theorem dL_law_977 : decode cL_law 977 = .ok (.iconst 2, 1) := by decide +kernel
theorem dL_law_978 : decode cL_law 978 = .ok (.iadd, 1) := by decide +kernel
theorem dL_law_979 : decode cL_law 979 = .ok (.iaload, 1) := by decide +kernel
theorem dL_law_980 : decode cL_law 980 = .ok (.aload_n 0, 1) := by decide +kernel
theorem dL_law_981 : decode cL_law 981 = .ok (.iload 4, 2) := by decide +kernel
theorem dL_law_983 : decode cL_law 983 = .ok (.iconst 3, 1) := by decide +kernel
theorem dL_law_984 : decode cL_law 984 = .ok (.iadd, 1) := by decide +kernel
theorem dL_law_985 : decode cL_law 985 = .ok (.iaload, 1) := by decide +kernel
theorem dL_law_986 : decode cL_law 986 = .ok (.invokevirtual 117, 3) := by decide +kernel
theorem dL_law_989 : decode cL_law 989 = .ok (.if_icmp .eq 751, 3) := by decide +kernel
theorem dL_law_992 : decode cL_law 992 = .ok (.iconst 0, 1) := by decide +kernel
theorem dL_law_993 : decode cL_law 993 = .ok (.ireturn, 1) := by decide +kernel
theorem dL_law_994 : decode cL_law 994 = .ok (.aload_n 1, 1) := by decide +kernel
theorem dL_law_995 : decode cL_law 995 = .ok (.aload_n 0, 1) := by decide +kernel
theorem dL_law_996 : decode cL_law 996 = .ok (.iload 4, 2) := by decide +kernel
theorem dL_law_998 : decode cL_law 998 = .ok (.iconst 1, 1) := by decide +kernel
theorem dL_law_999 : decode cL_law 999 = .ok (.iadd, 1) := by decide +kernel
theorem dL_law_1000 : decode cL_law 1000 = .ok (.iaload, 1) := by decide +kernel
theorem dL_law_1001 : decode cL_law 1001 = .ok (.aload_n 0, 1) := by decide +kernel
theorem dL_law_1002 : decode cL_law 1002 = .ok (.iload 4, 2) := by decide +kernel
theorem dL_law_1004 : decode cL_law 1004 = .ok (.iconst 2, 1) := by decide +kernel
theorem dL_law_1005 : decode cL_law 1005 = .ok (.iadd, 1) := by decide +kernel
theorem dL_law_1006 : decode cL_law 1006 = .ok (.iaload, 1) := by decide +kernel
theorem dL_law_1007 : decode cL_law 1007 = .ok (.invokevirtual 118, 3) := by decide +kernel
theorem dL_law_1010 : decode cL_law 1010 = .ok (.aload_n 2, 1) := by decide +kernel
theorem dL_law_1011 : decode cL_law 1011 = .ok (.aload_n 0, 1) := by decide +kernel
theorem dL_law_1012 : decode cL_law 1012 = .ok (.iload 4, 2) := by decide +kernel
theorem dL_law_1014 : decode cL_law 1014 = .ok (.iconst 1, 1) := by decide +kernel
theorem dL_law_1015 : decode cL_law 1015 = .ok (.iadd, 1) := by decide +kernel
theorem dL_law_1016 : decode cL_law 1016 = .ok (.iaload, 1) := by decide +kernel
theorem dL_law_1017 : decode cL_law 1017 = .ok (.aload_n 0, 1) := by decide +kernel
theorem dL_law_1018 : decode cL_law 1018 = .ok (.iload 4, 2) := by decide +kernel
theorem dL_law_1020 : decode cL_law 1020 = .ok (.iconst 2, 1) := by decide +kernel
theorem dL_law_1021 : decode cL_law 1021 = .ok (.iadd, 1) := by decide +kernel
theorem dL_law_1022 : decode cL_law 1022 = .ok (.iaload, 1) := by decide +kernel
theorem dL_law_1023 : decode cL_law 1023 = .ok (.invokevirtual 121, 3) := by decide +kernel
theorem dL_law_1026 : decode cL_law 1026 = .ok (.if_icmp .eq 714, 3) := by decide +kernel
theorem dL_law_1029 : decode cL_law 1029 = .ok (.iconst 0, 1) := by decide +kernel
theorem dL_law_1030 : decode cL_law 1030 = .ok (.ireturn, 1) := by decide +kernel
theorem dL_law_1031 : decode cL_law 1031 = .ok (.aload_n 1, 1) := by decide +kernel
theorem dL_law_1032 : decode cL_law 1032 = .ok (.aload_n 0, 1) := by decide +kernel
theorem dL_law_1033 : decode cL_law 1033 = .ok (.iload 4, 2) := by decide +kernel
theorem dL_law_1035 : decode cL_law 1035 = .ok (.iconst 1, 1) := by decide +kernel
theorem dL_law_1036 : decode cL_law 1036 = .ok (.iadd, 1) := by decide +kernel
theorem dL_law_1037 : decode cL_law 1037 = .ok (.iaload, 1) := by decide +kernel
theorem dL_law_1038 : decode cL_law 1038 = .ok (.aload_n 0, 1) := by decide +kernel
theorem dL_law_1039 : decode cL_law 1039 = .ok (.iload 4, 2) := by decide +kernel
theorem dL_law_1041 : decode cL_law 1041 = .ok (.iconst 2, 1) := by decide +kernel
theorem dL_law_1042 : decode cL_law 1042 = .ok (.iadd, 1) := by decide +kernel
theorem dL_law_1043 : decode cL_law 1043 = .ok (.iaload, 1) := by decide +kernel
theorem dL_law_1044 : decode cL_law 1044 = .ok (.invokevirtual 122, 3) := by decide +kernel
theorem dL_law_1047 : decode cL_law 1047 = .ok (.aload_n 2, 1) := by decide +kernel
theorem dL_law_1048 : decode cL_law 1048 = .ok (.aload_n 0, 1) := by decide +kernel
theorem dL_law_1049 : decode cL_law 1049 = .ok (.iload 4, 2) := by decide +kernel
theorem dL_law_1051 : decode cL_law 1051 = .ok (.iconst 1, 1) := by decide +kernel
theorem dL_law_1052 : decode cL_law 1052 = .ok (.iadd, 1) := by decide +kernel
theorem dL_law_1053 : decode cL_law 1053 = .ok (.iaload, 1) := by decide +kernel
theorem dL_law_1054 : decode cL_law 1054 = .ok (.aload_n 0, 1) := by decide +kernel
theorem dL_law_1055 : decode cL_law 1055 = .ok (.iload 4, 2) := by decide +kernel
theorem dL_law_1057 : decode cL_law 1057 = .ok (.iconst 2, 1) := by decide +kernel
theorem dL_law_1058 : decode cL_law 1058 = .ok (.iadd, 1) := by decide +kernel
theorem dL_law_1059 : decode cL_law 1059 = .ok (.iaload, 1) := by decide +kernel
theorem dL_law_1060 : decode cL_law 1060 = .ok (.invokevirtual 125, 3) := by decide +kernel
theorem dL_law_1063 : decode cL_law 1063 = .ok (.if_icmp .eq 677, 3) := by decide +kernel
theorem dL_law_1066 : decode cL_law 1066 = .ok (.iconst 0, 1) := by decide +kernel
theorem dL_law_1067 : decode cL_law 1067 = .ok (.ireturn, 1) := by decide +kernel
theorem dL_law_1068 : decode cL_law 1068 = .ok (.aload_n 1, 1) := by decide +kernel
theorem dL_law_1069 : decode cL_law 1069 = .ok (.aload_n 0, 1) := by decide +kernel
theorem dL_law_1070 : decode cL_law 1070 = .ok (.iload 4, 2) := by decide +kernel
theorem dL_law_1072 : decode cL_law 1072 = .ok (.iconst 1, 1) := by decide +kernel
theorem dL_law_1073 : decode cL_law 1073 = .ok (.iadd, 1) := by decide +kernel
theorem dL_law_1074 : decode cL_law 1074 = .ok (.iaload, 1) := by decide +kernel
theorem dL_law_1075 : decode cL_law 1075 = .ok (.aload_n 0, 1) := by decide +kernel
theorem dL_law_1076 : decode cL_law 1076 = .ok (.iload 4, 2) := by decide +kernel
theorem dL_law_1078 : decode cL_law 1078 = .ok (.iconst 2, 1) := by decide +kernel
theorem dL_law_1079 : decode cL_law 1079 = .ok (.iadd, 1) := by decide +kernel
theorem dL_law_1080 : decode cL_law 1080 = .ok (.iaload, 1) := by decide +kernel
theorem dL_law_1081 : decode cL_law 1081 = .ok (.invokevirtual 126, 3) := by decide +kernel
theorem dL_law_1084 : decode cL_law 1084 = .ok (.aload_n 2, 1) := by decide +kernel
theorem dL_law_1085 : decode cL_law 1085 = .ok (.aload_n 0, 1) := by decide +kernel
theorem dL_law_1086 : decode cL_law 1086 = .ok (.iload 4, 2) := by decide +kernel
theorem dL_law_1088 : decode cL_law 1088 = .ok (.iconst 1, 1) := by decide +kernel
theorem dL_law_1089 : decode cL_law 1089 = .ok (.iadd, 1) := by decide +kernel
theorem dL_law_1090 : decode cL_law 1090 = .ok (.iaload, 1) := by decide +kernel
theorem dL_law_1091 : decode cL_law 1091 = .ok (.aload_n 0, 1) := by decide +kernel
theorem dL_law_1092 : decode cL_law 1092 = .ok (.iload 4, 2) := by decide +kernel
theorem dL_law_1094 : decode cL_law 1094 = .ok (.iconst 2, 1) := by decide +kernel
theorem dL_law_1095 : decode cL_law 1095 = .ok (.iadd, 1) := by decide +kernel
theorem dL_law_1096 : decode cL_law 1096 = .ok (.iaload, 1) := by decide +kernel
theorem dL_law_1097 : decode cL_law 1097 = .ok (.invokevirtual 129, 3) := by decide +kernel
theorem dL_law_1100 : decode cL_law 1100 = .ok (.if_icmp .eq 640, 3) := by decide +kernel
theorem dL_law_1103 : decode cL_law 1103 = .ok (.iconst 0, 1) := by decide +kernel
theorem dL_law_1104 : decode cL_law 1104 = .ok (.ireturn, 1) := by decide +kernel
theorem dL_law_1105 : decode cL_law 1105 = .ok (.aload_n 1, 1) := by decide +kernel
theorem dL_law_1106 : decode cL_law 1106 = .ok (.aload_n 0, 1) := by decide +kernel
theorem dL_law_1107 : decode cL_law 1107 = .ok (.iload 4, 2) := by decide +kernel
theorem dL_law_1109 : decode cL_law 1109 = .ok (.iconst 1, 1) := by decide +kernel
theorem dL_law_1110 : decode cL_law 1110 = .ok (.iadd, 1) := by decide +kernel
theorem dL_law_1111 : decode cL_law 1111 = .ok (.iaload, 1) := by decide +kernel
theorem dL_law_1112 : decode cL_law 1112 = .ok (.invokevirtual 130, 3) := by decide +kernel
theorem dL_law_1115 : decode cL_law 1115 = .ok (.aload_n 2, 1) := by decide +kernel
theorem dL_law_1116 : decode cL_law 1116 = .ok (.aload_n 0, 1) := by decide +kernel
theorem dL_law_1117 : decode cL_law 1117 = .ok (.iload 4, 2) := by decide +kernel
theorem dL_law_1119 : decode cL_law 1119 = .ok (.iconst 1, 1) := by decide +kernel
theorem dL_law_1120 : decode cL_law 1120 = .ok (.iadd, 1) := by decide +kernel
theorem dL_law_1121 : decode cL_law 1121 = .ok (.iaload, 1) := by decide +kernel
theorem dL_law_1122 : decode cL_law 1122 = .ok (.invokevirtual 133, 3) := by decide +kernel
theorem dL_law_1125 : decode cL_law 1125 = .ok (.if_icmp .eq 615, 3) := by decide +kernel
theorem dL_law_1128 : decode cL_law 1128 = .ok (.iconst 0, 1) := by decide +kernel
theorem dL_law_1129 : decode cL_law 1129 = .ok (.ireturn, 1) := by decide +kernel
theorem dL_law_1130 : decode cL_law 1130 = .ok (.aload_n 1, 1) := by decide +kernel
theorem dL_law_1131 : decode cL_law 1131 = .ok (.aload_n 0, 1) := by decide +kernel
theorem dL_law_1132 : decode cL_law 1132 = .ok (.iload 4, 2) := by decide +kernel
theorem dL_law_1134 : decode cL_law 1134 = .ok (.iconst 1, 1) := by decide +kernel
theorem dL_law_1135 : decode cL_law 1135 = .ok (.iadd, 1) := by decide +kernel
theorem dL_law_1136 : decode cL_law 1136 = .ok (.iaload, 1) := by decide +kernel
theorem dL_law_1137 : decode cL_law 1137 = .ok (.aload_n 0, 1) := by decide +kernel
theorem dL_law_1138 : decode cL_law 1138 = .ok (.iload 4, 2) := by decide +kernel
theorem dL_law_1140 : decode cL_law 1140 = .ok (.iconst 2, 1) := by decide +kernel
theorem dL_law_1141 : decode cL_law 1141 = .ok (.iadd, 1) := by decide +kernel
theorem dL_law_1142 : decode cL_law 1142 = .ok (.iaload, 1) := by decide +kernel
theorem dL_law_1143 : decode cL_law 1143 = .ok (.invokevirtual 134, 3) := by decide +kernel
theorem dL_law_1146 : decode cL_law 1146 = .ok (.aload_n 2, 1) := by decide +kernel
theorem dL_law_1147 : decode cL_law 1147 = .ok (.aload_n 0, 1) := by decide +kernel
theorem dL_law_1148 : decode cL_law 1148 = .ok (.iload 4, 2) := by decide +kernel
theorem dL_law_1150 : decode cL_law 1150 = .ok (.iconst 1, 1) := by decide +kernel
theorem dL_law_1151 : decode cL_law 1151 = .ok (.iadd, 1) := by decide +kernel
theorem dL_law_1152 : decode cL_law 1152 = .ok (.iaload, 1) := by decide +kernel
theorem dL_law_1153 : decode cL_law 1153 = .ok (.aload_n 0, 1) := by decide +kernel
theorem dL_law_1154 : decode cL_law 1154 = .ok (.iload 4, 2) := by decide +kernel
theorem dL_law_1156 : decode cL_law 1156 = .ok (.iconst 2, 1) := by decide +kernel
theorem dL_law_1157 : decode cL_law 1157 = .ok (.iadd, 1) := by decide +kernel
theorem dL_law_1158 : decode cL_law 1158 = .ok (.iaload, 1) := by decide +kernel
theorem dL_law_1159 : decode cL_law 1159 = .ok (.invokevirtual 137, 3) := by decide +kernel
theorem dL_law_1162 : decode cL_law 1162 = .ok (.if_icmp .eq 578, 3) := by decide +kernel
theorem dL_law_1165 : decode cL_law 1165 = .ok (.iconst 0, 1) := by decide +kernel
theorem dL_law_1166 : decode cL_law 1166 = .ok (.ireturn, 1) := by decide +kernel
theorem dL_law_1167 : decode cL_law 1167 = .ok (.aload_n 1, 1) := by decide +kernel
theorem dL_law_1168 : decode cL_law 1168 = .ok (.invokevirtual 138, 3) := by decide +kernel
theorem dL_law_1171 : decode cL_law 1171 = .ok (.aload_n 2, 1) := by decide +kernel
theorem dL_law_1172 : decode cL_law 1172 = .ok (.invokevirtual 141, 3) := by decide +kernel
theorem dL_law_1175 : decode cL_law 1175 = .ok (.if_icmp .eq 565, 3) := by decide +kernel
theorem dL_law_1178 : decode cL_law 1178 = .ok (.iconst 0, 1) := by decide +kernel
theorem dL_law_1179 : decode cL_law 1179 = .ok (.ireturn, 1) := by decide +kernel
theorem dL_law_1180 : decode cL_law 1180 = .ok (.aload_n 1, 1) := by decide +kernel
theorem dL_law_1181 : decode cL_law 1181 = .ok (.aload_n 0, 1) := by decide +kernel
theorem dL_law_1182 : decode cL_law 1182 = .ok (.iload 4, 2) := by decide +kernel
theorem dL_law_1184 : decode cL_law 1184 = .ok (.iconst 1, 1) := by decide +kernel
theorem dL_law_1185 : decode cL_law 1185 = .ok (.iadd, 1) := by decide +kernel
theorem dL_law_1186 : decode cL_law 1186 = .ok (.iaload, 1) := by decide +kernel
theorem dL_law_1187 : decode cL_law 1187 = .ok (.invokevirtual 142, 3) := by decide +kernel
theorem dL_law_1190 : decode cL_law 1190 = .ok (.aload_n 2, 1) := by decide +kernel
theorem dL_law_1191 : decode cL_law 1191 = .ok (.aload_n 0, 1) := by decide +kernel
theorem dL_law_1192 : decode cL_law 1192 = .ok (.iload 4, 2) := by decide +kernel
theorem dL_law_1194 : decode cL_law 1194 = .ok (.iconst 1, 1) := by decide +kernel
theorem dL_law_1195 : decode cL_law 1195 = .ok (.iadd, 1) := by decide +kernel
theorem dL_law_1196 : decode cL_law 1196 = .ok (.iaload, 1) := by decide +kernel
theorem dL_law_1197 : decode cL_law 1197 = .ok (.invokevirtual 145, 3) := by decide +kernel
theorem dL_law_1200 : decode cL_law 1200 = .ok (.if_icmp .eq 540, 3) := by decide +kernel
theorem dL_law_1203 : decode cL_law 1203 = .ok (.iconst 0, 1) := by decide +kernel
theorem dL_law_1204 : decode cL_law 1204 = .ok (.ireturn, 1) := by decide +kernel
theorem dL_law_1205 : decode cL_law 1205 = .ok (.aload_n 1, 1) := by decide +kernel
theorem dL_law_1206 : decode cL_law 1206 = .ok (.aload_n 0, 1) := by decide +kernel
theorem dL_law_1207 : decode cL_law 1207 = .ok (.iload 4, 2) := by decide +kernel
theorem dL_law_1209 : decode cL_law 1209 = .ok (.iconst 1, 1) := by decide +kernel
theorem dL_law_1210 : decode cL_law 1210 = .ok (.iadd, 1) := by decide +kernel
theorem dL_law_1211 : decode cL_law 1211 = .ok (.iaload, 1) := by decide +kernel
theorem dL_law_1212 : decode cL_law 1212 = .ok (.invokevirtual 146, 3) := by decide +kernel
theorem dL_law_1215 : decode cL_law 1215 = .ok (.aload_n 2, 1) := by decide +kernel
theorem dL_law_1216 : decode cL_law 1216 = .ok (.aload_n 0, 1) := by decide +kernel
theorem dL_law_1217 : decode cL_law 1217 = .ok (.iload 4, 2) := by decide +kernel
theorem dL_law_1219 : decode cL_law 1219 = .ok (.iconst 1, 1) := by decide +kernel
theorem dL_law_1220 : decode cL_law 1220 = .ok (.iadd, 1) := by decide +kernel
theorem dL_law_1221 : decode cL_law 1221 = .ok (.iaload, 1) := by decide +kernel
theorem dL_law_1222 : decode cL_law 1222 = .ok (.invokevirtual 149, 3) := by decide +kernel
theorem dL_law_1225 : decode cL_law 1225 = .ok (.if_icmp .eq 515, 3) := by decide +kernel
theorem dL_law_1228 : decode cL_law 1228 = .ok (.iconst 0, 1) := by decide +kernel
theorem dL_law_1229 : decode cL_law 1229 = .ok (.ireturn, 1) := by decide +kernel
theorem dL_law_1230 : decode cL_law 1230 = .ok (.aload_n 1, 1) := by decide +kernel
theorem dL_law_1231 : decode cL_law 1231 = .ok (.aload_n 0, 1) := by decide +kernel
theorem dL_law_1232 : decode cL_law 1232 = .ok (.iload 4, 2) := by decide +kernel
theorem dL_law_1234 : decode cL_law 1234 = .ok (.iconst 1, 1) := by decide +kernel
theorem dL_law_1235 : decode cL_law 1235 = .ok (.iadd, 1) := by decide +kernel
theorem dL_law_1236 : decode cL_law 1236 = .ok (.iaload, 1) := by decide +kernel
theorem dL_law_1237 : decode cL_law 1237 = .ok (.aload_n 0, 1) := by decide +kernel
theorem dL_law_1238 : decode cL_law 1238 = .ok (.iload 4, 2) := by decide +kernel
theorem dL_law_1240 : decode cL_law 1240 = .ok (.iconst 2, 1) := by decide +kernel
theorem dL_law_1241 : decode cL_law 1241 = .ok (.iadd, 1) := by decide +kernel
theorem dL_law_1242 : decode cL_law 1242 = .ok (.iaload, 1) := by decide +kernel
theorem dL_law_1243 : decode cL_law 1243 = .ok (.aload_n 0, 1) := by decide +kernel
theorem dL_law_1244 : decode cL_law 1244 = .ok (.iload 4, 2) := by decide +kernel
theorem dL_law_1246 : decode cL_law 1246 = .ok (.iconst 3, 1) := by decide +kernel
theorem dL_law_1247 : decode cL_law 1247 = .ok (.iadd, 1) := by decide +kernel
theorem dL_law_1248 : decode cL_law 1248 = .ok (.iaload, 1) := by decide +kernel
theorem dL_law_1249 : decode cL_law 1249 = .ok (.invokevirtual 150, 3) := by decide +kernel
theorem dL_law_1252 : decode cL_law 1252 = .ok (.aload_n 2, 1) := by decide +kernel
theorem dL_law_1253 : decode cL_law 1253 = .ok (.aload_n 0, 1) := by decide +kernel
theorem dL_law_1254 : decode cL_law 1254 = .ok (.iload 4, 2) := by decide +kernel
theorem dL_law_1256 : decode cL_law 1256 = .ok (.iconst 1, 1) := by decide +kernel
theorem dL_law_1257 : decode cL_law 1257 = .ok (.iadd, 1) := by decide +kernel
theorem dL_law_1258 : decode cL_law 1258 = .ok (.iaload, 1) := by decide +kernel
theorem dL_law_1259 : decode cL_law 1259 = .ok (.aload_n 0, 1) := by decide +kernel
theorem dL_law_1260 : decode cL_law 1260 = .ok (.iload 4, 2) := by decide +kernel
theorem dL_law_1262 : decode cL_law 1262 = .ok (.iconst 2, 1) := by decide +kernel
theorem dL_law_1263 : decode cL_law 1263 = .ok (.iadd, 1) := by decide +kernel
theorem dL_law_1264 : decode cL_law 1264 = .ok (.iaload, 1) := by decide +kernel
theorem dL_law_1265 : decode cL_law 1265 = .ok (.aload_n 0, 1) := by decide +kernel
theorem dL_law_1266 : decode cL_law 1266 = .ok (.iload 4, 2) := by decide +kernel
theorem dL_law_1268 : decode cL_law 1268 = .ok (.iconst 3, 1) := by decide +kernel
theorem dL_law_1269 : decode cL_law 1269 = .ok (.iadd, 1) := by decide +kernel
theorem dL_law_1270 : decode cL_law 1270 = .ok (.iaload, 1) := by decide +kernel
theorem dL_law_1271 : decode cL_law 1271 = .ok (.invokevirtual 153, 3) := by decide +kernel
theorem dL_law_1274 : decode cL_law 1274 = .ok (.if_icmp .eq 466, 3) := by decide +kernel
theorem dL_law_1277 : decode cL_law 1277 = .ok (.iconst 0, 1) := by decide +kernel
theorem dL_law_1278 : decode cL_law 1278 = .ok (.ireturn, 1) := by decide +kernel
theorem dL_law_1279 : decode cL_law 1279 = .ok (.aload_n 1, 1) := by decide +kernel
theorem dL_law_1280 : decode cL_law 1280 = .ok (.aload_n 0, 1) := by decide +kernel
theorem dL_law_1281 : decode cL_law 1281 = .ok (.iload 4, 2) := by decide +kernel
theorem dL_law_1283 : decode cL_law 1283 = .ok (.iconst 1, 1) := by decide +kernel
theorem dL_law_1284 : decode cL_law 1284 = .ok (.iadd, 1) := by decide +kernel
theorem dL_law_1285 : decode cL_law 1285 = .ok (.iaload, 1) := by decide +kernel
theorem dL_law_1286 : decode cL_law 1286 = .ok (.invokevirtual 154, 3) := by decide +kernel
theorem dL_law_1289 : decode cL_law 1289 = .ok (.aload_n 2, 1) := by decide +kernel
theorem dL_law_1290 : decode cL_law 1290 = .ok (.aload_n 0, 1) := by decide +kernel
theorem dL_law_1291 : decode cL_law 1291 = .ok (.iload 4, 2) := by decide +kernel
theorem dL_law_1293 : decode cL_law 1293 = .ok (.iconst 1, 1) := by decide +kernel
theorem dL_law_1294 : decode cL_law 1294 = .ok (.iadd, 1) := by decide +kernel
theorem dL_law_1295 : decode cL_law 1295 = .ok (.iaload, 1) := by decide +kernel
theorem dL_law_1296 : decode cL_law 1296 = .ok (.invokevirtual 157, 3) := by decide +kernel
theorem dL_law_1299 : decode cL_law 1299 = .ok (.if_icmp .eq 441, 3) := by decide +kernel
theorem dL_law_1302 : decode cL_law 1302 = .ok (.iconst 0, 1) := by decide +kernel
theorem dL_law_1303 : decode cL_law 1303 = .ok (.ireturn, 1) := by decide +kernel
theorem dL_law_1304 : decode cL_law 1304 = .ok (.aload_n 1, 1) := by decide +kernel
theorem dL_law_1305 : decode cL_law 1305 = .ok (.invokevirtual 158, 3) := by decide +kernel
theorem dL_law_1308 : decode cL_law 1308 = .ok (.aload_n 2, 1) := by decide +kernel
theorem dL_law_1309 : decode cL_law 1309 = .ok (.invokevirtual 161, 3) := by decide +kernel
theorem dL_law_1312 : decode cL_law 1312 = .ok (.if_icmp .eq 428, 3) := by decide +kernel
theorem dL_law_1315 : decode cL_law 1315 = .ok (.iconst 0, 1) := by decide +kernel
theorem dL_law_1316 : decode cL_law 1316 = .ok (.ireturn, 1) := by decide +kernel
theorem dL_law_1317 : decode cL_law 1317 = .ok (.aload_n 1, 1) := by decide +kernel
theorem dL_law_1318 : decode cL_law 1318 = .ok (.aload_n 0, 1) := by decide +kernel
theorem dL_law_1319 : decode cL_law 1319 = .ok (.iload 4, 2) := by decide +kernel
theorem dL_law_1321 : decode cL_law 1321 = .ok (.iconst 1, 1) := by decide +kernel
theorem dL_law_1322 : decode cL_law 1322 = .ok (.iadd, 1) := by decide +kernel
theorem dL_law_1323 : decode cL_law 1323 = .ok (.iaload, 1) := by decide +kernel
theorem dL_law_1324 : decode cL_law 1324 = .ok (.invokevirtual 162, 3) := by decide +kernel
theorem dL_law_1327 : decode cL_law 1327 = .ok (.aload_n 2, 1) := by decide +kernel
theorem dL_law_1328 : decode cL_law 1328 = .ok (.aload_n 0, 1) := by decide +kernel
theorem dL_law_1329 : decode cL_law 1329 = .ok (.iload 4, 2) := by decide +kernel
theorem dL_law_1331 : decode cL_law 1331 = .ok (.iconst 1, 1) := by decide +kernel
theorem dL_law_1332 : decode cL_law 1332 = .ok (.iadd, 1) := by decide +kernel
theorem dL_law_1333 : decode cL_law 1333 = .ok (.iaload, 1) := by decide +kernel
theorem dL_law_1334 : decode cL_law 1334 = .ok (.invokevirtual 165, 3) := by decide +kernel
theorem dL_law_1337 : decode cL_law 1337 = .ok (.if_icmp .eq 403, 3) := by decide +kernel
theorem dL_law_1340 : decode cL_law 1340 = .ok (.iconst 0, 1) := by decide +kernel
theorem dL_law_1341 : decode cL_law 1341 = .ok (.ireturn, 1) := by decide +kernel
theorem dL_law_1342 : decode cL_law 1342 = .ok (.aload_n 1, 1) := by decide +kernel
theorem dL_law_1343 : decode cL_law 1343 = .ok (.aload_n 0, 1) := by decide +kernel
theorem dL_law_1344 : decode cL_law 1344 = .ok (.iload 4, 2) := by decide +kernel
theorem dL_law_1346 : decode cL_law 1346 = .ok (.iconst 1, 1) := by decide +kernel
theorem dL_law_1347 : decode cL_law 1347 = .ok (.iadd, 1) := by decide +kernel
theorem dL_law_1348 : decode cL_law 1348 = .ok (.iaload, 1) := by decide +kernel
theorem dL_law_1349 : decode cL_law 1349 = .ok (.invokevirtual 166, 3) := by decide +kernel
theorem dL_law_1352 : decode cL_law 1352 = .ok (.aload_n 2, 1) := by decide +kernel
theorem dL_law_1353 : decode cL_law 1353 = .ok (.aload_n 0, 1) := by decide +kernel
theorem dL_law_1354 : decode cL_law 1354 = .ok (.iload 4, 2) := by decide +kernel
theorem dL_law_1356 : decode cL_law 1356 = .ok (.iconst 1, 1) := by decide +kernel
theorem dL_law_1357 : decode cL_law 1357 = .ok (.iadd, 1) := by decide +kernel
theorem dL_law_1358 : decode cL_law 1358 = .ok (.iaload, 1) := by decide +kernel
theorem dL_law_1359 : decode cL_law 1359 = .ok (.invokevirtual 169, 3) := by decide +kernel
theorem dL_law_1362 : decode cL_law 1362 = .ok (.if_icmp .eq 378, 3) := by decide +kernel
theorem dL_law_1365 : decode cL_law 1365 = .ok (.iconst 0, 1) := by decide +kernel
theorem dL_law_1366 : decode cL_law 1366 = .ok (.ireturn, 1) := by decide +kernel
theorem dL_law_1367 : decode cL_law 1367 = .ok (.aload_n 1, 1) := by decide +kernel
theorem dL_law_1368 : decode cL_law 1368 = .ok (.invokevirtual 170, 3) := by decide +kernel
theorem dL_law_1371 : decode cL_law 1371 = .ok (.aload_n 2, 1) := by decide +kernel
theorem dL_law_1372 : decode cL_law 1372 = .ok (.invokevirtual 173, 3) := by decide +kernel
theorem dL_law_1375 : decode cL_law 1375 = .ok (.if_icmp .eq 365, 3) := by decide +kernel
theorem dL_law_1378 : decode cL_law 1378 = .ok (.iconst 0, 1) := by decide +kernel
theorem dL_law_1379 : decode cL_law 1379 = .ok (.ireturn, 1) := by decide +kernel
theorem dL_law_1380 : decode cL_law 1380 = .ok (.aload_n 1, 1) := by decide +kernel
theorem dL_law_1381 : decode cL_law 1381 = .ok (.aload_n 0, 1) := by decide +kernel
theorem dL_law_1382 : decode cL_law 1382 = .ok (.iload 4, 2) := by decide +kernel
theorem dL_law_1384 : decode cL_law 1384 = .ok (.iconst 1, 1) := by decide +kernel
theorem dL_law_1385 : decode cL_law 1385 = .ok (.iadd, 1) := by decide +kernel
theorem dL_law_1386 : decode cL_law 1386 = .ok (.iaload, 1) := by decide +kernel
theorem dL_law_1387 : decode cL_law 1387 = .ok (.invokevirtual 174, 3) := by decide +kernel
theorem dL_law_1390 : decode cL_law 1390 = .ok (.aload_n 2, 1) := by decide +kernel
theorem dL_law_1391 : decode cL_law 1391 = .ok (.aload_n 0, 1) := by decide +kernel
theorem dL_law_1392 : decode cL_law 1392 = .ok (.iload 4, 2) := by decide +kernel
theorem dL_law_1394 : decode cL_law 1394 = .ok (.iconst 1, 1) := by decide +kernel
theorem dL_law_1395 : decode cL_law 1395 = .ok (.iadd, 1) := by decide +kernel
theorem dL_law_1396 : decode cL_law 1396 = .ok (.iaload, 1) := by decide +kernel
theorem dL_law_1397 : decode cL_law 1397 = .ok (.invokevirtual 177, 3) := by decide +kernel
theorem dL_law_1400 : decode cL_law 1400 = .ok (.if_icmp .eq 340, 3) := by decide +kernel
theorem dL_law_1403 : decode cL_law 1403 = .ok (.iconst 0, 1) := by decide +kernel
theorem dL_law_1404 : decode cL_law 1404 = .ok (.ireturn, 1) := by decide +kernel
theorem dL_law_1405 : decode cL_law 1405 = .ok (.aload_n 1, 1) := by decide +kernel
theorem dL_law_1406 : decode cL_law 1406 = .ok (.aload_n 0, 1) := by decide +kernel
theorem dL_law_1407 : decode cL_law 1407 = .ok (.iload 4, 2) := by decide +kernel
theorem dL_law_1409 : decode cL_law 1409 = .ok (.iconst 1, 1) := by decide +kernel
theorem dL_law_1410 : decode cL_law 1410 = .ok (.iadd, 1) := by decide +kernel
theorem dL_law_1411 : decode cL_law 1411 = .ok (.iaload, 1) := by decide +kernel
theorem dL_law_1412 : decode cL_law 1412 = .ok (.aload_n 0, 1) := by decide +kernel
theorem dL_law_1413 : decode cL_law 1413 = .ok (.iload 4, 2) := by decide +kernel
theorem dL_law_1415 : decode cL_law 1415 = .ok (.iconst 2, 1) := by decide +kernel
theorem dL_law_1416 : decode cL_law 1416 = .ok (.iadd, 1) := by decide +kernel
theorem dL_law_1417 : decode cL_law 1417 = .ok (.iaload, 1) := by decide +kernel
theorem dL_law_1418 : decode cL_law 1418 = .ok (.invokevirtual 178, 3) := by decide +kernel
theorem dL_law_1421 : decode cL_law 1421 = .ok (.aload_n 2, 1) := by decide +kernel
theorem dL_law_1422 : decode cL_law 1422 = .ok (.aload_n 0, 1) := by decide +kernel
theorem dL_law_1423 : decode cL_law 1423 = .ok (.iload 4, 2) := by decide +kernel
theorem dL_law_1425 : decode cL_law 1425 = .ok (.iconst 1, 1) := by decide +kernel
theorem dL_law_1426 : decode cL_law 1426 = .ok (.iadd, 1) := by decide +kernel
theorem dL_law_1427 : decode cL_law 1427 = .ok (.iaload, 1) := by decide +kernel
theorem dL_law_1428 : decode cL_law 1428 = .ok (.aload_n 0, 1) := by decide +kernel
theorem dL_law_1429 : decode cL_law 1429 = .ok (.iload 4, 2) := by decide +kernel
theorem dL_law_1431 : decode cL_law 1431 = .ok (.iconst 2, 1) := by decide +kernel
theorem dL_law_1432 : decode cL_law 1432 = .ok (.iadd, 1) := by decide +kernel
theorem dL_law_1433 : decode cL_law 1433 = .ok (.iaload, 1) := by decide +kernel
theorem dL_law_1434 : decode cL_law 1434 = .ok (.invokevirtual 181, 3) := by decide +kernel
theorem dL_law_1437 : decode cL_law 1437 = .ok (.if_icmp .eq 303, 3) := by decide +kernel
theorem dL_law_1440 : decode cL_law 1440 = .ok (.iconst 0, 1) := by decide +kernel
theorem dL_law_1441 : decode cL_law 1441 = .ok (.ireturn, 1) := by decide +kernel
theorem dL_law_1442 : decode cL_law 1442 = .ok (.aload_n 1, 1) := by decide +kernel
theorem dL_law_1443 : decode cL_law 1443 = .ok (.aload_n 0, 1) := by decide +kernel
theorem dL_law_1444 : decode cL_law 1444 = .ok (.iload 4, 2) := by decide +kernel
theorem dL_law_1446 : decode cL_law 1446 = .ok (.iconst 1, 1) := by decide +kernel
theorem dL_law_1447 : decode cL_law 1447 = .ok (.iadd, 1) := by decide +kernel
theorem dL_law_1448 : decode cL_law 1448 = .ok (.iaload, 1) := by decide +kernel
theorem dL_law_1449 : decode cL_law 1449 = .ok (.invokevirtual 182, 3) := by decide +kernel
theorem dL_law_1452 : decode cL_law 1452 = .ok (.aload_n 2, 1) := by decide +kernel
theorem dL_law_1453 : decode cL_law 1453 = .ok (.aload_n 0, 1) := by decide +kernel
theorem dL_law_1454 : decode cL_law 1454 = .ok (.iload 4, 2) := by decide +kernel
theorem dL_law_1456 : decode cL_law 1456 = .ok (.iconst 1, 1) := by decide +kernel
theorem dL_law_1457 : decode cL_law 1457 = .ok (.iadd, 1) := by decide +kernel
theorem dL_law_1458 : decode cL_law 1458 = .ok (.iaload, 1) := by decide +kernel
theorem dL_law_1459 : decode cL_law 1459 = .ok (.invokevirtual 185, 3) := by decide +kernel
theorem dL_law_1462 : decode cL_law 1462 = .ok (.if_icmp .eq 278, 3) := by decide +kernel
theorem dL_law_1465 : decode cL_law 1465 = .ok (.iconst 0, 1) := by decide +kernel
theorem dL_law_1466 : decode cL_law 1466 = .ok (.ireturn, 1) := by decide +kernel
theorem dL_law_1467 : decode cL_law 1467 = .ok (.aload_n 1, 1) := by decide +kernel
theorem dL_law_1468 : decode cL_law 1468 = .ok (.aload_n 0, 1) := by decide +kernel
theorem dL_law_1469 : decode cL_law 1469 = .ok (.iload 4, 2) := by decide +kernel
theorem dL_law_1471 : decode cL_law 1471 = .ok (.iconst 1, 1) := by decide +kernel
theorem dL_law_1472 : decode cL_law 1472 = .ok (.iadd, 1) := by decide +kernel
theorem dL_law_1473 : decode cL_law 1473 = .ok (.iaload, 1) := by decide +kernel
theorem dL_law_1474 : decode cL_law 1474 = .ok (.invokevirtual 186, 3) := by decide +kernel
theorem dL_law_1477 : decode cL_law 1477 = .ok (.aload_n 2, 1) := by decide +kernel
theorem dL_law_1478 : decode cL_law 1478 = .ok (.aload_n 0, 1) := by decide +kernel
theorem dL_law_1479 : decode cL_law 1479 = .ok (.iload 4, 2) := by decide +kernel
theorem dL_law_1481 : decode cL_law 1481 = .ok (.iconst 1, 1) := by decide +kernel
theorem dL_law_1482 : decode cL_law 1482 = .ok (.iadd, 1) := by decide +kernel
theorem dL_law_1483 : decode cL_law 1483 = .ok (.iaload, 1) := by decide +kernel
theorem dL_law_1484 : decode cL_law 1484 = .ok (.invokevirtual 189, 3) := by decide +kernel
theorem dL_law_1487 : decode cL_law 1487 = .ok (.if_icmp .eq 253, 3) := by decide +kernel
theorem dL_law_1490 : decode cL_law 1490 = .ok (.iconst 0, 1) := by decide +kernel
theorem dL_law_1491 : decode cL_law 1491 = .ok (.ireturn, 1) := by decide +kernel
theorem dL_law_1492 : decode cL_law 1492 = .ok (.aload_n 1, 1) := by decide +kernel
theorem dL_law_1493 : decode cL_law 1493 = .ok (.aload_n 0, 1) := by decide +kernel
theorem dL_law_1494 : decode cL_law 1494 = .ok (.iload 4, 2) := by decide +kernel
theorem dL_law_1496 : decode cL_law 1496 = .ok (.iconst 1, 1) := by decide +kernel
theorem dL_law_1497 : decode cL_law 1497 = .ok (.iadd, 1) := by decide +kernel
theorem dL_law_1498 : decode cL_law 1498 = .ok (.iaload, 1) := by decide +kernel
theorem dL_law_1499 : decode cL_law 1499 = .ok (.aload_n 0, 1) := by decide +kernel
theorem dL_law_1500 : decode cL_law 1500 = .ok (.iload 4, 2) := by decide +kernel
theorem dL_law_1502 : decode cL_law 1502 = .ok (.iconst 2, 1) := by decide +kernel
theorem dL_law_1503 : decode cL_law 1503 = .ok (.iadd, 1) := by decide +kernel
theorem dL_law_1504 : decode cL_law 1504 = .ok (.iaload, 1) := by decide +kernel
theorem dL_law_1505 : decode cL_law 1505 = .ok (.invokevirtual 190, 3) := by decide +kernel
theorem dL_law_1508 : decode cL_law 1508 = .ok (.aload_n 2, 1) := by decide +kernel
theorem dL_law_1509 : decode cL_law 1509 = .ok (.aload_n 0, 1) := by decide +kernel
theorem dL_law_1510 : decode cL_law 1510 = .ok (.iload 4, 2) := by decide +kernel
theorem dL_law_1512 : decode cL_law 1512 = .ok (.iconst 1, 1) := by decide +kernel
theorem dL_law_1513 : decode cL_law 1513 = .ok (.iadd, 1) := by decide +kernel
theorem dL_law_1514 : decode cL_law 1514 = .ok (.iaload, 1) := by decide +kernel
theorem dL_law_1515 : decode cL_law 1515 = .ok (.aload_n 0, 1) := by decide +kernel
theorem dL_law_1516 : decode cL_law 1516 = .ok (.iload 4, 2) := by decide +kernel
theorem dL_law_1518 : decode cL_law 1518 = .ok (.iconst 2, 1) := by decide +kernel
theorem dL_law_1519 : decode cL_law 1519 = .ok (.iadd, 1) := by decide +kernel
theorem dL_law_1520 : decode cL_law 1520 = .ok (.iaload, 1) := by decide +kernel
theorem dL_law_1521 : decode cL_law 1521 = .ok (.invokevirtual 193, 3) := by decide +kernel
theorem dL_law_1524 : decode cL_law 1524 = .ok (.if_icmp .eq 216, 3) := by decide +kernel
theorem dL_law_1527 : decode cL_law 1527 = .ok (.iconst 0, 1) := by decide +kernel
theorem dL_law_1528 : decode cL_law 1528 = .ok (.ireturn, 1) := by decide +kernel
theorem dL_law_1529 : decode cL_law 1529 = .ok (.aload_n 1, 1) := by decide +kernel
theorem dL_law_1530 : decode cL_law 1530 = .ok (.aload_n 0, 1) := by decide +kernel
theorem dL_law_1531 : decode cL_law 1531 = .ok (.iload 4, 2) := by decide +kernel
theorem dL_law_1533 : decode cL_law 1533 = .ok (.iconst 1, 1) := by decide +kernel
theorem dL_law_1534 : decode cL_law 1534 = .ok (.iadd, 1) := by decide +kernel
theorem dL_law_1535 : decode cL_law 1535 = .ok (.iaload, 1) := by decide +kernel
theorem dL_law_1536 : decode cL_law 1536 = .ok (.aload_n 0, 1) := by decide +kernel
theorem dL_law_1537 : decode cL_law 1537 = .ok (.iload 4, 2) := by decide +kernel
theorem dL_law_1539 : decode cL_law 1539 = .ok (.iconst 2, 1) := by decide +kernel
theorem dL_law_1540 : decode cL_law 1540 = .ok (.iadd, 1) := by decide +kernel
theorem dL_law_1541 : decode cL_law 1541 = .ok (.iaload, 1) := by decide +kernel
theorem dL_law_1542 : decode cL_law 1542 = .ok (.aload_n 0, 1) := by decide +kernel
theorem dL_law_1543 : decode cL_law 1543 = .ok (.iload 4, 2) := by decide +kernel
theorem dL_law_1545 : decode cL_law 1545 = .ok (.iconst 3, 1) := by decide +kernel
theorem dL_law_1546 : decode cL_law 1546 = .ok (.iadd, 1) := by decide +kernel
theorem dL_law_1547 : decode cL_law 1547 = .ok (.iaload, 1) := by decide +kernel
theorem dL_law_1548 : decode cL_law 1548 = .ok (.invokevirtual 194, 3) := by decide +kernel
theorem dL_law_1551 : decode cL_law 1551 = .ok (.aload_n 2, 1) := by decide +kernel
theorem dL_law_1552 : decode cL_law 1552 = .ok (.aload_n 0, 1) := by decide +kernel
theorem dL_law_1553 : decode cL_law 1553 = .ok (.iload 4, 2) := by decide +kernel
theorem dL_law_1555 : decode cL_law 1555 = .ok (.iconst 1, 1) := by decide +kernel
theorem dL_law_1556 : decode cL_law 1556 = .ok (.iadd, 1) := by decide +kernel
theorem dL_law_1557 : decode cL_law 1557 = .ok (.iaload, 1) := by decide +kernel
theorem dL_law_1558 : decode cL_law 1558 = .ok (.aload_n 0, 1) := by decide +kernel
theorem dL_law_1559 : decode cL_law 1559 = .ok (.iload 4, 2) := by decide +kernel
theorem dL_law_1561 : decode cL_law 1561 = .ok (.iconst 2, 1) := by decide +kernel
theorem dL_law_1562 : decode cL_law 1562 = .ok (.iadd, 1) := by decide +kernel
theorem dL_law_1563 : decode cL_law 1563 = .ok (.iaload, 1) := by decide +kernel
theorem dL_law_1564 : decode cL_law 1564 = .ok (.aload_n 0, 1) := by decide +kernel
theorem dL_law_1565 : decode cL_law 1565 = .ok (.iload 4, 2) := by decide +kernel
theorem dL_law_1567 : decode cL_law 1567 = .ok (.iconst 3, 1) := by decide +kernel
theorem dL_law_1568 : decode cL_law 1568 = .ok (.iadd, 1) := by decide +kernel
theorem dL_law_1569 : decode cL_law 1569 = .ok (.iaload, 1) := by decide +kernel
theorem dL_law_1570 : decode cL_law 1570 = .ok (.invokevirtual 197, 3) := by decide +kernel
theorem dL_law_1573 : decode cL_law 1573 = .ok (.if_icmp .eq 167, 3) := by decide +kernel
theorem dL_law_1576 : decode cL_law 1576 = .ok (.iconst 0, 1) := by decide +kernel
theorem dL_law_1577 : decode cL_law 1577 = .ok (.ireturn, 1) := by decide +kernel
theorem dL_law_1578 : decode cL_law 1578 = .ok (.aload_n 1, 1) := by decide +kernel
theorem dL_law_1579 : decode cL_law 1579 = .ok (.aload_n 0, 1) := by decide +kernel
theorem dL_law_1580 : decode cL_law 1580 = .ok (.iload 4, 2) := by decide +kernel
theorem dL_law_1582 : decode cL_law 1582 = .ok (.iconst 1, 1) := by decide +kernel
theorem dL_law_1583 : decode cL_law 1583 = .ok (.iadd, 1) := by decide +kernel
theorem dL_law_1584 : decode cL_law 1584 = .ok (.iaload, 1) := by decide +kernel
theorem dL_law_1585 : decode cL_law 1585 = .ok (.invokevirtual 198, 3) := by decide +kernel
theorem dL_law_1588 : decode cL_law 1588 = .ok (.aload_n 2, 1) := by decide +kernel
theorem dL_law_1589 : decode cL_law 1589 = .ok (.aload_n 0, 1) := by decide +kernel
theorem dL_law_1590 : decode cL_law 1590 = .ok (.iload 4, 2) := by decide +kernel
theorem dL_law_1592 : decode cL_law 1592 = .ok (.iconst 1, 1) := by decide +kernel
theorem dL_law_1593 : decode cL_law 1593 = .ok (.iadd, 1) := by decide +kernel
theorem dL_law_1594 : decode cL_law 1594 = .ok (.iaload, 1) := by decide +kernel
theorem dL_law_1595 : decode cL_law 1595 = .ok (.invokevirtual 201, 3) := by decide +kernel
theorem dL_law_1598 : decode cL_law 1598 = .ok (.if_icmp .eq 142, 3) := by decide +kernel
theorem dL_law_1601 : decode cL_law 1601 = .ok (.iconst 0, 1) := by decide +kernel
theorem dL_law_1602 : decode cL_law 1602 = .ok (.ireturn, 1) := by decide +kernel
theorem dL_law_1603 : decode cL_law 1603 = .ok (.aload_n 1, 1) := by decide +kernel
theorem dL_law_1604 : decode cL_law 1604 = .ok (.aload_n 0, 1) := by decide +kernel
theorem dL_law_1605 : decode cL_law 1605 = .ok (.iload 4, 2) := by decide +kernel
theorem dL_law_1607 : decode cL_law 1607 = .ok (.iconst 1, 1) := by decide +kernel
theorem dL_law_1608 : decode cL_law 1608 = .ok (.iadd, 1) := by decide +kernel
theorem dL_law_1609 : decode cL_law 1609 = .ok (.iaload, 1) := by decide +kernel
theorem dL_law_1610 : decode cL_law 1610 = .ok (.invokevirtual 202, 3) := by decide +kernel
theorem dL_law_1613 : decode cL_law 1613 = .ok (.aload_n 2, 1) := by decide +kernel
theorem dL_law_1614 : decode cL_law 1614 = .ok (.aload_n 0, 1) := by decide +kernel
theorem dL_law_1615 : decode cL_law 1615 = .ok (.iload 4, 2) := by decide +kernel
theorem dL_law_1617 : decode cL_law 1617 = .ok (.iconst 1, 1) := by decide +kernel
theorem dL_law_1618 : decode cL_law 1618 = .ok (.iadd, 1) := by decide +kernel
theorem dL_law_1619 : decode cL_law 1619 = .ok (.iaload, 1) := by decide +kernel
theorem dL_law_1620 : decode cL_law 1620 = .ok (.invokevirtual 205, 3) := by decide +kernel
theorem dL_law_1623 : decode cL_law 1623 = .ok (.if_icmp .eq 117, 3) := by decide +kernel
theorem dL_law_1626 : decode cL_law 1626 = .ok (.iconst 0, 1) := by decide +kernel
theorem dL_law_1627 : decode cL_law 1627 = .ok (.ireturn, 1) := by decide +kernel
theorem dL_law_1628 : decode cL_law 1628 = .ok (.aload_n 1, 1) := by decide +kernel
theorem dL_law_1629 : decode cL_law 1629 = .ok (.aload_n 0, 1) := by decide +kernel
theorem dL_law_1630 : decode cL_law 1630 = .ok (.iload 4, 2) := by decide +kernel
theorem dL_law_1632 : decode cL_law 1632 = .ok (.iconst 1, 1) := by decide +kernel
theorem dL_law_1633 : decode cL_law 1633 = .ok (.iadd, 1) := by decide +kernel
theorem dL_law_1634 : decode cL_law 1634 = .ok (.iaload, 1) := by decide +kernel
theorem dL_law_1635 : decode cL_law 1635 = .ok (.aload_n 0, 1) := by decide +kernel
theorem dL_law_1636 : decode cL_law 1636 = .ok (.iload 4, 2) := by decide +kernel
theorem dL_law_1638 : decode cL_law 1638 = .ok (.iconst 2, 1) := by decide +kernel
theorem dL_law_1639 : decode cL_law 1639 = .ok (.iadd, 1) := by decide +kernel
theorem dL_law_1640 : decode cL_law 1640 = .ok (.iaload, 1) := by decide +kernel
theorem dL_law_1641 : decode cL_law 1641 = .ok (.invokevirtual 206, 3) := by decide +kernel
theorem dL_law_1644 : decode cL_law 1644 = .ok (.aload_n 2, 1) := by decide +kernel
theorem dL_law_1645 : decode cL_law 1645 = .ok (.aload_n 0, 1) := by decide +kernel
theorem dL_law_1646 : decode cL_law 1646 = .ok (.iload 4, 2) := by decide +kernel
theorem dL_law_1648 : decode cL_law 1648 = .ok (.iconst 1, 1) := by decide +kernel
theorem dL_law_1649 : decode cL_law 1649 = .ok (.iadd, 1) := by decide +kernel
theorem dL_law_1650 : decode cL_law 1650 = .ok (.iaload, 1) := by decide +kernel
theorem dL_law_1651 : decode cL_law 1651 = .ok (.aload_n 0, 1) := by decide +kernel
theorem dL_law_1652 : decode cL_law 1652 = .ok (.iload 4, 2) := by decide +kernel
theorem dL_law_1654 : decode cL_law 1654 = .ok (.iconst 2, 1) := by decide +kernel
theorem dL_law_1655 : decode cL_law 1655 = .ok (.iadd, 1) := by decide +kernel
theorem dL_law_1656 : decode cL_law 1656 = .ok (.iaload, 1) := by decide +kernel
theorem dL_law_1657 : decode cL_law 1657 = .ok (.invokevirtual 209, 3) := by decide +kernel
theorem dL_law_1660 : decode cL_law 1660 = .ok (.if_icmp .eq 80, 3) := by decide +kernel
theorem dL_law_1663 : decode cL_law 1663 = .ok (.iconst 0, 1) := by decide +kernel
theorem dL_law_1664 : decode cL_law 1664 = .ok (.ireturn, 1) := by decide +kernel
theorem dL_law_1665 : decode cL_law 1665 = .ok (.aload_n 1, 1) := by decide +kernel
theorem dL_law_1666 : decode cL_law 1666 = .ok (.aload_n 0, 1) := by decide +kernel
theorem dL_law_1667 : decode cL_law 1667 = .ok (.iload 4, 2) := by decide +kernel
theorem dL_law_1669 : decode cL_law 1669 = .ok (.iconst 1, 1) := by decide +kernel
theorem dL_law_1670 : decode cL_law 1670 = .ok (.iadd, 1) := by decide +kernel
theorem dL_law_1671 : decode cL_law 1671 = .ok (.iaload, 1) := by decide +kernel
theorem dL_law_1672 : decode cL_law 1672 = .ok (.invokevirtual 210, 3) := by decide +kernel
theorem dL_law_1675 : decode cL_law 1675 = .ok (.aload_n 2, 1) := by decide +kernel
theorem dL_law_1676 : decode cL_law 1676 = .ok (.aload_n 0, 1) := by decide +kernel
theorem dL_law_1677 : decode cL_law 1677 = .ok (.iload 4, 2) := by decide +kernel
theorem dL_law_1679 : decode cL_law 1679 = .ok (.iconst 1, 1) := by decide +kernel
theorem dL_law_1680 : decode cL_law 1680 = .ok (.iadd, 1) := by decide +kernel
theorem dL_law_1681 : decode cL_law 1681 = .ok (.iaload, 1) := by decide +kernel
theorem dL_law_1682 : decode cL_law 1682 = .ok (.invokevirtual 213, 3) := by decide +kernel
theorem dL_law_1685 : decode cL_law 1685 = .ok (.if_icmp .eq 55, 3) := by decide +kernel
theorem dL_law_1688 : decode cL_law 1688 = .ok (.iconst 0, 1) := by decide +kernel
theorem dL_law_1689 : decode cL_law 1689 = .ok (.ireturn, 1) := by decide +kernel
theorem dL_law_1690 : decode cL_law 1690 = .ok (.aload_n 1, 1) := by decide +kernel
theorem dL_law_1691 : decode cL_law 1691 = .ok (.aload_n 0, 1) := by decide +kernel
theorem dL_law_1692 : decode cL_law 1692 = .ok (.iload 4, 2) := by decide +kernel
theorem dL_law_1694 : decode cL_law 1694 = .ok (.iconst 1, 1) := by decide +kernel
theorem dL_law_1695 : decode cL_law 1695 = .ok (.iadd, 1) := by decide +kernel
theorem dL_law_1696 : decode cL_law 1696 = .ok (.iaload, 1) := by decide +kernel
theorem dL_law_1697 : decode cL_law 1697 = .ok (.invokevirtual 214, 3) := by decide +kernel
theorem dL_law_1700 : decode cL_law 1700 = .ok (.aload_n 2, 1) := by decide +kernel
theorem dL_law_1701 : decode cL_law 1701 = .ok (.aload_n 0, 1) := by decide +kernel
theorem dL_law_1702 : decode cL_law 1702 = .ok (.iload 4, 2) := by decide +kernel
theorem dL_law_1704 : decode cL_law 1704 = .ok (.iconst 1, 1) := by decide +kernel
theorem dL_law_1705 : decode cL_law 1705 = .ok (.iadd, 1) := by decide +kernel
theorem dL_law_1706 : decode cL_law 1706 = .ok (.iaload, 1) := by decide +kernel
theorem dL_law_1707 : decode cL_law 1707 = .ok (.invokevirtual 217, 3) := by decide +kernel
theorem dL_law_1710 : decode cL_law 1710 = .ok (.if_icmp .eq 30, 3) := by decide +kernel
theorem dL_law_1713 : decode cL_law 1713 = .ok (.iconst 0, 1) := by decide +kernel
theorem dL_law_1714 : decode cL_law 1714 = .ok (.ireturn, 1) := by decide +kernel
theorem dL_law_1715 : decode cL_law 1715 = .ok (.aload_n 1, 1) := by decide +kernel
theorem dL_law_1716 : decode cL_law 1716 = .ok (.aload_n 0, 1) := by decide +kernel
theorem dL_law_1717 : decode cL_law 1717 = .ok (.iload 4, 2) := by decide +kernel
theorem dL_law_1719 : decode cL_law 1719 = .ok (.iconst 1, 1) := by decide +kernel
theorem dL_law_1720 : decode cL_law 1720 = .ok (.iadd, 1) := by decide +kernel
theorem dL_law_1721 : decode cL_law 1721 = .ok (.iaload, 1) := by decide +kernel
theorem dL_law_1722 : decode cL_law 1722 = .ok (.invokevirtual 218, 3) := by decide +kernel
theorem dL_law_1725 : decode cL_law 1725 = .ok (.aload_n 2, 1) := by decide +kernel
theorem dL_law_1726 : decode cL_law 1726 = .ok (.aload_n 0, 1) := by decide +kernel
theorem dL_law_1727 : decode cL_law 1727 = .ok (.iload 4, 2) := by decide +kernel
theorem dL_law_1729 : decode cL_law 1729 = .ok (.iconst 1, 1) := by decide +kernel
theorem dL_law_1730 : decode cL_law 1730 = .ok (.iadd, 1) := by decide +kernel
theorem dL_law_1731 : decode cL_law 1731 = .ok (.iaload, 1) := by decide +kernel
theorem dL_law_1732 : decode cL_law 1732 = .ok (.invokevirtual 221, 3) := by decide +kernel
theorem dL_law_1735 : decode cL_law 1735 = .ok (.if_icmp .eq 5, 3) := by decide +kernel
theorem dL_law_1738 : decode cL_law 1738 = .ok (.iconst 0, 1) := by decide +kernel
theorem dL_law_1739 : decode cL_law 1739 = .ok (.ireturn, 1) := by decide +kernel
theorem dL_law_1740 : decode cL_law 1740 = .ok (.iinc 4 6, 3) := by decide +kernel
theorem dL_law_1743 : decode cL_law 1743 = .ok (.goto (-1720), 3) := by decide +kernel
theorem dL_law_1746 : decode cL_law 1746 = .ok (.iconst 1, 1) := by decide +kernel
theorem dL_law_1747 : decode cL_law 1747 = .ok (.ireturn, 1) := by decide +kernel
