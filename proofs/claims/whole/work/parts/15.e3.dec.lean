theorem dX12_fits_102 : decode cX12_fits 102 = .ok (.aload_n 0, 1) := by decide +kernel
theorem dX12_fits_103 : decode cX12_fits 103 = .ok (.iload 5, 2) := by decide +kernel
theorem dX12_fits_105 : decode cX12_fits 105 = .ok (.ifCond .ne 15, 3) := by decide +kernel
theorem dX12_fits_108 : decode cX12_fits 108 = .ok (.aload_n 0, 1) := by decide +kernel
theorem dX12_fits_109 : decode cX12_fits 109 = .ok (.iload_n 1, 1) := by decide +kernel
theorem dX12_fits_110 : decode cX12_fits 110 = .ok (.iload_n 2, 1) := by decide +kernel
theorem dX12_fits_111 : decode cX12_fits 111 = .ok (.iload_n 3, 1) := by decide +kernel
theorem dX12_fits_112 : decode cX12_fits 112 = .ok (.iload 4, 2) := by decide +kernel
theorem dX12_fits_114 : decode cX12_fits 114 = .ok (.invokevirtual 238, 3) := by decide +kernel
theorem dX12_fits_117 : decode cX12_fits 117 = .ok (.goto 23, 3) := by decide +kernel
theorem dX12_fits_120 : decode cX12_fits 120 = .ok (.aload_n 0, 1) := by decide +kernel
theorem dX12_fits_121 : decode cX12_fits 121 = .ok (.iload_n 1, 1) := by decide +kernel
theorem dX12_fits_122 : decode cX12_fits 122 = .ok (.iload_n 2, 1) := by decide +kernel
theorem dX12_fits_123 : decode cX12_fits 123 = .ok (.iload_n 3, 1) := by decide +kernel
theorem dX12_fits_124 : decode cX12_fits 124 = .ok (.iload 4, 2) := by decide +kernel
theorem dX12_fits_126 : decode cX12_fits 126 = .ok (.iload 5, 2) := by decide +kernel
theorem dX12_fits_128 : decode cX12_fits 128 = .ok (.iconst 4, 1) := by decide +kernel
theorem dX12_fits_129 : decode cX12_fits 129 = .ok (.if_icmp .ne 7, 3) := by decide +kernel
theorem dX12_fits_132 : decode cX12_fits 132 = .ok (.iconst 1, 1) := by decide +kernel
theorem dX12_fits_133 : decode cX12_fits 133 = .ok (.goto 4, 3) := by decide +kernel
theorem dX12_fits_136 : decode cX12_fits 136 = .ok (.iconst 0, 1) := by decide +kernel
theorem dX12_fits_137 : decode cX12_fits 137 = .ok (.invokevirtual 242, 3) := by decide +kernel
theorem dX12_fits_140 : decode cX12_fits 140 = .ok (.invokevirtual 71, 3) := by decide +kernel
theorem dX12_fits_143 : decode cX12_fits 143 = .ok (.ireturn, 1) := by decide +kernel
theorem dX12_fits_144 : decode cX12_fits 144 = .ok (.iconst 0, 1) := by decide +kernel
theorem dX12_fits_145 : decode cX12_fits 145 = .ok (.istore 6, 2) := by decide +kernel
theorem dX12_fits_147 : decode cX12_fits 147 = .ok (.iload 5, 2) := by decide +kernel
theorem dX12_fits_149 : decode cX12_fits 149 = .ok (.iconst 1, 1) := by decide +kernel
theorem dX12_fits_150 : decode cX12_fits 150 = .ok (.if_icmp .ne 7, 3) := by decide +kernel
theorem dX12_fits_153 : decode cX12_fits 153 = .ok (.iconst 1, 1) := by decide +kernel
theorem dX12_fits_154 : decode cX12_fits 154 = .ok (.goto 4, 3) := by decide +kernel
theorem dX12_fits_157 : decode cX12_fits 157 = .ok (.iconst 0, 1) := by decide +kernel
theorem dX12_fits_158 : decode cX12_fits 158 = .ok (.istore 7, 2) := by decide +kernel
theorem dX12_fits_160 : decode cX12_fits 160 = .ok (.iload 7, 2) := by decide +kernel
theorem dX12_fits_162 : decode cX12_fits 162 = .ok (.iload 5, 2) := by decide +kernel
theorem dX12_fits_164 : decode cX12_fits 164 = .ok (.iconst 1, 1) := by decide +kernel
theorem dX12_fits_165 : decode cX12_fits 165 = .ok (.if_icmp .ne 8, 3) := by decide +kernel
theorem dX12_fits_168 : decode cX12_fits 168 = .ok (.bipush 21, 2) := by decide +kernel
theorem dX12_fits_170 : decode cX12_fits 170 = .ok (.goto 5, 3) := by decide +kernel
theorem dX12_fits_173 : decode cX12_fits 173 = .ok (.bipush 10, 2) := by decide +kernel
theorem dX12_fits_175 : decode cX12_fits 175 = .ok (.if_icmp .ge 67, 3) := by decide +kernel
theorem dX12_fits_178 : decode cX12_fits 178 = .ok (.aload_n 0, 1) := by decide +kernel
theorem dX12_fits_179 : decode cX12_fits 179 = .ok (.iconst 0, 1) := by decide +kernel
theorem dX12_fits_180 : decode cX12_fits 180 = .ok (.sipush 729, 3) := by decide +kernel
theorem dX12_fits_183 : decode cX12_fits 183 = .ok (.invokevirtual 162, 3) := by decide +kernel
theorem dX12_fits_186 : decode cX12_fits 186 = .ok (.aload_n 0, 1) := by decide +kernel
theorem dX12_fits_187 : decode cX12_fits 187 = .ok (.getfield 7, 3) := by decide +kernel
theorem dX12_fits_190 : decode cX12_fits 190 = .ok (.sipush 729, 3) := by decide +kernel
theorem dX12_fits_193 : decode cX12_fits 193 = .ok (.iload 5, 2) := by decide +kernel
theorem dX12_fits_195 : decode cX12_fits 195 = .ok (.iconst 1, 1) := by decide +kernel
theorem dX12_fits_196 : decode cX12_fits 196 = .ok (.if_icmp .ne 10, 3) := by decide +kernel
theorem dX12_fits_199 : decode cX12_fits 199 = .ok (.bipush 8, 2) := by decide +kernel
theorem dX12_fits_201 : decode cX12_fits 201 = .ok (.iload_n 1, 1) := by decide +kernel
theorem dX12_fits_202 : decode cX12_fits 202 = .ok (.iadd, 1) := by decide +kernel
theorem dX12_fits_203 : decode cX12_fits 203 = .ok (.goto 4, 3) := by decide +kernel
theorem dX12_fits_206 : decode cX12_fits 206 = .ok (.iload_n 1, 1) := by decide +kernel
theorem dX12_fits_207 : decode cX12_fits 207 = .ok (.iadd, 1) := by decide +kernel
theorem dX12_fits_208 : decode cX12_fits 208 = .ok (.iload 7, 2) := by decide +kernel
theorem dX12_fits_210 : decode cX12_fits 210 = .ok (.iastore, 1) := by decide +kernel
theorem dX12_fits_211 : decode cX12_fits 211 = .ok (.iload 6, 2) := by decide +kernel
theorem dX12_fits_213 : decode cX12_fits 213 = .ok (.aload_n 0, 1) := by decide +kernel
theorem dX12_fits_214 : decode cX12_fits 214 = .ok (.iload_n 1, 1) := by decide +kernel
theorem dX12_fits_215 : decode cX12_fits 215 = .ok (.iload_n 2, 1) := by decide +kernel
theorem dX12_fits_216 : decode cX12_fits 216 = .ok (.iload_n 3, 1) := by decide +kernel
theorem dX12_fits_217 : decode cX12_fits 217 = .ok (.iload 4, 2) := by decide +kernel
theorem dX12_fits_219 : decode cX12_fits 219 = .ok (.invokevirtual 232, 3) := by decide +kernel
theorem dX12_fits_222 : decode cX12_fits 222 = .ok (.ifCond .eq 10, 3) := by decide +kernel
theorem dX12_fits_225 : decode cX12_fits 225 = .ok (.iconst 1, 1) := by decide +kernel
theorem dX12_fits_226 : decode cX12_fits 226 = .ok (.iload 7, 2) := by decide +kernel
theorem dX12_fits_228 : decode cX12_fits 228 = .ok (.ishl, 1) := by decide +kernel
theorem dX12_fits_229 : decode cX12_fits 229 = .ok (.goto 4, 3) := by decide +kernel
theorem dX12_fits_232 : decode cX12_fits 232 = .ok (.iconst 0, 1) := by decide +kernel
theorem dX12_fits_233 : decode cX12_fits 233 = .ok (.ior, 1) := by decide +kernel
theorem dX12_fits_234 : decode cX12_fits 234 = .ok (.istore 6, 2) := by decide +kernel
theorem dX12_fits_236 : decode cX12_fits 236 = .ok (.iinc 7 1, 3) := by decide +kernel
theorem dX12_fits_239 : decode cX12_fits 239 = .ok (.goto (-79), 3) := by decide +kernel
theorem dX12_fits_242 : decode cX12_fits 242 = .ok (.aload_n 0, 1) := by decide +kernel
theorem dX12_fits_243 : decode cX12_fits 243 = .ok (.iload 6, 2) := by decide +kernel
theorem dX12_fits_245 : decode cX12_fits 245 = .ok (.invokevirtual 71, 3) := by decide +kernel
theorem dX12_fits_248 : decode cX12_fits 248 = .ok (.ireturn, 1) := by decide +kernel
theorem dX12_chance_0 : decode cX12_chance 0 = .ok (.aload_n 0, 1) := by decide +kernel
theorem dX12_chance_1 : decode cX12_chance 1 = .ok (.iload_n 1, 1) := by decide +kernel
theorem dX12_chance_2 : decode cX12_chance 2 = .ok (.invokevirtual 185, 3) := by decide +kernel
theorem dX12_chance_5 : decode cX12_chance 5 = .ok (.ifCond .eq 38, 3) := by decide +kernel
theorem dX12_chance_8 : decode cX12_chance 8 = .ok (.iload_n 2, 1) := by decide +kernel
theorem dX12_chance_9 : decode cX12_chance 9 = .ok (.i2l, 1) := by decide +kernel
theorem dX12_chance_10 : decode cX12_chance 10 = .ok (.lconst 0, 1) := by decide +kernel
theorem dX12_chance_11 : decode cX12_chance 11 = .ok (.ldc2_w 200, 3) := by decide +kernel
theorem dX12_chance_14 : decode cX12_chance 14 = .ok (.invokestatic 60, 3) := by decide +kernel
theorem dX12_chance_17 : decode cX12_chance 17 = .ok (.ifCond .eq 26, 3) := by decide +kernel
theorem dX12_chance_20 : decode cX12_chance 20 = .ok (.iload_n 3, 1) := by decide +kernel
theorem dX12_chance_21 : decode cX12_chance 21 = .ok (.i2l, 1) := by decide +kernel
theorem dX12_chance_22 : decode cX12_chance 22 = .ok (.lconst 0, 1) := by decide +kernel
theorem dX12_chance_23 : decode cX12_chance 23 = .ok (.ldc2_w 246, 3) := by decide +kernel
theorem dX12_chance_26 : decode cX12_chance 26 = .ok (.invokestatic 60, 3) := by decide +kernel
theorem dX12_chance_29 : decode cX12_chance 29 = .ok (.ifCond .eq 14, 3) := by decide +kernel
theorem dX12_chance_32 : decode cX12_chance 32 = .ok (.iload 4, 2) := by decide +kernel
theorem dX12_chance_34 : decode cX12_chance 34 = .ok (.i2l, 1) := by decide +kernel
theorem dX12_chance_35 : decode cX12_chance 35 = .ok (.lconst 0, 1) := by decide +kernel
theorem dX12_chance_36 : decode cX12_chance 36 = .ok (.lconst 1, 1) := by decide +kernel
theorem dX12_chance_37 : decode cX12_chance 37 = .ok (.invokestatic 60, 3) := by decide +kernel
theorem dX12_chance_40 : decode cX12_chance 40 = .ok (.ifCond .ne 6, 3) := by decide +kernel
theorem dX12_chance_43 : decode cX12_chance 43 = .ok (.ldc 66, 2) := by decide +kernel
theorem dX12_chance_45 : decode cX12_chance 45 = .ok (.ireturn, 1) := by decide +kernel
theorem dX12_chance_46 : decode cX12_chance 46 = .ok (.aload_n 0, 1) := by decide +kernel
theorem dX12_chance_47 : decode cX12_chance 47 = .ok (.invokevirtual 208, 3) := by decide +kernel
theorem dX12_chance_50 : decode cX12_chance 50 = .ok (.istore 5, 2) := by decide +kernel
theorem dX12_chance_52 : decode cX12_chance 52 = .ok (.lconst 0, 1) := by decide +kernel
theorem dX12_chance_53 : decode cX12_chance 53 = .ok (.lstore 6, 2) := by decide +kernel
theorem dX12_chance_55 : decode cX12_chance 55 = .ok (.lconst 0, 1) := by decide +kernel
theorem dX12_chance_56 : decode cX12_chance 56 = .ok (.lstore 8, 2) := by decide +kernel
theorem dX12_chance_58 : decode cX12_chance 58 = .ok (.iconst 0, 1) := by decide +kernel
theorem dX12_chance_59 : decode cX12_chance 59 = .ok (.istore 10, 2) := by decide +kernel
theorem dX12_chance_61 : decode cX12_chance 61 = .ok (.iload 10, 2) := by decide +kernel
theorem dX12_chance_63 : decode cX12_chance 63 = .ok (.bipush 64, 2) := by decide +kernel
theorem dX12_chance_65 : decode cX12_chance 65 = .ok (.if_icmp .ge 129, 3) := by decide +kernel
theorem dX12_chance_68 : decode cX12_chance 68 = .ok (.iload 10, 2) := by decide +kernel
theorem dX12_chance_70 : decode cX12_chance 70 = .ok (.iload 5, 2) := by decide +kernel
theorem dX12_chance_72 : decode cX12_chance 72 = .ok (.iconst (-1), 1) := by decide +kernel
theorem dX12_chance_73 : decode cX12_chance 73 = .ok (.ixor, 1) := by decide +kernel
theorem dX12_chance_74 : decode cX12_chance 74 = .ok (.iand, 1) := by decide +kernel
theorem dX12_chance_75 : decode cX12_chance 75 = .ok (.ifCond .ne 113, 3) := by decide +kernel
theorem dX12_chance_78 : decode cX12_chance 78 = .ok (.aload_n 0, 1) := by decide +kernel
theorem dX12_chance_79 : decode cX12_chance 79 = .ok (.iconst 0, 1) := by decide +kernel
theorem dX12_chance_80 : decode cX12_chance 80 = .ok (.sipush 729, 3) := by decide +kernel
theorem dX12_chance_83 : decode cX12_chance 83 = .ok (.invokevirtual 162, 3) := by decide +kernel
theorem dX12_chance_86 : decode cX12_chance 86 = .ok (.aload_n 0, 1) := by decide +kernel
theorem dX12_chance_87 : decode cX12_chance 87 = .ok (.iload 10, 2) := by decide +kernel
theorem dX12_chance_89 : decode cX12_chance 89 = .ok (.invokevirtual 214, 3) := by decide +kernel
theorem dX12_chance_92 : decode cX12_chance 92 = .ok (.lconst 1, 1) := by decide +kernel
theorem dX12_chance_93 : decode cX12_chance 93 = .ok (.lstore 11, 2) := by decide +kernel
theorem dX12_chance_95 : decode cX12_chance 95 = .ok (.iconst 0, 1) := by decide +kernel
theorem dX12_chance_96 : decode cX12_chance 96 = .ok (.istore 13, 2) := by decide +kernel
theorem dX12_chance_98 : decode cX12_chance 98 = .ok (.iload 13, 2) := by decide +kernel
theorem dX12_chance_100 : decode cX12_chance 100 = .ok (.aload_n 0, 1) := by decide +kernel
theorem dX12_chance_101 : decode cX12_chance 101 = .ok (.getfield 13, 3) := by decide +kernel
theorem dX12_chance_104 : decode cX12_chance 104 = .ok (.iconst 1, 1) := by decide +kernel
theorem dX12_chance_105 : decode cX12_chance 105 = .ok (.iaload, 1) := by decide +kernel
theorem dX12_chance_106 : decode cX12_chance 106 = .ok (.if_icmp .ge 48, 3) := by decide +kernel
theorem dX12_chance_109 : decode cX12_chance 109 = .ok (.lload 11, 2) := by decide +kernel
theorem dX12_chance_111 : decode cX12_chance 111 = .ok (.iload 5, 2) := by decide +kernel
theorem dX12_chance_113 : decode cX12_chance 113 = .ok (.iload 13, 2) := by decide +kernel
theorem dX12_chance_115 : decode cX12_chance 115 = .ok (.invokestatic 150, 3) := by decide +kernel
theorem dX12_chance_118 : decode cX12_chance 118 = .ok (.ifCond .ne 7, 3) := by decide +kernel
theorem dX12_chance_121 : decode cX12_chance 121 = .ok (.lconst 1, 1) := by decide +kernel
theorem dX12_chance_122 : decode cX12_chance 122 = .ok (.goto 23, 3) := by decide +kernel
theorem dX12_chance_125 : decode cX12_chance 125 = .ok (.iload 10, 2) := by decide +kernel
theorem dX12_chance_127 : decode cX12_chance 127 = .ok (.iload 13, 2) := by decide +kernel
theorem dX12_chance_129 : decode cX12_chance 129 = .ok (.invokestatic 150, 3) := by decide +kernel
theorem dX12_chance_132 : decode cX12_chance 132 = .ok (.ifCond .eq 8, 3) := by decide +kernel
theorem dX12_chance_135 : decode cX12_chance 135 = .ok (.iload_n 3, 1) := by decide +kernel
theorem dX12_chance_136 : decode cX12_chance 136 = .ok (.i2l, 1) := by decide +kernel
theorem dX12_chance_137 : decode cX12_chance 137 = .ok (.goto 8, 3) := by decide +kernel
theorem dX12_chance_140 : decode cX12_chance 140 = .ok (.bipush 10, 2) := by decide +kernel
theorem dX12_chance_142 : decode cX12_chance 142 = .ok (.iload_n 3, 1) := by decide +kernel
theorem dX12_chance_143 : decode cX12_chance 143 = .ok (.isub, 1) := by decide +kernel
theorem dX12_chance_144 : decode cX12_chance 144 = .ok (.i2l, 1) := by decide +kernel
theorem dX12_chance_145 : decode cX12_chance 145 = .ok (.lmul, 1) := by decide +kernel
theorem dX12_chance_146 : decode cX12_chance 146 = .ok (.lstore 11, 2) := by decide +kernel
theorem dX12_chance_148 : decode cX12_chance 148 = .ok (.iinc 13 1, 3) := by decide +kernel
theorem dX12_chance_151 : decode cX12_chance 151 = .ok (.goto (-53), 3) := by decide +kernel
theorem dX12_chance_154 : decode cX12_chance 154 = .ok (.aload_n 0, 1) := by decide +kernel
theorem dX12_chance_155 : decode cX12_chance 155 = .ok (.iload_n 2, 1) := by decide +kernel
theorem dX12_chance_156 : decode cX12_chance 156 = .ok (.invokevirtual 202, 3) := by decide +kernel
theorem dX12_chance_159 : decode cX12_chance 159 = .ok (.lload 8, 2) := by decide +kernel
theorem dX12_chance_161 : decode cX12_chance 161 = .ok (.lload 11, 2) := by decide +kernel
theorem dX12_chance_163 : decode cX12_chance 163 = .ok (.ladd, 1) := by decide +kernel
theorem dX12_chance_164 : decode cX12_chance 164 = .ok (.lstore 8, 2) := by decide +kernel
theorem dX12_chance_166 : decode cX12_chance 166 = .ok (.lload 6, 2) := by decide +kernel
theorem dX12_chance_168 : decode cX12_chance 168 = .ok (.aload_n 0, 1) := by decide +kernel
theorem dX12_chance_169 : decode cX12_chance 169 = .ok (.sipush 729, 3) := by decide +kernel
theorem dX12_chance_172 : decode cX12_chance 172 = .ok (.iload_n 1, 1) := by decide +kernel
theorem dX12_chance_173 : decode cX12_chance 173 = .ok (.invokevirtual 134, 3) := by decide +kernel
theorem dX12_chance_176 : decode cX12_chance 176 = .ok (.ifCond .eq 8, 3) := by decide +kernel
theorem dX12_chance_179 : decode cX12_chance 179 = .ok (.lload 11, 2) := by decide +kernel
theorem dX12_chance_181 : decode cX12_chance 181 = .ok (.goto 4, 3) := by decide +kernel
theorem dX12_chance_184 : decode cX12_chance 184 = .ok (.lconst 0, 1) := by decide +kernel
theorem dX12_chance_185 : decode cX12_chance 185 = .ok (.ladd, 1) := by decide +kernel
theorem dX12_chance_186 : decode cX12_chance 186 = .ok (.lstore 6, 2) := by decide +kernel
theorem dX12_chance_188 : decode cX12_chance 188 = .ok (.iinc 10 1, 3) := by decide +kernel
theorem dX12_chance_191 : decode cX12_chance 191 = .ok (.goto (-130), 3) := by decide +kernel
theorem dX12_chance_194 : decode cX12_chance 194 = .ok (.lload 6, 2) := by decide +kernel
theorem dX12_chance_196 : decode cX12_chance 196 = .ok (.lstore 10, 2) := by decide +kernel
theorem dX12_chance_198 : decode cX12_chance 198 = .ok (.lload 8, 2) := by decide +kernel
theorem dX12_chance_200 : decode cX12_chance 200 = .ok (.lstore 12, 2) := by decide +kernel
theorem dX12_chance_202 : decode cX12_chance 202 = .ok (.lload 12, 2) := by decide +kernel
theorem dX12_chance_204 : decode cX12_chance 204 = .ok (.lconst 0, 1) := by decide +kernel
theorem dX12_chance_205 : decode cX12_chance 205 = .ok (.lcmp, 1) := by decide +kernel
theorem dX12_chance_206 : decode cX12_chance 206 = .ok (.ifCond .eq 21, 3) := by decide +kernel
theorem dX12_chance_209 : decode cX12_chance 209 = .ok (.lload 10, 2) := by decide +kernel
theorem dX12_chance_211 : decode cX12_chance 211 = .ok (.lload 12, 2) := by decide +kernel
theorem dX12_chance_213 : decode cX12_chance 213 = .ok (.lrem, 1) := by decide +kernel
theorem dX12_chance_214 : decode cX12_chance 214 = .ok (.lstore 14, 2) := by decide +kernel
theorem dX12_chance_216 : decode cX12_chance 216 = .ok (.lload 12, 2) := by decide +kernel
theorem dX12_chance_218 : decode cX12_chance 218 = .ok (.lstore 10, 2) := by decide +kernel
theorem dX12_chance_220 : decode cX12_chance 220 = .ok (.lload 14, 2) := by decide +kernel
theorem dX12_chance_222 : decode cX12_chance 222 = .ok (.lstore 12, 2) := by decide +kernel
theorem dX12_chance_224 : decode cX12_chance 224 = .ok (.goto (-22), 3) := by decide +kernel
theorem dX12_chance_227 : decode cX12_chance 227 = .ok (.iload 4, 2) := by decide +kernel
theorem dX12_chance_229 : decode cX12_chance 229 = .ok (.ifCond .ne 11, 3) := by decide +kernel
theorem dX12_chance_232 : decode cX12_chance 232 = .ok (.lload 6, 2) := by decide +kernel
theorem dX12_chance_234 : decode cX12_chance 234 = .ok (.lload 10, 2) := by decide +kernel
theorem dX12_chance_236 : decode cX12_chance 236 = .ok (.ldiv, 1) := by decide +kernel
theorem dX12_chance_237 : decode cX12_chance 237 = .ok (.goto 8, 3) := by decide +kernel
theorem dX12_chance_240 : decode cX12_chance 240 = .ok (.lload 8, 2) := by decide +kernel
theorem dX12_chance_242 : decode cX12_chance 242 = .ok (.lload 10, 2) := by decide +kernel
theorem dX12_chance_244 : decode cX12_chance 244 = .ok (.ldiv, 1) := by decide +kernel
theorem dX12_chance_245 : decode cX12_chance 245 = .ok (.l2i, 1) := by decide +kernel
theorem dX12_chance_246 : decode cX12_chance 246 = .ok (.ireturn, 1) := by decide +kernel
theorem dX12_drawn_0 : decode cX12_drawn 0 = .ok (.aload_n 0, 1) := by decide +kernel
theorem dX12_drawn_1 : decode cX12_drawn 1 = .ok (.invokevirtual 165, 3) := by decide +kernel
theorem dX12_drawn_4 : decode cX12_drawn 4 = .ok (.ifCond .ne 6, 3) := by decide +kernel
theorem dX12_drawn_7 : decode cX12_drawn 7 = .ok (.ldc 169, 2) := by decide +kernel
theorem dX12_drawn_9 : decode cX12_drawn 9 = .ok (.ireturn, 1) := by decide +kernel
theorem dX12_drawn_10 : decode cX12_drawn 10 = .ok (.iload_n 1, 1) := by decide +kernel
theorem dX12_drawn_11 : decode cX12_drawn 11 = .ok (.i2l, 1) := by decide +kernel
theorem dX12_drawn_12 : decode cX12_drawn 12 = .ok (.lconst 0, 1) := by decide +kernel
theorem dX12_drawn_13 : decode cX12_drawn 13 = .ok (.ldc2_w 200, 3) := by decide +kernel
theorem dX12_drawn_16 : decode cX12_drawn 16 = .ok (.invokestatic 60, 3) := by decide +kernel
theorem dX12_drawn_19 : decode cX12_drawn 19 = .ok (.ifCond .eq 25, 3) := by decide +kernel
theorem dX12_drawn_22 : decode cX12_drawn 22 = .ok (.iload_n 2, 1) := by decide +kernel
theorem dX12_drawn_23 : decode cX12_drawn 23 = .ok (.i2l, 1) := by decide +kernel
theorem dX12_drawn_24 : decode cX12_drawn 24 = .ok (.lconst 1, 1) := by decide +kernel
theorem dX12_drawn_25 : decode cX12_drawn 25 = .ok (.ldc2_w 248, 3) := by decide +kernel
theorem dX12_drawn_28 : decode cX12_drawn 28 = .ok (.invokestatic 60, 3) := by decide +kernel
theorem dX12_drawn_31 : decode cX12_drawn 31 = .ok (.ifCond .eq 13, 3) := by decide +kernel
theorem dX12_drawn_34 : decode cX12_drawn 34 = .ok (.iload_n 3, 1) := by decide +kernel
theorem dX12_drawn_35 : decode cX12_drawn 35 = .ok (.i2l, 1) := by decide +kernel
theorem dX12_drawn_36 : decode cX12_drawn 36 = .ok (.lconst 0, 1) := by decide +kernel
theorem dX12_drawn_37 : decode cX12_drawn 37 = .ok (.lconst 1, 1) := by decide +kernel
theorem dX12_drawn_38 : decode cX12_drawn 38 = .ok (.invokestatic 60, 3) := by decide +kernel
theorem dX12_drawn_41 : decode cX12_drawn 41 = .ok (.ifCond .ne 6, 3) := by decide +kernel
theorem dX12_drawn_44 : decode cX12_drawn 44 = .ok (.ldc 66, 2) := by decide +kernel
theorem dX12_drawn_46 : decode cX12_drawn 46 = .ok (.ireturn, 1) := by decide +kernel
theorem dX12_drawn_47 : decode cX12_drawn 47 = .ok (.aload_n 0, 1) := by decide +kernel
theorem dX12_drawn_48 : decode cX12_drawn 48 = .ok (.iconst 0, 1) := by decide +kernel
theorem dX12_drawn_49 : decode cX12_drawn 49 = .ok (.sipush 729, 3) := by decide +kernel
theorem dX12_drawn_52 : decode cX12_drawn 52 = .ok (.invokevirtual 162, 3) := by decide +kernel
theorem dX12_drawn_55 : decode cX12_drawn 55 = .ok (.aload_n 0, 1) := by decide +kernel
theorem dX12_drawn_56 : decode cX12_drawn 56 = .ok (.getfield 7, 3) := by decide +kernel
theorem dX12_drawn_59 : decode cX12_drawn 59 = .ok (.sipush 754, 3) := by decide +kernel
theorem dX12_drawn_62 : decode cX12_drawn 62 = .ok (.iconst 0, 1) := by decide +kernel
theorem dX12_drawn_63 : decode cX12_drawn 63 = .ok (.iastore, 1) := by decide +kernel
theorem dX12_drawn_64 : decode cX12_drawn 64 = .ok (.iload_n 2, 1) := by decide +kernel
theorem dX12_drawn_65 : decode cX12_drawn 65 = .ok (.i2l, 1) := by decide +kernel
theorem dX12_drawn_66 : decode cX12_drawn 66 = .ok (.lstore 4, 2) := by decide +kernel
theorem dX12_drawn_68 : decode cX12_drawn 68 = .ok (.iconst 0, 1) := by decide +kernel
theorem dX12_drawn_69 : decode cX12_drawn 69 = .ok (.istore 6, 2) := by decide +kernel
theorem dX12_drawn_71 : decode cX12_drawn 71 = .ok (.iload 6, 2) := by decide +kernel
theorem dX12_drawn_73 : decode cX12_drawn 73 = .ok (.iload_n 1, 1) := by decide +kernel
theorem dX12_drawn_74 : decode cX12_drawn 74 = .ok (.if_icmp .ge 140, 3) := by decide +kernel
theorem dX12_drawn_77 : decode cX12_drawn 77 = .ok (.lload 4, 2) := by decide +kernel
theorem dX12_drawn_79 : decode cX12_drawn 79 = .ok (.ldc2_w 250, 3) := by decide +kernel
theorem dX12_drawn_82 : decode cX12_drawn 82 = .ok (.lmul, 1) := by decide +kernel
theorem dX12_drawn_83 : decode cX12_drawn 83 = .ok (.ldc2_w 252, 3) := by decide +kernel
theorem dX12_drawn_86 : decode cX12_drawn 86 = .ok (.lrem, 1) := by decide +kernel
theorem dX12_drawn_87 : decode cX12_drawn 87 = .ok (.lstore 4, 2) := by decide +kernel
theorem dX12_drawn_89 : decode cX12_drawn 89 = .ok (.lload 4, 2) := by decide +kernel
theorem dX12_drawn_91 : decode cX12_drawn 91 = .ok (.aload_n 0, 1) := by decide +kernel
theorem dX12_drawn_92 : decode cX12_drawn 92 = .ok (.getfield 13, 3) := by decide +kernel
theorem dX12_drawn_95 : decode cX12_drawn 95 = .ok (.iconst 1, 1) := by decide +kernel
theorem dX12_drawn_96 : decode cX12_drawn 96 = .ok (.iaload, 1) := by decide +kernel
theorem dX12_drawn_97 : decode cX12_drawn 97 = .ok (.i2l, 1) := by decide +kernel
theorem dX12_drawn_98 : decode cX12_drawn 98 = .ok (.lrem, 1) := by decide +kernel
theorem dX12_drawn_99 : decode cX12_drawn 99 = .ok (.l2i, 1) := by decide +kernel
theorem dX12_drawn_100 : decode cX12_drawn 100 = .ok (.istore 7, 2) := by decide +kernel
theorem dX12_drawn_102 : decode cX12_drawn 102 = .ok (.lload 4, 2) := by decide +kernel
theorem dX12_drawn_104 : decode cX12_drawn 104 = .ok (.ldc2_w 198, 3) := by decide +kernel
theorem dX12_drawn_107 : decode cX12_drawn 107 = .ok (.lrem, 1) := by decide +kernel
theorem dX12_drawn_108 : decode cX12_drawn 108 = .ok (.lconst 0, 1) := by decide +kernel
theorem dX12_drawn_109 : decode cX12_drawn 109 = .ok (.lcmp, 1) := by decide +kernel
theorem dX12_drawn_110 : decode cX12_drawn 110 = .ok (.ifCond .ne 30, 3) := by decide +kernel
theorem dX12_drawn_113 : decode cX12_drawn 113 = .ok (.aload_n 0, 1) := by decide +kernel
theorem dX12_drawn_114 : decode cX12_drawn 114 = .ok (.getfield 7, 3) := by decide +kernel
theorem dX12_drawn_117 : decode cX12_drawn 117 = .ok (.sipush 747, 3) := by decide +kernel
theorem dX12_drawn_120 : decode cX12_drawn 120 = .ok (.iload 7, 2) := by decide +kernel
theorem dX12_drawn_122 : decode cX12_drawn 122 = .ok (.iadd, 1) := by decide +kernel
theorem dX12_drawn_123 : decode cX12_drawn 123 = .ok (.iconst 1, 1) := by decide +kernel
theorem dX12_drawn_124 : decode cX12_drawn 124 = .ok (.aload_n 0, 1) := by decide +kernel
theorem dX12_drawn_125 : decode cX12_drawn 125 = .ok (.getfield 7, 3) := by decide +kernel
theorem dX12_drawn_128 : decode cX12_drawn 128 = .ok (.sipush 747, 3) := by decide +kernel
theorem dX12_drawn_131 : decode cX12_drawn 131 = .ok (.iload 7, 2) := by decide +kernel
theorem dX12_drawn_133 : decode cX12_drawn 133 = .ok (.iadd, 1) := by decide +kernel
theorem dX12_drawn_134 : decode cX12_drawn 134 = .ok (.iaload, 1) := by decide +kernel
theorem dX12_drawn_135 : decode cX12_drawn 135 = .ok (.isub, 1) := by decide +kernel
theorem dX12_drawn_136 : decode cX12_drawn 136 = .ok (.iastore, 1) := by decide +kernel
theorem dX12_drawn_137 : decode cX12_drawn 137 = .ok (.goto 66, 3) := by decide +kernel
theorem dX12_drawn_140 : decode cX12_drawn 140 = .ok (.lload 4, 2) := by decide +kernel
theorem dX12_drawn_142 : decode cX12_drawn 142 = .ok (.ldc2_w 196, 3) := by decide +kernel
theorem dX12_drawn_145 : decode cX12_drawn 145 = .ok (.lrem, 1) := by decide +kernel
theorem dX12_drawn_146 : decode cX12_drawn 146 = .ok (.lconst 0, 1) := by decide +kernel
theorem dX12_drawn_147 : decode cX12_drawn 147 = .ok (.lcmp, 1) := by decide +kernel
theorem dX12_drawn_148 : decode cX12_drawn 148 = .ok (.ifCond .ne 55, 3) := by decide +kernel
theorem dX12_drawn_151 : decode cX12_drawn 151 = .ok (.iconst 0, 1) := by decide +kernel
theorem dX12_drawn_152 : decode cX12_drawn 152 = .ok (.istore 8, 2) := by decide +kernel
theorem dX12_drawn_154 : decode cX12_drawn 154 = .ok (.iload 8, 2) := by decide +kernel
theorem dX12_drawn_156 : decode cX12_drawn 156 = .ok (.aload_n 0, 1) := by decide +kernel
theorem dX12_drawn_157 : decode cX12_drawn 157 = .ok (.getfield 13, 3) := by decide +kernel
theorem dX12_drawn_160 : decode cX12_drawn 160 = .ok (.iconst 0, 1) := by decide +kernel
theorem dX12_drawn_161 : decode cX12_drawn 161 = .ok (.iaload, 1) := by decide +kernel
theorem dX12_drawn_162 : decode cX12_drawn 162 = .ok (.if_icmp .ge 32, 3) := by decide +kernel
theorem dX12_drawn_165 : decode cX12_drawn 165 = .ok (.aload_n 0, 1) := by decide +kernel
theorem dX12_drawn_166 : decode cX12_drawn 166 = .ok (.getfield 7, 3) := by decide +kernel
theorem dX12_drawn_169 : decode cX12_drawn 169 = .ok (.sipush 733, 3) := by decide +kernel
theorem dX12_drawn_172 : decode cX12_drawn 172 = .ok (.iload 8, 2) := by decide +kernel
theorem dX12_drawn_174 : decode cX12_drawn 174 = .ok (.iadd, 1) := by decide +kernel
theorem dX12_drawn_175 : decode cX12_drawn 175 = .ok (.iaload, 1) := by decide +kernel
theorem dX12_drawn_176 : decode cX12_drawn 176 = .ok (.ifCond .le 12, 3) := by decide +kernel
theorem dX12_drawn_179 : decode cX12_drawn 179 = .ok (.aload_n 0, 1) := by decide +kernel
theorem dX12_drawn_180 : decode cX12_drawn 180 = .ok (.sipush 729, 3) := by decide +kernel
theorem dX12_drawn_183 : decode cX12_drawn 183 = .ok (.iload 8, 2) := by decide +kernel
theorem dX12_drawn_185 : decode cX12_drawn 185 = .ok (.invokevirtual 188, 3) := by decide +kernel
theorem dX12_drawn_188 : decode cX12_drawn 188 = .ok (.iinc 8 1, 3) := by decide +kernel
theorem dX12_drawn_191 : decode cX12_drawn 191 = .ok (.goto (-37), 3) := by decide +kernel
theorem dX12_drawn_194 : decode cX12_drawn 194 = .ok (.aload_n 0, 1) := by decide +kernel
theorem dX12_drawn_195 : decode cX12_drawn 195 = .ok (.getfield 7, 3) := by decide +kernel
theorem dX12_drawn_198 : decode cX12_drawn 198 = .ok (.sipush 753, 3) := by decide +kernel
theorem dX12_drawn_201 : decode cX12_drawn 201 = .ok (.iconst 0, 1) := by decide +kernel
theorem dX12_drawn_202 : decode cX12_drawn 202 = .ok (.iastore, 1) := by decide +kernel
theorem dX12_drawn_203 : decode cX12_drawn 203 = .ok (.aload_n 0, 1) := by decide +kernel
theorem dX12_drawn_204 : decode cX12_drawn 204 = .ok (.iconst 1, 1) := by decide +kernel
theorem dX12_drawn_205 : decode cX12_drawn 205 = .ok (.invokevirtual 202, 3) := by decide +kernel
theorem dX12_drawn_208 : decode cX12_drawn 208 = .ok (.iinc 6 1, 3) := by decide +kernel
theorem dX12_drawn_211 : decode cX12_drawn 211 = .ok (.goto (-140), 3) := by decide +kernel
theorem dX12_drawn_214 : decode cX12_drawn 214 = .ok (.iload_n 3, 1) := by decide +kernel
theorem dX12_drawn_215 : decode cX12_drawn 215 = .ok (.ifCond .ne 14, 3) := by decide +kernel
theorem dX12_drawn_218 : decode cX12_drawn 218 = .ok (.aload_n 0, 1) := by decide +kernel
theorem dX12_drawn_219 : decode cX12_drawn 219 = .ok (.getfield 7, 3) := by decide +kernel
theorem dX12_drawn_222 : decode cX12_drawn 222 = .ok (.sipush 754, 3) := by decide +kernel
theorem dX12_drawn_225 : decode cX12_drawn 225 = .ok (.iaload, 1) := by decide +kernel
theorem dX12_drawn_226 : decode cX12_drawn 226 = .ok (.goto 13, 3) := by decide +kernel
theorem dX12_drawn_229 : decode cX12_drawn 229 = .ok (.aload_n 0, 1) := by decide +kernel
theorem dX12_drawn_230 : decode cX12_drawn 230 = .ok (.sipush 729, 3) := by decide +kernel
theorem dX12_drawn_233 : decode cX12_drawn 233 = .ok (.invokevirtual 144, 3) := by decide +kernel
theorem dX12_drawn_236 : decode cX12_drawn 236 = .ok (.invokestatic 211, 3) := by decide +kernel
theorem dX12_drawn_239 : decode cX12_drawn 239 = .ok (.ireturn, 1) := by decide +kernel
theorem dX12_image_0 : decode cX12_image 0 = .ok (.iload_n 1, 1) := by decide +kernel
theorem dX12_image_1 : decode cX12_image 1 = .ok (.i2l, 1) := by decide +kernel
theorem dX12_image_2 : decode cX12_image 2 = .ok (.lconst 0, 1) := by decide +kernel
theorem dX12_image_3 : decode cX12_image 3 = .ok (.lconst 1, 1) := by decide +kernel
theorem dX12_image_4 : decode cX12_image 4 = .ok (.invokestatic 60, 3) := by decide +kernel
theorem dX12_image_7 : decode cX12_image 7 = .ok (.ifCond .ne 6, 3) := by decide +kernel
theorem dX12_image_10 : decode cX12_image 10 = .ok (.ldc 66, 2) := by decide +kernel
theorem dX12_image_12 : decode cX12_image 12 = .ok (.ireturn, 1) := by decide +kernel
theorem dX12_image_13 : decode cX12_image 13 = .ok (.aload_n 0, 1) := by decide +kernel
theorem dX12_image_14 : decode cX12_image 14 = .ok (.invokevirtual 165, 3) := by decide +kernel
theorem dX12_image_17 : decode cX12_image 17 = .ok (.ifCond .ne 6, 3) := by decide +kernel
theorem dX12_image_20 : decode cX12_image 20 = .ok (.ldc 169, 2) := by decide +kernel
theorem dX12_image_22 : decode cX12_image 22 = .ok (.ireturn, 1) := by decide +kernel
theorem dX12_image_23 : decode cX12_image 23 = .ok (.aload_n 0, 1) := by decide +kernel
theorem dX12_image_24 : decode cX12_image 24 = .ok (.iconst 0, 1) := by decide +kernel
theorem dX12_image_25 : decode cX12_image 25 = .ok (.sipush 675, 3) := by decide +kernel
theorem dX12_image_28 : decode cX12_image 28 = .ok (.iload_n 1, 1) := by decide +kernel
theorem dX12_image_29 : decode cX12_image 29 = .ok (.bipush 27, 2) := by decide +kernel
theorem dX12_image_31 : decode cX12_image 31 = .ok (.imul, 1) := by decide +kernel
theorem dX12_image_32 : decode cX12_image 32 = .ok (.iadd, 1) := by decide +kernel
theorem dX12_image_33 : decode cX12_image 33 = .ok (.invokevirtual 162, 3) := by decide +kernel
theorem dX12_image_36 : decode cX12_image 36 = .ok (.iconst 0, 1) := by decide +kernel
theorem dX12_image_37 : decode cX12_image 37 = .ok (.istore_n 2, 1) := by decide +kernel
theorem dX12_image_38 : decode cX12_image 38 = .ok (.iload_n 2, 1) := by decide +kernel
theorem dX12_image_39 : decode cX12_image 39 = .ok (.bipush 13, 2) := by decide +kernel
theorem dX12_image_41 : decode cX12_image 41 = .ok (.if_icmp .ge 28, 3) := by decide +kernel
theorem dX12_image_44 : decode cX12_image 44 = .ok (.aload_n 0, 1) := by decide +kernel
theorem dX12_image_45 : decode cX12_image 45 = .ok (.getfield 13, 3) := by decide +kernel
theorem dX12_image_48 : decode cX12_image 48 = .ok (.bipush 13, 2) := by decide +kernel
theorem dX12_image_50 : decode cX12_image 50 = .ok (.iload_n 1, 1) := by decide +kernel
theorem dX12_image_51 : decode cX12_image 51 = .ok (.iconst 1, 1) := by decide +kernel
theorem dX12_image_52 : decode cX12_image 52 = .ok (.iadd, 1) := by decide +kernel
theorem dX12_image_53 : decode cX12_image 53 = .ok (.imul, 1) := by decide +kernel
theorem dX12_image_54 : decode cX12_image 54 = .ok (.iload_n 2, 1) := by decide +kernel
theorem dX12_image_55 : decode cX12_image 55 = .ok (.iadd, 1) := by decide +kernel
theorem dX12_image_56 : decode cX12_image 56 = .ok (.aload_n 0, 1) := by decide +kernel
theorem dX12_image_57 : decode cX12_image 57 = .ok (.getfield 13, 3) := by decide +kernel
theorem dX12_image_60 : decode cX12_image 60 = .ok (.iload_n 2, 1) := by decide +kernel
theorem dX12_image_61 : decode cX12_image 61 = .ok (.iaload, 1) := by decide +kernel
theorem dX12_image_62 : decode cX12_image 62 = .ok (.iastore, 1) := by decide +kernel
theorem dX12_image_63 : decode cX12_image 63 = .ok (.iinc 2 1, 3) := by decide +kernel
theorem dX12_image_66 : decode cX12_image 66 = .ok (.goto (-28), 3) := by decide +kernel
theorem dX12_image_69 : decode cX12_image 69 = .ok (.aload_n 0, 1) := by decide +kernel
theorem dX12_image_70 : decode cX12_image 70 = .ok (.getfield 16, 3) := by decide +kernel
theorem dX12_image_73 : decode cX12_image 73 = .ok (.iload_n 1, 1) := by decide +kernel
theorem dX12_image_74 : decode cX12_image 74 = .ok (.iconst 1, 1) := by decide +kernel
theorem dX12_image_75 : decode cX12_image 75 = .ok (.iastore, 1) := by decide +kernel
theorem dX12_image_76 : decode cX12_image 76 = .ok (.iconst 1, 1) := by decide +kernel
theorem dX12_image_77 : decode cX12_image 77 = .ok (.ireturn, 1) := by decide +kernel
theorem dX12_restore_0 : decode cX12_restore 0 = .ok (.iload_n 1, 1) := by decide +kernel
theorem dX12_restore_1 : decode cX12_restore 1 = .ok (.i2l, 1) := by decide +kernel
theorem dX12_restore_2 : decode cX12_restore 2 = .ok (.lconst 0, 1) := by decide +kernel
theorem dX12_restore_3 : decode cX12_restore 3 = .ok (.lconst 1, 1) := by decide +kernel
theorem dX12_restore_4 : decode cX12_restore 4 = .ok (.invokestatic 60, 3) := by decide +kernel
theorem dX12_restore_7 : decode cX12_restore 7 = .ok (.ifCond .ne 6, 3) := by decide +kernel
theorem dX12_restore_10 : decode cX12_restore 10 = .ok (.ldc 66, 2) := by decide +kernel
theorem dX12_restore_12 : decode cX12_restore 12 = .ok (.ireturn, 1) := by decide +kernel
theorem dX12_restore_13 : decode cX12_restore 13 = .ok (.aload_n 0, 1) := by decide +kernel
theorem dX12_restore_14 : decode cX12_restore 14 = .ok (.getfield 16, 3) := by decide +kernel
theorem dX12_restore_17 : decode cX12_restore 17 = .ok (.iload_n 1, 1) := by decide +kernel
theorem dX12_restore_18 : decode cX12_restore 18 = .ok (.iaload, 1) := by decide +kernel
theorem dX12_restore_19 : decode cX12_restore 19 = .ok (.ifCond .ne 6, 3) := by decide +kernel
theorem dX12_restore_22 : decode cX12_restore 22 = .ok (.ldc 169, 2) := by decide +kernel
theorem dX12_restore_24 : decode cX12_restore 24 = .ok (.ireturn, 1) := by decide +kernel
theorem dX12_restore_25 : decode cX12_restore 25 = .ok (.aload_n 0, 1) := by decide +kernel
theorem dX12_restore_26 : decode cX12_restore 26 = .ok (.sipush 675, 3) := by decide +kernel
theorem dX12_restore_29 : decode cX12_restore 29 = .ok (.iload_n 1, 1) := by decide +kernel
theorem dX12_restore_30 : decode cX12_restore 30 = .ok (.bipush 27, 2) := by decide +kernel
theorem dX12_restore_32 : decode cX12_restore 32 = .ok (.imul, 1) := by decide +kernel
theorem dX12_restore_33 : decode cX12_restore 33 = .ok (.iadd, 1) := by decide +kernel
theorem dX12_restore_34 : decode cX12_restore 34 = .ok (.iconst 0, 1) := by decide +kernel
theorem dX12_restore_35 : decode cX12_restore 35 = .ok (.invokevirtual 162, 3) := by decide +kernel
theorem dX12_restore_38 : decode cX12_restore 38 = .ok (.iconst 0, 1) := by decide +kernel
theorem dX12_restore_39 : decode cX12_restore 39 = .ok (.istore_n 2, 1) := by decide +kernel
theorem dX12_restore_40 : decode cX12_restore 40 = .ok (.iload_n 2, 1) := by decide +kernel
theorem dX12_restore_41 : decode cX12_restore 41 = .ok (.bipush 13, 2) := by decide +kernel
theorem dX12_restore_43 : decode cX12_restore 43 = .ok (.if_icmp .ge 28, 3) := by decide +kernel
theorem dX12_restore_46 : decode cX12_restore 46 = .ok (.aload_n 0, 1) := by decide +kernel
theorem dX12_restore_47 : decode cX12_restore 47 = .ok (.getfield 13, 3) := by decide +kernel
theorem dX12_restore_50 : decode cX12_restore 50 = .ok (.iload_n 2, 1) := by decide +kernel
theorem dX12_restore_51 : decode cX12_restore 51 = .ok (.aload_n 0, 1) := by decide +kernel
theorem dX12_restore_52 : decode cX12_restore 52 = .ok (.getfield 13, 3) := by decide +kernel
theorem dX12_restore_55 : decode cX12_restore 55 = .ok (.bipush 13, 2) := by decide +kernel
theorem dX12_restore_57 : decode cX12_restore 57 = .ok (.iload_n 1, 1) := by decide +kernel
theorem dX12_restore_58 : decode cX12_restore 58 = .ok (.iconst 1, 1) := by decide +kernel
theorem dX12_restore_59 : decode cX12_restore 59 = .ok (.iadd, 1) := by decide +kernel
theorem dX12_restore_60 : decode cX12_restore 60 = .ok (.imul, 1) := by decide +kernel
theorem dX12_restore_61 : decode cX12_restore 61 = .ok (.iload_n 2, 1) := by decide +kernel
theorem dX12_restore_62 : decode cX12_restore 62 = .ok (.iadd, 1) := by decide +kernel
theorem dX12_restore_63 : decode cX12_restore 63 = .ok (.iaload, 1) := by decide +kernel
theorem dX12_restore_64 : decode cX12_restore 64 = .ok (.iastore, 1) := by decide +kernel
theorem dX12_restore_65 : decode cX12_restore 65 = .ok (.iinc 2 1, 3) := by decide +kernel
theorem dX12_restore_68 : decode cX12_restore 68 = .ok (.goto (-28), 3) := by decide +kernel
theorem dX12_restore_71 : decode cX12_restore 71 = .ok (.aload_n 0, 1) := by decide +kernel
theorem dX12_restore_72 : decode cX12_restore 72 = .ok (.iconst 0, 1) := by decide +kernel
theorem dX12_restore_73 : decode cX12_restore 73 = .ok (.putfield 131, 3) := by decide +kernel
theorem dX12_restore_76 : decode cX12_restore 76 = .ok (.iconst 1, 1) := by decide +kernel
theorem dX12_restore_77 : decode cX12_restore 77 = .ok (.ireturn, 1) := by decide +kernel
theorem dX12_kind_0 : decode cX12_kind 0 = .ok (.aload_n 0, 1) := by decide +kernel
theorem dX12_kind_1 : decode cX12_kind 1 = .ok (.iload_n 1, 1) := by decide +kernel
theorem dX12_kind_2 : decode cX12_kind 2 = .ok (.invokevirtual 185, 3) := by decide +kernel
theorem dX12_kind_5 : decode cX12_kind 5 = .ok (.ifCond .eq 14, 3) := by decide +kernel
theorem dX12_kind_8 : decode cX12_kind 8 = .ok (.aload_n 0, 1) := by decide +kernel
theorem dX12_kind_9 : decode cX12_kind 9 = .ok (.getfield 13, 3) := by decide +kernel
theorem dX12_kind_12 : decode cX12_kind 12 = .ok (.iconst 3, 1) := by decide +kernel
theorem dX12_kind_13 : decode cX12_kind 13 = .ok (.iload_n 1, 1) := by decide +kernel
theorem dX12_kind_14 : decode cX12_kind 14 = .ok (.iadd, 1) := by decide +kernel
theorem dX12_kind_15 : decode cX12_kind 15 = .ok (.iaload, 1) := by decide +kernel
theorem dX12_kind_16 : decode cX12_kind 16 = .ok (.goto 5, 3) := by decide +kernel
theorem dX12_kind_19 : decode cX12_kind 19 = .ok (.ldc 66, 2) := by decide +kernel
theorem dX12_kind_21 : decode cX12_kind 21 = .ok (.ireturn, 1) := by decide +kernel
theorem dX12_as_0 : decode cX12_as 0 = .ok (.aload_n 0, 1) := by decide +kernel
theorem dX12_as_1 : decode cX12_as 1 = .ok (.iload_n 1, 1) := by decide +kernel
theorem dX12_as_2 : decode cX12_as 2 = .ok (.invokevirtual 185, 3) := by decide +kernel
theorem dX12_as_5 : decode cX12_as 5 = .ok (.ifCond .eq 15, 3) := by decide +kernel
theorem dX12_as_8 : decode cX12_as 8 = .ok (.iload_n 2, 1) := by decide +kernel
theorem dX12_as_9 : decode cX12_as 9 = .ok (.i2l, 1) := by decide +kernel
theorem dX12_as_10 : decode cX12_as 10 = .ok (.lconst 0, 1) := by decide +kernel
theorem dX12_as_11 : decode cX12_as 11 = .ok (.ldc2_w 196, 3) := by decide +kernel
theorem dX12_as_14 : decode cX12_as 14 = .ok (.invokestatic 60, 3) := by decide +kernel
theorem dX12_as_17 : decode cX12_as 17 = .ok (.ifCond .ne 6, 3) := by decide +kernel
theorem dX12_as_20 : decode cX12_as 20 = .ok (.ldc 66, 2) := by decide +kernel
theorem dX12_as_22 : decode cX12_as 22 = .ok (.ireturn, 1) := by decide +kernel
theorem dX12_as_23 : decode cX12_as 23 = .ok (.aload_n 0, 1) := by decide +kernel
theorem dX12_as_24 : decode cX12_as 24 = .ok (.getfield 13, 3) := by decide +kernel
theorem dX12_as_27 : decode cX12_as 27 = .ok (.iconst 3, 1) := by decide +kernel
theorem dX12_as_28 : decode cX12_as 28 = .ok (.iload_n 1, 1) := by decide +kernel
theorem dX12_as_29 : decode cX12_as 29 = .ok (.iadd, 1) := by decide +kernel
theorem dX12_as_30 : decode cX12_as 30 = .ok (.iaload, 1) := by decide +kernel
theorem dX12_as_31 : decode cX12_as 31 = .ok (.istore_n 3, 1) := by decide +kernel
theorem dX12_as_32 : decode cX12_as 32 = .ok (.iload_n 2, 1) := by decide +kernel
theorem dX12_as_33 : decode cX12_as 33 = .ok (.ifCond .eq 33, 3) := by decide +kernel
theorem dX12_as_36 : decode cX12_as 36 = .ok (.iload_n 2, 1) := by decide +kernel
theorem dX12_as_37 : decode cX12_as 37 = .ok (.iload_n 3, 1) := by decide +kernel
theorem dX12_as_38 : decode cX12_as 38 = .ok (.if_icmp .eq 28, 3) := by decide +kernel
theorem dX12_as_41 : decode cX12_as 41 = .ok (.iload_n 2, 1) := by decide +kernel
theorem dX12_as_42 : decode cX12_as 42 = .ok (.iconst 1, 1) := by decide +kernel
theorem dX12_as_43 : decode cX12_as 43 = .ok (.if_icmp .ne 13, 3) := by decide +kernel
theorem dX12_as_46 : decode cX12_as 46 = .ok (.iload_n 3, 1) := by decide +kernel
theorem dX12_as_47 : decode cX12_as 47 = .ok (.iconst 2, 1) := by decide +kernel
theorem dX12_as_48 : decode cX12_as 48 = .ok (.if_icmp .eq 18, 3) := by decide +kernel
theorem dX12_as_51 : decode cX12_as 51 = .ok (.iload_n 3, 1) := by decide +kernel
theorem dX12_as_52 : decode cX12_as 52 = .ok (.iconst 3, 1) := by decide +kernel
theorem dX12_as_53 : decode cX12_as 53 = .ok (.if_icmp .eq 13, 3) := by decide +kernel
theorem dX12_as_56 : decode cX12_as 56 = .ok (.iload_n 2, 1) := by decide +kernel
theorem dX12_as_57 : decode cX12_as 57 = .ok (.iconst 4, 1) := by decide +kernel
theorem dX12_as_58 : decode cX12_as 58 = .ok (.if_icmp .ne 12, 3) := by decide +kernel
theorem dX12_as_61 : decode cX12_as 61 = .ok (.iload_n 3, 1) := by decide +kernel
theorem dX12_as_62 : decode cX12_as 62 = .ok (.iconst 5, 1) := by decide +kernel
theorem dX12_as_63 : decode cX12_as 63 = .ok (.if_icmp .ne 7, 3) := by decide +kernel
theorem dX12_as_66 : decode cX12_as 66 = .ok (.iconst 1, 1) := by decide +kernel
theorem dX12_as_67 : decode cX12_as 67 = .ok (.goto 4, 3) := by decide +kernel
theorem dX12_as_70 : decode cX12_as 70 = .ok (.iconst 0, 1) := by decide +kernel
theorem dX12_as_71 : decode cX12_as 71 = .ok (.istore 4, 2) := by decide +kernel
theorem dX12_as_73 : decode cX12_as 73 = .ok (.iload 4, 2) := by decide +kernel
theorem dX12_as_75 : decode cX12_as 75 = .ok (.ifCond .eq 11, 3) := by decide +kernel
theorem dX12_as_78 : decode cX12_as 78 = .ok (.aload_n 0, 1) := by decide +kernel
theorem dX12_as_79 : decode cX12_as 79 = .ok (.iload_n 1, 1) := by decide +kernel
theorem dX12_as_80 : decode cX12_as 80 = .ok (.invokevirtual 71, 3) := by decide +kernel
theorem dX12_as_83 : decode cX12_as 83 = .ok (.goto 8, 3) := by decide +kernel
theorem dX12_as_86 : decode cX12_as 86 = .ok (.aload_n 0, 1) := by decide +kernel
theorem dX12_as_87 : decode cX12_as 87 = .ok (.iconst 3, 1) := by decide +kernel
theorem dX12_as_88 : decode cX12_as 88 = .ok (.invokevirtual 67, 3) := by decide +kernel
theorem dX12_as_91 : decode cX12_as 91 = .ok (.ireturn, 1) := by decide +kernel
theorem dX12_leaves_0 : decode cX12_leaves 0 = .ok (.aload_n 0, 1) := by decide +kernel
theorem dX12_leaves_1 : decode cX12_leaves 1 = .ok (.getfield 254, 3) := by decide +kernel
theorem dX12_leaves_4 : decode cX12_leaves 4 = .ok (.bipush 16, 2) := by decide +kernel
theorem dX12_leaves_6 : decode cX12_leaves 6 = .ok (.if_icmp .ge 23, 3) := by decide +kernel
theorem dX12_leaves_9 : decode cX12_leaves 9 = .ok (.aload_n 0, 1) := by decide +kernel
theorem dX12_leaves_10 : decode cX12_leaves 10 = .ok (.getfield 47, 3) := by decide +kernel
theorem dX12_leaves_13 : decode cX12_leaves 13 = .ok (.aload_n 0, 1) := by decide +kernel
theorem dX12_leaves_14 : decode cX12_leaves 14 = .ok (.getfield 254, 3) := by decide +kernel
theorem dX12_leaves_17 : decode cX12_leaves 17 = .ok (.iload_n 1, 1) := by decide +kernel
theorem dX12_leaves_18 : decode cX12_leaves 18 = .ok (.iastore, 1) := by decide +kernel
theorem dX12_leaves_19 : decode cX12_leaves 19 = .ok (.aload_n 0, 1) := by decide +kernel
theorem dX12_leaves_20 : decode cX12_leaves 20 = .ok (.dup, 1) := by decide +kernel
theorem dX12_leaves_21 : decode cX12_leaves 21 = .ok (.getfield 254, 3) := by decide +kernel
theorem dX12_leaves_24 : decode cX12_leaves 24 = .ok (.iconst 1, 1) := by decide +kernel
theorem dX12_leaves_25 : decode cX12_leaves 25 = .ok (.iadd, 1) := by decide +kernel
theorem dX12_leaves_26 : decode cX12_leaves 26 = .ok (.putfield 254, 3) := by decide +kernel
theorem dX12_leaves_29 : decode cX12_leaves 29 = .ok (.return_, 1) := by decide +kernel
theorem dX12_lent_0 : decode cX12_lent 0 = .ok (.aload_n 0, 1) := by decide +kernel
theorem dX12_lent_1 : decode cX12_lent 1 = .ok (.iload_n 2, 1) := by decide +kernel
theorem dX12_lent_2 : decode cX12_lent 2 = .ok (.ifCond .eq 8, 3) := by decide +kernel
theorem dX12_lent_5 : decode cX12_lent 5 = .ok (.bipush 20, 2) := by decide +kernel
theorem dX12_lent_7 : decode cX12_lent 7 = .ok (.goto 5, 3) := by decide +kernel
theorem dX12_lent_10 : decode cX12_lent 10 = .ok (.bipush 10, 2) := by decide +kernel
theorem dX12_lent_12 : decode cX12_lent 12 = .ok (.invokevirtual 257, 3) := by decide +kernel
theorem dX12_lent_15 : decode cX12_lent 15 = .ok (.iload_n 2, 1) := by decide +kernel
theorem dX12_lent_16 : decode cX12_lent 16 = .ok (.ifCond .eq 7, 3) := by decide +kernel
theorem dX12_lent_19 : decode cX12_lent 19 = .ok (.iload_n 1, 1) := by decide +kernel
theorem dX12_lent_20 : decode cX12_lent 20 = .ok (.goto 12, 3) := by decide +kernel
theorem dX12_lent_23 : decode cX12_lent 23 = .ok (.aload_n 0, 1) := by decide +kernel
theorem dX12_lent_24 : decode cX12_lent 24 = .ok (.getfield 7, 3) := by decide +kernel
theorem dX12_lent_27 : decode cX12_lent 27 = .ok (.bipush 8, 2) := by decide +kernel
theorem dX12_lent_29 : decode cX12_lent 29 = .ok (.iload_n 1, 1) := by decide +kernel
theorem dX12_lent_30 : decode cX12_lent 30 = .ok (.iadd, 1) := by decide +kernel
theorem dX12_lent_31 : decode cX12_lent 31 = .ok (.iaload, 1) := by decide +kernel
theorem dX12_lent_32 : decode cX12_lent 32 = .ok (.ireturn, 1) := by decide +kernel
theorem dX12_wireMark_0 : decode cX12_wireMark 0 = .ok (.iload_n 2, 1) := by decide +kernel
theorem dX12_wireMark_1 : decode cX12_wireMark 1 = .ok (.iconst 1, 1) := by decide +kernel
theorem dX12_wireMark_2 : decode cX12_wireMark 2 = .ok (.if_icmp .le 19, 3) := by decide +kernel
theorem dX12_wireMark_5 : decode cX12_wireMark 5 = .ok (.aload_n 0, 1) := by decide +kernel
theorem dX12_wireMark_6 : decode cX12_wireMark 6 = .ok (.iload_n 2, 1) := by decide +kernel
theorem dX12_wireMark_7 : decode cX12_wireMark 7 = .ok (.iconst 2, 1) := by decide +kernel
theorem dX12_wireMark_8 : decode cX12_wireMark 8 = .ok (.if_icmp .ne 8, 3) := by decide +kernel
theorem dX12_wireMark_11 : decode cX12_wireMark 11 = .ok (.bipush 24, 2) := by decide +kernel
theorem dX12_wireMark_13 : decode cX12_wireMark 13 = .ok (.goto 5, 3) := by decide +kernel
theorem dX12_wireMark_16 : decode cX12_wireMark 16 = .ok (.bipush 22, 2) := by decide +kernel
theorem dX12_wireMark_18 : decode cX12_wireMark 18 = .ok (.invokevirtual 257, 3) := by decide +kernel
theorem dX12_wireMark_21 : decode cX12_wireMark 21 = .ok (.aload_n 0, 1) := by decide +kernel
theorem dX12_wireMark_22 : decode cX12_wireMark 22 = .ok (.bipush 21, 2) := by decide +kernel
theorem dX12_wireMark_24 : decode cX12_wireMark 24 = .ok (.invokevirtual 257, 3) := by decide +kernel
theorem dX12_wireMark_27 : decode cX12_wireMark 27 = .ok (.aload_n 0, 1) := by decide +kernel
theorem dX12_wireMark_28 : decode cX12_wireMark 28 = .ok (.iload_n 1, 1) := by decide +kernel
theorem dX12_wireMark_29 : decode cX12_wireMark 29 = .ok (.iconst 1, 1) := by decide +kernel
theorem dX12_wireMark_30 : decode cX12_wireMark 30 = .ok (.invokevirtual 260, 3) := by decide +kernel
theorem dX12_wireMark_33 : decode cX12_wireMark 33 = .ok (.aload_n 0, 1) := by decide +kernel
theorem dX12_wireMark_34 : decode cX12_wireMark 34 = .ok (.getfield 7, 3) := by decide +kernel
theorem dX12_wireMark_37 : decode cX12_wireMark 37 = .ok (.iload_n 1, 1) := by decide +kernel
theorem dX12_wireMark_38 : decode cX12_wireMark 38 = .ok (.iaload, 1) := by decide +kernel
theorem dX12_wireMark_39 : decode cX12_wireMark 39 = .ok (.iadd, 1) := by decide +kernel
theorem dX12_wireMark_40 : decode cX12_wireMark 40 = .ok (.istore_n 3, 1) := by decide +kernel
theorem dX12_wireMark_41 : decode cX12_wireMark 41 = .ok (.iload_n 2, 1) := by decide +kernel
theorem dX12_wireMark_42 : decode cX12_wireMark 42 = .ok (.iconst 1, 1) := by decide +kernel
theorem dX12_wireMark_43 : decode cX12_wireMark 43 = .ok (.if_icmp .ne 7, 3) := by decide +kernel
theorem dX12_wireMark_46 : decode cX12_wireMark 46 = .ok (.iload_n 3, 1) := by decide +kernel
theorem dX12_wireMark_47 : decode cX12_wireMark 47 = .ok (.goto 19, 3) := by decide +kernel
theorem dX12_wireMark_50 : decode cX12_wireMark 50 = .ok (.iload_n 2, 1) := by decide +kernel
theorem dX12_wireMark_51 : decode cX12_wireMark 51 = .ok (.iconst 2, 1) := by decide +kernel
theorem dX12_wireMark_52 : decode cX12_wireMark 52 = .ok (.if_icmp .ne 9, 3) := by decide +kernel
theorem dX12_wireMark_55 : decode cX12_wireMark 55 = .ok (.iconst 2, 1) := by decide +kernel
theorem dX12_wireMark_56 : decode cX12_wireMark 56 = .ok (.iload_n 3, 1) := by decide +kernel
theorem dX12_wireMark_57 : decode cX12_wireMark 57 = .ok (.imul, 1) := by decide +kernel
theorem dX12_wireMark_58 : decode cX12_wireMark 58 = .ok (.goto 8, 3) := by decide +kernel
theorem dX12_wireMark_61 : decode cX12_wireMark 61 = .ok (.iload_n 3, 1) := by decide +kernel
theorem dX12_wireMark_62 : decode cX12_wireMark 62 = .ok (.sipush 1000, 3) := by decide +kernel
theorem dX12_wireMark_65 : decode cX12_wireMark 65 = .ok (.isub, 1) := by decide +kernel
theorem dX12_wireMark_66 : decode cX12_wireMark 66 = .ok (.ireturn, 1) := by decide +kernel
theorem dX12_wireSize_0 : decode cX12_wireSize 0 = .ok (.iload_n 2, 1) := by decide +kernel
theorem dX12_wireSize_1 : decode cX12_wireSize 1 = .ok (.iconst 2, 1) := by decide +kernel
theorem dX12_wireSize_2 : decode cX12_wireSize 2 = .ok (.if_icmp .ne 9, 3) := by decide +kernel
theorem dX12_wireSize_5 : decode cX12_wireSize 5 = .ok (.aload_n 0, 1) := by decide +kernel
theorem dX12_wireSize_6 : decode cX12_wireSize 6 = .ok (.bipush 12, 2) := by decide +kernel
theorem dX12_wireSize_8 : decode cX12_wireSize 8 = .ok (.invokevirtual 257, 3) := by decide +kernel
theorem dX12_wireSize_11 : decode cX12_wireSize 11 = .ok (.aload_n 0, 1) := by decide +kernel
theorem dX12_wireSize_12 : decode cX12_wireSize 12 = .ok (.bipush 11, 2) := by decide +kernel
theorem dX12_wireSize_14 : decode cX12_wireSize 14 = .ok (.invokevirtual 257, 3) := by decide +kernel
theorem dX12_wireSize_17 : decode cX12_wireSize 17 = .ok (.aload_n 0, 1) := by decide +kernel
theorem dX12_wireSize_18 : decode cX12_wireSize 18 = .ok (.iload_n 1, 1) := by decide +kernel
theorem dX12_wireSize_19 : decode cX12_wireSize 19 = .ok (.iconst 0, 1) := by decide +kernel
theorem dX12_wireSize_20 : decode cX12_wireSize 20 = .ok (.invokevirtual 260, 3) := by decide +kernel
theorem dX12_wireSize_23 : decode cX12_wireSize 23 = .ok (.aload_n 0, 1) := by decide +kernel
theorem dX12_wireSize_24 : decode cX12_wireSize 24 = .ok (.iload_n 1, 1) := by decide +kernel
theorem dX12_wireSize_25 : decode cX12_wireSize 25 = .ok (.iload_n 2, 1) := by decide +kernel
theorem dX12_wireSize_26 : decode cX12_wireSize 26 = .ok (.invokevirtual 264, 3) := by decide +kernel
theorem dX12_wireSize_29 : decode cX12_wireSize 29 = .ok (.iadd, 1) := by decide +kernel
theorem dX12_wireSize_30 : decode cX12_wireSize 30 = .ok (.istore_n 3, 1) := by decide +kernel
theorem dX12_wireSize_31 : decode cX12_wireSize 31 = .ok (.iload_n 2, 1) := by decide +kernel
theorem dX12_wireSize_32 : decode cX12_wireSize 32 = .ok (.iconst 2, 1) := by decide +kernel
theorem dX12_wireSize_33 : decode cX12_wireSize 33 = .ok (.if_icmp .ne 8, 3) := by decide +kernel
theorem dX12_wireSize_36 : decode cX12_wireSize 36 = .ok (.iload_n 3, 1) := by decide +kernel
theorem dX12_wireSize_37 : decode cX12_wireSize 37 = .ok (.ineg, 1) := by decide +kernel
theorem dX12_wireSize_38 : decode cX12_wireSize 38 = .ok (.goto 4, 3) := by decide +kernel
theorem dX12_wireSize_41 : decode cX12_wireSize 41 = .ok (.iload_n 3, 1) := by decide +kernel
theorem dX12_wireSize_42 : decode cX12_wireSize 42 = .ok (.ireturn, 1) := by decide +kernel
theorem dX12_breakerSize_0 : decode cX12_breakerSize 0 = .ok (.iload_n 2, 1) := by decide +kernel
theorem dX12_breakerSize_1 : decode cX12_breakerSize 1 = .ok (.iconst 5, 1) := by decide +kernel
theorem dX12_breakerSize_2 : decode cX12_breakerSize 2 = .ok (.if_icmp .ne 9, 3) := by decide +kernel
theorem dX12_breakerSize_5 : decode cX12_breakerSize 5 = .ok (.aload_n 0, 1) := by decide +kernel
theorem dX12_breakerSize_6 : decode cX12_breakerSize 6 = .ok (.bipush 14, 2) := by decide +kernel
theorem dX12_breakerSize_8 : decode cX12_breakerSize 8 = .ok (.invokevirtual 257, 3) := by decide +kernel
theorem dX12_breakerSize_11 : decode cX12_breakerSize 11 = .ok (.aload_n 0, 1) := by decide +kernel
theorem dX12_breakerSize_12 : decode cX12_breakerSize 12 = .ok (.bipush 13, 2) := by decide +kernel
theorem dX12_breakerSize_14 : decode cX12_breakerSize 14 = .ok (.invokevirtual 257, 3) := by decide +kernel
theorem dX12_breakerSize_17 : decode cX12_breakerSize 17 = .ok (.aload_n 0, 1) := by decide +kernel
theorem dX12_breakerSize_18 : decode cX12_breakerSize 18 = .ok (.iload_n 1, 1) := by decide +kernel
theorem dX12_breakerSize_19 : decode cX12_breakerSize 19 = .ok (.iconst 0, 1) := by decide +kernel
theorem dX12_breakerSize_20 : decode cX12_breakerSize 20 = .ok (.invokevirtual 260, 3) := by decide +kernel
theorem dX12_breakerSize_23 : decode cX12_breakerSize 23 = .ok (.bipush 100, 2) := by decide +kernel
theorem dX12_breakerSize_25 : decode cX12_breakerSize 25 = .ok (.isub, 1) := by decide +kernel
theorem dX12_breakerSize_26 : decode cX12_breakerSize 26 = .ok (.istore_n 3, 1) := by decide +kernel
theorem dX12_breakerSize_27 : decode cX12_breakerSize 27 = .ok (.iload_n 2, 1) := by decide +kernel
theorem dX12_breakerSize_28 : decode cX12_breakerSize 28 = .ok (.iconst 5, 1) := by decide +kernel
theorem dX12_breakerSize_29 : decode cX12_breakerSize 29 = .ok (.if_icmp .ne 9, 3) := by decide +kernel
theorem dX12_breakerSize_32 : decode cX12_breakerSize 32 = .ok (.iconst 2, 1) := by decide +kernel
theorem dX12_breakerSize_33 : decode cX12_breakerSize 33 = .ok (.iload_n 3, 1) := by decide +kernel
theorem dX12_breakerSize_34 : decode cX12_breakerSize 34 = .ok (.imul, 1) := by decide +kernel
theorem dX12_breakerSize_35 : decode cX12_breakerSize 35 = .ok (.goto 4, 3) := by decide +kernel
theorem dX12_breakerSize_38 : decode cX12_breakerSize 38 = .ok (.iload_n 3, 1) := by decide +kernel
theorem dX12_breakerSize_39 : decode cX12_breakerSize 39 = .ok (.ireturn, 1) := by decide +kernel
theorem dX12_breakerMark_0 : decode cX12_breakerMark 0 = .ok (.aload_n 0, 1) := by decide +kernel
theorem dX12_breakerMark_1 : decode cX12_breakerMark 1 = .ok (.bipush 23, 2) := by decide +kernel
theorem dX12_breakerMark_3 : decode cX12_breakerMark 3 = .ok (.invokevirtual 257, 3) := by decide +kernel
theorem dX12_breakerMark_6 : decode cX12_breakerMark 6 = .ok (.aload_n 0, 1) := by decide +kernel
theorem dX12_breakerMark_7 : decode cX12_breakerMark 7 = .ok (.iload_n 1, 1) := by decide +kernel
theorem dX12_breakerMark_8 : decode cX12_breakerMark 8 = .ok (.iconst 1, 1) := by decide +kernel
theorem dX12_breakerMark_9 : decode cX12_breakerMark 9 = .ok (.invokevirtual 260, 3) := by decide +kernel
theorem dX12_breakerMark_12 : decode cX12_breakerMark 12 = .ok (.istore_n 3, 1) := by decide +kernel
theorem dX12_breakerMark_13 : decode cX12_breakerMark 13 = .ok (.iload_n 3, 1) := by decide +kernel
theorem dX12_breakerMark_14 : decode cX12_breakerMark 14 = .ok (.aload_n 0, 1) := by decide +kernel
theorem dX12_breakerMark_15 : decode cX12_breakerMark 15 = .ok (.iload_n 1, 1) := by decide +kernel
theorem dX12_breakerMark_16 : decode cX12_breakerMark 16 = .ok (.iload_n 2, 1) := by decide +kernel
theorem dX12_breakerMark_17 : decode cX12_breakerMark 17 = .ok (.invokevirtual 267, 3) := by decide +kernel
theorem dX12_breakerMark_20 : decode cX12_breakerMark 20 = .ok (.isub, 1) := by decide +kernel
theorem dX12_breakerMark_21 : decode cX12_breakerMark 21 = .ok (.ireturn, 1) := by decide +kernel
theorem dX12_ask_0 : decode cX12_ask 0 = .ok (.aload_n 0, 1) := by decide +kernel
theorem dX12_ask_1 : decode cX12_ask 1 = .ok (.iload_n 1, 1) := by decide +kernel
theorem dX12_ask_2 : decode cX12_ask 2 = .ok (.invokevirtual 185, 3) := by decide +kernel
theorem dX12_ask_5 : decode cX12_ask 5 = .ok (.ifCond .eq 13, 3) := by decide +kernel
theorem dX12_ask_8 : decode cX12_ask 8 = .ok (.iload_n 2, 1) := by decide +kernel
theorem dX12_ask_9 : decode cX12_ask 9 = .ok (.i2l, 1) := by decide +kernel
theorem dX12_ask_10 : decode cX12_ask 10 = .ok (.lconst 0, 1) := by decide +kernel
theorem dX12_ask_11 : decode cX12_ask 11 = .ok (.lconst 1, 1) := by decide +kernel
theorem dX12_ask_12 : decode cX12_ask 12 = .ok (.invokestatic 60, 3) := by decide +kernel
theorem dX12_ask_15 : decode cX12_ask 15 = .ok (.ifCond .ne 6, 3) := by decide +kernel
theorem dX12_ask_18 : decode cX12_ask 18 = .ok (.ldc 66, 2) := by decide +kernel
theorem dX12_ask_20 : decode cX12_ask 20 = .ok (.ireturn, 1) := by decide +kernel
theorem dX12_ask_21 : decode cX12_ask 21 = .ok (.aload_n 0, 1) := by decide +kernel
theorem dX12_ask_22 : decode cX12_ask 22 = .ok (.iconst 0, 1) := by decide +kernel
theorem dX12_ask_23 : decode cX12_ask 23 = .ok (.putfield 254, 3) := by decide +kernel
theorem dX12_ask_26 : decode cX12_ask 26 = .ok (.aload_n 0, 1) := by decide +kernel
theorem dX12_ask_27 : decode cX12_ask 27 = .ok (.getfield 13, 3) := by decide +kernel
theorem dX12_ask_30 : decode cX12_ask 30 = .ok (.iconst 3, 1) := by decide +kernel
theorem dX12_ask_31 : decode cX12_ask 31 = .ok (.iload_n 1, 1) := by decide +kernel
theorem dX12_ask_32 : decode cX12_ask 32 = .ok (.iadd, 1) := by decide +kernel
theorem dX12_ask_33 : decode cX12_ask 33 = .ok (.iaload, 1) := by decide +kernel
theorem dX12_ask_34 : decode cX12_ask 34 = .ok (.istore_n 3, 1) := by decide +kernel
theorem dX12_ask_35 : decode cX12_ask 35 = .ok (.iload_n 3, 1) := by decide +kernel
theorem dX12_ask_36 : decode cX12_ask 36 = .ok (.iconst 4, 1) := by decide +kernel
theorem dX12_ask_37 : decode cX12_ask 37 = .ok (.if_icmp .ge 23, 3) := by decide +kernel
theorem dX12_ask_40 : decode cX12_ask 40 = .ok (.iload_n 2, 1) := by decide +kernel
theorem dX12_ask_41 : decode cX12_ask 41 = .ok (.ifCond .ne 12, 3) := by decide +kernel
theorem dX12_ask_44 : decode cX12_ask 44 = .ok (.aload_n 0, 1) := by decide +kernel
theorem dX12_ask_45 : decode cX12_ask 45 = .ok (.iload_n 1, 1) := by decide +kernel
theorem dX12_ask_46 : decode cX12_ask 46 = .ok (.iload_n 3, 1) := by decide +kernel
theorem dX12_ask_47 : decode cX12_ask 47 = .ok (.invokevirtual 270, 3) := by decide +kernel
theorem dX12_ask_50 : decode cX12_ask 50 = .ok (.goto 9, 3) := by decide +kernel
theorem dX12_ask_53 : decode cX12_ask 53 = .ok (.aload_n 0, 1) := by decide +kernel
theorem dX12_ask_54 : decode cX12_ask 54 = .ok (.iload_n 1, 1) := by decide +kernel
theorem dX12_ask_55 : decode cX12_ask 55 = .ok (.iload_n 3, 1) := by decide +kernel
theorem dX12_ask_56 : decode cX12_ask 56 = .ok (.invokevirtual 264, 3) := by decide +kernel
theorem dX12_ask_59 : decode cX12_ask 59 = .ok (.ireturn, 1) := by decide +kernel
theorem dX12_ask_60 : decode cX12_ask 60 = .ok (.iload_n 2, 1) := by decide +kernel
theorem dX12_ask_61 : decode cX12_ask 61 = .ok (.ifCond .ne 12, 3) := by decide +kernel
theorem dX12_ask_64 : decode cX12_ask 64 = .ok (.aload_n 0, 1) := by decide +kernel
theorem dX12_ask_65 : decode cX12_ask 65 = .ok (.iload_n 1, 1) := by decide +kernel
theorem dX12_ask_66 : decode cX12_ask 66 = .ok (.iload_n 3, 1) := by decide +kernel
theorem dX12_ask_67 : decode cX12_ask 67 = .ok (.invokevirtual 267, 3) := by decide +kernel
theorem dX12_ask_70 : decode cX12_ask 70 = .ok (.goto 9, 3) := by decide +kernel
theorem dX12_ask_73 : decode cX12_ask 73 = .ok (.aload_n 0, 1) := by decide +kernel
theorem dX12_ask_74 : decode cX12_ask 74 = .ok (.iload_n 1, 1) := by decide +kernel
theorem dX12_ask_75 : decode cX12_ask 75 = .ok (.iload_n 3, 1) := by decide +kernel
theorem dX12_ask_76 : decode cX12_ask 76 = .ok (.invokevirtual 273, 3) := by decide +kernel
theorem dX12_ask_79 : decode cX12_ask 79 = .ok (.ireturn, 1) := by decide +kernel
theorem dX12_trace_0 : decode cX12_trace 0 = .ok (.iload_n 1, 1) := by decide +kernel
theorem dX12_trace_1 : decode cX12_trace 1 = .ok (.i2l, 1) := by decide +kernel
theorem dX12_trace_2 : decode cX12_trace 2 = .ok (.lconst 0, 1) := by decide +kernel
theorem dX12_trace_3 : decode cX12_trace 3 = .ok (.aload_n 0, 1) := by decide +kernel
theorem dX12_trace_4 : decode cX12_trace 4 = .ok (.getfield 254, 3) := by decide +kernel
theorem dX12_trace_7 : decode cX12_trace 7 = .ok (.iconst 1, 1) := by decide +kernel
theorem dX12_trace_8 : decode cX12_trace 8 = .ok (.isub, 1) := by decide +kernel
theorem dX12_trace_9 : decode cX12_trace 9 = .ok (.i2l, 1) := by decide +kernel
theorem dX12_trace_10 : decode cX12_trace 10 = .ok (.invokestatic 60, 3) := by decide +kernel
theorem dX12_trace_13 : decode cX12_trace 13 = .ok (.ifCond .eq 12, 3) := by decide +kernel
theorem dX12_trace_16 : decode cX12_trace 16 = .ok (.aload_n 0, 1) := by decide +kernel
theorem dX12_trace_17 : decode cX12_trace 17 = .ok (.getfield 47, 3) := by decide +kernel
theorem dX12_trace_20 : decode cX12_trace 20 = .ok (.iload_n 1, 1) := by decide +kernel
theorem dX12_trace_21 : decode cX12_trace 21 = .ok (.iaload, 1) := by decide +kernel
theorem dX12_trace_22 : decode cX12_trace 22 = .ok (.goto 5, 3) := by decide +kernel
theorem dX12_trace_25 : decode cX12_trace 25 = .ok (.ldc 205, 2) := by decide +kernel
theorem dX12_trace_27 : decode cX12_trace 27 = .ok (.ireturn, 1) := by decide +kernel
theorem dX12_count_0 : decode cX12_count 0 = .ok (.iload_n 1, 1) := by decide +kernel
theorem dX12_count_1 : decode cX12_count 1 = .ok (.i2l, 1) := by decide +kernel
theorem dX12_count_2 : decode cX12_count 2 = .ok (.lconst 0, 1) := by decide +kernel
theorem dX12_count_3 : decode cX12_count 3 = .ok (.ldc2_w 276, 3) := by decide +kernel
theorem dX12_count_6 : decode cX12_count 6 = .ok (.invokestatic 60, 3) := by decide +kernel
theorem dX12_count_9 : decode cX12_count 9 = .ok (.ifCond .ne 6, 3) := by decide +kernel
theorem dX12_count_12 : decode cX12_count 12 = .ok (.ldc 66, 2) := by decide +kernel
theorem dX12_count_14 : decode cX12_count 14 = .ok (.ireturn, 1) := by decide +kernel
theorem dX12_count_15 : decode cX12_count 15 = .ok (.iconst 0, 1) := by decide +kernel
theorem dX12_count_16 : decode cX12_count 16 = .ok (.istore_n 2, 1) := by decide +kernel
theorem dX12_count_17 : decode cX12_count 17 = .ok (.iconst 0, 1) := by decide +kernel
theorem dX12_count_18 : decode cX12_count 18 = .ok (.istore_n 3, 1) := by decide +kernel
theorem dX12_count_19 : decode cX12_count 19 = .ok (.iload_n 3, 1) := by decide +kernel
theorem dX12_count_20 : decode cX12_count 20 = .ok (.bipush 8, 2) := by decide +kernel
theorem dX12_count_22 : decode cX12_count 22 = .ok (.if_icmp .ge 26, 3) := by decide +kernel
theorem dX12_count_25 : decode cX12_count 25 = .ok (.iload_n 2, 1) := by decide +kernel
theorem dX12_count_26 : decode cX12_count 26 = .ok (.aload_n 0, 1) := by decide +kernel
theorem dX12_count_27 : decode cX12_count 27 = .ok (.getfield 22, 3) := by decide +kernel
theorem dX12_count_30 : decode cX12_count 30 = .ok (.iload_n 3, 1) := by decide +kernel
theorem dX12_count_31 : decode cX12_count 31 = .ok (.iaload, 1) := by decide +kernel
theorem dX12_count_32 : decode cX12_count 32 = .ok (.ifCond .ge 7, 3) := by decide +kernel
theorem dX12_count_35 : decode cX12_count 35 = .ok (.iconst 0, 1) := by decide +kernel
theorem dX12_count_36 : decode cX12_count 36 = .ok (.goto 4, 3) := by decide +kernel
theorem dX12_count_39 : decode cX12_count 39 = .ok (.iconst 1, 1) := by decide +kernel
theorem dX12_count_40 : decode cX12_count 40 = .ok (.iadd, 1) := by decide +kernel
theorem dX12_count_41 : decode cX12_count 41 = .ok (.istore_n 2, 1) := by decide +kernel
theorem dX12_count_42 : decode cX12_count 42 = .ok (.iinc 3 1, 3) := by decide +kernel
theorem dX12_count_45 : decode cX12_count 45 = .ok (.goto (-26), 3) := by decide +kernel
theorem dX12_count_48 : decode cX12_count 48 = .ok (.iload_n 1, 1) := by decide +kernel
theorem dX12_count_49 : decode cX12_count 49 = .ok (.ifCond .ne 7, 3) := by decide +kernel
theorem dX12_count_52 : decode cX12_count 52 = .ok (.iload_n 2, 1) := by decide +kernel
theorem dX12_count_53 : decode cX12_count 53 = .ok (.goto 134, 3) := by decide +kernel
theorem dX12_count_56 : decode cX12_count 56 = .ok (.iload_n 1, 1) := by decide +kernel
theorem dX12_count_57 : decode cX12_count 57 = .ok (.iconst 1, 1) := by decide +kernel
theorem dX12_count_58 : decode cX12_count 58 = .ok (.if_icmp .ne 12, 3) := by decide +kernel
theorem dX12_count_61 : decode cX12_count 61 = .ok (.aload_n 0, 1) := by decide +kernel
theorem dX12_count_62 : decode cX12_count 62 = .ok (.getfield 13, 3) := by decide +kernel
theorem dX12_count_65 : decode cX12_count 65 = .ok (.iconst 0, 1) := by decide +kernel
theorem dX12_count_66 : decode cX12_count 66 = .ok (.iaload, 1) := by decide +kernel
theorem dX12_count_67 : decode cX12_count 67 = .ok (.goto 120, 3) := by decide +kernel
theorem dX12_count_70 : decode cX12_count 70 = .ok (.iload_n 1, 1) := by decide +kernel
theorem dX12_count_71 : decode cX12_count 71 = .ok (.iconst 2, 1) := by decide +kernel
theorem dX12_count_72 : decode cX12_count 72 = .ok (.if_icmp .ne 12, 3) := by decide +kernel
theorem dX12_count_75 : decode cX12_count 75 = .ok (.aload_n 0, 1) := by decide +kernel
theorem dX12_count_76 : decode cX12_count 76 = .ok (.getfield 13, 3) := by decide +kernel
theorem dX12_count_79 : decode cX12_count 79 = .ok (.iconst 1, 1) := by decide +kernel
theorem dX12_count_80 : decode cX12_count 80 = .ok (.iaload, 1) := by decide +kernel
theorem dX12_count_81 : decode cX12_count 81 = .ok (.goto 106, 3) := by decide +kernel
theorem dX12_count_84 : decode cX12_count 84 = .ok (.iload_n 1, 1) := by decide +kernel
theorem dX12_count_85 : decode cX12_count 85 = .ok (.iconst 3, 1) := by decide +kernel
theorem dX12_count_86 : decode cX12_count 86 = .ok (.if_icmp .ne 13, 3) := by decide +kernel
theorem dX12_count_89 : decode cX12_count 89 = .ok (.aload_n 0, 1) := by decide +kernel
theorem dX12_count_90 : decode cX12_count 90 = .ok (.getfield 7, 3) := by decide +kernel
theorem dX12_count_93 : decode cX12_count 93 = .ok (.bipush 26, 2) := by decide +kernel
theorem dX12_count_95 : decode cX12_count 95 = .ok (.iaload, 1) := by decide +kernel
theorem dX12_count_96 : decode cX12_count 96 = .ok (.goto 91, 3) := by decide +kernel
theorem dX12_count_99 : decode cX12_count 99 = .ok (.iload_n 1, 1) := by decide +kernel
theorem dX12_count_100 : decode cX12_count 100 = .ok (.iconst 4, 1) := by decide +kernel
theorem dX12_count_101 : decode cX12_count 101 = .ok (.if_icmp .ne 12, 3) := by decide +kernel
theorem dX12_count_104 : decode cX12_count 104 = .ok (.aload_n 0, 1) := by decide +kernel
theorem dX12_count_105 : decode cX12_count 105 = .ok (.getfield 13, 3) := by decide +kernel
theorem dX12_count_108 : decode cX12_count 108 = .ok (.iconst 2, 1) := by decide +kernel
theorem dX12_count_109 : decode cX12_count 109 = .ok (.iaload, 1) := by decide +kernel
theorem dX12_count_110 : decode cX12_count 110 = .ok (.goto 77, 3) := by decide +kernel
theorem dX12_count_113 : decode cX12_count 113 = .ok (.iload_n 1, 1) := by decide +kernel
theorem dX12_count_114 : decode cX12_count 114 = .ok (.iconst 5, 1) := by decide +kernel
theorem dX12_count_115 : decode cX12_count 115 = .ok (.if_icmp .ne 26, 3) := by decide +kernel
theorem dX12_count_118 : decode cX12_count 118 = .ok (.aload_n 0, 1) := by decide +kernel
theorem dX12_count_119 : decode cX12_count 119 = .ok (.invokevirtual 165, 3) := by decide +kernel
theorem dX12_count_122 : decode cX12_count 122 = .ok (.ifCond .eq 15, 3) := by decide +kernel
theorem dX12_count_125 : decode cX12_count 125 = .ok (.iconst 1, 1) := by decide +kernel
theorem dX12_count_126 : decode cX12_count 126 = .ok (.aload_n 0, 1) := by decide +kernel
theorem dX12_count_127 : decode cX12_count 127 = .ok (.getfield 7, 3) := by decide +kernel
theorem dX12_count_130 : decode cX12_count 130 = .ok (.bipush 24, 2) := by decide +kernel
theorem dX12_count_132 : decode cX12_count 132 = .ok (.iaload, 1) := by decide +kernel
theorem dX12_count_133 : decode cX12_count 133 = .ok (.isub, 1) := by decide +kernel
theorem dX12_count_134 : decode cX12_count 134 = .ok (.goto 53, 3) := by decide +kernel
theorem dX12_count_137 : decode cX12_count 137 = .ok (.iconst 0, 1) := by decide +kernel
theorem dX12_count_138 : decode cX12_count 138 = .ok (.goto 49, 3) := by decide +kernel
theorem dX12_count_141 : decode cX12_count 141 = .ok (.iload_n 1, 1) := by decide +kernel
theorem dX12_count_142 : decode cX12_count 142 = .ok (.bipush 6, 2) := by decide +kernel
theorem dX12_count_144 : decode cX12_count 144 = .ok (.if_icmp .ne 10, 3) := by decide +kernel
theorem dX12_count_147 : decode cX12_count 147 = .ok (.aload_n 0, 1) := by decide +kernel
theorem dX12_count_148 : decode cX12_count 148 = .ok (.invokevirtual 191, 3) := by decide +kernel
theorem dX12_count_151 : decode cX12_count 151 = .ok (.goto 36, 3) := by decide +kernel
theorem dX12_count_154 : decode cX12_count 154 = .ok (.iload_n 1, 1) := by decide +kernel
theorem dX12_count_155 : decode cX12_count 155 = .ok (.bipush 7, 2) := by decide +kernel
theorem dX12_count_157 : decode cX12_count 157 = .ok (.if_icmp .ne 13, 3) := by decide +kernel
theorem dX12_count_160 : decode cX12_count 160 = .ok (.aload_n 0, 1) := by decide +kernel
theorem dX12_count_161 : decode cX12_count 161 = .ok (.getfield 7, 3) := by decide +kernel
theorem dX12_count_164 : decode cX12_count 164 = .ok (.bipush 25, 2) := by decide +kernel
theorem dX12_count_166 : decode cX12_count 166 = .ok (.iaload, 1) := by decide +kernel
theorem dX12_count_167 : decode cX12_count 167 = .ok (.goto 20, 3) := by decide +kernel
theorem dX12_count_170 : decode cX12_count 170 = .ok (.iload_n 1, 1) := by decide +kernel
theorem dX12_count_171 : decode cX12_count 171 = .ok (.bipush 8, 2) := by decide +kernel
theorem dX12_count_173 : decode cX12_count 173 = .ok (.if_icmp .ne 10, 3) := by decide +kernel
theorem dX12_count_176 : decode cX12_count 176 = .ok (.aload_n 0, 1) := by decide +kernel
theorem dX12_count_177 : decode cX12_count 177 = .ok (.getfield 131, 3) := by decide +kernel
theorem dX12_count_180 : decode cX12_count 180 = .ok (.goto 7, 3) := by decide +kernel
theorem dX12_count_183 : decode cX12_count 183 = .ok (.aload_n 0, 1) := by decide +kernel
theorem dX12_count_184 : decode cX12_count 184 = .ok (.getfield 76, 3) := by decide +kernel
theorem dX12_count_187 : decode cX12_count 187 = .ok (.ireturn, 1) := by decide +kernel
theorem dX12_status_0 : decode cX12_status 0 = .ok (.aload_n 0, 1) := by decide +kernel
theorem dX12_status_1 : decode cX12_status 1 = .ok (.getfield 53, 3) := by decide +kernel
theorem dX12_status_4 : decode cX12_status 4 = .ok (.ireturn, 1) := by decide +kernel
