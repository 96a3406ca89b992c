theorem dX12_goes_0 : decode cX12_goes 0 = .ok (.aload_n 0, 1) := by decide +kernel
theorem dX12_goes_1 : decode cX12_goes 1 = .ok (.getfield 36, 3) := by decide +kernel
theorem dX12_goes_4 : decode cX12_goes 4 = .ok (.iconst 0, 1) := by decide +kernel
theorem dX12_goes_5 : decode cX12_goes 5 = .ok (.iload_n 1, 1) := by decide +kernel
theorem dX12_goes_6 : decode cX12_goes 6 = .ok (.iadd, 1) := by decide +kernel
theorem dX12_goes_7 : decode cX12_goes 7 = .ok (.iaload, 1) := by decide +kernel
theorem dX12_goes_8 : decode cX12_goes 8 = .ok (.istore_n 3, 1) := by decide +kernel
theorem dX12_goes_9 : decode cX12_goes 9 = .ok (.aload_n 0, 1) := by decide +kernel
theorem dX12_goes_10 : decode cX12_goes 10 = .ok (.invokevirtual 391, 3) := by decide +kernel
theorem dX12_goes_13 : decode cX12_goes 13 = .ok (.istore 4, 2) := by decide +kernel
theorem dX12_goes_15 : decode cX12_goes 15 = .ok (.aload_n 0, 1) := by decide +kernel
theorem dX12_goes_16 : decode cX12_goes 16 = .ok (.iload_n 2, 1) := by decide +kernel
theorem dX12_goes_17 : decode cX12_goes 17 = .ok (.iload 4, 2) := by decide +kernel
theorem dX12_goes_19 : decode cX12_goes 19 = .ok (.invokevirtual 376, 3) := by decide +kernel
theorem dX12_goes_22 : decode cX12_goes 22 = .ok (.iconst (-1), 1) := by decide +kernel
theorem dX12_goes_23 : decode cX12_goes 23 = .ok (.istore 5, 2) := by decide +kernel
theorem dX12_goes_25 : decode cX12_goes 25 = .ok (.iconst 0, 1) := by decide +kernel
theorem dX12_goes_26 : decode cX12_goes 26 = .ok (.istore 6, 2) := by decide +kernel
theorem dX12_goes_28 : decode cX12_goes 28 = .ok (.iload 6, 2) := by decide +kernel
theorem dX12_goes_30 : decode cX12_goes 30 = .ok (.aload_n 0, 1) := by decide +kernel
theorem dX12_goes_31 : decode cX12_goes 31 = .ok (.getfield 358, 3) := by decide +kernel
theorem dX12_goes_34 : decode cX12_goes 34 = .ok (.getfield 244, 3) := by decide +kernel
theorem dX12_goes_37 : decode cX12_goes 37 = .ok (.if_icmp .ge 89, 3) := by decide +kernel
theorem dX12_goes_40 : decode cX12_goes 40 = .ok (.iload 6, 2) := by decide +kernel
theorem dX12_goes_42 : decode cX12_goes 42 = .ok (.iload_n 3, 1) := by decide +kernel
theorem dX12_goes_43 : decode cX12_goes 43 = .ok (.if_icmp .ne 7, 3) := by decide +kernel
theorem dX12_goes_46 : decode cX12_goes 46 = .ok (.iconst (-1), 1) := by decide +kernel
theorem dX12_goes_47 : decode cX12_goes 47 = .ok (.goto 13, 3) := by decide +kernel
theorem dX12_goes_50 : decode cX12_goes 50 = .ok (.aload_n 0, 1) := by decide +kernel
theorem dX12_goes_51 : decode cX12_goes 51 = .ok (.getfield 358, 3) := by decide +kernel
theorem dX12_goes_54 : decode cX12_goes 54 = .ok (.iload_n 3, 1) := by decide +kernel
theorem dX12_goes_55 : decode cX12_goes 55 = .ok (.iload 6, 2) := by decide +kernel
theorem dX12_goes_57 : decode cX12_goes 57 = .ok (.invokevirtual 301, 3) := by decide +kernel
theorem dX12_goes_60 : decode cX12_goes 60 = .ok (.istore 7, 2) := by decide +kernel
theorem dX12_goes_62 : decode cX12_goes 62 = .ok (.iload 7, 2) := by decide +kernel
theorem dX12_goes_64 : decode cX12_goes 64 = .ok (.iconst (-1), 1) := by decide +kernel
theorem dX12_goes_65 : decode cX12_goes 65 = .ok (.if_icmp .eq 55, 3) := by decide +kernel
theorem dX12_goes_68 : decode cX12_goes 68 = .ok (.iload 4, 2) := by decide +kernel
theorem dX12_goes_70 : decode cX12_goes 70 = .ok (.iload 7, 2) := by decide +kernel
theorem dX12_goes_72 : decode cX12_goes 72 = .ok (.invokestatic 372, 3) := by decide +kernel
theorem dX12_goes_75 : decode cX12_goes 75 = .ok (.ifCond .ne 45, 3) := by decide +kernel
theorem dX12_goes_78 : decode cX12_goes 78 = .ok (.aload_n 0, 1) := by decide +kernel
theorem dX12_goes_79 : decode cX12_goes 79 = .ok (.getfield 21, 3) := by decide +kernel
theorem dX12_goes_82 : decode cX12_goes 82 = .ok (.iload 6, 2) := by decide +kernel
theorem dX12_goes_84 : decode cX12_goes 84 = .ok (.iaload, 1) := by decide +kernel
theorem dX12_goes_85 : decode cX12_goes 85 = .ok (.bipush 99, 2) := by decide +kernel
theorem dX12_goes_87 : decode cX12_goes 87 = .ok (.if_icmp .ne 6, 3) := by decide +kernel
theorem dX12_goes_90 : decode cX12_goes 90 = .ok (.goto 30, 3) := by decide +kernel
theorem dX12_goes_93 : decode cX12_goes 93 = .ok (.iload 5, 2) := by decide +kernel
theorem dX12_goes_95 : decode cX12_goes 95 = .ok (.iconst (-1), 1) := by decide +kernel
theorem dX12_goes_96 : decode cX12_goes 96 = .ok (.if_icmp .eq 20, 3) := by decide +kernel
theorem dX12_goes_99 : decode cX12_goes 99 = .ok (.aload_n 0, 1) := by decide +kernel
theorem dX12_goes_100 : decode cX12_goes 100 = .ok (.getfield 21, 3) := by decide +kernel
theorem dX12_goes_103 : decode cX12_goes 103 = .ok (.iload 6, 2) := by decide +kernel
theorem dX12_goes_105 : decode cX12_goes 105 = .ok (.iaload, 1) := by decide +kernel
theorem dX12_goes_106 : decode cX12_goes 106 = .ok (.aload_n 0, 1) := by decide +kernel
theorem dX12_goes_107 : decode cX12_goes 107 = .ok (.getfield 21, 3) := by decide +kernel
theorem dX12_goes_110 : decode cX12_goes 110 = .ok (.iload 5, 2) := by decide +kernel
theorem dX12_goes_112 : decode cX12_goes 112 = .ok (.iaload, 1) := by decide +kernel
theorem dX12_goes_113 : decode cX12_goes 113 = .ok (.if_icmp .ge 7, 3) := by decide +kernel
theorem dX12_goes_116 : decode cX12_goes 116 = .ok (.iload 6, 2) := by decide +kernel
theorem dX12_goes_118 : decode cX12_goes 118 = .ok (.istore 5, 2) := by decide +kernel
theorem dX12_goes_120 : decode cX12_goes 120 = .ok (.iinc 6 1, 3) := by decide +kernel
theorem dX12_goes_123 : decode cX12_goes 123 = .ok (.goto (-95), 3) := by decide +kernel
theorem dX12_goes_126 : decode cX12_goes 126 = .ok (.iload 5, 2) := by decide +kernel
theorem dX12_goes_128 : decode cX12_goes 128 = .ok (.iconst (-1), 1) := by decide +kernel
theorem dX12_goes_129 : decode cX12_goes 129 = .ok (.if_icmp .ne 4, 3) := by decide +kernel
theorem dX12_goes_132 : decode cX12_goes 132 = .ok (.return_, 1) := by decide +kernel
theorem dX12_goes_133 : decode cX12_goes 133 = .ok (.aload_n 0, 1) := by decide +kernel
theorem dX12_goes_134 : decode cX12_goes 134 = .ok (.getfield 358, 3) := by decide +kernel
theorem dX12_goes_137 : decode cX12_goes 137 = .ok (.iload_n 3, 1) := by decide +kernel
theorem dX12_goes_138 : decode cX12_goes 138 = .ok (.iload 5, 2) := by decide +kernel
theorem dX12_goes_140 : decode cX12_goes 140 = .ok (.invokevirtual 301, 3) := by decide +kernel
theorem dX12_goes_143 : decode cX12_goes 143 = .ok (.istore 6, 2) := by decide +kernel
theorem dX12_goes_145 : decode cX12_goes 145 = .ok (.aload_n 0, 1) := by decide +kernel
theorem dX12_goes_146 : decode cX12_goes 146 = .ok (.getfield 36, 3) := by decide +kernel
theorem dX12_goes_149 : decode cX12_goes 149 = .ok (.bipush 23, 2) := by decide +kernel
theorem dX12_goes_151 : decode cX12_goes 151 = .ok (.iload 6, 2) := by decide +kernel
theorem dX12_goes_153 : decode cX12_goes 153 = .ok (.iadd, 1) := by decide +kernel
theorem dX12_goes_154 : decode cX12_goes 154 = .ok (.aload_n 0, 1) := by decide +kernel
theorem dX12_goes_155 : decode cX12_goes 155 = .ok (.getfield 358, 3) := by decide +kernel
theorem dX12_goes_158 : decode cX12_goes 158 = .ok (.getfield 313, 3) := by decide +kernel
theorem dX12_goes_161 : decode cX12_goes 161 = .ok (.iload 6, 2) := by decide +kernel
theorem dX12_goes_163 : decode cX12_goes 163 = .ok (.baload, 1) := by decide +kernel
theorem dX12_goes_164 : decode cX12_goes 164 = .ok (.ifCond .eq 7, 3) := by decide +kernel
theorem dX12_goes_167 : decode cX12_goes 167 = .ok (.iconst 1, 1) := by decide +kernel
theorem dX12_goes_168 : decode cX12_goes 168 = .ok (.goto 4, 3) := by decide +kernel
theorem dX12_goes_171 : decode cX12_goes 171 = .ok (.iconst 0, 1) := by decide +kernel
theorem dX12_goes_172 : decode cX12_goes 172 = .ok (.iastore, 1) := by decide +kernel
theorem dX12_goes_173 : decode cX12_goes 173 = .ok (.aload_n 0, 1) := by decide +kernel
theorem dX12_goes_174 : decode cX12_goes 174 = .ok (.getfield 36, 3) := by decide +kernel
theorem dX12_goes_177 : decode cX12_goes 177 = .ok (.bipush 33, 2) := by decide +kernel
theorem dX12_goes_179 : decode cX12_goes 179 = .ok (.iload 6, 2) := by decide +kernel
theorem dX12_goes_181 : decode cX12_goes 181 = .ok (.iadd, 1) := by decide +kernel
theorem dX12_goes_182 : decode cX12_goes 182 = .ok (.dup2, 1) := by decide +kernel
theorem dX12_goes_183 : decode cX12_goes 183 = .ok (.iaload, 1) := by decide +kernel
theorem dX12_goes_184 : decode cX12_goes 184 = .ok (.iconst 1, 1) := by decide +kernel
theorem dX12_goes_185 : decode cX12_goes 185 = .ok (.iadd, 1) := by decide +kernel
theorem dX12_goes_186 : decode cX12_goes 186 = .ok (.iastore, 1) := by decide +kernel
theorem dX12_goes_187 : decode cX12_goes 187 = .ok (.aload_n 0, 1) := by decide +kernel
theorem dX12_goes_188 : decode cX12_goes 188 = .ok (.getfield 36, 3) := by decide +kernel
theorem dX12_goes_191 : decode cX12_goes 191 = .ok (.iconst 0, 1) := by decide +kernel
theorem dX12_goes_192 : decode cX12_goes 192 = .ok (.iload_n 1, 1) := by decide +kernel
theorem dX12_goes_193 : decode cX12_goes 193 = .ok (.iadd, 1) := by decide +kernel
theorem dX12_goes_194 : decode cX12_goes 194 = .ok (.iload 5, 2) := by decide +kernel
theorem dX12_goes_196 : decode cX12_goes 196 = .ok (.iastore, 1) := by decide +kernel
theorem dX12_goes_197 : decode cX12_goes 197 = .ok (.aload_n 0, 1) := by decide +kernel
theorem dX12_goes_198 : decode cX12_goes 198 = .ok (.getfield 36, 3) := by decide +kernel
theorem dX12_goes_201 : decode cX12_goes 201 = .ok (.bipush 6, 2) := by decide +kernel
theorem dX12_goes_203 : decode cX12_goes 203 = .ok (.iload_n 1, 1) := by decide +kernel
theorem dX12_goes_204 : decode cX12_goes 204 = .ok (.iadd, 1) := by decide +kernel
theorem dX12_goes_205 : decode cX12_goes 205 = .ok (.iaload, 1) := by decide +kernel
theorem dX12_goes_206 : decode cX12_goes 206 = .ok (.bipush (-2), 2) := by decide +kernel
theorem dX12_goes_208 : decode cX12_goes 208 = .ok (.if_icmp .eq 22, 3) := by decide +kernel
theorem dX12_goes_211 : decode cX12_goes 211 = .ok (.aload_n 0, 1) := by decide +kernel
theorem dX12_goes_212 : decode cX12_goes 212 = .ok (.getfield 36, 3) := by decide +kernel
theorem dX12_goes_215 : decode cX12_goes 215 = .ok (.bipush 15, 2) := by decide +kernel
theorem dX12_goes_217 : decode cX12_goes 217 = .ok (.aload_n 0, 1) := by decide +kernel
theorem dX12_goes_218 : decode cX12_goes 218 = .ok (.getfield 36, 3) := by decide +kernel
theorem dX12_goes_221 : decode cX12_goes 221 = .ok (.bipush 6, 2) := by decide +kernel
theorem dX12_goes_223 : decode cX12_goes 223 = .ok (.iload_n 1, 1) := by decide +kernel
theorem dX12_goes_224 : decode cX12_goes 224 = .ok (.iadd, 1) := by decide +kernel
theorem dX12_goes_225 : decode cX12_goes 225 = .ok (.iaload, 1) := by decide +kernel
theorem dX12_goes_226 : decode cX12_goes 226 = .ok (.iadd, 1) := by decide +kernel
theorem dX12_goes_227 : decode cX12_goes 227 = .ok (.iload 5, 2) := by decide +kernel
theorem dX12_goes_229 : decode cX12_goes 229 = .ok (.iastore, 1) := by decide +kernel
theorem dX12_goes_230 : decode cX12_goes 230 = .ok (.aload_n 0, 1) := by decide +kernel
theorem dX12_goes_231 : decode cX12_goes 231 = .ok (.iload 5, 2) := by decide +kernel
theorem dX12_goes_233 : decode cX12_goes 233 = .ok (.invokevirtual 394, 3) := by decide +kernel
theorem dX12_goes_236 : decode cX12_goes 236 = .ok (.aload_n 0, 1) := by decide +kernel
theorem dX12_goes_237 : decode cX12_goes 237 = .ok (.getfield 358, 3) := by decide +kernel
theorem dX12_goes_240 : decode cX12_goes 240 = .ok (.getfield 289, 3) := by decide +kernel
theorem dX12_goes_243 : decode cX12_goes 243 = .ok (.iload 5, 2) := by decide +kernel
theorem dX12_goes_245 : decode cX12_goes 245 = .ok (.baload, 1) := by decide +kernel
theorem dX12_goes_246 : decode cX12_goes 246 = .ok (.ifCond .eq 14, 3) := by decide +kernel
theorem dX12_goes_249 : decode cX12_goes 249 = .ok (.aload_n 0, 1) := by decide +kernel
theorem dX12_goes_250 : decode cX12_goes 250 = .ok (.getfield 36, 3) := by decide +kernel
theorem dX12_goes_253 : decode cX12_goes 253 = .ok (.bipush 9, 2) := by decide +kernel
theorem dX12_goes_255 : decode cX12_goes 255 = .ok (.iload_n 1, 1) := by decide +kernel
theorem dX12_goes_256 : decode cX12_goes 256 = .ok (.iadd, 1) := by decide +kernel
theorem dX12_goes_257 : decode cX12_goes 257 = .ok (.iconst 1, 1) := by decide +kernel
theorem dX12_goes_258 : decode cX12_goes 258 = .ok (.iastore, 1) := by decide +kernel
theorem dX12_goes_259 : decode cX12_goes 259 = .ok (.return_, 1) := by decide +kernel
theorem dX12_goes_260 : decode cX12_goes 260 = .ok (.iconst 0, 1) := by decide +kernel
theorem dX12_goes_261 : decode cX12_goes 261 = .ok (.istore 7, 2) := by decide +kernel
theorem dX12_goes_263 : decode cX12_goes 263 = .ok (.iconst 0, 1) := by decide +kernel
theorem dX12_goes_264 : decode cX12_goes 264 = .ok (.istore 8, 2) := by decide +kernel
theorem dX12_goes_266 : decode cX12_goes 266 = .ok (.iload 8, 2) := by decide +kernel
theorem dX12_goes_268 : decode cX12_goes 268 = .ok (.aload_n 0, 1) := by decide +kernel
theorem dX12_goes_269 : decode cX12_goes 269 = .ok (.getfield 358, 3) := by decide +kernel
theorem dX12_goes_272 : decode cX12_goes 272 = .ok (.getfield 247, 3) := by decide +kernel
theorem dX12_goes_275 : decode cX12_goes 275 = .ok (.if_icmp .ge 55, 3) := by decide +kernel
theorem dX12_goes_278 : decode cX12_goes 278 = .ok (.iload 8, 2) := by decide +kernel
theorem dX12_goes_280 : decode cX12_goes 280 = .ok (.iload_n 1, 1) := by decide +kernel
theorem dX12_goes_281 : decode cX12_goes 281 = .ok (.if_icmp .eq 43, 3) := by decide +kernel
theorem dX12_goes_284 : decode cX12_goes 284 = .ok (.aload_n 0, 1) := by decide +kernel
theorem dX12_goes_285 : decode cX12_goes 285 = .ok (.getfield 36, 3) := by decide +kernel
theorem dX12_goes_288 : decode cX12_goes 288 = .ok (.bipush 9, 2) := by decide +kernel
theorem dX12_goes_290 : decode cX12_goes 290 = .ok (.iload 8, 2) := by decide +kernel
theorem dX12_goes_292 : decode cX12_goes 292 = .ok (.iadd, 1) := by decide +kernel
theorem dX12_goes_293 : decode cX12_goes 293 = .ok (.iaload, 1) := by decide +kernel
theorem dX12_goes_294 : decode cX12_goes 294 = .ok (.iconst 1, 1) := by decide +kernel
theorem dX12_goes_295 : decode cX12_goes 295 = .ok (.if_icmp .eq 29, 3) := by decide +kernel
theorem dX12_goes_298 : decode cX12_goes 298 = .ok (.aload_n 0, 1) := by decide +kernel
theorem dX12_goes_299 : decode cX12_goes 299 = .ok (.getfield 36, 3) := by decide +kernel
theorem dX12_goes_302 : decode cX12_goes 302 = .ok (.iconst 0, 1) := by decide +kernel
theorem dX12_goes_303 : decode cX12_goes 303 = .ok (.iload 8, 2) := by decide +kernel
theorem dX12_goes_305 : decode cX12_goes 305 = .ok (.iadd, 1) := by decide +kernel
theorem dX12_goes_306 : decode cX12_goes 306 = .ok (.iaload, 1) := by decide +kernel
theorem dX12_goes_307 : decode cX12_goes 307 = .ok (.iload 5, 2) := by decide +kernel
theorem dX12_goes_309 : decode cX12_goes 309 = .ok (.if_icmp .eq 6, 3) := by decide +kernel
theorem dX12_goes_312 : decode cX12_goes 312 = .ok (.goto 12, 3) := by decide +kernel
theorem dX12_goes_315 : decode cX12_goes 315 = .ok (.iconst 1, 1) := by decide +kernel
theorem dX12_goes_316 : decode cX12_goes 316 = .ok (.istore 7, 2) := by decide +kernel
theorem dX12_goes_318 : decode cX12_goes 318 = .ok (.aload_n 0, 1) := by decide +kernel
theorem dX12_goes_319 : decode cX12_goes 319 = .ok (.iload 8, 2) := by decide +kernel
theorem dX12_goes_321 : decode cX12_goes 321 = .ok (.invokevirtual 397, 3) := by decide +kernel
theorem dX12_goes_324 : decode cX12_goes 324 = .ok (.iinc 8 1, 3) := by decide +kernel
theorem dX12_goes_327 : decode cX12_goes 327 = .ok (.goto (-61), 3) := by decide +kernel
theorem dX12_goes_330 : decode cX12_goes 330 = .ok (.iload 7, 2) := by decide +kernel
theorem dX12_goes_332 : decode cX12_goes 332 = .ok (.ifCond .eq 8, 3) := by decide +kernel
theorem dX12_goes_335 : decode cX12_goes 335 = .ok (.aload_n 0, 1) := by decide +kernel
theorem dX12_goes_336 : decode cX12_goes 336 = .ok (.iload_n 1, 1) := by decide +kernel
theorem dX12_goes_337 : decode cX12_goes 337 = .ok (.invokevirtual 397, 3) := by decide +kernel
theorem dX12_goes_340 : decode cX12_goes 340 = .ok (.return_, 1) := by decide +kernel
theorem dX12_holder_0 : decode cX12_holder 0 = .ok (.iconst 0, 1) := by decide +kernel
theorem dX12_holder_1 : decode cX12_holder 1 = .ok (.istore_n 2, 1) := by decide +kernel
theorem dX12_holder_2 : decode cX12_holder 2 = .ok (.iload_n 2, 1) := by decide +kernel
theorem dX12_holder_3 : decode cX12_holder 3 = .ok (.aload_n 0, 1) := by decide +kernel
theorem dX12_holder_4 : decode cX12_holder 4 = .ok (.getfield 358, 3) := by decide +kernel
theorem dX12_holder_7 : decode cX12_holder 7 = .ok (.getfield 247, 3) := by decide +kernel
theorem dX12_holder_10 : decode cX12_holder 10 = .ok (.if_icmp .ge 24, 3) := by decide +kernel
theorem dX12_holder_13 : decode cX12_holder 13 = .ok (.aload_n 0, 1) := by decide +kernel
theorem dX12_holder_14 : decode cX12_holder 14 = .ok (.getfield 36, 3) := by decide +kernel
theorem dX12_holder_17 : decode cX12_holder 17 = .ok (.bipush 6, 2) := by decide +kernel
theorem dX12_holder_19 : decode cX12_holder 19 = .ok (.iload_n 2, 1) := by decide +kernel
theorem dX12_holder_20 : decode cX12_holder 20 = .ok (.iadd, 1) := by decide +kernel
theorem dX12_holder_21 : decode cX12_holder 21 = .ok (.iaload, 1) := by decide +kernel
theorem dX12_holder_22 : decode cX12_holder 22 = .ok (.iload_n 1, 1) := by decide +kernel
theorem dX12_holder_23 : decode cX12_holder 23 = .ok (.if_icmp .ne 5, 3) := by decide +kernel
theorem dX12_holder_26 : decode cX12_holder 26 = .ok (.iload_n 2, 1) := by decide +kernel
theorem dX12_holder_27 : decode cX12_holder 27 = .ok (.ireturn, 1) := by decide +kernel
theorem dX12_holder_28 : decode cX12_holder 28 = .ok (.iinc 2 1, 3) := by decide +kernel
theorem dX12_holder_31 : decode cX12_holder 31 = .ok (.goto (-29), 3) := by decide +kernel
theorem dX12_holder_34 : decode cX12_holder 34 = .ok (.bipush (-2), 2) := by decide +kernel
theorem dX12_holder_36 : decode cX12_holder 36 = .ok (.ireturn, 1) := by decide +kernel
theorem dX12_does_0 : decode cX12_does 0 = .ok (.aload_n 0, 1) := by decide +kernel
theorem dX12_does_1 : decode cX12_does 1 = .ok (.getfield 36, 3) := by decide +kernel
theorem dX12_does_4 : decode cX12_does 4 = .ok (.iconst 0, 1) := by decide +kernel
theorem dX12_does_5 : decode cX12_does 5 = .ok (.iload_n 1, 1) := by decide +kernel
theorem dX12_does_6 : decode cX12_does 6 = .ok (.iadd, 1) := by decide +kernel
theorem dX12_does_7 : decode cX12_does 7 = .ok (.iaload, 1) := by decide +kernel
theorem dX12_does_8 : decode cX12_does 8 = .ok (.istore 4, 2) := by decide +kernel
theorem dX12_does_10 : decode cX12_does 10 = .ok (.iload_n 2, 1) := by decide +kernel
theorem dX12_does_11 : decode cX12_does 11 = .ok (.iconst 1, 1) := by decide +kernel
theorem dX12_does_12 : decode cX12_does 12 = .ok (.if_icmp .ne 55, 3) := by decide +kernel
theorem dX12_does_15 : decode cX12_does 15 = .ok (.aload_n 0, 1) := by decide +kernel
theorem dX12_does_16 : decode cX12_does 16 = .ok (.getfield 36, 3) := by decide +kernel
theorem dX12_does_19 : decode cX12_does 19 = .ok (.bipush 15, 2) := by decide +kernel
theorem dX12_does_21 : decode cX12_does 21 = .ok (.iload_n 3, 1) := by decide +kernel
theorem dX12_does_22 : decode cX12_does 22 = .ok (.iadd, 1) := by decide +kernel
theorem dX12_does_23 : decode cX12_does 23 = .ok (.iaload, 1) := by decide +kernel
theorem dX12_does_24 : decode cX12_does 24 = .ok (.iload 4, 2) := by decide +kernel
theorem dX12_does_26 : decode cX12_does 26 = .ok (.if_icmp .ne 27, 3) := by decide +kernel
theorem dX12_does_29 : decode cX12_does 29 = .ok (.aload_n 0, 1) := by decide +kernel
theorem dX12_does_30 : decode cX12_does 30 = .ok (.iload_n 3, 1) := by decide +kernel
theorem dX12_does_31 : decode cX12_does 31 = .ok (.invokevirtual 400, 3) := by decide +kernel
theorem dX12_does_34 : decode cX12_does 34 = .ok (.bipush (-2), 2) := by decide +kernel
theorem dX12_does_36 : decode cX12_does 36 = .ok (.if_icmp .ne 17, 3) := by decide +kernel
theorem dX12_does_39 : decode cX12_does 39 = .ok (.aload_n 0, 1) := by decide +kernel
theorem dX12_does_40 : decode cX12_does 40 = .ok (.getfield 36, 3) := by decide +kernel
theorem dX12_does_43 : decode cX12_does 43 = .ok (.bipush 6, 2) := by decide +kernel
theorem dX12_does_45 : decode cX12_does 45 = .ok (.iload_n 1, 1) := by decide +kernel
theorem dX12_does_46 : decode cX12_does 46 = .ok (.iadd, 1) := by decide +kernel
theorem dX12_does_47 : decode cX12_does 47 = .ok (.iaload, 1) := by decide +kernel
theorem dX12_does_48 : decode cX12_does 48 = .ok (.bipush (-2), 2) := by decide +kernel
theorem dX12_does_50 : decode cX12_does 50 = .ok (.if_icmp .eq 5, 3) := by decide +kernel
theorem dX12_does_53 : decode cX12_does 53 = .ok (.iconst 0, 1) := by decide +kernel
theorem dX12_does_54 : decode cX12_does 54 = .ok (.ireturn, 1) := by decide +kernel
theorem dX12_does_55 : decode cX12_does 55 = .ok (.aload_n 0, 1) := by decide +kernel
theorem dX12_does_56 : decode cX12_does 56 = .ok (.getfield 36, 3) := by decide +kernel
theorem dX12_does_59 : decode cX12_does 59 = .ok (.bipush 6, 2) := by decide +kernel
theorem dX12_does_61 : decode cX12_does 61 = .ok (.iload_n 1, 1) := by decide +kernel
theorem dX12_does_62 : decode cX12_does 62 = .ok (.iadd, 1) := by decide +kernel
theorem dX12_does_63 : decode cX12_does 63 = .ok (.iload_n 3, 1) := by decide +kernel
theorem dX12_does_64 : decode cX12_does 64 = .ok (.iastore, 1) := by decide +kernel
theorem dX12_does_65 : decode cX12_does 65 = .ok (.iconst 1, 1) := by decide +kernel
theorem dX12_does_66 : decode cX12_does 66 = .ok (.ireturn, 1) := by decide +kernel
theorem dX12_does_67 : decode cX12_does 67 = .ok (.iload_n 2, 1) := by decide +kernel
theorem dX12_does_68 : decode cX12_does 68 = .ok (.iconst 2, 1) := by decide +kernel
theorem dX12_does_69 : decode cX12_does 69 = .ok (.if_icmp .ne 38, 3) := by decide +kernel
theorem dX12_does_72 : decode cX12_does 72 = .ok (.aload_n 0, 1) := by decide +kernel
theorem dX12_does_73 : decode cX12_does 73 = .ok (.getfield 36, 3) := by decide +kernel
theorem dX12_does_76 : decode cX12_does 76 = .ok (.bipush 6, 2) := by decide +kernel
theorem dX12_does_78 : decode cX12_does 78 = .ok (.iload_n 1, 1) := by decide +kernel
theorem dX12_does_79 : decode cX12_does 79 = .ok (.iadd, 1) := by decide +kernel
theorem dX12_does_80 : decode cX12_does 80 = .ok (.iaload, 1) := by decide +kernel
theorem dX12_does_81 : decode cX12_does 81 = .ok (.bipush (-2), 2) := by decide +kernel
theorem dX12_does_83 : decode cX12_does 83 = .ok (.if_icmp .eq 7, 3) := by decide +kernel
theorem dX12_does_86 : decode cX12_does 86 = .ok (.iconst 1, 1) := by decide +kernel
theorem dX12_does_87 : decode cX12_does 87 = .ok (.goto 4, 3) := by decide +kernel
theorem dX12_does_90 : decode cX12_does 90 = .ok (.iconst 0, 1) := by decide +kernel
theorem dX12_does_91 : decode cX12_does 91 = .ok (.istore 5, 2) := by decide +kernel
theorem dX12_does_93 : decode cX12_does 93 = .ok (.aload_n 0, 1) := by decide +kernel
theorem dX12_does_94 : decode cX12_does 94 = .ok (.getfield 36, 3) := by decide +kernel
theorem dX12_does_97 : decode cX12_does 97 = .ok (.bipush 6, 2) := by decide +kernel
theorem dX12_does_99 : decode cX12_does 99 = .ok (.iload_n 1, 1) := by decide +kernel
theorem dX12_does_100 : decode cX12_does 100 = .ok (.iadd, 1) := by decide +kernel
theorem dX12_does_101 : decode cX12_does 101 = .ok (.bipush (-2), 2) := by decide +kernel
theorem dX12_does_103 : decode cX12_does 103 = .ok (.iastore, 1) := by decide +kernel
theorem dX12_does_104 : decode cX12_does 104 = .ok (.iload 5, 2) := by decide +kernel
theorem dX12_does_106 : decode cX12_does 106 = .ok (.ireturn, 1) := by decide +kernel
theorem dX12_does_107 : decode cX12_does 107 = .ok (.iload_n 2, 1) := by decide +kernel
theorem dX12_does_108 : decode cX12_does 108 = .ok (.iconst 3, 1) := by decide +kernel
theorem dX12_does_109 : decode cX12_does 109 = .ok (.if_icmp .ne 43, 3) := by decide +kernel
theorem dX12_does_112 : decode cX12_does 112 = .ok (.aload_n 0, 1) := by decide +kernel
theorem dX12_does_113 : decode cX12_does 113 = .ok (.getfield 36, 3) := by decide +kernel
theorem dX12_does_116 : decode cX12_does 116 = .ok (.bipush 15, 2) := by decide +kernel
theorem dX12_does_118 : decode cX12_does 118 = .ok (.iload_n 3, 1) := by decide +kernel
theorem dX12_does_119 : decode cX12_does 119 = .ok (.iadd, 1) := by decide +kernel
theorem dX12_does_120 : decode cX12_does 120 = .ok (.iaload, 1) := by decide +kernel
theorem dX12_does_121 : decode cX12_does 121 = .ok (.iload 4, 2) := by decide +kernel
theorem dX12_does_123 : decode cX12_does 123 = .ok (.if_icmp .ne 15, 3) := by decide +kernel
theorem dX12_does_126 : decode cX12_does 126 = .ok (.aload_n 0, 1) := by decide +kernel
theorem dX12_does_127 : decode cX12_does 127 = .ok (.getfield 36, 3) := by decide +kernel
theorem dX12_does_130 : decode cX12_does 130 = .ok (.bipush 19, 2) := by decide +kernel
theorem dX12_does_132 : decode cX12_does 132 = .ok (.iload_n 3, 1) := by decide +kernel
theorem dX12_does_133 : decode cX12_does 133 = .ok (.iadd, 1) := by decide +kernel
theorem dX12_does_134 : decode cX12_does 134 = .ok (.iaload, 1) := by decide +kernel
theorem dX12_does_135 : decode cX12_does 135 = .ok (.ifCond .ne 5, 3) := by decide +kernel
theorem dX12_does_138 : decode cX12_does 138 = .ok (.iconst 0, 1) := by decide +kernel
theorem dX12_does_139 : decode cX12_does 139 = .ok (.ireturn, 1) := by decide +kernel
theorem dX12_does_140 : decode cX12_does 140 = .ok (.aload_n 0, 1) := by decide +kernel
theorem dX12_does_141 : decode cX12_does 141 = .ok (.getfield 36, 3) := by decide +kernel
theorem dX12_does_144 : decode cX12_does 144 = .ok (.bipush 19, 2) := by decide +kernel
theorem dX12_does_146 : decode cX12_does 146 = .ok (.iload_n 3, 1) := by decide +kernel
theorem dX12_does_147 : decode cX12_does 147 = .ok (.iadd, 1) := by decide +kernel
theorem dX12_does_148 : decode cX12_does 148 = .ok (.iconst 0, 1) := by decide +kernel
theorem dX12_does_149 : decode cX12_does 149 = .ok (.iastore, 1) := by decide +kernel
theorem dX12_does_150 : decode cX12_does 150 = .ok (.iconst 1, 1) := by decide +kernel
theorem dX12_does_151 : decode cX12_does 151 = .ok (.ireturn, 1) := by decide +kernel
theorem dX12_does_152 : decode cX12_does 152 = .ok (.iload_n 2, 1) := by decide +kernel
theorem dX12_does_153 : decode cX12_does 153 = .ok (.iconst 4, 1) := by decide +kernel
theorem dX12_does_154 : decode cX12_does 154 = .ok (.if_icmp .ne 5, 3) := by decide +kernel
theorem dX12_does_157 : decode cX12_does 157 = .ok (.iconst 1, 1) := by decide +kernel
theorem dX12_does_158 : decode cX12_does 158 = .ok (.ireturn, 1) := by decide +kernel
theorem dX12_does_159 : decode cX12_does 159 = .ok (.iload 4, 2) := by decide +kernel
theorem dX12_does_161 : decode cX12_does 161 = .ok (.iload_n 3, 1) := by decide +kernel
theorem dX12_does_162 : decode cX12_does 162 = .ok (.if_icmp .ne 7, 3) := by decide +kernel
theorem dX12_does_165 : decode cX12_does 165 = .ok (.iconst (-1), 1) := by decide +kernel
theorem dX12_does_166 : decode cX12_does 166 = .ok (.goto 13, 3) := by decide +kernel
theorem dX12_does_169 : decode cX12_does 169 = .ok (.aload_n 0, 1) := by decide +kernel
theorem dX12_does_170 : decode cX12_does 170 = .ok (.getfield 358, 3) := by decide +kernel
theorem dX12_does_173 : decode cX12_does 173 = .ok (.iload 4, 2) := by decide +kernel
theorem dX12_does_175 : decode cX12_does 175 = .ok (.iload_n 3, 1) := by decide +kernel
theorem dX12_does_176 : decode cX12_does 176 = .ok (.invokevirtual 301, 3) := by decide +kernel
theorem dX12_does_179 : decode cX12_does 179 = .ok (.istore 5, 2) := by decide +kernel
theorem dX12_does_181 : decode cX12_does 181 = .ok (.iload 5, 2) := by decide +kernel
theorem dX12_does_183 : decode cX12_does 183 = .ok (.iconst (-1), 1) := by decide +kernel
theorem dX12_does_184 : decode cX12_does 184 = .ok (.if_icmp .eq 16, 3) := by decide +kernel
theorem dX12_does_187 : decode cX12_does 187 = .ok (.aload_n 0, 1) := by decide +kernel
theorem dX12_does_188 : decode cX12_does 188 = .ok (.getfield 36, 3) := by decide +kernel
theorem dX12_does_191 : decode cX12_does 191 = .ok (.bipush 23, 2) := by decide +kernel
theorem dX12_does_193 : decode cX12_does 193 = .ok (.iload 5, 2) := by decide +kernel
theorem dX12_does_195 : decode cX12_does 195 = .ok (.iadd, 1) := by decide +kernel
theorem dX12_does_196 : decode cX12_does 196 = .ok (.iaload, 1) := by decide +kernel
theorem dX12_does_197 : decode cX12_does 197 = .ok (.ifCond .eq 5, 3) := by decide +kernel
theorem dX12_does_200 : decode cX12_does 200 = .ok (.iconst 0, 1) := by decide +kernel
theorem dX12_does_201 : decode cX12_does 201 = .ok (.ireturn, 1) := by decide +kernel
theorem dX12_does_202 : decode cX12_does 202 = .ok (.aload_n 0, 1) := by decide +kernel
theorem dX12_does_203 : decode cX12_does 203 = .ok (.getfield 36, 3) := by decide +kernel
theorem dX12_does_206 : decode cX12_does 206 = .ok (.bipush 23, 2) := by decide +kernel
theorem dX12_does_208 : decode cX12_does 208 = .ok (.iload 5, 2) := by decide +kernel
theorem dX12_does_210 : decode cX12_does 210 = .ok (.iadd, 1) := by decide +kernel
theorem dX12_does_211 : decode cX12_does 211 = .ok (.iconst 1, 1) := by decide +kernel
theorem dX12_does_212 : decode cX12_does 212 = .ok (.iastore, 1) := by decide +kernel
theorem dX12_does_213 : decode cX12_does 213 = .ok (.iconst 1, 1) := by decide +kernel
theorem dX12_does_214 : decode cX12_does 214 = .ok (.ireturn, 1) := by decide +kernel
theorem dX12_acts_0 : decode cX12_acts 0 = .ok (.aload_n 0, 1) := by decide +kernel
theorem dX12_acts_1 : decode cX12_acts 1 = .ok (.iload_n 1, 1) := by decide +kernel
theorem dX12_acts_2 : decode cX12_acts 2 = .ok (.invokevirtual 388, 3) := by decide +kernel
theorem dX12_acts_5 : decode cX12_acts 5 = .ok (.istore_n 2, 1) := by decide +kernel
theorem dX12_acts_6 : decode cX12_acts 6 = .ok (.aload_n 0, 1) := by decide +kernel
theorem dX12_acts_7 : decode cX12_acts 7 = .ok (.getfield 358, 3) := by decide +kernel
theorem dX12_acts_10 : decode cX12_acts 10 = .ok (.getfield 328, 3) := by decide +kernel
theorem dX12_acts_13 : decode cX12_acts 13 = .ok (.iload_n 2, 1) := by decide +kernel
theorem dX12_acts_14 : decode cX12_acts 14 = .ok (.baload, 1) := by decide +kernel
theorem dX12_acts_15 : decode cX12_acts 15 = .ok (.ifCond .ne 4, 3) := by decide +kernel
theorem dX12_acts_18 : decode cX12_acts 18 = .ok (.return_, 1) := by decide +kernel
theorem dX12_acts_19 : decode cX12_acts 19 = .ok (.aload_n 0, 1) := by decide +kernel
theorem dX12_acts_20 : decode cX12_acts 20 = .ok (.getfield 358, 3) := by decide +kernel
theorem dX12_acts_23 : decode cX12_acts 23 = .ok (.getfield 331, 3) := by decide +kernel
theorem dX12_acts_26 : decode cX12_acts 26 = .ok (.iload_n 2, 1) := by decide +kernel
theorem dX12_acts_27 : decode cX12_acts 27 = .ok (.iaload, 1) := by decide +kernel
theorem dX12_acts_28 : decode cX12_acts 28 = .ok (.ifCond .ne 40, 3) := by decide +kernel
theorem dX12_acts_31 : decode cX12_acts 31 = .ok (.aload_n 0, 1) := by decide +kernel
theorem dX12_acts_32 : decode cX12_acts 32 = .ok (.getfield 36, 3) := by decide +kernel
theorem dX12_acts_35 : decode cX12_acts 35 = .ok (.iconst 0, 1) := by decide +kernel
theorem dX12_acts_36 : decode cX12_acts 36 = .ok (.iload_n 1, 1) := by decide +kernel
theorem dX12_acts_37 : decode cX12_acts 37 = .ok (.iadd, 1) := by decide +kernel
theorem dX12_acts_38 : decode cX12_acts 38 = .ok (.iaload, 1) := by decide +kernel
theorem dX12_acts_39 : decode cX12_acts 39 = .ok (.aload_n 0, 1) := by decide +kernel
theorem dX12_acts_40 : decode cX12_acts 40 = .ok (.getfield 358, 3) := by decide +kernel
theorem dX12_acts_43 : decode cX12_acts 43 = .ok (.getfield 334, 3) := by decide +kernel
theorem dX12_acts_46 : decode cX12_acts 46 = .ok (.iload_n 2, 1) := by decide +kernel
theorem dX12_acts_47 : decode cX12_acts 47 = .ok (.iaload, 1) := by decide +kernel
theorem dX12_acts_48 : decode cX12_acts 48 = .ok (.if_icmp .eq 20, 3) := by decide +kernel
theorem dX12_acts_51 : decode cX12_acts 51 = .ok (.aload_n 0, 1) := by decide +kernel
theorem dX12_acts_52 : decode cX12_acts 52 = .ok (.iload_n 1, 1) := by decide +kernel
theorem dX12_acts_53 : decode cX12_acts 53 = .ok (.aload_n 0, 1) := by decide +kernel
theorem dX12_acts_54 : decode cX12_acts 54 = .ok (.getfield 358, 3) := by decide +kernel
theorem dX12_acts_57 : decode cX12_acts 57 = .ok (.getfield 334, 3) := by decide +kernel
theorem dX12_acts_60 : decode cX12_acts 60 = .ok (.iload_n 2, 1) := by decide +kernel
theorem dX12_acts_61 : decode cX12_acts 61 = .ok (.iaload, 1) := by decide +kernel
theorem dX12_acts_62 : decode cX12_acts 62 = .ok (.invokevirtual 403, 3) := by decide +kernel
theorem dX12_acts_65 : decode cX12_acts 65 = .ok (.goto 58, 3) := by decide +kernel
theorem dX12_acts_68 : decode cX12_acts 68 = .ok (.aload_n 0, 1) := by decide +kernel
theorem dX12_acts_69 : decode cX12_acts 69 = .ok (.getfield 358, 3) := by decide +kernel
theorem dX12_acts_72 : decode cX12_acts 72 = .ok (.getfield 331, 3) := by decide +kernel
theorem dX12_acts_75 : decode cX12_acts 75 = .ok (.iload_n 2, 1) := by decide +kernel
theorem dX12_acts_76 : decode cX12_acts 76 = .ok (.iaload, 1) := by decide +kernel
theorem dX12_acts_77 : decode cX12_acts 77 = .ok (.ifCond .eq 29, 3) := by decide +kernel
theorem dX12_acts_80 : decode cX12_acts 80 = .ok (.aload_n 0, 1) := by decide +kernel
theorem dX12_acts_81 : decode cX12_acts 81 = .ok (.iload_n 1, 1) := by decide +kernel
theorem dX12_acts_82 : decode cX12_acts 82 = .ok (.aload_n 0, 1) := by decide +kernel
theorem dX12_acts_83 : decode cX12_acts 83 = .ok (.getfield 358, 3) := by decide +kernel
theorem dX12_acts_86 : decode cX12_acts 86 = .ok (.getfield 331, 3) := by decide +kernel
theorem dX12_acts_89 : decode cX12_acts 89 = .ok (.iload_n 2, 1) := by decide +kernel
theorem dX12_acts_90 : decode cX12_acts 90 = .ok (.iaload, 1) := by decide +kernel
theorem dX12_acts_91 : decode cX12_acts 91 = .ok (.aload_n 0, 1) := by decide +kernel
theorem dX12_acts_92 : decode cX12_acts 92 = .ok (.getfield 358, 3) := by decide +kernel
theorem dX12_acts_95 : decode cX12_acts 95 = .ok (.getfield 334, 3) := by decide +kernel
theorem dX12_acts_98 : decode cX12_acts 98 = .ok (.iload_n 2, 1) := by decide +kernel
theorem dX12_acts_99 : decode cX12_acts 99 = .ok (.iaload, 1) := by decide +kernel
theorem dX12_acts_100 : decode cX12_acts 100 = .ok (.invokevirtual 406, 3) := by decide +kernel
theorem dX12_acts_103 : decode cX12_acts 103 = .ok (.ifCond .eq 20, 3) := by decide +kernel
theorem dX12_acts_106 : decode cX12_acts 106 = .ok (.aload_n 0, 1) := by decide +kernel
theorem dX12_acts_107 : decode cX12_acts 107 = .ok (.getfield 36, 3) := by decide +kernel
theorem dX12_acts_110 : decode cX12_acts 110 = .ok (.iconst 3, 1) := by decide +kernel
theorem dX12_acts_111 : decode cX12_acts 111 = .ok (.iload_n 1, 1) := by decide +kernel
theorem dX12_acts_112 : decode cX12_acts 112 = .ok (.iadd, 1) := by decide +kernel
theorem dX12_acts_113 : decode cX12_acts 113 = .ok (.aload_n 0, 1) := by decide +kernel
theorem dX12_acts_114 : decode cX12_acts 114 = .ok (.getfield 358, 3) := by decide +kernel
theorem dX12_acts_117 : decode cX12_acts 117 = .ok (.getfield 335, 3) := by decide +kernel
theorem dX12_acts_120 : decode cX12_acts 120 = .ok (.iload_n 2, 1) := by decide +kernel
theorem dX12_acts_121 : decode cX12_acts 121 = .ok (.iaload, 1) := by decide +kernel
theorem dX12_acts_122 : decode cX12_acts 122 = .ok (.iastore, 1) := by decide +kernel
theorem dX12_acts_123 : decode cX12_acts 123 = .ok (.return_, 1) := by decide +kernel
theorem dX12_passes_0 : decode cX12_passes 0 = .ok (.aload_n 0, 1) := by decide +kernel
theorem dX12_passes_1 : decode cX12_passes 1 = .ok (.getfield 36, 3) := by decide +kernel
theorem dX12_passes_4 : decode cX12_passes 4 = .ok (.bipush 49, 2) := by decide +kernel
theorem dX12_passes_6 : decode cX12_passes 6 = .ok (.dup2, 1) := by decide +kernel
theorem dX12_passes_7 : decode cX12_passes 7 = .ok (.iaload, 1) := by decide +kernel
theorem dX12_passes_8 : decode cX12_passes 8 = .ok (.iconst 1, 1) := by decide +kernel
theorem dX12_passes_9 : decode cX12_passes 9 = .ok (.iadd, 1) := by decide +kernel
theorem dX12_passes_10 : decode cX12_passes 10 = .ok (.iastore, 1) := by decide +kernel
theorem dX12_passes_11 : decode cX12_passes 11 = .ok (.iconst 0, 1) := by decide +kernel
theorem dX12_passes_12 : decode cX12_passes 12 = .ok (.istore_n 1, 1) := by decide +kernel
theorem dX12_passes_13 : decode cX12_passes 13 = .ok (.iload_n 1, 1) := by decide +kernel
theorem dX12_passes_14 : decode cX12_passes 14 = .ok (.aload_n 0, 1) := by decide +kernel
theorem dX12_passes_15 : decode cX12_passes 15 = .ok (.getfield 358, 3) := by decide +kernel
theorem dX12_passes_18 : decode cX12_passes 18 = .ok (.getfield 247, 3) := by decide +kernel
theorem dX12_passes_21 : decode cX12_passes 21 = .ok (.if_icmp .ge 26, 3) := by decide +kernel
theorem dX12_passes_24 : decode cX12_passes 24 = .ok (.aload_n 0, 1) := by decide +kernel
theorem dX12_passes_25 : decode cX12_passes 25 = .ok (.getfield 36, 3) := by decide +kernel
theorem dX12_passes_28 : decode cX12_passes 28 = .ok (.bipush 9, 2) := by decide +kernel
theorem dX12_passes_30 : decode cX12_passes 30 = .ok (.iload_n 1, 1) := by decide +kernel
theorem dX12_passes_31 : decode cX12_passes 31 = .ok (.iadd, 1) := by decide +kernel
theorem dX12_passes_32 : decode cX12_passes 32 = .ok (.iaload, 1) := by decide +kernel
theorem dX12_passes_33 : decode cX12_passes 33 = .ok (.ifCond .ne 8, 3) := by decide +kernel
theorem dX12_passes_36 : decode cX12_passes 36 = .ok (.aload_n 0, 1) := by decide +kernel
theorem dX12_passes_37 : decode cX12_passes 37 = .ok (.iload_n 1, 1) := by decide +kernel
theorem dX12_passes_38 : decode cX12_passes 38 = .ok (.invokevirtual 409, 3) := by decide +kernel
theorem dX12_passes_41 : decode cX12_passes 41 = .ok (.iinc 1 1, 3) := by decide +kernel
theorem dX12_passes_44 : decode cX12_passes 44 = .ok (.goto (-31), 3) := by decide +kernel
theorem dX12_passes_47 : decode cX12_passes 47 = .ok (.return_, 1) := by decide +kernel
theorem dX12_nightfall_0 : decode cX12_nightfall 0 = .ok (.aload_n 0, 1) := by decide +kernel
theorem dX12_nightfall_1 : decode cX12_nightfall 1 = .ok (.iconst 0, 1) := by decide +kernel
theorem dX12_nightfall_2 : decode cX12_nightfall 2 = .ok (.putfield 71, 3) := by decide +kernel
theorem dX12_nightfall_5 : decode cX12_nightfall 5 = .ok (.aload_n 0, 1) := by decide +kernel
theorem dX12_nightfall_6 : decode cX12_nightfall 6 = .ok (.iload_n 1, 1) := by decide +kernel
theorem dX12_nightfall_7 : decode cX12_nightfall 7 = .ok (.invokevirtual 412, 3) := by decide +kernel
theorem dX12_nightfall_10 : decode cX12_nightfall 10 = .ok (.ifCond .ne 9, 3) := by decide +kernel
theorem dX12_nightfall_13 : decode cX12_nightfall 13 = .ok (.aload_n 0, 1) := by decide +kernel
theorem dX12_nightfall_14 : decode cX12_nightfall 14 = .ok (.iconst 1, 1) := by decide +kernel
theorem dX12_nightfall_15 : decode cX12_nightfall 15 = .ok (.invokevirtual 415, 3) := by decide +kernel
theorem dX12_nightfall_18 : decode cX12_nightfall 18 = .ok (.ireturn, 1) := by decide +kernel
theorem dX12_nightfall_19 : decode cX12_nightfall 19 = .ok (.aload_n 0, 1) := by decide +kernel
theorem dX12_nightfall_20 : decode cX12_nightfall 20 = .ok (.iload_n 1, 1) := by decide +kernel
theorem dX12_nightfall_21 : decode cX12_nightfall 21 = .ok (.invokevirtual 369, 3) := by decide +kernel
theorem dX12_nightfall_24 : decode cX12_nightfall 24 = .ok (.iconst 0, 1) := by decide +kernel
theorem dX12_nightfall_25 : decode cX12_nightfall 25 = .ok (.istore_n 2, 1) := by decide +kernel
theorem dX12_nightfall_26 : decode cX12_nightfall 26 = .ok (.iload_n 2, 1) := by decide +kernel
theorem dX12_nightfall_27 : decode cX12_nightfall 27 = .ok (.aload_n 0, 1) := by decide +kernel
theorem dX12_nightfall_28 : decode cX12_nightfall 28 = .ok (.getfield 358, 3) := by decide +kernel
theorem dX12_nightfall_31 : decode cX12_nightfall 31 = .ok (.getfield 247, 3) := by decide +kernel
theorem dX12_nightfall_34 : decode cX12_nightfall 34 = .ok (.if_icmp .ge 24, 3) := by decide +kernel
theorem dX12_nightfall_37 : decode cX12_nightfall 37 = .ok (.aload_n 0, 1) := by decide +kernel
theorem dX12_nightfall_38 : decode cX12_nightfall 38 = .ok (.getfield 36, 3) := by decide +kernel
theorem dX12_nightfall_41 : decode cX12_nightfall 41 = .ok (.bipush 12, 2) := by decide +kernel
theorem dX12_nightfall_43 : decode cX12_nightfall 43 = .ok (.iload_n 2, 1) := by decide +kernel
theorem dX12_nightfall_44 : decode cX12_nightfall 44 = .ok (.iadd, 1) := by decide +kernel
theorem dX12_nightfall_45 : decode cX12_nightfall 45 = .ok (.aload_n 0, 1) := by decide +kernel
theorem dX12_nightfall_46 : decode cX12_nightfall 46 = .ok (.getfield 33, 3) := by decide +kernel
theorem dX12_nightfall_49 : decode cX12_nightfall 49 = .ok (.iload_n 2, 1) := by decide +kernel
theorem dX12_nightfall_50 : decode cX12_nightfall 50 = .ok (.iaload, 1) := by decide +kernel
theorem dX12_nightfall_51 : decode cX12_nightfall 51 = .ok (.iastore, 1) := by decide +kernel
theorem dX12_nightfall_52 : decode cX12_nightfall 52 = .ok (.iinc 2 1, 3) := by decide +kernel
theorem dX12_nightfall_55 : decode cX12_nightfall 55 = .ok (.goto (-29), 3) := by decide +kernel
theorem dX12_nightfall_58 : decode cX12_nightfall 58 = .ok (.aload_n 0, 1) := by decide +kernel
theorem dX12_nightfall_59 : decode cX12_nightfall 59 = .ok (.invokevirtual 418, 3) := by decide +kernel
theorem dX12_nightfall_62 : decode cX12_nightfall 62 = .ok (.ireturn, 1) := by decide +kernel
theorem dX12_isSleeper_0 : decode cX12_isSleeper 0 = .ok (.aload_n 0, 1) := by decide +kernel
theorem dX12_isSleeper_1 : decode cX12_isSleeper 1 = .ok (.getfield 358, 3) := by decide +kernel
theorem dX12_isSleeper_4 : decode cX12_isSleeper 4 = .ok (.ifnull 22, 3) := by decide +kernel
theorem dX12_isSleeper_7 : decode cX12_isSleeper 7 = .ok (.iload_n 1, 1) := by decide +kernel
theorem dX12_isSleeper_8 : decode cX12_isSleeper 8 = .ok (.ifCond .lt 18, 3) := by decide +kernel
theorem dX12_isSleeper_11 : decode cX12_isSleeper 11 = .ok (.iload_n 1, 1) := by decide +kernel
theorem dX12_isSleeper_12 : decode cX12_isSleeper 12 = .ok (.aload_n 0, 1) := by decide +kernel
theorem dX12_isSleeper_13 : decode cX12_isSleeper 13 = .ok (.getfield 358, 3) := by decide +kernel
theorem dX12_isSleeper_16 : decode cX12_isSleeper 16 = .ok (.getfield 247, 3) := by decide +kernel
theorem dX12_isSleeper_19 : decode cX12_isSleeper 19 = .ok (.if_icmp .ge 7, 3) := by decide +kernel
theorem dX12_isSleeper_22 : decode cX12_isSleeper 22 = .ok (.iconst 1, 1) := by decide +kernel
theorem dX12_isSleeper_23 : decode cX12_isSleeper 23 = .ok (.goto 4, 3) := by decide +kernel
theorem dX12_isSleeper_26 : decode cX12_isSleeper 26 = .ok (.iconst 0, 1) := by decide +kernel
theorem dX12_isSleeper_27 : decode cX12_isSleeper 27 = .ok (.ireturn, 1) := by decide +kernel
theorem dX12_dreams_0 : decode cX12_dreams 0 = .ok (.aload_n 0, 1) := by decide +kernel
theorem dX12_dreams_1 : decode cX12_dreams 1 = .ok (.iconst 0, 1) := by decide +kernel
theorem dX12_dreams_2 : decode cX12_dreams 2 = .ok (.putfield 71, 3) := by decide +kernel
theorem dX12_dreams_5 : decode cX12_dreams 5 = .ok (.aload_n 0, 1) := by decide +kernel
theorem dX12_dreams_6 : decode cX12_dreams 6 = .ok (.iload_n 1, 1) := by decide +kernel
theorem dX12_dreams_7 : decode cX12_dreams 7 = .ok (.invokevirtual 421, 3) := by decide +kernel
theorem dX12_dreams_10 : decode cX12_dreams 10 = .ok (.ifCond .eq 11, 3) := by decide +kernel
theorem dX12_dreams_13 : decode cX12_dreams 13 = .ok (.aload_n 0, 1) := by decide +kernel
theorem dX12_dreams_14 : decode cX12_dreams 14 = .ok (.iload_n 2, 1) := by decide +kernel
theorem dX12_dreams_15 : decode cX12_dreams 15 = .ok (.invokevirtual 382, 3) := by decide +kernel
theorem dX12_dreams_18 : decode cX12_dreams 18 = .ok (.ifCond .ne 9, 3) := by decide +kernel
theorem dX12_dreams_21 : decode cX12_dreams 21 = .ok (.aload_n 0, 1) := by decide +kernel
theorem dX12_dreams_22 : decode cX12_dreams 22 = .ok (.iconst 1, 1) := by decide +kernel
theorem dX12_dreams_23 : decode cX12_dreams 23 = .ok (.invokevirtual 415, 3) := by decide +kernel
theorem dX12_dreams_26 : decode cX12_dreams 26 = .ok (.ireturn, 1) := by decide +kernel
theorem dX12_dreams_27 : decode cX12_dreams 27 = .ok (.aload_n 0, 1) := by decide +kernel
theorem dX12_dreams_28 : decode cX12_dreams 28 = .ok (.getfield 33, 3) := by decide +kernel
theorem dX12_dreams_31 : decode cX12_dreams 31 = .ok (.iload_n 1, 1) := by decide +kernel
theorem dX12_dreams_32 : decode cX12_dreams 32 = .ok (.iload_n 2, 1) := by decide +kernel
theorem dX12_dreams_33 : decode cX12_dreams 33 = .ok (.iastore, 1) := by decide +kernel
theorem dX12_dreams_34 : decode cX12_dreams 34 = .ok (.aload_n 0, 1) := by decide +kernel
theorem dX12_dreams_35 : decode cX12_dreams 35 = .ok (.invokevirtual 418, 3) := by decide +kernel
theorem dX12_dreams_38 : decode cX12_dreams 38 = .ok (.ireturn, 1) := by decide +kernel
theorem dX12_passAll_0 : decode cX12_passAll 0 = .ok (.iconst 0, 1) := by decide +kernel
theorem dX12_passAll_1 : decode cX12_passAll 1 = .ok (.istore_n 2, 1) := by decide +kernel
theorem dX12_passAll_2 : decode cX12_passAll 2 = .ok (.iload_n 2, 1) := by decide +kernel
theorem dX12_passAll_3 : decode cX12_passAll 3 = .ok (.iload_n 1, 1) := by decide +kernel
theorem dX12_passAll_4 : decode cX12_passAll 4 = .ok (.if_icmp .ge 30, 3) := by decide +kernel
theorem dX12_passAll_7 : decode cX12_passAll 7 = .ok (.aload_n 0, 1) := by decide +kernel
theorem dX12_passAll_8 : decode cX12_passAll 8 = .ok (.getfield 36, 3) := by decide +kernel
theorem dX12_passAll_11 : decode cX12_passAll 11 = .ok (.bipush 49, 2) := by decide +kernel
theorem dX12_passAll_13 : decode cX12_passAll 13 = .ok (.iaload, 1) := by decide +kernel
theorem dX12_passAll_14 : decode cX12_passAll 14 = .ok (.aload_n 0, 1) := by decide +kernel
theorem dX12_passAll_15 : decode cX12_passAll 15 = .ok (.getfield 358, 3) := by decide +kernel
theorem dX12_passAll_18 : decode cX12_passAll 18 = .ok (.getfield 241, 3) := by decide +kernel
theorem dX12_passAll_21 : decode cX12_passAll 21 = .ok (.if_icmp .ge 13, 3) := by decide +kernel
theorem dX12_passAll_24 : decode cX12_passAll 24 = .ok (.aload_n 0, 1) := by decide +kernel
theorem dX12_passAll_25 : decode cX12_passAll 25 = .ok (.invokevirtual 424, 3) := by decide +kernel
theorem dX12_passAll_28 : decode cX12_passAll 28 = .ok (.iinc 2 1, 3) := by decide +kernel
theorem dX12_passAll_31 : decode cX12_passAll 31 = .ok (.goto (-29), 3) := by decide +kernel
theorem dX12_passAll_34 : decode cX12_passAll 34 = .ok (.iload_n 2, 1) := by decide +kernel
theorem dX12_passAll_35 : decode cX12_passAll 35 = .ok (.ireturn, 1) := by decide +kernel
theorem dX12_minutes_0 : decode cX12_minutes 0 = .ok (.aload_n 0, 1) := by decide +kernel
theorem dX12_minutes_1 : decode cX12_minutes 1 = .ok (.iconst 0, 1) := by decide +kernel
theorem dX12_minutes_2 : decode cX12_minutes 2 = .ok (.putfield 71, 3) := by decide +kernel
theorem dX12_minutes_5 : decode cX12_minutes 5 = .ok (.aload_n 0, 1) := by decide +kernel
theorem dX12_minutes_6 : decode cX12_minutes 6 = .ok (.getfield 358, 3) := by decide +kernel
theorem dX12_minutes_9 : decode cX12_minutes 9 = .ok (.ifnonnull 9, 3) := by decide +kernel
theorem dX12_minutes_18 : decode cX12_minutes 18 = .ok (.iload_n 1, 1) := by decide +kernel
theorem dX12_minutes_19 : decode cX12_minutes 19 = .ok (.iconst 1, 1) := by decide +kernel
theorem dX12_minutes_20 : decode cX12_minutes 20 = .ok (.bipush 40, 2) := by decide +kernel
theorem dX12_minutes_22 : decode cX12_minutes 22 = .ok (.invokestatic 149, 3) := by decide +kernel
theorem dX12_minutes_25 : decode cX12_minutes 25 = .ok (.ifCond .ne 9, 3) := by decide +kernel
theorem dX12_minutes_28 : decode cX12_minutes 28 = .ok (.aload_n 0, 1) := by decide +kernel
theorem dX12_minutes_29 : decode cX12_minutes 29 = .ok (.iconst 2, 1) := by decide +kernel
theorem dX12_minutes_30 : decode cX12_minutes 30 = .ok (.invokevirtual 77, 3) := by decide +kernel
theorem dX12_minutes_33 : decode cX12_minutes 33 = .ok (.ireturn, 1) := by decide +kernel
theorem dX12_minutes_34 : decode cX12_minutes 34 = .ok (.aload_n 0, 1) := by decide +kernel
theorem dX12_minutes_35 : decode cX12_minutes 35 = .ok (.getfield 36, 3) := by decide +kernel
theorem dX12_minutes_38 : decode cX12_minutes 38 = .ok (.bipush 49, 2) := by decide +kernel
theorem dX12_minutes_40 : decode cX12_minutes 40 = .ok (.iaload, 1) := by decide +kernel
theorem dX12_minutes_41 : decode cX12_minutes 41 = .ok (.aload_n 0, 1) := by decide +kernel
theorem dX12_minutes_42 : decode cX12_minutes 42 = .ok (.getfield 358, 3) := by decide +kernel
theorem dX12_minutes_45 : decode cX12_minutes 45 = .ok (.getfield 241, 3) := by decide +kernel
theorem dX12_minutes_48 : decode cX12_minutes 48 = .ok (.if_icmp .ne 12, 3) := by decide +kernel
theorem dX12_minutes_51 : decode cX12_minutes 51 = .ok (.aload_n 0, 1) := by decide +kernel
theorem dX12_minutes_52 : decode cX12_minutes 52 = .ok (.bipush 6, 2) := by decide +kernel
theorem dX12_minutes_54 : decode cX12_minutes 54 = .ok (.invokevirtual 77, 3) := by decide +kernel
theorem dX12_minutes_57 : decode cX12_minutes 57 = .ok (.goto 12, 3) := by decide +kernel
theorem dX12_minutes_60 : decode cX12_minutes 60 = .ok (.aload_n 0, 1) := by decide +kernel
theorem dX12_minutes_61 : decode cX12_minutes 61 = .ok (.aload_n 0, 1) := by decide +kernel
theorem dX12_minutes_62 : decode cX12_minutes 62 = .ok (.iload_n 1, 1) := by decide +kernel
theorem dX12_minutes_63 : decode cX12_minutes 63 = .ok (.invokevirtual 427, 3) := by decide +kernel
theorem dX12_minutes_66 : decode cX12_minutes 66 = .ok (.invokevirtual 81, 3) := by decide +kernel
theorem dX12_minutes_69 : decode cX12_minutes 69 = .ok (.ireturn, 1) := by decide +kernel
theorem dX12_minutes_12 : decode cX12_minutes 12 = .ok (.aload_n 0, 1) := by decide +kernel
theorem dX12_minutes_13 : decode cX12_minutes 13 = .ok (.iconst 1, 1) := by decide +kernel
theorem dX12_minutes_14 : decode cX12_minutes 14 = .ok (.invokevirtual 77, 3) := by decide +kernel
theorem dX12_minutes_17 : decode cX12_minutes 17 = .ok (.ireturn, 1) := by decide +kernel
theorem dX12_morning_0 : decode cX12_morning 0 = .ok (.aload_n 0, 1) := by decide +kernel
theorem dX12_morning_1 : decode cX12_morning 1 = .ok (.iconst 0, 1) := by decide +kernel
theorem dX12_morning_2 : decode cX12_morning 2 = .ok (.putfield 71, 3) := by decide +kernel
theorem dX12_morning_5 : decode cX12_morning 5 = .ok (.aload_n 0, 1) := by decide +kernel
theorem dX12_morning_6 : decode cX12_morning 6 = .ok (.getfield 358, 3) := by decide +kernel
theorem dX12_morning_9 : decode cX12_morning 9 = .ok (.ifnonnull 11, 3) := by decide +kernel
theorem dX12_morning_20 : decode cX12_morning 20 = .ok (.aload_n 0, 1) := by decide +kernel
theorem dX12_morning_21 : decode cX12_morning 21 = .ok (.aload_n 0, 1) := by decide +kernel
theorem dX12_morning_22 : decode cX12_morning 22 = .ok (.bipush 40, 2) := by decide +kernel
theorem dX12_morning_24 : decode cX12_morning 24 = .ok (.invokevirtual 427, 3) := by decide +kernel
theorem dX12_morning_27 : decode cX12_morning 27 = .ok (.invokevirtual 81, 3) := by decide +kernel
theorem dX12_morning_30 : decode cX12_morning 30 = .ok (.ireturn, 1) := by decide +kernel
theorem dX12_morning_12 : decode cX12_morning 12 = .ok (.aload_n 0, 1) := by decide +kernel
theorem dX12_morning_13 : decode cX12_morning 13 = .ok (.iconst 1, 1) := by decide +kernel
theorem dX12_morning_14 : decode cX12_morning 14 = .ok (.invokevirtual 77, 3) := by decide +kernel
theorem dX12_morning_17 : decode cX12_morning 17 = .ok (.goto 13, 3) := by decide +kernel
theorem dX12_sleeper_0 : decode cX12_sleeper 0 = .ok (.aload_n 0, 1) := by decide +kernel
theorem dX12_sleeper_1 : decode cX12_sleeper 1 = .ok (.iconst 0, 1) := by decide +kernel
theorem dX12_sleeper_2 : decode cX12_sleeper 2 = .ok (.putfield 71, 3) := by decide +kernel
theorem dX12_sleeper_5 : decode cX12_sleeper 5 = .ok (.aload_n 0, 1) := by decide +kernel
theorem dX12_sleeper_6 : decode cX12_sleeper 6 = .ok (.iload_n 1, 1) := by decide +kernel
theorem dX12_sleeper_7 : decode cX12_sleeper 7 = .ok (.invokevirtual 421, 3) := by decide +kernel
theorem dX12_sleeper_10 : decode cX12_sleeper 10 = .ok (.ifCond .eq 12, 3) := by decide +kernel
theorem dX12_sleeper_13 : decode cX12_sleeper 13 = .ok (.iload_n 2, 1) := by decide +kernel
theorem dX12_sleeper_14 : decode cX12_sleeper 14 = .ok (.iconst 0, 1) := by decide +kernel
theorem dX12_sleeper_15 : decode cX12_sleeper 15 = .ok (.iconst 4, 1) := by decide +kernel
theorem dX12_sleeper_16 : decode cX12_sleeper 16 = .ok (.invokestatic 149, 3) := by decide +kernel
theorem dX12_sleeper_19 : decode cX12_sleeper 19 = .ok (.ifCond .ne 9, 3) := by decide +kernel
theorem dX12_sleeper_22 : decode cX12_sleeper 22 = .ok (.aload_n 0, 1) := by decide +kernel
theorem dX12_sleeper_23 : decode cX12_sleeper 23 = .ok (.iconst 1, 1) := by decide +kernel
theorem dX12_sleeper_24 : decode cX12_sleeper 24 = .ok (.invokevirtual 77, 3) := by decide +kernel
theorem dX12_sleeper_27 : decode cX12_sleeper 27 = .ok (.ireturn, 1) := by decide +kernel
theorem dX12_sleeper_28 : decode cX12_sleeper 28 = .ok (.aload_n 0, 1) := by decide +kernel
theorem dX12_sleeper_29 : decode cX12_sleeper 29 = .ok (.aload_n 0, 1) := by decide +kernel
theorem dX12_sleeper_30 : decode cX12_sleeper 30 = .ok (.getfield 36, 3) := by decide +kernel
theorem dX12_sleeper_33 : decode cX12_sleeper 33 = .ok (.iload_n 2, 1) := by decide +kernel
theorem dX12_sleeper_34 : decode cX12_sleeper 34 = .ok (.ifCond .ne 7, 3) := by decide +kernel
theorem dX12_sleeper_37 : decode cX12_sleeper 37 = .ok (.iconst 0, 1) := by decide +kernel
theorem dX12_sleeper_38 : decode cX12_sleeper 38 = .ok (.goto 34, 3) := by decide +kernel
theorem dX12_sleeper_41 : decode cX12_sleeper 41 = .ok (.iload_n 2, 1) := by decide +kernel
theorem dX12_sleeper_42 : decode cX12_sleeper 42 = .ok (.iconst 1, 1) := by decide +kernel
theorem dX12_sleeper_43 : decode cX12_sleeper 43 = .ok (.if_icmp .ne 7, 3) := by decide +kernel
theorem dX12_sleeper_46 : decode cX12_sleeper 46 = .ok (.iconst 3, 1) := by decide +kernel
theorem dX12_sleeper_47 : decode cX12_sleeper 47 = .ok (.goto 25, 3) := by decide +kernel
theorem dX12_sleeper_50 : decode cX12_sleeper 50 = .ok (.iload_n 2, 1) := by decide +kernel
theorem dX12_sleeper_51 : decode cX12_sleeper 51 = .ok (.iconst 2, 1) := by decide +kernel
theorem dX12_sleeper_52 : decode cX12_sleeper 52 = .ok (.if_icmp .ne 8, 3) := by decide +kernel
theorem dX12_sleeper_55 : decode cX12_sleeper 55 = .ok (.bipush 6, 2) := by decide +kernel
theorem dX12_sleeper_57 : decode cX12_sleeper 57 = .ok (.goto 15, 3) := by decide +kernel
theorem dX12_sleeper_60 : decode cX12_sleeper 60 = .ok (.iload_n 2, 1) := by decide +kernel
theorem dX12_sleeper_61 : decode cX12_sleeper 61 = .ok (.iconst 3, 1) := by decide +kernel
theorem dX12_sleeper_62 : decode cX12_sleeper 62 = .ok (.if_icmp .ne 8, 3) := by decide +kernel
theorem dX12_sleeper_65 : decode cX12_sleeper 65 = .ok (.bipush 9, 2) := by decide +kernel
theorem dX12_sleeper_67 : decode cX12_sleeper 67 = .ok (.goto 5, 3) := by decide +kernel
theorem dX12_sleeper_70 : decode cX12_sleeper 70 = .ok (.bipush 12, 2) := by decide +kernel
theorem dX12_sleeper_72 : decode cX12_sleeper 72 = .ok (.iload_n 1, 1) := by decide +kernel
theorem dX12_sleeper_73 : decode cX12_sleeper 73 = .ok (.iadd, 1) := by decide +kernel
theorem dX12_sleeper_74 : decode cX12_sleeper 74 = .ok (.iaload, 1) := by decide +kernel
theorem dX12_sleeper_75 : decode cX12_sleeper 75 = .ok (.invokevirtual 81, 3) := by decide +kernel
theorem dX12_sleeper_78 : decode cX12_sleeper 78 = .ok (.ireturn, 1) := by decide +kernel
theorem dX12_isThing_0 : decode cX12_isThing 0 = .ok (.aload_n 0, 1) := by decide +kernel
theorem dX12_isThing_1 : decode cX12_isThing 1 = .ok (.getfield 358, 3) := by decide +kernel
theorem dX12_isThing_4 : decode cX12_isThing 4 = .ok (.ifnull 22, 3) := by decide +kernel
theorem dX12_isThing_7 : decode cX12_isThing 7 = .ok (.iload_n 1, 1) := by decide +kernel
theorem dX12_isThing_8 : decode cX12_isThing 8 = .ok (.ifCond .lt 18, 3) := by decide +kernel
theorem dX12_isThing_11 : decode cX12_isThing 11 = .ok (.iload_n 1, 1) := by decide +kernel
theorem dX12_isThing_12 : decode cX12_isThing 12 = .ok (.aload_n 0, 1) := by decide +kernel
theorem dX12_isThing_13 : decode cX12_isThing 13 = .ok (.getfield 358, 3) := by decide +kernel
theorem dX12_isThing_16 : decode cX12_isThing 16 = .ok (.getfield 315, 3) := by decide +kernel
theorem dX12_isThing_19 : decode cX12_isThing 19 = .ok (.if_icmp .ge 7, 3) := by decide +kernel
theorem dX12_isThing_22 : decode cX12_isThing 22 = .ok (.iconst 1, 1) := by decide +kernel
theorem dX12_isThing_23 : decode cX12_isThing 23 = .ok (.goto 4, 3) := by decide +kernel
theorem dX12_isThing_26 : decode cX12_isThing 26 = .ok (.iconst 0, 1) := by decide +kernel
theorem dX12_isThing_27 : decode cX12_isThing 27 = .ok (.ireturn, 1) := by decide +kernel
theorem dX12_thing_0 : decode cX12_thing 0 = .ok (.aload_n 0, 1) := by decide +kernel
theorem dX12_thing_1 : decode cX12_thing 1 = .ok (.iconst 0, 1) := by decide +kernel
theorem dX12_thing_2 : decode cX12_thing 2 = .ok (.putfield 71, 3) := by decide +kernel
theorem dX12_thing_5 : decode cX12_thing 5 = .ok (.aload_n 0, 1) := by decide +kernel
theorem dX12_thing_6 : decode cX12_thing 6 = .ok (.iload_n 1, 1) := by decide +kernel
theorem dX12_thing_7 : decode cX12_thing 7 = .ok (.invokevirtual 430, 3) := by decide +kernel
theorem dX12_thing_10 : decode cX12_thing 10 = .ok (.ifCond .eq 12, 3) := by decide +kernel
theorem dX12_thing_13 : decode cX12_thing 13 = .ok (.iload_n 2, 1) := by decide +kernel
theorem dX12_thing_14 : decode cX12_thing 14 = .ok (.iconst 0, 1) := by decide +kernel
theorem dX12_thing_15 : decode cX12_thing 15 = .ok (.iconst 2, 1) := by decide +kernel
theorem dX12_thing_16 : decode cX12_thing 16 = .ok (.invokestatic 149, 3) := by decide +kernel
theorem dX12_thing_19 : decode cX12_thing 19 = .ok (.ifCond .ne 9, 3) := by decide +kernel
theorem dX12_thing_22 : decode cX12_thing 22 = .ok (.aload_n 0, 1) := by decide +kernel
theorem dX12_thing_23 : decode cX12_thing 23 = .ok (.iconst 1, 1) := by decide +kernel
theorem dX12_thing_24 : decode cX12_thing 24 = .ok (.invokevirtual 77, 3) := by decide +kernel
theorem dX12_thing_27 : decode cX12_thing 27 = .ok (.ireturn, 1) := by decide +kernel
theorem dX12_thing_28 : decode cX12_thing 28 = .ok (.aload_n 0, 1) := by decide +kernel
theorem dX12_thing_29 : decode cX12_thing 29 = .ok (.iload_n 2, 1) := by decide +kernel
theorem dX12_thing_30 : decode cX12_thing 30 = .ok (.ifCond .ne 15, 3) := by decide +kernel
theorem dX12_thing_33 : decode cX12_thing 33 = .ok (.aload_n 0, 1) := by decide +kernel
theorem dX12_thing_34 : decode cX12_thing 34 = .ok (.getfield 36, 3) := by decide +kernel
theorem dX12_thing_37 : decode cX12_thing 37 = .ok (.bipush 15, 2) := by decide +kernel
theorem dX12_thing_39 : decode cX12_thing 39 = .ok (.iload_n 1, 1) := by decide +kernel
theorem dX12_thing_40 : decode cX12_thing 40 = .ok (.iadd, 1) := by decide +kernel
theorem dX12_thing_41 : decode cX12_thing 41 = .ok (.iaload, 1) := by decide +kernel
theorem dX12_thing_42 : decode cX12_thing 42 = .ok (.goto 25, 3) := by decide +kernel
theorem dX12_thing_45 : decode cX12_thing 45 = .ok (.iload_n 2, 1) := by decide +kernel
theorem dX12_thing_46 : decode cX12_thing 46 = .ok (.iconst 1, 1) := by decide +kernel
theorem dX12_thing_47 : decode cX12_thing 47 = .ok (.if_icmp .ne 15, 3) := by decide +kernel
theorem dX12_thing_50 : decode cX12_thing 50 = .ok (.aload_n 0, 1) := by decide +kernel
theorem dX12_thing_51 : decode cX12_thing 51 = .ok (.getfield 36, 3) := by decide +kernel
theorem dX12_thing_54 : decode cX12_thing 54 = .ok (.bipush 19, 2) := by decide +kernel
theorem dX12_thing_56 : decode cX12_thing 56 = .ok (.iload_n 1, 1) := by decide +kernel
theorem dX12_thing_57 : decode cX12_thing 57 = .ok (.iadd, 1) := by decide +kernel
theorem dX12_thing_58 : decode cX12_thing 58 = .ok (.iaload, 1) := by decide +kernel
theorem dX12_thing_59 : decode cX12_thing 59 = .ok (.goto 8, 3) := by decide +kernel
theorem dX12_thing_62 : decode cX12_thing 62 = .ok (.aload_n 0, 1) := by decide +kernel
theorem dX12_thing_63 : decode cX12_thing 63 = .ok (.iload_n 1, 1) := by decide +kernel
theorem dX12_thing_64 : decode cX12_thing 64 = .ok (.invokevirtual 400, 3) := by decide +kernel
theorem dX12_thing_67 : decode cX12_thing 67 = .ok (.invokevirtual 81, 3) := by decide +kernel
theorem dX12_thing_70 : decode cX12_thing 70 = .ok (.ireturn, 1) := by decide +kernel
theorem dX12_isDoor_0 : decode cX12_isDoor 0 = .ok (.aload_n 0, 1) := by decide +kernel
theorem dX12_isDoor_1 : decode cX12_isDoor 1 = .ok (.getfield 358, 3) := by decide +kernel
theorem dX12_isDoor_4 : decode cX12_isDoor 4 = .ok (.ifnull 22, 3) := by decide +kernel
theorem dX12_isDoor_7 : decode cX12_isDoor 7 = .ok (.iload_n 1, 1) := by decide +kernel
theorem dX12_isDoor_8 : decode cX12_isDoor 8 = .ok (.ifCond .lt 18, 3) := by decide +kernel
theorem dX12_isDoor_11 : decode cX12_isDoor 11 = .ok (.iload_n 1, 1) := by decide +kernel
theorem dX12_isDoor_12 : decode cX12_isDoor 12 = .ok (.aload_n 0, 1) := by decide +kernel
theorem dX12_isDoor_13 : decode cX12_isDoor 13 = .ok (.getfield 358, 3) := by decide +kernel
theorem dX12_isDoor_16 : decode cX12_isDoor 16 = .ok (.getfield 292, 3) := by decide +kernel
theorem dX12_isDoor_19 : decode cX12_isDoor 19 = .ok (.if_icmp .ge 7, 3) := by decide +kernel
theorem dX12_isDoor_22 : decode cX12_isDoor 22 = .ok (.iconst 1, 1) := by decide +kernel
theorem dX12_isDoor_23 : decode cX12_isDoor 23 = .ok (.goto 4, 3) := by decide +kernel
theorem dX12_isDoor_26 : decode cX12_isDoor 26 = .ok (.iconst 0, 1) := by decide +kernel
theorem dX12_isDoor_27 : decode cX12_isDoor 27 = .ok (.ireturn, 1) := by decide +kernel
theorem dX12_doorway_0 : decode cX12_doorway 0 = .ok (.aload_n 0, 1) := by decide +kernel
theorem dX12_doorway_1 : decode cX12_doorway 1 = .ok (.iconst 0, 1) := by decide +kernel
theorem dX12_doorway_2 : decode cX12_doorway 2 = .ok (.putfield 71, 3) := by decide +kernel
theorem dX12_doorway_5 : decode cX12_doorway 5 = .ok (.aload_n 0, 1) := by decide +kernel
theorem dX12_doorway_6 : decode cX12_doorway 6 = .ok (.iload_n 1, 1) := by decide +kernel
theorem dX12_doorway_7 : decode cX12_doorway 7 = .ok (.invokevirtual 433, 3) := by decide +kernel
theorem dX12_doorway_10 : decode cX12_doorway 10 = .ok (.ifCond .eq 12, 3) := by decide +kernel
theorem dX12_doorway_13 : decode cX12_doorway 13 = .ok (.iload_n 2, 1) := by decide +kernel
theorem dX12_doorway_14 : decode cX12_doorway 14 = .ok (.iconst 0, 1) := by decide +kernel
theorem dX12_doorway_15 : decode cX12_doorway 15 = .ok (.iconst 1, 1) := by decide +kernel
theorem dX12_doorway_16 : decode cX12_doorway 16 = .ok (.invokestatic 149, 3) := by decide +kernel
theorem dX12_doorway_19 : decode cX12_doorway 19 = .ok (.ifCond .ne 9, 3) := by decide +kernel
theorem dX12_doorway_22 : decode cX12_doorway 22 = .ok (.aload_n 0, 1) := by decide +kernel
theorem dX12_doorway_23 : decode cX12_doorway 23 = .ok (.iconst 1, 1) := by decide +kernel
theorem dX12_doorway_24 : decode cX12_doorway 24 = .ok (.invokevirtual 77, 3) := by decide +kernel
theorem dX12_doorway_27 : decode cX12_doorway 27 = .ok (.ireturn, 1) := by decide +kernel
theorem dX12_doorway_28 : decode cX12_doorway 28 = .ok (.aload_n 0, 1) := by decide +kernel
theorem dX12_doorway_29 : decode cX12_doorway 29 = .ok (.aload_n 0, 1) := by decide +kernel
theorem dX12_doorway_30 : decode cX12_doorway 30 = .ok (.getfield 36, 3) := by decide +kernel
theorem dX12_doorway_33 : decode cX12_doorway 33 = .ok (.iload_n 2, 1) := by decide +kernel
theorem dX12_doorway_34 : decode cX12_doorway 34 = .ok (.ifCond .ne 8, 3) := by decide +kernel
theorem dX12_doorway_37 : decode cX12_doorway 37 = .ok (.bipush 23, 2) := by decide +kernel
theorem dX12_doorway_39 : decode cX12_doorway 39 = .ok (.goto 5, 3) := by decide +kernel
theorem dX12_doorway_42 : decode cX12_doorway 42 = .ok (.bipush 33, 2) := by decide +kernel
theorem dX12_doorway_44 : decode cX12_doorway 44 = .ok (.iload_n 1, 1) := by decide +kernel
theorem dX12_doorway_45 : decode cX12_doorway 45 = .ok (.iadd, 1) := by decide +kernel
theorem dX12_doorway_46 : decode cX12_doorway 46 = .ok (.iaload, 1) := by decide +kernel
theorem dX12_doorway_47 : decode cX12_doorway 47 = .ok (.invokevirtual 81, 3) := by decide +kernel
theorem dX12_doorway_50 : decode cX12_doorway 50 = .ok (.ireturn, 1) := by decide +kernel
def wX12_goes (E : EN) (h h_inn h_tape h_far h_from h_real h_other h_kept h_set h_w h_book h_noteSort h_whose h_what h_noteIs h_fitting h_dawn h_likes h_walked h_came h_inn_creak h_inn_doorA h_inn_doorB h_inn_how h_inn_lies h_inn_isCold h_inn_falls h_inn_isFull h_inn_isTold h_inn_act h_inn_what h_inn_then h_inn_met h_inn_bed h_inn_dream h_inn_listens h_inn_name h_inn_nameSort h_inn_nameNumber : Nat) (v_thrown : Int32) (v_trouble : Int32) (v_where : Int32) (v_read : Option Nat) (v_taped : Int32) (v_size : Int32) (v_at : Int32) (v_sort : Int32) (v_place : Int32) (v_sign : Int32) (v_number : Int32) (v_fault : Int32) (v_wrongAt : Int32) (v_word : Int64) (v_marks : Int32) (v_notes : Int32) (v_w : Nat → Int32) (v_inn_minutes : Int32) (v_inn_rooms : Int32) (v_inn_doors : Int32) (v_inn_things : Int32) (v_inn_dreams : Int32) (v_inn_sleepers : Int32) (v_inn_listeners : Int32) (v_inn_names : Int32) (v_inn_doorA : Nat → Int32) (v_from : Nat → Int32) (v_inn_doorB : Nat → Int32) (v_inn_falls : Nat → Int32) (v_inn_creak : Nat → Int32) (v_inn_listens : Nat → Int32) (v_far : Nat → Int32) (v_inn_isCold : Nat → Int32) (v_inn_isTold : Nat → Int32) (v_inn_met : Nat → Int32) : va_W := [(h, .inr (11, [.int v_thrown, .int v_trouble, .int v_where, .ref h_inn, va_rf v_read, .ref h_tape, .int v_taped, .int v_size, .int v_at, .int v_sort, .int v_place, .int v_sign, .int v_number, .int v_fault, .int v_wrongAt, .long v_word, .ref h_far, .ref h_from, .ref h_real, .ref h_other, .ref h_kept, .ref h_set, .ref h_w, .int v_marks, .int v_notes, .ref h_book, .ref h_noteSort, .ref h_whose, .ref h_what, .ref h_noteIs, .ref h_fitting, .ref h_dawn, .ref h_likes, .ref h_walked, .ref h_came])), (h_w, aI E 51 v_w), (h_inn, .inr (10, [.int v_inn_minutes, .int v_inn_rooms, .int v_inn_doors, .int v_inn_things, .int v_inn_dreams, .int v_inn_sleepers, .int v_inn_listeners, .int v_inn_names, .ref h_inn_creak, .ref h_inn_doorA, .ref h_inn_doorB, .ref h_inn_how, .ref h_inn_lies, .ref h_inn_isCold, .ref h_inn_falls, .ref h_inn_isFull, .ref h_inn_isTold, .ref h_inn_act, .ref h_inn_what, .ref h_inn_then, .ref h_inn_met, .ref h_inn_bed, .ref h_inn_dream, .ref h_inn_listens, .ref h_inn_name, .ref h_inn_nameSort, .ref h_inn_nameNumber])), (h_inn_doorA, aI E 10 v_inn_doorA), (h_from, aI E 8 v_from), (h_inn_doorB, aI E 10 v_inn_doorB), (h_inn_falls, aZ E 10 v_inn_falls), (h_inn_creak, aI E 8 v_inn_creak), (h_inn_listens, aI E 3 v_inn_listens), (h_far, aI E 64 v_far), (h_inn_isCold, aZ E 8 v_inn_isCold), (h_inn_isTold, aZ E 16 v_inn_isTold), (h_inn_met, aI E 16 v_inn_met)]
def BX12_goes_266 (v_inn_sleepers : Int32) (p0 : Int32) (x126_5 : Int32) (N : Nat) (v_inn_isTold : Nat → Int32) (v_inn_met : Nat → Int32) (K330 : (Int32 × (Nat → Int32)) → Option ((Nat → Int32) × (Nat → Int32))) (rec266 : (Int32 × Int32 × (Nat → Int32)) → Option ((Nat → Int32) × (Nat → Int32))) : (Int32 × Int32 × (Nat → Int32)) → Option ((Nat → Int32) × (Nat → Int32)) := un3 fun (x266_7 : Int32) (x266_8 : Int32) (x266_w : Nat → Int32) => if v_inn_sleepers ≤ x266_8 then (K330 (x266_7, x266_w)) else (jn (un2 fun (x324_7 : Int32) (x324_w : Nat → Int32) => rec266 (x324_7, x266_8 + 1, x324_w)) (fun j324 => if x266_8 = p0 then (j324 (x266_7, x266_w)) else (gd (9 + x266_8) 51 (if (x266_w (9 + x266_8).toNatClampNeg) = 1 then (j324 (x266_7, x266_w)) else (gd (0 + x266_8) 51 (if (x266_w (0 + x266_8).toNatClampNeg) = x126_5 then ((fX12_meets N x266_8 x266_w v_inn_isTold v_inn_met).bind (un1 fun (v_w_321 : Nat → Int32) => j324 (1, v_w_321))) else (j324 (x266_7, x266_w))))))))
def BX12_goes_28 (v_inn_rooms : Int32) (N : Nat) (r_10 : Int32) (v_from_19 : Nat → Int32) (v_w : Nat → Int32) (p0 : Int32) (v_inn_doors : Int32) (v_inn_doorA : Nat → Int32) (v_inn_doorB : Nat → Int32) (K126 : (Int32) → Option ((Nat → Int32) × (Nat → Int32))) (rec28 : (Int32 × Int32) → Option ((Nat → Int32) × (Nat → Int32))) : (Int32 × Int32) → Option ((Nat → Int32) × (Nat → Int32)) := un2 fun (x28_5 : Int32) (x28_6 : Int32) => if v_inn_rooms ≤ x28_6 then (K126 x28_5) else (jn (un1 fun (x60_s0 : Int32) => jn (un1 fun (x120_5 : Int32) => rec28 (x120_5, x28_6 + 1)) (fun j120 => if x60_s0 = (-1) then (j120 x28_5) else ((fX12_has N r_10 x60_s0).bind (un1 fun (r_72 : Int32) => if r_72 = 0 then (gd x28_6 8 (if (v_from_19 x28_6.toNatClampNeg) = 99 then (j120 x28_5) else (jn (un0 (j120 x28_6)) (fun j116 => if x28_5 = (-1) then (j116 ()) else (gd x28_6 8 (gd x28_5 8 (if (v_from_19 x28_5.toNatClampNeg) ≤ (v_from_19 x28_6.toNatClampNeg) then (j120 x28_5) else (j116 ())))))))) else (j120 x28_5))))) (fun j60 => if x28_6 = (v_w (0 + p0).toNatClampNeg) then (j60 (-1)) else ((fX11_between N (v_w (0 + p0).toNatClampNeg) x28_6 v_inn_doors v_inn_doorA v_inn_doorB).bind (un1 fun (r_57 : Int32) => j60 r_57))))
def fX12_goes (N : Nat) (p0 : Int32) (p1 : Int32) (v_w : Nat → Int32) (v_inn_rooms : Int32) (v_inn_doors : Int32) (v_inn_sleepers : Int32) (v_inn_listeners : Int32) (v_inn_doorA : Nat → Int32) (v_from : Nat → Int32) (v_inn_doorB : Nat → Int32) (v_inn_falls : Nat → Int32) (v_inn_creak : Nat → Int32) (v_inn_listens : Nat → Int32) (v_far : Nat → Int32) (v_inn_isCold : Nat → Int32) (v_inn_isTold : Nat → Int32) (v_inn_met : Nat → Int32) : Option ((Nat → Int32) × (Nat → Int32)) := gd (0 + p0) 51 ((fX12_lockedDoors N v_inn_doors v_w).bind (un1 fun (r_10 : Int32) => (fX12_measures N p1 r_10 v_inn_rooms v_inn_doors v_inn_doorA v_from v_inn_doorB).bind (un1 fun (v_from_19 : Nat → Int32) => lp (BX12_goes_28 v_inn_rooms N r_10 v_from_19 v_w p0 v_inn_doors v_inn_doorA v_inn_doorB (un1 fun (x126_5 : Int32) => if x126_5 = (-1) then (some (v_w, v_from_19)) else ((fX11_between N (v_w (0 + p0).toNatClampNeg) x126_5 v_inn_doors v_inn_doorA v_inn_doorB).bind (un1 fun (r_140 : Int32) => gd r_140 10 (jn (un2 fun (x172_s1 : Int32) (x172_s2 : Int32) => gd x172_s1 51 (gd (33 + r_140) 51 (gd (33 + r_140) 51 (gd (0 + p0) 51 (gd (6 + p0) 51 (jn (un1 fun (x230_w : Nat → Int32) => (fX12_creaksIn N x126_5 v_inn_listeners v_inn_creak v_inn_listens v_far x230_w).bind (un1 fun (v_w_233 : Nat → Int32) => gd x126_5 8 (if (v_inn_isCold x126_5.toNatClampNeg) = 0 then (lp (BX12_goes_266 v_inn_sleepers p0 x126_5 N v_inn_isTold v_inn_met (un2 fun (x330_7 : Int32) (x330_w : Nat → Int32) => if x330_7 = 0 then (some (x330_w, v_from_19)) else ((fX12_meets N p0 x330_w v_inn_isTold v_inn_met).bind (un1 fun (v_w_337 : Nat → Int32) => some (v_w_337, v_from_19))))) N (0, 0, v_w_233)) else (gd (9 + p0) 51 (some (upd v_w_233 (9 + p0).toNatClampNeg 1, v_from_19)))))) (fun j230 => if ((upd (upd (upd v_w x172_s1.toNatClampNeg x172_s2) (33 + r_140).toNatClampNeg (((upd v_w x172_s1.toNatClampNeg x172_s2) (33 + r_140).toNatClampNeg) + 1)) (0 + p0).toNatClampNeg x126_5) (6 + p0).toNatClampNeg) = (-2) then (j230 (upd (upd (upd v_w x172_s1.toNatClampNeg x172_s2) (33 + r_140).toNatClampNeg (((upd v_w x172_s1.toNatClampNeg x172_s2) (33 + r_140).toNatClampNeg) + 1)) (0 + p0).toNatClampNeg x126_5)) else (gd (6 + p0) 51 (gd (15 + ((upd (upd (upd v_w x172_s1.toNatClampNeg x172_s2) (33 + r_140).toNatClampNeg (((upd v_w x172_s1.toNatClampNeg x172_s2) (33 + r_140).toNatClampNeg) + 1)) (0 + p0).toNatClampNeg x126_5) (6 + p0).toNatClampNeg)) 51 (j230 (upd (upd (upd (upd v_w x172_s1.toNatClampNeg x172_s2) (33 + r_140).toNatClampNeg (((upd v_w x172_s1.toNatClampNeg x172_s2) (33 + r_140).toNatClampNeg) + 1)) (0 + p0).toNatClampNeg x126_5) (15 + ((upd (upd (upd v_w x172_s1.toNatClampNeg x172_s2) (33 + r_140).toNatClampNeg (((upd v_w x172_s1.toNatClampNeg x172_s2) (33 + r_140).toNatClampNeg) + 1)) (0 + p0).toNatClampNeg x126_5) (6 + p0).toNatClampNeg)).toNatClampNeg x126_5))))))))))) (fun j172 => if (v_inn_falls r_140.toNatClampNeg) = 0 then (j172 (23 + r_140, 0)) else (j172 (23 + r_140, 1)))))))) N ((-1), 0))))
set_option maxHeartbeats 4000000 in
set_option maxRecDepth 100000 in
theorem ctX12_goes (l : Launch) (E : EN) (h h_inn h_tape h_far h_from h_real h_other h_kept h_set h_w h_book h_noteSort h_whose h_what h_noteIs h_fitting h_dawn h_likes h_walked h_came h_inn_creak h_inn_doorA h_inn_doorB h_inn_how h_inn_lies h_inn_isCold h_inn_falls h_inn_isFull h_inn_isTold h_inn_act h_inn_what h_inn_then h_inn_met h_inn_bed h_inn_dream h_inn_listens h_inn_name h_inn_nameSort h_inn_nameNumber : Nat) (v_thrown : Int32) (v_trouble : Int32) (v_where : Int32) (v_read : Option Nat) (v_taped : Int32) (v_size : Int32) (v_at : Int32) (v_sort : Int32) (v_place : Int32) (v_sign : Int32) (v_number : Int32) (v_fault : Int32) (v_wrongAt : Int32) (v_word : Int64) (v_marks : Int32) (v_notes : Int32) (v_w : Nat → Int32) (v_inn_minutes : Int32) (v_inn_rooms : Int32) (v_inn_doors : Int32) (v_inn_things : Int32) (v_inn_dreams : Int32) (v_inn_sleepers : Int32) (v_inn_listeners : Int32) (v_inn_names : Int32) (v_inn_doorA : Nat → Int32) (v_from : Nat → Int32) (v_inn_doorB : Nat → Int32) (v_inn_falls : Nat → Int32) (v_inn_creak : Nat → Int32) (v_inn_listens : Nat → Int32) (v_far : Nat → Int32) (v_inn_isCold : Nat → Int32) (v_inn_isTold : Nat → Int32) (v_inn_met : Nat → Int32) (N : Nat) (p0 : Int32) (p1 : Int32) (z0 : Nat → Int32) (z1 : Nat → Int32) (hf : fX12_goes N p0 p1 v_w v_inn_rooms v_inn_doors v_inn_sleepers v_inn_listeners v_inn_doorA v_from v_inn_doorB v_inn_falls v_inn_creak v_inn_listens v_far v_inn_isCold v_inn_isTold v_inn_met = some (z0, z1)) : CTv l E yX12_goes cX12_goes 9 2 45 [.ref h, .int p0, .int p1] (wX12_goes E h h_inn h_tape h_far h_from h_real h_other h_kept h_set h_w h_book h_noteSort h_whose h_what h_noteIs h_fitting h_dawn h_likes h_walked h_came h_inn_creak h_inn_doorA h_inn_doorB h_inn_how h_inn_lies h_inn_isCold h_inn_falls h_inn_isFull h_inn_isTold h_inn_act h_inn_what h_inn_then h_inn_met h_inn_bed h_inn_dream h_inn_listens h_inn_name h_inn_nameSort h_inn_nameNumber v_thrown v_trouble v_where v_read v_taped v_size v_at v_sort v_place v_sign v_number v_fault v_wrongAt v_word v_marks v_notes v_w v_inn_minutes v_inn_rooms v_inn_doors v_inn_things v_inn_dreams v_inn_sleepers v_inn_listeners v_inn_names v_inn_doorA v_from v_inn_doorB v_inn_falls v_inn_creak v_inn_listens v_far v_inn_isCold v_inn_isTold v_inn_met) (wX12_goes E h h_inn h_tape h_far h_from h_real h_other h_kept h_set h_w h_book h_noteSort h_whose h_what h_noteIs h_fitting h_dawn h_likes h_walked h_came h_inn_creak h_inn_doorA h_inn_doorB h_inn_how h_inn_lies h_inn_isCold h_inn_falls h_inn_isFull h_inn_isTold h_inn_act h_inn_what h_inn_then h_inn_met h_inn_bed h_inn_dream h_inn_listens h_inn_name h_inn_nameSort h_inn_nameNumber v_thrown v_trouble v_where v_read v_taped v_size v_at v_sort v_place v_sign v_number v_fault v_wrongAt v_word v_marks v_notes z0 v_inn_minutes v_inn_rooms v_inn_doors v_inn_things v_inn_dreams v_inn_sleepers v_inn_listeners v_inn_names v_inn_doorA z1 v_inn_doorB v_inn_falls v_inn_creak v_inn_listens v_far v_inn_isCold v_inn_isTold v_inn_met) := by
  intro sz
  refine ct_body (by decide) (Nat.le_of_ble_eq_true rfl) ?_
  intro p e s m args below meth c A ls hAe C hr hin hP hD hS hl
  have C : CX p s m args meth c cX12_goes RX12 9 E A := C
  have hl : lv_has ls 9 [(0, .ref h), (1, .int p0), (2, .int p1)] := hl
  have hx := C.1
  have hb := C.2.1
  rw [hAe]
  clear hAe
  obtain ⟨Q, hQ⟩ : ∃ Q, Q = MQ below (Qv E A (wX12_goes E h h_inn h_tape h_far h_from h_real h_other h_kept h_set h_w h_book h_noteSort h_whose h_what h_noteIs h_fitting h_dawn h_likes h_walked h_came h_inn_creak h_inn_doorA h_inn_doorB h_inn_how h_inn_lies h_inn_isCold h_inn_falls h_inn_isFull h_inn_isTold h_inn_act h_inn_what h_inn_then h_inn_met h_inn_bed h_inn_dream h_inn_listens h_inn_name h_inn_nameSort h_inn_nameNumber v_thrown v_trouble v_where v_read v_taped v_size v_at v_sort v_place v_sign v_number v_fault v_wrongAt v_word v_marks v_notes z0 v_inn_minutes v_inn_rooms v_inn_doors v_inn_things v_inn_dreams v_inn_sleepers v_inn_listeners v_inn_names v_inn_doorA z1 v_inn_doorB v_inn_falls v_inn_creak v_inn_listens v_far v_inn_isCold v_inn_isTold v_inn_met)) args s 0 0 A := ⟨_, rfl⟩
  rw [← hQ]
  unfold fX12_goes at hf
  refine lv_aload_n hx hb dX12_goes_0 rfl (lv_at hl 0 rfl) ?_
  refine r_get C hP 0 rfl fl_X12_36 rfl dX12_goes_1 ?_
  refine lv_iconst (v := 0) hx hb dX12_goes_4 (by decide) ?_
  refine lv_iload_n hx hb dX12_goes_5 rfl (lv_at hl 1 rfl) ?_
  refine lv_iadd hx hb dX12_goes_6 ?_
  obtain ⟨hi_7, hf⟩ := gd_s hf
  refine r_iald C hP 1 rfl hi_7 dX12_goes_7 ?_
  refine lv_istore_n (lv' := [(3, .int (v_w (0 + p0).toNatClampNeg)), (0, .ref h), (1, .int p0), (2, .int p1)]) hx hb dX12_goes_8 rfl hl (by decide) rfl (fun ls hl => ?_)
  refine lv_aload_n hx hb dX12_goes_9 rfl (lv_at hl 1 rfl) ?_
  obtain ⟨r_10, hc_10, hf⟩ := bd1 hf
  refine r_callVi (ws' := (wX12_goes E h h_inn h_tape h_far h_from h_real h_other h_kept h_set h_w h_book h_noteSort h_whose h_what h_noteIs h_fitting h_dawn h_likes h_walked h_came h_inn_creak h_inn_doorA h_inn_doorB h_inn_how h_inn_lies h_inn_isCold h_inn_falls h_inn_isFull h_inn_isTold h_inn_act h_inn_what h_inn_then h_inn_met h_inn_bed h_inn_dream h_inn_listens h_inn_name h_inn_nameSort h_inn_nameNumber v_thrown v_trouble v_where v_read v_taped v_size v_at v_sort v_place v_sign v_number v_fault v_wrongAt v_word v_marks v_notes v_w v_inn_minutes v_inn_rooms v_inn_doors v_inn_things v_inn_dreams v_inn_sleepers v_inn_listeners v_inn_names v_inn_doorA v_from v_inn_doorB v_inn_falls v_inn_creak v_inn_listens v_far v_inn_isCold v_inn_isTold v_inn_met)) (As := []) (rest := []) C (ctX12_lockedDoors l E h h_inn h_tape h_far h_from h_real h_other h_kept h_set h_w h_book h_noteSort h_whose h_what h_noteIs h_fitting h_dawn h_likes h_walked h_came h_inn_creak h_inn_doorA h_inn_doorB h_inn_how h_inn_lies h_inn_isCold h_inn_falls h_inn_isFull h_inn_isTold h_inn_act h_inn_what h_inn_then h_inn_met h_inn_bed h_inn_dream h_inn_listens h_inn_name h_inn_nameSort h_inn_nameNumber v_thrown v_trouble v_where v_read v_taped v_size v_at v_sort v_place v_sign v_number v_fault v_wrongAt v_word v_marks v_notes v_inn_minutes v_inn_rooms v_inn_doors v_inn_things v_inn_dreams v_inn_sleepers v_inn_listeners v_inn_names v_w N r_10 hc_10) ml_X12_391 ⟨Nat.le_of_ble_eq_true rfl, Nat.le_of_ble_eq_true rfl⟩ hP hD hS 0 rfl rfl rfl [0, 2, 1] rfl rfl rfl rfl rfl hl.1 rfl (Nat.le_of_ble_eq_true rfl) ⟨Nat.zero_le _, Nat.zero_le _⟩ dX12_goes_10 ?_
  clear hP hD hS; intro H locs hP hD hS
  refine lv_istore (lv' := [(4, .int r_10), (3, .int (v_w (0 + p0).toNatClampNeg)), (0, .ref h), (1, .int p0), (2, .int p1)]) hx hb dX12_goes_13 hl (by decide) rfl (fun ls hl => ?_)
  refine lv_aload_n hx hb dX12_goes_15 rfl (lv_at hl 2 rfl) ?_
  refine lv_iload_n hx hb dX12_goes_16 rfl (lv_at hl 4 rfl) ?_
  refine lv_iload hx hb dX12_goes_17 (lv_at hl 0 rfl) ?_
  obtain ⟨v_from_19, hc_19, hf⟩ := bd1 hf
  refine r_callVv (ws' := (wX12_goes E h h_inn h_tape h_far h_from h_real h_other h_kept h_set h_w h_book h_noteSort h_whose h_what h_noteIs h_fitting h_dawn h_likes h_walked h_came h_inn_creak h_inn_doorA h_inn_doorB h_inn_how h_inn_lies h_inn_isCold h_inn_falls h_inn_isFull h_inn_isTold h_inn_act h_inn_what h_inn_then h_inn_met h_inn_bed h_inn_dream h_inn_listens h_inn_name h_inn_nameSort h_inn_nameNumber v_thrown v_trouble v_where v_read v_taped v_size v_at v_sort v_place v_sign v_number v_fault v_wrongAt v_word v_marks v_notes v_w v_inn_minutes v_inn_rooms v_inn_doors v_inn_things v_inn_dreams v_inn_sleepers v_inn_listeners v_inn_names v_inn_doorA v_from_19 v_inn_doorB v_inn_falls v_inn_creak v_inn_listens v_far v_inn_isCold v_inn_isTold v_inn_met)) (As := [.int p1, .int r_10]) (rest := []) C (ctX12_measures l E h h_inn h_tape h_far h_from h_real h_other h_kept h_set h_w h_book h_noteSort h_whose h_what h_noteIs h_fitting h_dawn h_likes h_walked h_came h_inn_creak h_inn_doorA h_inn_doorB h_inn_how h_inn_lies h_inn_isCold h_inn_falls h_inn_isFull h_inn_isTold h_inn_act h_inn_what h_inn_then h_inn_met h_inn_bed h_inn_dream h_inn_listens h_inn_name h_inn_nameSort h_inn_nameNumber v_thrown v_trouble v_where v_read v_taped v_size v_at v_sort v_place v_sign v_number v_fault v_wrongAt v_word v_marks v_notes v_inn_minutes v_inn_rooms v_inn_doors v_inn_things v_inn_dreams v_inn_sleepers v_inn_listeners v_inn_names v_inn_doorA v_from v_inn_doorB N p1 r_10 v_from_19 hc_19) ml_X12_376 ⟨Nat.le_of_ble_eq_true rfl, Nat.le_of_ble_eq_true rfl⟩ hP hD hS 0 rfl rfl rfl [0, 2, 3, 4, 5] rfl rfl rfl rfl rfl hl.1 rfl (Nat.le_of_ble_eq_true rfl) ⟨Nat.zero_le _, Nat.zero_le _⟩ dX12_goes_19 ?_
  clear hP hD hS; intro H locs hP hD hS
  refine lv_iconst (v := (-1)) hx hb dX12_goes_22 (by decide) ?_
  refine lv_istore (lv' := [(5, .int (-1)), (4, .int r_10), (3, .int (v_w (0 + p0).toNatClampNeg)), (0, .ref h), (1, .int p0), (2, .int p1)]) hx hb dX12_goes_23 hl (by decide) rfl (fun ls hl => ?_)
  refine lv_iconst (v := 0) hx hb dX12_goes_25 (by decide) ?_
  refine lv_istore (lv' := [(6, .int 0), (5, .int (-1)), (4, .int r_10), (3, .int (v_w (0 + p0).toNatClampNeg)), (0, .ref h), (1, .int p0), (2, .int p1)]) hx hb dX12_goes_26 hl (by decide) rfl (fun ls hl => ?_)
  refine lpK hf (fun K126 eK126 hf => ?_)
  have hK126 : ∀ (x126_5 : Int32) , K126 x126_5 = some (z0, z1) → AT p l e (rmOf 2 45) s m args below meth c E A Q 0 0 9 [(0, .ref h), (1, .int p0), (3, .int (v_w (0 + p0).toNatClampNeg)), (5, .int x126_5)] (wX12_goes E h h_inn h_tape h_far h_from h_real h_other h_kept h_set h_w h_book h_noteSort h_whose h_what h_noteIs h_fitting h_dawn h_likes h_walked h_came h_inn_creak h_inn_doorA h_inn_doorB h_inn_how h_inn_lies h_inn_isCold h_inn_falls h_inn_isFull h_inn_isTold h_inn_act h_inn_what h_inn_then h_inn_met h_inn_bed h_inn_dream h_inn_listens h_inn_name h_inn_nameSort h_inn_nameNumber v_thrown v_trouble v_where v_read v_taped v_size v_at v_sort v_place v_sign v_number v_fault v_wrongAt v_word v_marks v_notes v_w v_inn_minutes v_inn_rooms v_inn_doors v_inn_things v_inn_dreams v_inn_sleepers v_inn_listeners v_inn_names v_inn_doorA v_from_19 v_inn_doorB v_inn_falls v_inn_creak v_inn_listens v_far v_inn_isCold v_inn_isTold v_inn_met) 126 [] := by
    intro x126_5 hf H locs ls hl hP hD hS
    rw [eK126] at hf
    replace hf := un1_s hf
    refine lv_iload hx hb dX12_goes_126 (lv_at hl 3 rfl) ?_
    refine lv_iconst (v := (-1)) hx hb dX12_goes_128 (by decide) ?_
    refine lv_icmp_ne (tgt := 133) hx hb dX12_goes_129 (by decide) (fun c_129 => ?_) (fun c_129 => ?_)
    · replace hf := it_f c_129 hf
      refine lv_aload_n hx hb dX12_goes_133 rfl (lv_at hl 0 rfl) ?_
      refine r_get C hP 0 rfl fl_X12_358 rfl dX12_goes_134 ?_
      refine lv_iload_n hx hb dX12_goes_137 rfl (lv_at hl 2 rfl) ?_
      refine lv_iload hx hb dX12_goes_138 (lv_at hl 3 rfl) ?_
      obtain ⟨r_140, hc_140, hf⟩ := bd1 hf
      refine r_callVi (ws' := (wX12_goes E h h_inn h_tape h_far h_from h_real h_other h_kept h_set h_w h_book h_noteSort h_whose h_what h_noteIs h_fitting h_dawn h_likes h_walked h_came h_inn_creak h_inn_doorA h_inn_doorB h_inn_how h_inn_lies h_inn_isCold h_inn_falls h_inn_isFull h_inn_isTold h_inn_act h_inn_what h_inn_then h_inn_met h_inn_bed h_inn_dream h_inn_listens h_inn_name h_inn_nameSort h_inn_nameNumber v_thrown v_trouble v_where v_read v_taped v_size v_at v_sort v_place v_sign v_number v_fault v_wrongAt v_word v_marks v_notes v_w v_inn_minutes v_inn_rooms v_inn_doors v_inn_things v_inn_dreams v_inn_sleepers v_inn_listeners v_inn_names v_inn_doorA v_from_19 v_inn_doorB v_inn_falls v_inn_creak v_inn_listens v_far v_inn_isCold v_inn_isTold v_inn_met)) (As := [.int (v_w (0 + p0).toNatClampNeg), .int x126_5]) (rest := []) C (ctX11_between l E h_inn h_inn_creak h_inn_doorA h_inn_doorB h_inn_how h_inn_lies h_inn_isCold h_inn_falls h_inn_isFull h_inn_isTold h_inn_act h_inn_what h_inn_then h_inn_met h_inn_bed h_inn_dream h_inn_listens h_inn_name h_inn_nameSort h_inn_nameNumber v_inn_minutes v_inn_rooms v_inn_doors v_inn_things v_inn_dreams v_inn_sleepers v_inn_listeners v_inn_names v_inn_doorA v_inn_doorB N (v_w (0 + p0).toNatClampNeg) x126_5 r_140 hc_140) ml_X12_301 ⟨Nat.le_of_ble_eq_true rfl, Nat.le_of_ble_eq_true rfl⟩ hP hD hS 2 rfl rfl rfl [2, 3, 5] rfl rfl rfl rfl rfl hl.1 rfl (Nat.le_of_ble_eq_true rfl) ⟨Nat.zero_le _, Nat.zero_le _⟩ dX12_goes_140 ?_
      clear hP hD hS; intro H locs hP hD hS
      refine lv_istore (lv' := [(6, .int r_140), (0, .ref h), (1, .int p0), (3, .int (v_w (0 + p0).toNatClampNeg)), (5, .int x126_5)]) hx hb dX12_goes_143 hl (by decide) rfl (fun ls hl => ?_)
      refine lv_aload_n hx hb dX12_goes_145 rfl (lv_at hl 1 rfl) ?_
      refine r_get C hP 0 rfl fl_X12_36 rfl dX12_goes_146 ?_
      refine lv_bipush (v := 23) hx hb dX12_goes_149 (by decide) ?_
      refine lv_iload hx hb dX12_goes_151 (lv_at hl 0 rfl) ?_
      refine lv_iadd hx hb dX12_goes_153 ?_
      refine lv_aload_n hx hb dX12_goes_154 rfl (lv_at hl 1 rfl) ?_
      refine r_get C hP 0 rfl fl_X12_358 rfl dX12_goes_155 ?_
      refine r_get C hP 2 rfl fl_X12_313 rfl dX12_goes_158 ?_
      refine lv_iload hx hb dX12_goes_161 (lv_at hl 0 rfl) ?_
      obtain ⟨hi_163, hf⟩ := gd_s hf
      refine r_zald C hP 6 rfl hi_163 dX12_goes_163 ?_
      refine jnK hf (fun j172 ej172 hf => ?_)
      have hj172 : ∀ (x172_s1 : Int32) (x172_s2 : Int32) , j172 (x172_s1, x172_s2) = some (z0, z1) → AT p l e (rmOf 2 45) s m args below meth c E A Q 0 0 9 [(0, .ref h), (1, .int p0), (5, .int x126_5), (6, .int r_140)] (wX12_goes E h h_inn h_tape h_far h_from h_real h_other h_kept h_set h_w h_book h_noteSort h_whose h_what h_noteIs h_fitting h_dawn h_likes h_walked h_came h_inn_creak h_inn_doorA h_inn_doorB h_inn_how h_inn_lies h_inn_isCold h_inn_falls h_inn_isFull h_inn_isTold h_inn_act h_inn_what h_inn_then h_inn_met h_inn_bed h_inn_dream h_inn_listens h_inn_name h_inn_nameSort h_inn_nameNumber v_thrown v_trouble v_where v_read v_taped v_size v_at v_sort v_place v_sign v_number v_fault v_wrongAt v_word v_marks v_notes v_w v_inn_minutes v_inn_rooms v_inn_doors v_inn_things v_inn_dreams v_inn_sleepers v_inn_listeners v_inn_names v_inn_doorA v_from_19 v_inn_doorB v_inn_falls v_inn_creak v_inn_listens v_far v_inn_isCold v_inn_isTold v_inn_met) 172 [.int x172_s2, .int x172_s1, .ref h_w] := by
        intro x172_s1 x172_s2 hf H locs ls hl hP hD hS
        rw [ej172] at hf
        replace hf := un2_s hf
        obtain ⟨hi_172, hf⟩ := gd_s hf
        refine r_iast (ws' := (wX12_goes E h h_inn h_tape h_far h_from h_real h_other h_kept h_set h_w h_book h_noteSort h_whose h_what h_noteIs h_fitting h_dawn h_likes h_walked h_came h_inn_creak h_inn_doorA h_inn_doorB h_inn_how h_inn_lies h_inn_isCold h_inn_falls h_inn_isFull h_inn_isTold h_inn_act h_inn_what h_inn_then h_inn_met h_inn_bed h_inn_dream h_inn_listens h_inn_name h_inn_nameSort h_inn_nameNumber v_thrown v_trouble v_where v_read v_taped v_size v_at v_sort v_place v_sign v_number v_fault v_wrongAt v_word v_marks v_notes (upd v_w x172_s1.toNatClampNeg x172_s2) v_inn_minutes v_inn_rooms v_inn_doors v_inn_things v_inn_dreams v_inn_sleepers v_inn_listeners v_inn_names v_inn_doorA v_from_19 v_inn_doorB v_inn_falls v_inn_creak v_inn_listens v_far v_inn_isCold v_inn_isTold v_inn_met)) C hP hD hS 1 rfl hi_172 rfl dX12_goes_172 ?_
        clear hP hD hS; intro H locs hP hD hS
        refine lv_aload_n hx hb dX12_goes_173 rfl (lv_at hl 0 rfl) ?_
        refine r_get C hP 0 rfl fl_X12_36 rfl dX12_goes_174 ?_
        refine lv_bipush (v := 33) hx hb dX12_goes_177 (by decide) ?_
        refine lv_iload hx hb dX12_goes_179 (lv_at hl 3 rfl) ?_
        refine lv_iadd hx hb dX12_goes_181 ?_
        refine lv_dup2_11 hx hb dX12_goes_182 rfl rfl ?_
        obtain ⟨hi_183, hf⟩ := gd_s hf
        refine r_iald C hP 1 rfl hi_183 dX12_goes_183 ?_
        refine lv_iconst (v := 1) hx hb dX12_goes_184 (by decide) ?_
        refine lv_iadd hx hb dX12_goes_185 ?_
        obtain ⟨hi_186, hf⟩ := gd_s hf
        refine r_iast (ws' := (wX12_goes E h h_inn h_tape h_far h_from h_real h_other h_kept h_set h_w h_book h_noteSort h_whose h_what h_noteIs h_fitting h_dawn h_likes h_walked h_came h_inn_creak h_inn_doorA h_inn_doorB h_inn_how h_inn_lies h_inn_isCold h_inn_falls h_inn_isFull h_inn_isTold h_inn_act h_inn_what h_inn_then h_inn_met h_inn_bed h_inn_dream h_inn_listens h_inn_name h_inn_nameSort h_inn_nameNumber v_thrown v_trouble v_where v_read v_taped v_size v_at v_sort v_place v_sign v_number v_fault v_wrongAt v_word v_marks v_notes (upd (upd v_w x172_s1.toNatClampNeg x172_s2) (33 + r_140).toNatClampNeg (((upd v_w x172_s1.toNatClampNeg x172_s2) (33 + r_140).toNatClampNeg) + 1)) v_inn_minutes v_inn_rooms v_inn_doors v_inn_things v_inn_dreams v_inn_sleepers v_inn_listeners v_inn_names v_inn_doorA v_from_19 v_inn_doorB v_inn_falls v_inn_creak v_inn_listens v_far v_inn_isCold v_inn_isTold v_inn_met)) C hP hD hS 1 rfl hi_186 rfl dX12_goes_186 ?_
        clear hP hD hS; intro H locs hP hD hS
        refine lv_aload_n hx hb dX12_goes_187 rfl (lv_at hl 0 rfl) ?_
        refine r_get C hP 0 rfl fl_X12_36 rfl dX12_goes_188 ?_
        refine lv_iconst (v := 0) hx hb dX12_goes_191 (by decide) ?_
        refine lv_iload_n hx hb dX12_goes_192 rfl (lv_at hl 1 rfl) ?_
        refine lv_iadd hx hb dX12_goes_193 ?_
        refine lv_iload hx hb dX12_goes_194 (lv_at hl 2 rfl) ?_
        obtain ⟨hi_196, hf⟩ := gd_s hf
        refine r_iast (ws' := (wX12_goes E h h_inn h_tape h_far h_from h_real h_other h_kept h_set h_w h_book h_noteSort h_whose h_what h_noteIs h_fitting h_dawn h_likes h_walked h_came h_inn_creak h_inn_doorA h_inn_doorB h_inn_how h_inn_lies h_inn_isCold h_inn_falls h_inn_isFull h_inn_isTold h_inn_act h_inn_what h_inn_then h_inn_met h_inn_bed h_inn_dream h_inn_listens h_inn_name h_inn_nameSort h_inn_nameNumber v_thrown v_trouble v_where v_read v_taped v_size v_at v_sort v_place v_sign v_number v_fault v_wrongAt v_word v_marks v_notes (upd (upd (upd v_w x172_s1.toNatClampNeg x172_s2) (33 + r_140).toNatClampNeg (((upd v_w x172_s1.toNatClampNeg x172_s2) (33 + r_140).toNatClampNeg) + 1)) (0 + p0).toNatClampNeg x126_5) v_inn_minutes v_inn_rooms v_inn_doors v_inn_things v_inn_dreams v_inn_sleepers v_inn_listeners v_inn_names v_inn_doorA v_from_19 v_inn_doorB v_inn_falls v_inn_creak v_inn_listens v_far v_inn_isCold v_inn_isTold v_inn_met)) C hP hD hS 1 rfl hi_196 rfl dX12_goes_196 ?_
        clear hP hD hS; intro H locs hP hD hS
        refine lv_aload_n hx hb dX12_goes_197 rfl (lv_at hl 0 rfl) ?_
        refine r_get C hP 0 rfl fl_X12_36 rfl dX12_goes_198 ?_
        refine lv_bipush (v := 6) hx hb dX12_goes_201 (by decide) ?_
        refine lv_iload_n hx hb dX12_goes_203 rfl (lv_at hl 1 rfl) ?_
        refine lv_iadd hx hb dX12_goes_204 ?_
        obtain ⟨hi_205, hf⟩ := gd_s hf
        refine r_iald C hP 1 rfl hi_205 dX12_goes_205 ?_
        refine lv_bipush (v := (-2)) hx hb dX12_goes_206 (by decide) ?_
        refine jnK hf (fun j230 ej230 hf => ?_)
        have hj230 : ∀ (x230_w : Nat → Int32) , j230 x230_w = some (z0, z1) → AT p l e (rmOf 2 45) s m args below meth c E A Q 0 0 9 [(0, .ref h), (1, .int p0), (5, .int x126_5)] (wX12_goes E h h_inn h_tape h_far h_from h_real h_other h_kept h_set h_w h_book h_noteSort h_whose h_what h_noteIs h_fitting h_dawn h_likes h_walked h_came h_inn_creak h_inn_doorA h_inn_doorB h_inn_how h_inn_lies h_inn_isCold h_inn_falls h_inn_isFull h_inn_isTold h_inn_act h_inn_what h_inn_then h_inn_met h_inn_bed h_inn_dream h_inn_listens h_inn_name h_inn_nameSort h_inn_nameNumber v_thrown v_trouble v_where v_read v_taped v_size v_at v_sort v_place v_sign v_number v_fault v_wrongAt v_word v_marks v_notes x230_w v_inn_minutes v_inn_rooms v_inn_doors v_inn_things v_inn_dreams v_inn_sleepers v_inn_listeners v_inn_names v_inn_doorA v_from_19 v_inn_doorB v_inn_falls v_inn_creak v_inn_listens v_far v_inn_isCold v_inn_isTold v_inn_met) 230 [] := by
          intro x230_w hf H locs ls hl hP hD hS
          rw [ej230] at hf
          replace hf := un1_s hf
          refine lv_aload_n hx hb dX12_goes_230 rfl (lv_at hl 0 rfl) ?_
          refine lv_iload hx hb dX12_goes_231 (lv_at hl 2 rfl) ?_
          obtain ⟨v_w_233, hc_233, hf⟩ := bd1 hf
          refine r_callVv (ws' := (wX12_goes E h h_inn h_tape h_far h_from h_real h_other h_kept h_set h_w h_book h_noteSort h_whose h_what h_noteIs h_fitting h_dawn h_likes h_walked h_came h_inn_creak h_inn_doorA h_inn_doorB h_inn_how h_inn_lies h_inn_isCold h_inn_falls h_inn_isFull h_inn_isTold h_inn_act h_inn_what h_inn_then h_inn_met h_inn_bed h_inn_dream h_inn_listens h_inn_name h_inn_nameSort h_inn_nameNumber v_thrown v_trouble v_where v_read v_taped v_size v_at v_sort v_place v_sign v_number v_fault v_wrongAt v_word v_marks v_notes v_w_233 v_inn_minutes v_inn_rooms v_inn_doors v_inn_things v_inn_dreams v_inn_sleepers v_inn_listeners v_inn_names v_inn_doorA v_from_19 v_inn_doorB v_inn_falls v_inn_creak v_inn_listens v_far v_inn_isCold v_inn_isTold v_inn_met)) (As := [.int x126_5]) (rest := []) C (ctX12_creaksIn l E h h_inn h_tape h_far h_from h_real h_other h_kept h_set h_w h_book h_noteSort h_whose h_what h_noteIs h_fitting h_dawn h_likes h_walked h_came h_inn_creak h_inn_doorA h_inn_doorB h_inn_how h_inn_lies h_inn_isCold h_inn_falls h_inn_isFull h_inn_isTold h_inn_act h_inn_what h_inn_then h_inn_met h_inn_bed h_inn_dream h_inn_listens h_inn_name h_inn_nameSort h_inn_nameNumber v_thrown v_trouble v_where v_read v_taped v_size v_at v_sort v_place v_sign v_number v_fault v_wrongAt v_word v_marks v_notes v_inn_minutes v_inn_rooms v_inn_doors v_inn_things v_inn_dreams v_inn_sleepers v_inn_listeners v_inn_names v_inn_creak v_inn_listens v_far x230_w N x126_5 v_w_233 hc_233) ml_X12_394 ⟨Nat.le_of_ble_eq_true rfl, Nat.le_of_ble_eq_true rfl⟩ hP hD hS 0 rfl rfl rfl [0, 2, 7, 8, 9, 1] rfl rfl rfl rfl rfl hl.1 rfl (Nat.le_of_ble_eq_true rfl) ⟨Nat.zero_le _, Nat.zero_le _⟩ dX12_goes_233 ?_
          clear hP hD hS; intro H locs hP hD hS
          refine lv_aload_n hx hb dX12_goes_236 rfl (lv_at hl 0 rfl) ?_
          refine r_get C hP 0 rfl fl_X12_358 rfl dX12_goes_237 ?_
          refine r_get C hP 2 rfl fl_X12_289 rfl dX12_goes_240 ?_
          refine lv_iload hx hb dX12_goes_243 (lv_at hl 2 rfl) ?_
          obtain ⟨hi_245, hf⟩ := gd_s hf
          refine r_zald C hP 10 rfl hi_245 dX12_goes_245 ?_
          refine lv_if_eq (tgt := 260) hx hb dX12_goes_246 (by decide) (fun c_246 => ?_) (fun c_246 => ?_)
          · replace hf := it_t c_246 hf
            refine lv_iconst (v := 0) hx hb dX12_goes_260 (by decide) ?_
            refine lv_istore (lv' := [(7, .int 0), (0, .ref h), (1, .int p0), (5, .int x126_5)]) hx hb dX12_goes_261 hl (by decide) rfl (fun ls hl => ?_)
            refine lv_iconst (v := 0) hx hb dX12_goes_263 (by decide) ?_
            refine lv_istore (lv' := [(8, .int 0), (7, .int 0), (0, .ref h), (1, .int p0), (5, .int x126_5)]) hx hb dX12_goes_264 hl (by decide) rfl (fun ls hl => ?_)
            refine lpK hf (fun K330 eK330 hf => ?_)
            have hK330 : ∀ (x330_7 : Int32) (x330_w : Nat → Int32) , K330 (x330_7, x330_w) = some (z0, z1) → AT p l e (rmOf 2 45) s m args below meth c E A Q 0 0 9 [(0, .ref h), (1, .int p0), (7, .int x330_7)] (wX12_goes E h h_inn h_tape h_far h_from h_real h_other h_kept h_set h_w h_book h_noteSort h_whose h_what h_noteIs h_fitting h_dawn h_likes h_walked h_came h_inn_creak h_inn_doorA h_inn_doorB h_inn_how h_inn_lies h_inn_isCold h_inn_falls h_inn_isFull h_inn_isTold h_inn_act h_inn_what h_inn_then h_inn_met h_inn_bed h_inn_dream h_inn_listens h_inn_name h_inn_nameSort h_inn_nameNumber v_thrown v_trouble v_where v_read v_taped v_size v_at v_sort v_place v_sign v_number v_fault v_wrongAt v_word v_marks v_notes x330_w v_inn_minutes v_inn_rooms v_inn_doors v_inn_things v_inn_dreams v_inn_sleepers v_inn_listeners v_inn_names v_inn_doorA v_from_19 v_inn_doorB v_inn_falls v_inn_creak v_inn_listens v_far v_inn_isCold v_inn_isTold v_inn_met) 330 [] := by
              intro x330_7 x330_w hf H locs ls hl hP hD hS
              rw [eK330] at hf
              replace hf := un2_s hf
              refine lv_iload hx hb dX12_goes_330 (lv_at hl 2 rfl) ?_
              refine lv_if_eq (tgt := 340) hx hb dX12_goes_332 (by decide) (fun c_332 => ?_) (fun c_332 => ?_)
              · replace hf := it_t c_332 hf
                cases hf
                rw [hQ]
                exact r_vret C hr hP hD hS dX12_goes_340
              · replace hf := it_f c_332 hf
                refine lv_aload_n hx hb dX12_goes_335 rfl (lv_at hl 0 rfl) ?_
                refine lv_iload_n hx hb dX12_goes_336 rfl (lv_at hl 1 rfl) ?_
                obtain ⟨v_w_337, hc_337, hf⟩ := bd1 hf
                refine r_callVv (ws' := (wX12_goes E h h_inn h_tape h_far h_from h_real h_other h_kept h_set h_w h_book h_noteSort h_whose h_what h_noteIs h_fitting h_dawn h_likes h_walked h_came h_inn_creak h_inn_doorA h_inn_doorB h_inn_how h_inn_lies h_inn_isCold h_inn_falls h_inn_isFull h_inn_isTold h_inn_act h_inn_what h_inn_then h_inn_met h_inn_bed h_inn_dream h_inn_listens h_inn_name h_inn_nameSort h_inn_nameNumber v_thrown v_trouble v_where v_read v_taped v_size v_at v_sort v_place v_sign v_number v_fault v_wrongAt v_word v_marks v_notes v_w_337 v_inn_minutes v_inn_rooms v_inn_doors v_inn_things v_inn_dreams v_inn_sleepers v_inn_listeners v_inn_names v_inn_doorA v_from_19 v_inn_doorB v_inn_falls v_inn_creak v_inn_listens v_far v_inn_isCold v_inn_isTold v_inn_met)) (As := [.int p0]) (rest := []) C (ctX12_meets l E h h_inn h_tape h_far h_from h_real h_other h_kept h_set h_w h_book h_noteSort h_whose h_what h_noteIs h_fitting h_dawn h_likes h_walked h_came h_inn_creak h_inn_doorA h_inn_doorB h_inn_how h_inn_lies h_inn_isCold h_inn_falls h_inn_isFull h_inn_isTold h_inn_act h_inn_what h_inn_then h_inn_met h_inn_bed h_inn_dream h_inn_listens h_inn_name h_inn_nameSort h_inn_nameNumber v_thrown v_trouble v_where v_read v_taped v_size v_at v_sort v_place v_sign v_number v_fault v_wrongAt v_word v_marks v_notes x330_w v_inn_minutes v_inn_rooms v_inn_doors v_inn_things v_inn_dreams v_inn_sleepers v_inn_listeners v_inn_names v_inn_isTold v_inn_met N p0 v_w_337 hc_337) ml_X12_397 ⟨Nat.le_of_ble_eq_true rfl, Nat.le_of_ble_eq_true rfl⟩ hP hD hS 0 rfl rfl rfl [0, 1, 2, 11, 12] rfl rfl rfl rfl rfl hl.1 rfl (Nat.le_of_ble_eq_true rfl) ⟨Nat.zero_le _, Nat.zero_le _⟩ dX12_goes_337 ?_
                clear hP hD hS; intro H locs hP hD hS
                cases hf
                rw [hQ]
                exact r_vret C hr hP hD hS dX12_goes_340
            clear eK330
            have key266 : ∀ (n : Nat) (x266_7 : Int32) (x266_8 : Int32) (x266_w : Nat → Int32) , lp (BX12_goes_266 v_inn_sleepers p0 x126_5 N v_inn_isTold v_inn_met K330) n (x266_7, x266_8, x266_w) = some (z0, z1) → AT p l e (rmOf 2 45) s m args below meth c E A Q 0 0 9 [(0, .ref h), (1, .int p0), (5, .int x126_5), (7, .int x266_7), (8, .int x266_8)] (wX12_goes E h h_inn h_tape h_far h_from h_real h_other h_kept h_set h_w h_book h_noteSort h_whose h_what h_noteIs h_fitting h_dawn h_likes h_walked h_came h_inn_creak h_inn_doorA h_inn_doorB h_inn_how h_inn_lies h_inn_isCold h_inn_falls h_inn_isFull h_inn_isTold h_inn_act h_inn_what h_inn_then h_inn_met h_inn_bed h_inn_dream h_inn_listens h_inn_name h_inn_nameSort h_inn_nameNumber v_thrown v_trouble v_where v_read v_taped v_size v_at v_sort v_place v_sign v_number v_fault v_wrongAt v_word v_marks v_notes x266_w v_inn_minutes v_inn_rooms v_inn_doors v_inn_things v_inn_dreams v_inn_sleepers v_inn_listeners v_inn_names v_inn_doorA v_from_19 v_inn_doorB v_inn_falls v_inn_creak v_inn_listens v_far v_inn_isCold v_inn_isTold v_inn_met) 266 [] := by
              intro n
              induction n with
              | zero => intro x266_7 x266_8 x266_w hf; exact (lp_0 hf).elim
              | succ n ih266 =>
                intro x266_7 x266_8 x266_w hf H locs ls hl hP hD hS
                replace hf := lp_s hf
                generalize lp (BX12_goes_266 v_inn_sleepers p0 x126_5 N v_inn_isTold v_inn_met K330) n = rec266 at ih266 hf
                unfold BX12_goes_266 at hf
                replace hf := un3_s hf
                refine lv_iload hx hb dX12_goes_266 (lv_at hl 4 rfl) ?_
                refine lv_aload_n hx hb dX12_goes_268 rfl (lv_at hl 0 rfl) ?_
                refine r_get C hP 0 rfl fl_X12_358 rfl dX12_goes_269 ?_
                refine r_get C hP 2 rfl fl_X12_247 rfl dX12_goes_272 ?_
                refine lv_icmp_ge (tgt := 330) hx hb dX12_goes_275 (by decide) (fun c_275 => ?_) (fun c_275 => ?_)
                · replace hf := it_t c_275 hf
                  exact hK330 x266_7 x266_w hf _ _ _ (lv_sub hl [0, 1, 3] rfl) hP hD hS
                · replace hf := it_f c_275 hf
                  refine lv_iload hx hb dX12_goes_278 (lv_at hl 4 rfl) ?_
                  refine lv_iload_n hx hb dX12_goes_280 rfl (lv_at hl 1 rfl) ?_
                  refine jnK hf (fun j324 ej324 hf => ?_)
                  have hj324 : ∀ (x324_7 : Int32) (x324_w : Nat → Int32) , j324 (x324_7, x324_w) = some (z0, z1) → AT p l e (rmOf 2 45) s m args below meth c E A Q 0 0 9 [(0, .ref h), (1, .int p0), (5, .int x126_5), (7, .int x324_7), (8, .int x266_8)] (wX12_goes E h h_inn h_tape h_far h_from h_real h_other h_kept h_set h_w h_book h_noteSort h_whose h_what h_noteIs h_fitting h_dawn h_likes h_walked h_came h_inn_creak h_inn_doorA h_inn_doorB h_inn_how h_inn_lies h_inn_isCold h_inn_falls h_inn_isFull h_inn_isTold h_inn_act h_inn_what h_inn_then h_inn_met h_inn_bed h_inn_dream h_inn_listens h_inn_name h_inn_nameSort h_inn_nameNumber v_thrown v_trouble v_where v_read v_taped v_size v_at v_sort v_place v_sign v_number v_fault v_wrongAt v_word v_marks v_notes x324_w v_inn_minutes v_inn_rooms v_inn_doors v_inn_things v_inn_dreams v_inn_sleepers v_inn_listeners v_inn_names v_inn_doorA v_from_19 v_inn_doorB v_inn_falls v_inn_creak v_inn_listens v_far v_inn_isCold v_inn_isTold v_inn_met) 324 [] := by
                    intro x324_7 x324_w hf H locs ls hl hP hD hS
                    rw [ej324] at hf
                    replace hf := un2_s hf
                    refine lv_iinc (v := x266_8 + 1) (lv' := [(8, .int (x266_8 + 1)), (0, .ref h), (1, .int p0), (5, .int x126_5), (7, .int x324_7)]) hx hb dX12_goes_324 hl (k := 4) rfl rfl (by decide) rfl (fun ls hl => ?_)
                    refine lv_goto (tgt := 266) hx hb dX12_goes_327 (by decide) ?_
                    exact ih266 x324_7 (x266_8 + 1) x324_w hf _ _ _ (lv_sub hl [1, 2, 3, 4, 0] rfl) hP hD hS
                  clear ej324
                  refine lv_icmp_eq (tgt := 324) hx hb dX12_goes_281 (by decide) (fun c_281 => ?_) (fun c_281 => ?_)
                  · replace hf := it_t c_281 hf
                    exact hj324 x266_7 x266_w hf _ _ _ (lv_sub hl [0, 1, 2, 3, 4] rfl) hP hD hS
                  · replace hf := it_f c_281 hf
                    refine lv_aload_n hx hb dX12_goes_284 rfl (lv_at hl 0 rfl) ?_
                    refine r_get C hP 0 rfl fl_X12_36 rfl dX12_goes_285 ?_
                    refine lv_bipush (v := 9) hx hb dX12_goes_288 (by decide) ?_
                    refine lv_iload hx hb dX12_goes_290 (lv_at hl 4 rfl) ?_
                    refine lv_iadd hx hb dX12_goes_292 ?_
                    obtain ⟨hi_293, hf⟩ := gd_s hf
                    refine r_iald C hP 1 rfl hi_293 dX12_goes_293 ?_
                    refine lv_iconst (v := 1) hx hb dX12_goes_294 (by decide) ?_
                    refine lv_icmp_eq (tgt := 324) hx hb dX12_goes_295 (by decide) (fun c_295 => ?_) (fun c_295 => ?_)
                    · replace hf := it_t c_295 hf
                      exact hj324 x266_7 x266_w hf _ _ _ (lv_sub hl [0, 1, 2, 3, 4] rfl) hP hD hS
                    · replace hf := it_f c_295 hf
                      refine lv_aload_n hx hb dX12_goes_298 rfl (lv_at hl 0 rfl) ?_
                      refine r_get C hP 0 rfl fl_X12_36 rfl dX12_goes_299 ?_
                      refine lv_iconst (v := 0) hx hb dX12_goes_302 (by decide) ?_
                      refine lv_iload hx hb dX12_goes_303 (lv_at hl 4 rfl) ?_
                      refine lv_iadd hx hb dX12_goes_305 ?_
                      obtain ⟨hi_306, hf⟩ := gd_s hf
                      refine r_iald C hP 1 rfl hi_306 dX12_goes_306 ?_
                      refine lv_iload hx hb dX12_goes_307 (lv_at hl 2 rfl) ?_
                      refine lv_icmp_eq (tgt := 315) hx hb dX12_goes_309 (by decide) (fun c_309 => ?_) (fun c_309 => ?_)
                      · replace hf := it_t c_309 hf
                        refine lv_iconst (v := 1) hx hb dX12_goes_315 (by decide) ?_
                        refine lv_istore (lv' := [(7, .int 1), (0, .ref h), (1, .int p0), (5, .int x126_5), (8, .int x266_8)]) hx hb dX12_goes_316 hl (by decide) rfl (fun ls hl => ?_)
                        refine lv_aload_n hx hb dX12_goes_318 rfl (lv_at hl 1 rfl) ?_
                        refine lv_iload hx hb dX12_goes_319 (lv_at hl 4 rfl) ?_
                        obtain ⟨v_w_321, hc_321, hf⟩ := bd1 hf
                        refine r_callVv (ws' := (wX12_goes E h h_inn h_tape h_far h_from h_real h_other h_kept h_set h_w h_book h_noteSort h_whose h_what h_noteIs h_fitting h_dawn h_likes h_walked h_came h_inn_creak h_inn_doorA h_inn_doorB h_inn_how h_inn_lies h_inn_isCold h_inn_falls h_inn_isFull h_inn_isTold h_inn_act h_inn_what h_inn_then h_inn_met h_inn_bed h_inn_dream h_inn_listens h_inn_name h_inn_nameSort h_inn_nameNumber v_thrown v_trouble v_where v_read v_taped v_size v_at v_sort v_place v_sign v_number v_fault v_wrongAt v_word v_marks v_notes v_w_321 v_inn_minutes v_inn_rooms v_inn_doors v_inn_things v_inn_dreams v_inn_sleepers v_inn_listeners v_inn_names v_inn_doorA v_from_19 v_inn_doorB v_inn_falls v_inn_creak v_inn_listens v_far v_inn_isCold v_inn_isTold v_inn_met)) (As := [.int x266_8]) (rest := []) C (ctX12_meets l E h h_inn h_tape h_far h_from h_real h_other h_kept h_set h_w h_book h_noteSort h_whose h_what h_noteIs h_fitting h_dawn h_likes h_walked h_came h_inn_creak h_inn_doorA h_inn_doorB h_inn_how h_inn_lies h_inn_isCold h_inn_falls h_inn_isFull h_inn_isTold h_inn_act h_inn_what h_inn_then h_inn_met h_inn_bed h_inn_dream h_inn_listens h_inn_name h_inn_nameSort h_inn_nameNumber v_thrown v_trouble v_where v_read v_taped v_size v_at v_sort v_place v_sign v_number v_fault v_wrongAt v_word v_marks v_notes x266_w v_inn_minutes v_inn_rooms v_inn_doors v_inn_things v_inn_dreams v_inn_sleepers v_inn_listeners v_inn_names v_inn_isTold v_inn_met N x266_8 v_w_321 hc_321) ml_X12_397 ⟨Nat.le_of_ble_eq_true rfl, Nat.le_of_ble_eq_true rfl⟩ hP hD hS 0 rfl rfl rfl [0, 1, 2, 11, 12] rfl rfl rfl rfl rfl hl.1 rfl (Nat.le_of_ble_eq_true rfl) ⟨Nat.zero_le _, Nat.zero_le _⟩ dX12_goes_321 ?_
                        clear hP hD hS; intro H locs hP hD hS
                        exact hj324 1 v_w_321 hf _ _ _ (lv_sub hl [1, 2, 3, 0, 4] rfl) hP hD hS
                      · replace hf := it_f c_309 hf
                        refine lv_goto (tgt := 324) hx hb dX12_goes_312 (by decide) ?_
                        exact hj324 x266_7 x266_w hf _ _ _ (lv_sub hl [0, 1, 2, 3, 4] rfl) hP hD hS
            exact key266 _ 0 0 v_w_233 hf _ _ _ (lv_sub hl [2, 3, 4, 1, 0] rfl) hP hD hS
          · replace hf := it_f c_246 hf
            refine lv_aload_n hx hb dX12_goes_249 rfl (lv_at hl 0 rfl) ?_
            refine r_get C hP 0 rfl fl_X12_36 rfl dX12_goes_250 ?_
            refine lv_bipush (v := 9) hx hb dX12_goes_253 (by decide) ?_
            refine lv_iload_n hx hb dX12_goes_255 rfl (lv_at hl 1 rfl) ?_
            refine lv_iadd hx hb dX12_goes_256 ?_
            refine lv_iconst (v := 1) hx hb dX12_goes_257 (by decide) ?_
            obtain ⟨hi_258, hf⟩ := gd_s hf
            refine r_iast (ws' := (wX12_goes E h h_inn h_tape h_far h_from h_real h_other h_kept h_set h_w h_book h_noteSort h_whose h_what h_noteIs h_fitting h_dawn h_likes h_walked h_came h_inn_creak h_inn_doorA h_inn_doorB h_inn_how h_inn_lies h_inn_isCold h_inn_falls h_inn_isFull h_inn_isTold h_inn_act h_inn_what h_inn_then h_inn_met h_inn_bed h_inn_dream h_inn_listens h_inn_name h_inn_nameSort h_inn_nameNumber v_thrown v_trouble v_where v_read v_taped v_size v_at v_sort v_place v_sign v_number v_fault v_wrongAt v_word v_marks v_notes (upd v_w_233 (9 + p0).toNatClampNeg 1) v_inn_minutes v_inn_rooms v_inn_doors v_inn_things v_inn_dreams v_inn_sleepers v_inn_listeners v_inn_names v_inn_doorA v_from_19 v_inn_doorB v_inn_falls v_inn_creak v_inn_listens v_far v_inn_isCold v_inn_isTold v_inn_met)) C hP hD hS 1 rfl hi_258 rfl dX12_goes_258 ?_
            clear hP hD hS; intro H locs hP hD hS
            cases hf
            rw [hQ]
            exact r_vret C hr hP hD hS dX12_goes_259
        clear ej230
        refine lv_icmp_eq (tgt := 230) hx hb dX12_goes_208 (by decide) (fun c_208 => ?_) (fun c_208 => ?_)
        · replace hf := it_t c_208 hf
          exact hj230 (upd (upd (upd v_w x172_s1.toNatClampNeg x172_s2) (33 + r_140).toNatClampNeg (((upd v_w x172_s1.toNatClampNeg x172_s2) (33 + r_140).toNatClampNeg) + 1)) (0 + p0).toNatClampNeg x126_5) hf _ _ _ (lv_sub hl [0, 1, 2] rfl) hP hD hS
        · replace hf := it_f c_208 hf
          refine lv_aload_n hx hb dX12_goes_211 rfl (lv_at hl 0 rfl) ?_
          refine r_get C hP 0 rfl fl_X12_36 rfl dX12_goes_212 ?_
          refine lv_bipush (v := 15) hx hb dX12_goes_215 (by decide) ?_
          refine lv_aload_n hx hb dX12_goes_217 rfl (lv_at hl 0 rfl) ?_
          refine r_get C hP 0 rfl fl_X12_36 rfl dX12_goes_218 ?_
          refine lv_bipush (v := 6) hx hb dX12_goes_221 (by decide) ?_
          refine lv_iload_n hx hb dX12_goes_223 rfl (lv_at hl 1 rfl) ?_
          refine lv_iadd hx hb dX12_goes_224 ?_
          obtain ⟨hi_225, hf⟩ := gd_s hf
          refine r_iald C hP 1 rfl hi_225 dX12_goes_225 ?_
          refine lv_iadd hx hb dX12_goes_226 ?_
          refine lv_iload hx hb dX12_goes_227 (lv_at hl 2 rfl) ?_
          obtain ⟨hi_229, hf⟩ := gd_s hf
          refine r_iast (ws' := (wX12_goes E h h_inn h_tape h_far h_from h_real h_other h_kept h_set h_w h_book h_noteSort h_whose h_what h_noteIs h_fitting h_dawn h_likes h_walked h_came h_inn_creak h_inn_doorA h_inn_doorB h_inn_how h_inn_lies h_inn_isCold h_inn_falls h_inn_isFull h_inn_isTold h_inn_act h_inn_what h_inn_then h_inn_met h_inn_bed h_inn_dream h_inn_listens h_inn_name h_inn_nameSort h_inn_nameNumber v_thrown v_trouble v_where v_read v_taped v_size v_at v_sort v_place v_sign v_number v_fault v_wrongAt v_word v_marks v_notes (upd (upd (upd (upd v_w x172_s1.toNatClampNeg x172_s2) (33 + r_140).toNatClampNeg (((upd v_w x172_s1.toNatClampNeg x172_s2) (33 + r_140).toNatClampNeg) + 1)) (0 + p0).toNatClampNeg x126_5) (15 + ((upd (upd (upd v_w x172_s1.toNatClampNeg x172_s2) (33 + r_140).toNatClampNeg (((upd v_w x172_s1.toNatClampNeg x172_s2) (33 + r_140).toNatClampNeg) + 1)) (0 + p0).toNatClampNeg x126_5) (6 + p0).toNatClampNeg)).toNatClampNeg x126_5) v_inn_minutes v_inn_rooms v_inn_doors v_inn_things v_inn_dreams v_inn_sleepers v_inn_listeners v_inn_names v_inn_doorA v_from_19 v_inn_doorB v_inn_falls v_inn_creak v_inn_listens v_far v_inn_isCold v_inn_isTold v_inn_met)) C hP hD hS 1 rfl hi_229 rfl dX12_goes_229 ?_
          clear hP hD hS; intro H locs hP hD hS
          exact hj230 (upd (upd (upd (upd v_w x172_s1.toNatClampNeg x172_s2) (33 + r_140).toNatClampNeg (((upd v_w x172_s1.toNatClampNeg x172_s2) (33 + r_140).toNatClampNeg) + 1)) (0 + p0).toNatClampNeg x126_5) (15 + ((upd (upd (upd v_w x172_s1.toNatClampNeg x172_s2) (33 + r_140).toNatClampNeg (((upd v_w x172_s1.toNatClampNeg x172_s2) (33 + r_140).toNatClampNeg) + 1)) (0 + p0).toNatClampNeg x126_5) (6 + p0).toNatClampNeg)).toNatClampNeg x126_5) hf _ _ _ (lv_sub hl [0, 1, 2] rfl) hP hD hS
      clear ej172
      refine lv_if_eq (tgt := 171) hx hb dX12_goes_164 (by decide) (fun c_164 => ?_) (fun c_164 => ?_)
      · replace hf := it_t c_164 hf
        refine lv_iconst (v := 0) hx hb dX12_goes_171 (by decide) ?_
        exact hj172 (23 + r_140) 0 hf _ _ _ (lv_sub hl [1, 2, 4, 0] rfl) hP hD hS
      · replace hf := it_f c_164 hf
        refine lv_iconst (v := 1) hx hb dX12_goes_167 (by decide) ?_
        refine lv_goto (tgt := 172) hx hb dX12_goes_168 (by decide) ?_
        exact hj172 (23 + r_140) 1 hf _ _ _ (lv_sub hl [1, 2, 4, 0] rfl) hP hD hS
    · replace hf := it_t c_129 hf
      cases hf
      rw [hQ]
      exact r_vret C hr hP hD hS dX12_goes_132
  clear eK126
  have key28 : ∀ (n : Nat) (x28_5 : Int32) (x28_6 : Int32) , lp (BX12_goes_28 v_inn_rooms N r_10 v_from_19 v_w p0 v_inn_doors v_inn_doorA v_inn_doorB K126) n (x28_5, x28_6) = some (z0, z1) → AT p l e (rmOf 2 45) s m args below meth c E A Q 0 0 9 [(0, .ref h), (1, .int p0), (3, .int (v_w (0 + p0).toNatClampNeg)), (4, .int r_10), (5, .int x28_5), (6, .int x28_6)] (wX12_goes E h h_inn h_tape h_far h_from h_real h_other h_kept h_set h_w h_book h_noteSort h_whose h_what h_noteIs h_fitting h_dawn h_likes h_walked h_came h_inn_creak h_inn_doorA h_inn_doorB h_inn_how h_inn_lies h_inn_isCold h_inn_falls h_inn_isFull h_inn_isTold h_inn_act h_inn_what h_inn_then h_inn_met h_inn_bed h_inn_dream h_inn_listens h_inn_name h_inn_nameSort h_inn_nameNumber v_thrown v_trouble v_where v_read v_taped v_size v_at v_sort v_place v_sign v_number v_fault v_wrongAt v_word v_marks v_notes v_w v_inn_minutes v_inn_rooms v_inn_doors v_inn_things v_inn_dreams v_inn_sleepers v_inn_listeners v_inn_names v_inn_doorA v_from_19 v_inn_doorB v_inn_falls v_inn_creak v_inn_listens v_far v_inn_isCold v_inn_isTold v_inn_met) 28 [] := by
    intro n
    induction n with
    | zero => intro x28_5 x28_6 hf; exact (lp_0 hf).elim
    | succ n ih28 =>
      intro x28_5 x28_6 hf H locs ls hl hP hD hS
      replace hf := lp_s hf
      generalize lp (BX12_goes_28 v_inn_rooms N r_10 v_from_19 v_w p0 v_inn_doors v_inn_doorA v_inn_doorB K126) n = rec28 at ih28 hf
      unfold BX12_goes_28 at hf
      replace hf := un2_s hf
      refine lv_iload hx hb dX12_goes_28 (lv_at hl 5 rfl) ?_
      refine lv_aload_n hx hb dX12_goes_30 rfl (lv_at hl 0 rfl) ?_
      refine r_get C hP 0 rfl fl_X12_358 rfl dX12_goes_31 ?_
      refine r_get C hP 2 rfl fl_X12_244 rfl dX12_goes_34 ?_
      refine lv_icmp_ge (tgt := 126) hx hb dX12_goes_37 (by decide) (fun c_37 => ?_) (fun c_37 => ?_)
      · replace hf := it_t c_37 hf
        exact hK126 x28_5 hf _ _ _ (lv_sub hl [0, 1, 2, 4] rfl) hP hD hS
      · replace hf := it_f c_37 hf
        refine lv_iload hx hb dX12_goes_40 (lv_at hl 5 rfl) ?_
        refine lv_iload_n hx hb dX12_goes_42 rfl (lv_at hl 2 rfl) ?_
        refine jnK hf (fun j60 ej60 hf => ?_)
        have hj60 : ∀ (x60_s0 : Int32) , j60 x60_s0 = some (z0, z1) → AT p l e (rmOf 2 45) s m args below meth c E A Q 0 0 9 [(0, .ref h), (1, .int p0), (3, .int (v_w (0 + p0).toNatClampNeg)), (4, .int r_10), (5, .int x28_5), (6, .int x28_6)] (wX12_goes E h h_inn h_tape h_far h_from h_real h_other h_kept h_set h_w h_book h_noteSort h_whose h_what h_noteIs h_fitting h_dawn h_likes h_walked h_came h_inn_creak h_inn_doorA h_inn_doorB h_inn_how h_inn_lies h_inn_isCold h_inn_falls h_inn_isFull h_inn_isTold h_inn_act h_inn_what h_inn_then h_inn_met h_inn_bed h_inn_dream h_inn_listens h_inn_name h_inn_nameSort h_inn_nameNumber v_thrown v_trouble v_where v_read v_taped v_size v_at v_sort v_place v_sign v_number v_fault v_wrongAt v_word v_marks v_notes v_w v_inn_minutes v_inn_rooms v_inn_doors v_inn_things v_inn_dreams v_inn_sleepers v_inn_listeners v_inn_names v_inn_doorA v_from_19 v_inn_doorB v_inn_falls v_inn_creak v_inn_listens v_far v_inn_isCold v_inn_isTold v_inn_met) 60 [.int x60_s0] := by
          intro x60_s0 hf H locs ls hl hP hD hS
          rw [ej60] at hf
          replace hf := un1_s hf
          refine lv_istore (lv' := [(7, .int x60_s0), (0, .ref h), (1, .int p0), (3, .int (v_w (0 + p0).toNatClampNeg)), (4, .int r_10), (5, .int x28_5), (6, .int x28_6)]) hx hb dX12_goes_60 hl (by decide) rfl (fun ls hl => ?_)
          refine lv_iload hx hb dX12_goes_62 (lv_at hl 0 rfl) ?_
          refine lv_iconst (v := (-1)) hx hb dX12_goes_64 (by decide) ?_
          refine jnK hf (fun j120 ej120 hf => ?_)
          have hj120 : ∀ (x120_5 : Int32) , j120 x120_5 = some (z0, z1) → AT p l e (rmOf 2 45) s m args below meth c E A Q 0 0 9 [(0, .ref h), (1, .int p0), (3, .int (v_w (0 + p0).toNatClampNeg)), (4, .int r_10), (5, .int x120_5), (6, .int x28_6)] (wX12_goes E h h_inn h_tape h_far h_from h_real h_other h_kept h_set h_w h_book h_noteSort h_whose h_what h_noteIs h_fitting h_dawn h_likes h_walked h_came h_inn_creak h_inn_doorA h_inn_doorB h_inn_how h_inn_lies h_inn_isCold h_inn_falls h_inn_isFull h_inn_isTold h_inn_act h_inn_what h_inn_then h_inn_met h_inn_bed h_inn_dream h_inn_listens h_inn_name h_inn_nameSort h_inn_nameNumber v_thrown v_trouble v_where v_read v_taped v_size v_at v_sort v_place v_sign v_number v_fault v_wrongAt v_word v_marks v_notes v_w v_inn_minutes v_inn_rooms v_inn_doors v_inn_things v_inn_dreams v_inn_sleepers v_inn_listeners v_inn_names v_inn_doorA v_from_19 v_inn_doorB v_inn_falls v_inn_creak v_inn_listens v_far v_inn_isCold v_inn_isTold v_inn_met) 120 [] := by
            intro x120_5 hf H locs ls hl hP hD hS
            rw [ej120] at hf
            replace hf := un1_s hf
            refine lv_iinc (v := x28_6 + 1) (lv' := [(6, .int (x28_6 + 1)), (0, .ref h), (1, .int p0), (3, .int (v_w (0 + p0).toNatClampNeg)), (4, .int r_10), (5, .int x120_5)]) hx hb dX12_goes_120 hl (k := 5) rfl rfl (by decide) rfl (fun ls hl => ?_)
            refine lv_goto (tgt := 28) hx hb dX12_goes_123 (by decide) ?_
            exact ih28 x120_5 (x28_6 + 1) hf _ _ _ (lv_sub hl [1, 2, 3, 4, 5, 0] rfl) hP hD hS
          clear ej120
          refine lv_icmp_eq (tgt := 120) hx hb dX12_goes_65 (by decide) (fun c_65 => ?_) (fun c_65 => ?_)
          · replace hf := it_t c_65 hf
            exact hj120 x28_5 hf _ _ _ (lv_sub hl [1, 2, 3, 4, 5, 6] rfl) hP hD hS
          · replace hf := it_f c_65 hf
            refine lv_iload hx hb dX12_goes_68 (lv_at hl 4 rfl) ?_
            refine lv_iload hx hb dX12_goes_70 (lv_at hl 0 rfl) ?_
            obtain ⟨r_72, hc_72, hf⟩ := bd1 hf
            refine r_callSi (ws' := (wX12_goes E h h_inn h_tape h_far h_from h_real h_other h_kept h_set h_w h_book h_noteSort h_whose h_what h_noteIs h_fitting h_dawn h_likes h_walked h_came h_inn_creak h_inn_doorA h_inn_doorB h_inn_how h_inn_lies h_inn_isCold h_inn_falls h_inn_isFull h_inn_isTold h_inn_act h_inn_what h_inn_then h_inn_met h_inn_bed h_inn_dream h_inn_listens h_inn_name h_inn_nameSort h_inn_nameNumber v_thrown v_trouble v_where v_read v_taped v_size v_at v_sort v_place v_sign v_number v_fault v_wrongAt v_word v_marks v_notes v_w v_inn_minutes v_inn_rooms v_inn_doors v_inn_things v_inn_dreams v_inn_sleepers v_inn_listeners v_inn_names v_inn_doorA v_from_19 v_inn_doorB v_inn_falls v_inn_creak v_inn_listens v_far v_inn_isCold v_inn_isTold v_inn_met)) (As := [.int r_10, .int x60_s0]) (rest := []) C (ctX12_has l E N r_10 x60_s0 r_72 hc_72) ml_X12_372 ⟨Nat.le_of_ble_eq_true rfl, Nat.le_of_ble_eq_true rfl⟩ hP hD hS [] rfl rfl rfl rfl rfl hl.1 rfl (Nat.le_of_ble_eq_true rfl) ⟨Nat.zero_le _, Nat.zero_le _⟩ dX12_goes_72 ?_
            clear hP hD hS; intro H locs hP hD hS
            refine lv_if_ne (tgt := 120) hx hb dX12_goes_75 (by decide) (fun c_75 => ?_) (fun c_75 => ?_)
            · replace hf := it_f c_75 hf
              exact hj120 x28_5 hf _ _ _ (lv_sub hl [1, 2, 3, 4, 5, 6] rfl) hP hD hS
            · replace hf := it_t c_75 hf
              refine lv_aload_n hx hb dX12_goes_78 rfl (lv_at hl 1 rfl) ?_
              refine r_get C hP 0 rfl fl_X12_21 rfl dX12_goes_79 ?_
              refine lv_iload hx hb dX12_goes_82 (lv_at hl 6 rfl) ?_
              obtain ⟨hi_84, hf⟩ := gd_s hf
              refine r_iald C hP 4 rfl hi_84 dX12_goes_84 ?_
              refine lv_bipush (v := 99) hx hb dX12_goes_85 (by decide) ?_
              refine lv_icmp_ne (tgt := 93) hx hb dX12_goes_87 (by decide) (fun c_87 => ?_) (fun c_87 => ?_)
              · replace hf := it_f c_87 hf
                refine lv_iload hx hb dX12_goes_93 (lv_at hl 5 rfl) ?_
                refine lv_iconst (v := (-1)) hx hb dX12_goes_95 (by decide) ?_
                refine jnK hf (fun j116 ej116 hf => ?_)
                have hj116 : j116 () = some (z0, z1) → AT p l e (rmOf 2 45) s m args below meth c E A Q 0 0 9 [(0, .ref h), (1, .int p0), (3, .int (v_w (0 + p0).toNatClampNeg)), (4, .int r_10), (6, .int x28_6)] (wX12_goes E h h_inn h_tape h_far h_from h_real h_other h_kept h_set h_w h_book h_noteSort h_whose h_what h_noteIs h_fitting h_dawn h_likes h_walked h_came h_inn_creak h_inn_doorA h_inn_doorB h_inn_how h_inn_lies h_inn_isCold h_inn_falls h_inn_isFull h_inn_isTold h_inn_act h_inn_what h_inn_then h_inn_met h_inn_bed h_inn_dream h_inn_listens h_inn_name h_inn_nameSort h_inn_nameNumber v_thrown v_trouble v_where v_read v_taped v_size v_at v_sort v_place v_sign v_number v_fault v_wrongAt v_word v_marks v_notes v_w v_inn_minutes v_inn_rooms v_inn_doors v_inn_things v_inn_dreams v_inn_sleepers v_inn_listeners v_inn_names v_inn_doorA v_from_19 v_inn_doorB v_inn_falls v_inn_creak v_inn_listens v_far v_inn_isCold v_inn_isTold v_inn_met) 116 [] := by
                  intro  hf H locs ls hl hP hD hS
                  rw [ej116] at hf
                  replace hf := un0_s hf
                  refine lv_iload hx hb dX12_goes_116 (lv_at hl 4 rfl) ?_
                  refine lv_istore (lv' := [(5, .int x28_6), (0, .ref h), (1, .int p0), (3, .int (v_w (0 + p0).toNatClampNeg)), (4, .int r_10), (6, .int x28_6)]) hx hb dX12_goes_118 hl (by decide) rfl (fun ls hl => ?_)
                  exact hj120 x28_6 hf _ _ _ (lv_sub hl [1, 2, 3, 4, 0, 5] rfl) hP hD hS
                clear ej116
                refine lv_icmp_eq (tgt := 116) hx hb dX12_goes_96 (by decide) (fun c_96 => ?_) (fun c_96 => ?_)
                · replace hf := it_t c_96 hf
                  exact hj116  hf _ _ _ (lv_sub hl [1, 2, 3, 4, 6] rfl) hP hD hS
                · replace hf := it_f c_96 hf
                  refine lv_aload_n hx hb dX12_goes_99 rfl (lv_at hl 1 rfl) ?_
                  refine r_get C hP 0 rfl fl_X12_21 rfl dX12_goes_100 ?_
                  refine lv_iload hx hb dX12_goes_103 (lv_at hl 6 rfl) ?_
                  obtain ⟨hi_105, hf⟩ := gd_s hf
                  refine r_iald C hP 4 rfl hi_105 dX12_goes_105 ?_
                  refine lv_aload_n hx hb dX12_goes_106 rfl (lv_at hl 1 rfl) ?_
                  refine r_get C hP 0 rfl fl_X12_21 rfl dX12_goes_107 ?_
                  refine lv_iload hx hb dX12_goes_110 (lv_at hl 5 rfl) ?_
                  obtain ⟨hi_112, hf⟩ := gd_s hf
                  refine r_iald C hP 4 rfl hi_112 dX12_goes_112 ?_
                  refine lv_icmp_ge (tgt := 120) hx hb dX12_goes_113 (by decide) (fun c_113 => ?_) (fun c_113 => ?_)
                  · replace hf := it_t c_113 hf
                    exact hj120 x28_5 hf _ _ _ (lv_sub hl [1, 2, 3, 4, 5, 6] rfl) hP hD hS
                  · replace hf := it_f c_113 hf
                    exact hj116  hf _ _ _ (lv_sub hl [1, 2, 3, 4, 6] rfl) hP hD hS
              · replace hf := it_t c_87 hf
                refine lv_goto (tgt := 120) hx hb dX12_goes_90 (by decide) ?_
                exact hj120 x28_5 hf _ _ _ (lv_sub hl [1, 2, 3, 4, 5, 6] rfl) hP hD hS
        clear ej60
        refine lv_icmp_ne (tgt := 50) hx hb dX12_goes_43 (by decide) (fun c_43 => ?_) (fun c_43 => ?_)
        · replace hf := it_f c_43 hf
          refine lv_aload_n hx hb dX12_goes_50 rfl (lv_at hl 0 rfl) ?_
          refine r_get C hP 0 rfl fl_X12_358 rfl dX12_goes_51 ?_
          refine lv_iload_n hx hb dX12_goes_54 rfl (lv_at hl 2 rfl) ?_
          refine lv_iload hx hb dX12_goes_55 (lv_at hl 5 rfl) ?_
          obtain ⟨r_57, hc_57, hf⟩ := bd1 hf
          refine r_callVi (ws' := (wX12_goes E h h_inn h_tape h_far h_from h_real h_other h_kept h_set h_w h_book h_noteSort h_whose h_what h_noteIs h_fitting h_dawn h_likes h_walked h_came h_inn_creak h_inn_doorA h_inn_doorB h_inn_how h_inn_lies h_inn_isCold h_inn_falls h_inn_isFull h_inn_isTold h_inn_act h_inn_what h_inn_then h_inn_met h_inn_bed h_inn_dream h_inn_listens h_inn_name h_inn_nameSort h_inn_nameNumber v_thrown v_trouble v_where v_read v_taped v_size v_at v_sort v_place v_sign v_number v_fault v_wrongAt v_word v_marks v_notes v_w v_inn_minutes v_inn_rooms v_inn_doors v_inn_things v_inn_dreams v_inn_sleepers v_inn_listeners v_inn_names v_inn_doorA v_from_19 v_inn_doorB v_inn_falls v_inn_creak v_inn_listens v_far v_inn_isCold v_inn_isTold v_inn_met)) (As := [.int (v_w (0 + p0).toNatClampNeg), .int x28_6]) (rest := []) C (ctX11_between l E h_inn h_inn_creak h_inn_doorA h_inn_doorB h_inn_how h_inn_lies h_inn_isCold h_inn_falls h_inn_isFull h_inn_isTold h_inn_act h_inn_what h_inn_then h_inn_met h_inn_bed h_inn_dream h_inn_listens h_inn_name h_inn_nameSort h_inn_nameNumber v_inn_minutes v_inn_rooms v_inn_doors v_inn_things v_inn_dreams v_inn_sleepers v_inn_listeners v_inn_names v_inn_doorA v_inn_doorB N (v_w (0 + p0).toNatClampNeg) x28_6 r_57 hc_57) ml_X12_301 ⟨Nat.le_of_ble_eq_true rfl, Nat.le_of_ble_eq_true rfl⟩ hP hD hS 2 rfl rfl rfl [2, 3, 5] rfl rfl rfl rfl rfl hl.1 rfl (Nat.le_of_ble_eq_true rfl) ⟨Nat.zero_le _, Nat.zero_le _⟩ dX12_goes_57 ?_
          clear hP hD hS; intro H locs hP hD hS
          exact hj60 r_57 hf _ _ _ (lv_sub hl [0, 1, 2, 3, 4, 5] rfl) hP hD hS
        · replace hf := it_t c_43 hf
          refine lv_iconst (v := (-1)) hx hb dX12_goes_46 (by decide) ?_
          refine lv_goto (tgt := 60) hx hb dX12_goes_47 (by decide) ?_
          exact hj60 (-1) hf _ _ _ (lv_sub hl [0, 1, 2, 3, 4, 5] rfl) hP hD hS
  exact key28 _ (-1) 0 hf _ _ _ (lv_sub hl [4, 5, 3, 2, 1, 0] rfl) hP hD hS
def wX12_holder (E : EN) (h h_inn h_tape h_far h_from h_real h_other h_kept h_set h_w h_book h_noteSort h_whose h_what h_noteIs h_fitting h_dawn h_likes h_walked h_came h_inn_creak h_inn_doorA h_inn_doorB h_inn_how h_inn_lies h_inn_isCold h_inn_falls h_inn_isFull h_inn_isTold h_inn_act h_inn_what h_inn_then h_inn_met h_inn_bed h_inn_dream h_inn_listens h_inn_name h_inn_nameSort h_inn_nameNumber : Nat) (v_thrown : Int32) (v_trouble : Int32) (v_where : Int32) (v_read : Option Nat) (v_taped : Int32) (v_size : Int32) (v_at : Int32) (v_sort : Int32) (v_place : Int32) (v_sign : Int32) (v_number : Int32) (v_fault : Int32) (v_wrongAt : Int32) (v_word : Int64) (v_marks : Int32) (v_notes : Int32) (v_inn_minutes : Int32) (v_inn_rooms : Int32) (v_inn_doors : Int32) (v_inn_things : Int32) (v_inn_dreams : Int32) (v_inn_sleepers : Int32) (v_inn_listeners : Int32) (v_inn_names : Int32) (v_w : Nat → Int32) : va_W := [(h, .inr (11, [.int v_thrown, .int v_trouble, .int v_where, .ref h_inn, va_rf v_read, .ref h_tape, .int v_taped, .int v_size, .int v_at, .int v_sort, .int v_place, .int v_sign, .int v_number, .int v_fault, .int v_wrongAt, .long v_word, .ref h_far, .ref h_from, .ref h_real, .ref h_other, .ref h_kept, .ref h_set, .ref h_w, .int v_marks, .int v_notes, .ref h_book, .ref h_noteSort, .ref h_whose, .ref h_what, .ref h_noteIs, .ref h_fitting, .ref h_dawn, .ref h_likes, .ref h_walked, .ref h_came])), (h_inn, .inr (10, [.int v_inn_minutes, .int v_inn_rooms, .int v_inn_doors, .int v_inn_things, .int v_inn_dreams, .int v_inn_sleepers, .int v_inn_listeners, .int v_inn_names, .ref h_inn_creak, .ref h_inn_doorA, .ref h_inn_doorB, .ref h_inn_how, .ref h_inn_lies, .ref h_inn_isCold, .ref h_inn_falls, .ref h_inn_isFull, .ref h_inn_isTold, .ref h_inn_act, .ref h_inn_what, .ref h_inn_then, .ref h_inn_met, .ref h_inn_bed, .ref h_inn_dream, .ref h_inn_listens, .ref h_inn_name, .ref h_inn_nameSort, .ref h_inn_nameNumber])), (h_w, aI E 51 v_w)]
def BX12_holder_2 (v_inn_sleepers : Int32) (v_w : Nat → Int32) (p0 : Int32) (rec2 : (Int32) → Option Int32) : (Int32) → Option Int32 := un1 fun (x2_2 : Int32) => if v_inn_sleepers ≤ x2_2 then (some (-2)) else (gd (6 + x2_2) 51 (if (v_w (6 + x2_2).toNatClampNeg) = p0 then (some x2_2) else (rec2 (x2_2 + 1))))
def fX12_holder (N : Nat) (p0 : Int32) (v_inn_sleepers : Int32) (v_w : Nat → Int32) : Option Int32 := lp (BX12_holder_2 v_inn_sleepers v_w p0) N 0
set_option maxHeartbeats 4000000 in
set_option maxRecDepth 100000 in
theorem ctX12_holder (l : Launch) (E : EN) (h h_inn h_tape h_far h_from h_real h_other h_kept h_set h_w h_book h_noteSort h_whose h_what h_noteIs h_fitting h_dawn h_likes h_walked h_came h_inn_creak h_inn_doorA h_inn_doorB h_inn_how h_inn_lies h_inn_isCold h_inn_falls h_inn_isFull h_inn_isTold h_inn_act h_inn_what h_inn_then h_inn_met h_inn_bed h_inn_dream h_inn_listens h_inn_name h_inn_nameSort h_inn_nameNumber : Nat) (v_thrown : Int32) (v_trouble : Int32) (v_where : Int32) (v_read : Option Nat) (v_taped : Int32) (v_size : Int32) (v_at : Int32) (v_sort : Int32) (v_place : Int32) (v_sign : Int32) (v_number : Int32) (v_fault : Int32) (v_wrongAt : Int32) (v_word : Int64) (v_marks : Int32) (v_notes : Int32) (v_inn_minutes : Int32) (v_inn_rooms : Int32) (v_inn_doors : Int32) (v_inn_things : Int32) (v_inn_dreams : Int32) (v_inn_sleepers : Int32) (v_inn_listeners : Int32) (v_inn_names : Int32) (v_w : Nat → Int32) (N : Nat) (p0 : Int32) (z0 : Int32) (hf : fX12_holder N p0 v_inn_sleepers v_w = some z0) : CTi l E yX12_holder cX12_holder 3 .int 0 0 [.ref h, .int p0] (wX12_holder E h h_inn h_tape h_far h_from h_real h_other h_kept h_set h_w h_book h_noteSort h_whose h_what h_noteIs h_fitting h_dawn h_likes h_walked h_came h_inn_creak h_inn_doorA h_inn_doorB h_inn_how h_inn_lies h_inn_isCold h_inn_falls h_inn_isFull h_inn_isTold h_inn_act h_inn_what h_inn_then h_inn_met h_inn_bed h_inn_dream h_inn_listens h_inn_name h_inn_nameSort h_inn_nameNumber v_thrown v_trouble v_where v_read v_taped v_size v_at v_sort v_place v_sign v_number v_fault v_wrongAt v_word v_marks v_notes v_inn_minutes v_inn_rooms v_inn_doors v_inn_things v_inn_dreams v_inn_sleepers v_inn_listeners v_inn_names v_w) z0 (wX12_holder E h h_inn h_tape h_far h_from h_real h_other h_kept h_set h_w h_book h_noteSort h_whose h_what h_noteIs h_fitting h_dawn h_likes h_walked h_came h_inn_creak h_inn_doorA h_inn_doorB h_inn_how h_inn_lies h_inn_isCold h_inn_falls h_inn_isFull h_inn_isTold h_inn_act h_inn_what h_inn_then h_inn_met h_inn_bed h_inn_dream h_inn_listens h_inn_name h_inn_nameSort h_inn_nameNumber v_thrown v_trouble v_where v_read v_taped v_size v_at v_sort v_place v_sign v_number v_fault v_wrongAt v_word v_marks v_notes v_inn_minutes v_inn_rooms v_inn_doors v_inn_things v_inn_dreams v_inn_sleepers v_inn_listeners v_inn_names v_w) := by
  intro sz
  refine ct_body (by decide) (Nat.le_of_ble_eq_true rfl) ?_
  intro p e s m args below meth c A ls hAe C hr hin hP hD hS hl
  have C : CX p s m args meth c cX12_holder RX12 3 E A := C
  have hl : lv_has ls 3 [(0, .ref h), (1, .int p0)] := hl
  have hx := C.1
  have hb := C.2.1
  rw [hAe]
  clear hAe
  obtain ⟨Q, hQ⟩ : ∃ Q, Q = MQ below (Qi E A z0 (wX12_holder E h h_inn h_tape h_far h_from h_real h_other h_kept h_set h_w h_book h_noteSort h_whose h_what h_noteIs h_fitting h_dawn h_likes h_walked h_came h_inn_creak h_inn_doorA h_inn_doorB h_inn_how h_inn_lies h_inn_isCold h_inn_falls h_inn_isFull h_inn_isTold h_inn_act h_inn_what h_inn_then h_inn_met h_inn_bed h_inn_dream h_inn_listens h_inn_name h_inn_nameSort h_inn_nameNumber v_thrown v_trouble v_where v_read v_taped v_size v_at v_sort v_place v_sign v_number v_fault v_wrongAt v_word v_marks v_notes v_inn_minutes v_inn_rooms v_inn_doors v_inn_things v_inn_dreams v_inn_sleepers v_inn_listeners v_inn_names v_w)) args s 0 0 A := ⟨_, rfl⟩
  rw [← hQ]
  unfold fX12_holder at hf
  refine lv_iconst (v := 0) hx hb dX12_holder_0 (by decide) ?_
  refine lv_istore_n (lv' := [(2, .int 0), (0, .ref h), (1, .int p0)]) hx hb dX12_holder_1 rfl hl (by decide) rfl (fun ls hl => ?_)
  have key2 : ∀ (n : Nat) (x2_2 : Int32) , lp (BX12_holder_2 v_inn_sleepers v_w p0) n x2_2 = some z0 → AT p l e (rmOf 0 0) s m args below meth c E A Q 0 0 3 [(0, .ref h), (1, .int p0), (2, .int x2_2)] (wX12_holder E h h_inn h_tape h_far h_from h_real h_other h_kept h_set h_w h_book h_noteSort h_whose h_what h_noteIs h_fitting h_dawn h_likes h_walked h_came h_inn_creak h_inn_doorA h_inn_doorB h_inn_how h_inn_lies h_inn_isCold h_inn_falls h_inn_isFull h_inn_isTold h_inn_act h_inn_what h_inn_then h_inn_met h_inn_bed h_inn_dream h_inn_listens h_inn_name h_inn_nameSort h_inn_nameNumber v_thrown v_trouble v_where v_read v_taped v_size v_at v_sort v_place v_sign v_number v_fault v_wrongAt v_word v_marks v_notes v_inn_minutes v_inn_rooms v_inn_doors v_inn_things v_inn_dreams v_inn_sleepers v_inn_listeners v_inn_names v_w) 2 [] := by
    intro n
    induction n with
    | zero => intro x2_2 hf; exact (lp_0 hf).elim
    | succ n ih2 =>
      intro x2_2 hf H locs ls hl hP hD hS
      replace hf := lp_s hf
      generalize lp (BX12_holder_2 v_inn_sleepers v_w p0) n = rec2 at ih2 hf
      unfold BX12_holder_2 at hf
      replace hf := un1_s hf
      refine lv_iload_n hx hb dX12_holder_2 rfl (lv_at hl 2 rfl) ?_
      refine lv_aload_n hx hb dX12_holder_3 rfl (lv_at hl 0 rfl) ?_
      refine r_get C hP 0 rfl fl_X12_358 rfl dX12_holder_4 ?_
      refine r_get C hP 1 rfl fl_X12_247 rfl dX12_holder_7 ?_
      refine lv_icmp_ge (tgt := 34) hx hb dX12_holder_10 (by decide) (fun c_10 => ?_) (fun c_10 => ?_)
      · replace hf := it_t c_10 hf
        refine lv_bipush (v := (-2)) hx hb dX12_holder_34 (by decide) ?_
        cases hf
        rw [hQ]
        exact r_iret C hr hP hD hS rfl dX12_holder_36
      · replace hf := it_f c_10 hf
        refine lv_aload_n hx hb dX12_holder_13 rfl (lv_at hl 0 rfl) ?_
        refine r_get C hP 0 rfl fl_X12_36 rfl dX12_holder_14 ?_
        refine lv_bipush (v := 6) hx hb dX12_holder_17 (by decide) ?_
        refine lv_iload_n hx hb dX12_holder_19 rfl (lv_at hl 2 rfl) ?_
        refine lv_iadd hx hb dX12_holder_20 ?_
        obtain ⟨hi_21, hf⟩ := gd_s hf
        refine r_iald C hP 2 rfl hi_21 dX12_holder_21 ?_
        refine lv_iload_n hx hb dX12_holder_22 rfl (lv_at hl 1 rfl) ?_
        refine lv_icmp_ne (tgt := 28) hx hb dX12_holder_23 (by decide) (fun c_23 => ?_) (fun c_23 => ?_)
        · replace hf := it_f c_23 hf
          refine lv_iinc (v := x2_2 + 1) (lv' := [(2, .int (x2_2 + 1)), (0, .ref h), (1, .int p0)]) hx hb dX12_holder_28 hl (k := 2) rfl rfl (by decide) rfl (fun ls hl => ?_)
          refine lv_goto (tgt := 2) hx hb dX12_holder_31 (by decide) ?_
          exact ih2 (x2_2 + 1) hf _ _ _ (lv_sub hl [1, 2, 0] rfl) hP hD hS
        · replace hf := it_t c_23 hf
          refine lv_iload_n hx hb dX12_holder_26 rfl (lv_at hl 2 rfl) ?_
          cases hf
          rw [hQ]
          exact r_iret C hr hP hD hS rfl dX12_holder_27
  exact key2 _ 0 hf _ _ _ (lv_sub hl [1, 2, 0] rfl) hP hD hS
def wX12_does (E : EN) (h h_inn h_tape h_far h_from h_real h_other h_kept h_set h_w h_book h_noteSort h_whose h_what h_noteIs h_fitting h_dawn h_likes h_walked h_came h_inn_creak h_inn_doorA h_inn_doorB h_inn_how h_inn_lies h_inn_isCold h_inn_falls h_inn_isFull h_inn_isTold h_inn_act h_inn_what h_inn_then h_inn_met h_inn_bed h_inn_dream h_inn_listens h_inn_name h_inn_nameSort h_inn_nameNumber : Nat) (v_thrown : Int32) (v_trouble : Int32) (v_where : Int32) (v_read : Option Nat) (v_taped : Int32) (v_size : Int32) (v_at : Int32) (v_sort : Int32) (v_place : Int32) (v_sign : Int32) (v_number : Int32) (v_fault : Int32) (v_wrongAt : Int32) (v_word : Int64) (v_marks : Int32) (v_notes : Int32) (v_w : Nat → Int32) (v_inn_minutes : Int32) (v_inn_rooms : Int32) (v_inn_doors : Int32) (v_inn_things : Int32) (v_inn_dreams : Int32) (v_inn_sleepers : Int32) (v_inn_listeners : Int32) (v_inn_names : Int32) (v_inn_doorA : Nat → Int32) (v_inn_doorB : Nat → Int32) : va_W := [(h, .inr (11, [.int v_thrown, .int v_trouble, .int v_where, .ref h_inn, va_rf v_read, .ref h_tape, .int v_taped, .int v_size, .int v_at, .int v_sort, .int v_place, .int v_sign, .int v_number, .int v_fault, .int v_wrongAt, .long v_word, .ref h_far, .ref h_from, .ref h_real, .ref h_other, .ref h_kept, .ref h_set, .ref h_w, .int v_marks, .int v_notes, .ref h_book, .ref h_noteSort, .ref h_whose, .ref h_what, .ref h_noteIs, .ref h_fitting, .ref h_dawn, .ref h_likes, .ref h_walked, .ref h_came])), (h_w, aI E 51 v_w), (h_inn, .inr (10, [.int v_inn_minutes, .int v_inn_rooms, .int v_inn_doors, .int v_inn_things, .int v_inn_dreams, .int v_inn_sleepers, .int v_inn_listeners, .int v_inn_names, .ref h_inn_creak, .ref h_inn_doorA, .ref h_inn_doorB, .ref h_inn_how, .ref h_inn_lies, .ref h_inn_isCold, .ref h_inn_falls, .ref h_inn_isFull, .ref h_inn_isTold, .ref h_inn_act, .ref h_inn_what, .ref h_inn_then, .ref h_inn_met, .ref h_inn_bed, .ref h_inn_dream, .ref h_inn_listens, .ref h_inn_name, .ref h_inn_nameSort, .ref h_inn_nameNumber])), (h_inn_doorA, aI E 10 v_inn_doorA), (h_inn_doorB, aI E 10 v_inn_doorB)]
def fX12_does (N : Nat) (p0 : Int32) (p1 : Int32) (p2 : Int32) (v_w : Nat → Int32) (v_inn_doors : Int32) (v_inn_sleepers : Int32) (v_inn_doorA : Nat → Int32) (v_inn_doorB : Nat → Int32) : Option (Int32 × (Nat → Int32)) := gd (0 + p0) 51 (if p1 = 1 then (gd (15 + p2) 51 (if (v_w (15 + p2).toNatClampNeg) = (v_w (0 + p0).toNatClampNeg) then ((fX12_holder N p2 v_inn_sleepers v_w).bind (un1 fun (r_31 : Int32) => if r_31 = (-2) then (gd (6 + p0) 51 (if (v_w (6 + p0).toNatClampNeg) = (-2) then (gd (6 + p0) 51 (some (1, upd v_w (6 + p0).toNatClampNeg p2))) else (some (0, v_w)))) else (some (0, v_w)))) else (some (0, v_w)))) else (if p1 = 2 then (gd (6 + p0) 51 (jn (un1 fun (x91_s0 : Int32) => gd (6 + p0) 51 (zg x91_s0 (some (x91_s0, upd v_w (6 + p0).toNatClampNeg (-2)))) (fun j91 => if (v_w (6 + p0).toNatClampNeg) = (-2) then (j91 0) else (j91 1)))) else (if p1 = 3 then (gd (15 + p2) 51 (if (v_w (15 + p2).toNatClampNeg) = (v_w (0 + p0).toNatClampNeg) then (gd (19 + p2) 51 (if (v_w (19 + p2).toNatClampNeg) = 0 then (some (0, v_w)) else (gd (19 + p2) 51 (some (1, upd v_w (19 + p2).toNatClampNeg 0))))) else (some (0, v_w)))) else (if p1 = 4 then (some (1, v_w)) else (jn (un1 fun (x179_s0 : Int32) => if x179_s0 = (-1) then (some (0, v_w)) else (gd (23 + x179_s0) 51 (if (v_w (23 + x179_s0).toNatClampNeg) = 0 then (gd (23 + x179_s0) 51 (some (1, upd v_w (23 + x179_s0).toNatClampNeg 1))) else (some (0, v_w))))) (fun j179 => if (v_w (0 + p0).toNatClampNeg) = p2 then (j179 (-1)) else ((fX11_between N (v_w (0 + p0).toNatClampNeg) p2 v_inn_doors v_inn_doorA v_inn_doorB).bind (un1 fun (r_176 : Int32) => j179 r_176))))))))
set_option maxHeartbeats 4000000 in
set_option maxRecDepth 100000 in
theorem ctX12_does (l : Launch) (E : EN) (h h_inn h_tape h_far h_from h_real h_other h_kept h_set h_w h_book h_noteSort h_whose h_what h_noteIs h_fitting h_dawn h_likes h_walked h_came h_inn_creak h_inn_doorA h_inn_doorB h_inn_how h_inn_lies h_inn_isCold h_inn_falls h_inn_isFull h_inn_isTold h_inn_act h_inn_what h_inn_then h_inn_met h_inn_bed h_inn_dream h_inn_listens h_inn_name h_inn_nameSort h_inn_nameNumber : Nat) (v_thrown : Int32) (v_trouble : Int32) (v_where : Int32) (v_read : Option Nat) (v_taped : Int32) (v_size : Int32) (v_at : Int32) (v_sort : Int32) (v_place : Int32) (v_sign : Int32) (v_number : Int32) (v_fault : Int32) (v_wrongAt : Int32) (v_word : Int64) (v_marks : Int32) (v_notes : Int32) (v_w : Nat → Int32) (v_inn_minutes : Int32) (v_inn_rooms : Int32) (v_inn_doors : Int32) (v_inn_things : Int32) (v_inn_dreams : Int32) (v_inn_sleepers : Int32) (v_inn_listeners : Int32) (v_inn_names : Int32) (v_inn_doorA : Nat → Int32) (v_inn_doorB : Nat → Int32) (N : Nat) (p0 : Int32) (p1 : Int32) (p2 : Int32) (z0 : Int32) (z1 : Nat → Int32) (hf : fX12_does N p0 p1 p2 v_w v_inn_doors v_inn_sleepers v_inn_doorA v_inn_doorB = some (z0, z1)) : CTi l E yX12_does cX12_does 6 .boolean 1 23 [.ref h, .int p0, .int p1, .int p2] (wX12_does E h h_inn h_tape h_far h_from h_real h_other h_kept h_set h_w h_book h_noteSort h_whose h_what h_noteIs h_fitting h_dawn h_likes h_walked h_came h_inn_creak h_inn_doorA h_inn_doorB h_inn_how h_inn_lies h_inn_isCold h_inn_falls h_inn_isFull h_inn_isTold h_inn_act h_inn_what h_inn_then h_inn_met h_inn_bed h_inn_dream h_inn_listens h_inn_name h_inn_nameSort h_inn_nameNumber v_thrown v_trouble v_where v_read v_taped v_size v_at v_sort v_place v_sign v_number v_fault v_wrongAt v_word v_marks v_notes v_w v_inn_minutes v_inn_rooms v_inn_doors v_inn_things v_inn_dreams v_inn_sleepers v_inn_listeners v_inn_names v_inn_doorA v_inn_doorB) z0 (wX12_does E h h_inn h_tape h_far h_from h_real h_other h_kept h_set h_w h_book h_noteSort h_whose h_what h_noteIs h_fitting h_dawn h_likes h_walked h_came h_inn_creak h_inn_doorA h_inn_doorB h_inn_how h_inn_lies h_inn_isCold h_inn_falls h_inn_isFull h_inn_isTold h_inn_act h_inn_what h_inn_then h_inn_met h_inn_bed h_inn_dream h_inn_listens h_inn_name h_inn_nameSort h_inn_nameNumber v_thrown v_trouble v_where v_read v_taped v_size v_at v_sort v_place v_sign v_number v_fault v_wrongAt v_word v_marks v_notes z1 v_inn_minutes v_inn_rooms v_inn_doors v_inn_things v_inn_dreams v_inn_sleepers v_inn_listeners v_inn_names v_inn_doorA v_inn_doorB) := by
  intro sz
  refine ct_body (by decide) (Nat.le_of_ble_eq_true rfl) ?_
  intro p e s m args below meth c A ls hAe C hr hin hP hD hS hl
  have C : CX p s m args meth c cX12_does RX12 6 E A := C
  have hl : lv_has ls 6 [(0, .ref h), (1, .int p0), (2, .int p1), (3, .int p2)] := hl
  have hx := C.1
  have hb := C.2.1
  rw [hAe]
  clear hAe
  obtain ⟨Q, hQ⟩ : ∃ Q, Q = MQ below (Qi E A z0 (wX12_does E h h_inn h_tape h_far h_from h_real h_other h_kept h_set h_w h_book h_noteSort h_whose h_what h_noteIs h_fitting h_dawn h_likes h_walked h_came h_inn_creak h_inn_doorA h_inn_doorB h_inn_how h_inn_lies h_inn_isCold h_inn_falls h_inn_isFull h_inn_isTold h_inn_act h_inn_what h_inn_then h_inn_met h_inn_bed h_inn_dream h_inn_listens h_inn_name h_inn_nameSort h_inn_nameNumber v_thrown v_trouble v_where v_read v_taped v_size v_at v_sort v_place v_sign v_number v_fault v_wrongAt v_word v_marks v_notes z1 v_inn_minutes v_inn_rooms v_inn_doors v_inn_things v_inn_dreams v_inn_sleepers v_inn_listeners v_inn_names v_inn_doorA v_inn_doorB)) args s 0 0 A := ⟨_, rfl⟩
  rw [← hQ]
  unfold fX12_does at hf
  refine lv_aload_n hx hb dX12_does_0 rfl (lv_at hl 0 rfl) ?_
  refine r_get C hP 0 rfl fl_X12_36 rfl dX12_does_1 ?_
  refine lv_iconst (v := 0) hx hb dX12_does_4 (by decide) ?_
  refine lv_iload_n hx hb dX12_does_5 rfl (lv_at hl 1 rfl) ?_
  refine lv_iadd hx hb dX12_does_6 ?_
  obtain ⟨hi_7, hf⟩ := gd_s hf
  refine r_iald C hP 1 rfl hi_7 dX12_does_7 ?_
  refine lv_istore (lv' := [(4, .int (v_w (0 + p0).toNatClampNeg)), (0, .ref h), (1, .int p0), (2, .int p1), (3, .int p2)]) hx hb dX12_does_8 hl (by decide) rfl (fun ls hl => ?_)
  refine lv_iload_n hx hb dX12_does_10 rfl (lv_at hl 3 rfl) ?_
  refine lv_iconst (v := 1) hx hb dX12_does_11 (by decide) ?_
  refine lv_icmp_ne (tgt := 67) hx hb dX12_does_12 (by decide) (fun c_12 => ?_) (fun c_12 => ?_)
  · replace hf := it_f c_12 hf
    refine lv_iload_n hx hb dX12_does_67 rfl (lv_at hl 3 rfl) ?_
    refine lv_iconst (v := 2) hx hb dX12_does_68 (by decide) ?_
    refine lv_icmp_ne (tgt := 107) hx hb dX12_does_69 (by decide) (fun c_69 => ?_) (fun c_69 => ?_)
    · replace hf := it_f c_69 hf
      refine lv_iload_n hx hb dX12_does_107 rfl (lv_at hl 3 rfl) ?_
      refine lv_iconst (v := 3) hx hb dX12_does_108 (by decide) ?_
      refine lv_icmp_ne (tgt := 152) hx hb dX12_does_109 (by decide) (fun c_109 => ?_) (fun c_109 => ?_)
      · replace hf := it_f c_109 hf
        refine lv_iload_n hx hb dX12_does_152 rfl (lv_at hl 3 rfl) ?_
        refine lv_iconst (v := 4) hx hb dX12_does_153 (by decide) ?_
        refine lv_icmp_ne (tgt := 159) hx hb dX12_does_154 (by decide) (fun c_154 => ?_) (fun c_154 => ?_)
        · replace hf := it_f c_154 hf
          refine lv_iload hx hb dX12_does_159 (lv_at hl 0 rfl) ?_
          refine lv_iload_n hx hb dX12_does_161 rfl (lv_at hl 4 rfl) ?_
          refine jnK hf (fun j179 ej179 hf => ?_)
          have hj179 : ∀ (x179_s0 : Int32) , j179 x179_s0 = some (z0, z1) → AT p l e (rmOf 1 23) s m args below meth c E A Q 0 0 6 [(0, .ref h)] (wX12_does E h h_inn h_tape h_far h_from h_real h_other h_kept h_set h_w h_book h_noteSort h_whose h_what h_noteIs h_fitting h_dawn h_likes h_walked h_came h_inn_creak h_inn_doorA h_inn_doorB h_inn_how h_inn_lies h_inn_isCold h_inn_falls h_inn_isFull h_inn_isTold h_inn_act h_inn_what h_inn_then h_inn_met h_inn_bed h_inn_dream h_inn_listens h_inn_name h_inn_nameSort h_inn_nameNumber v_thrown v_trouble v_where v_read v_taped v_size v_at v_sort v_place v_sign v_number v_fault v_wrongAt v_word v_marks v_notes v_w v_inn_minutes v_inn_rooms v_inn_doors v_inn_things v_inn_dreams v_inn_sleepers v_inn_listeners v_inn_names v_inn_doorA v_inn_doorB) 179 [.int x179_s0] := by
            intro x179_s0 hf H locs ls hl hP hD hS
            rw [ej179] at hf
            replace hf := un1_s hf
            refine lv_istore (lv' := [(5, .int x179_s0), (0, .ref h)]) hx hb dX12_does_179 hl (by decide) rfl (fun ls hl => ?_)
            refine lv_iload hx hb dX12_does_181 (lv_at hl 0 rfl) ?_
            refine lv_iconst (v := (-1)) hx hb dX12_does_183 (by decide) ?_
            refine lv_icmp_eq (tgt := 200) hx hb dX12_does_184 (by decide) (fun c_184 => ?_) (fun c_184 => ?_)
            · replace hf := it_t c_184 hf
              refine lv_iconst (v := 0) hx hb dX12_does_200 (by decide) ?_
              cases hf
              rw [hQ]
              exact r_zret C hr hP hD hS (Or.inl rfl) rfl dX12_does_201
            · replace hf := it_f c_184 hf
              refine lv_aload_n hx hb dX12_does_187 rfl (lv_at hl 1 rfl) ?_
              refine r_get C hP 0 rfl fl_X12_36 rfl dX12_does_188 ?_
              refine lv_bipush (v := 23) hx hb dX12_does_191 (by decide) ?_
              refine lv_iload hx hb dX12_does_193 (lv_at hl 0 rfl) ?_
              refine lv_iadd hx hb dX12_does_195 ?_
              obtain ⟨hi_196, hf⟩ := gd_s hf
              refine r_iald C hP 1 rfl hi_196 dX12_does_196 ?_
              refine lv_if_eq (tgt := 202) hx hb dX12_does_197 (by decide) (fun c_197 => ?_) (fun c_197 => ?_)
              · replace hf := it_t c_197 hf
                refine lv_aload_n hx hb dX12_does_202 rfl (lv_at hl 1 rfl) ?_
                refine r_get C hP 0 rfl fl_X12_36 rfl dX12_does_203 ?_
                refine lv_bipush (v := 23) hx hb dX12_does_206 (by decide) ?_
                refine lv_iload hx hb dX12_does_208 (lv_at hl 0 rfl) ?_
                refine lv_iadd hx hb dX12_does_210 ?_
                refine lv_iconst (v := 1) hx hb dX12_does_211 (by decide) ?_
                obtain ⟨hi_212, hf⟩ := gd_s hf
                refine r_iast (ws' := (wX12_does E h h_inn h_tape h_far h_from h_real h_other h_kept h_set h_w h_book h_noteSort h_whose h_what h_noteIs h_fitting h_dawn h_likes h_walked h_came h_inn_creak h_inn_doorA h_inn_doorB h_inn_how h_inn_lies h_inn_isCold h_inn_falls h_inn_isFull h_inn_isTold h_inn_act h_inn_what h_inn_then h_inn_met h_inn_bed h_inn_dream h_inn_listens h_inn_name h_inn_nameSort h_inn_nameNumber v_thrown v_trouble v_where v_read v_taped v_size v_at v_sort v_place v_sign v_number v_fault v_wrongAt v_word v_marks v_notes (upd v_w (23 + x179_s0).toNatClampNeg 1) v_inn_minutes v_inn_rooms v_inn_doors v_inn_things v_inn_dreams v_inn_sleepers v_inn_listeners v_inn_names v_inn_doorA v_inn_doorB)) C hP hD hS 1 rfl hi_212 rfl dX12_does_212 ?_
                clear hP hD hS; intro H locs hP hD hS
                refine lv_iconst (v := 1) hx hb dX12_does_213 (by decide) ?_
                cases hf
                rw [hQ]
                exact r_zret C hr hP hD hS (Or.inr rfl) rfl dX12_does_214
              · replace hf := it_f c_197 hf
                refine lv_iconst (v := 0) hx hb dX12_does_200 (by decide) ?_
                cases hf
                rw [hQ]
                exact r_zret C hr hP hD hS (Or.inl rfl) rfl dX12_does_201
          clear ej179
          refine lv_icmp_ne (tgt := 169) hx hb dX12_does_162 (by decide) (fun c_162 => ?_) (fun c_162 => ?_)
          · replace hf := it_f c_162 hf
            refine lv_aload_n hx hb dX12_does_169 rfl (lv_at hl 1 rfl) ?_
            refine r_get C hP 0 rfl fl_X12_358 rfl dX12_does_170 ?_
            refine lv_iload hx hb dX12_does_173 (lv_at hl 0 rfl) ?_
            refine lv_iload_n hx hb dX12_does_175 rfl (lv_at hl 4 rfl) ?_
            obtain ⟨r_176, hc_176, hf⟩ := bd1 hf
            refine r_callVi (ws' := (wX12_does E h h_inn h_tape h_far h_from h_real h_other h_kept h_set h_w h_book h_noteSort h_whose h_what h_noteIs h_fitting h_dawn h_likes h_walked h_came h_inn_creak h_inn_doorA h_inn_doorB h_inn_how h_inn_lies h_inn_isCold h_inn_falls h_inn_isFull h_inn_isTold h_inn_act h_inn_what h_inn_then h_inn_met h_inn_bed h_inn_dream h_inn_listens h_inn_name h_inn_nameSort h_inn_nameNumber v_thrown v_trouble v_where v_read v_taped v_size v_at v_sort v_place v_sign v_number v_fault v_wrongAt v_word v_marks v_notes v_w v_inn_minutes v_inn_rooms v_inn_doors v_inn_things v_inn_dreams v_inn_sleepers v_inn_listeners v_inn_names v_inn_doorA v_inn_doorB)) (As := [.int (v_w (0 + p0).toNatClampNeg), .int p2]) (rest := []) C (ctX11_between l E h_inn h_inn_creak h_inn_doorA h_inn_doorB h_inn_how h_inn_lies h_inn_isCold h_inn_falls h_inn_isFull h_inn_isTold h_inn_act h_inn_what h_inn_then h_inn_met h_inn_bed h_inn_dream h_inn_listens h_inn_name h_inn_nameSort h_inn_nameNumber v_inn_minutes v_inn_rooms v_inn_doors v_inn_things v_inn_dreams v_inn_sleepers v_inn_listeners v_inn_names v_inn_doorA v_inn_doorB N (v_w (0 + p0).toNatClampNeg) p2 r_176 hc_176) ml_X12_301 ⟨Nat.le_of_ble_eq_true rfl, Nat.le_of_ble_eq_true rfl⟩ hP hD hS 2 rfl rfl rfl [2, 3, 4] rfl rfl rfl rfl rfl hl.1 rfl (Nat.le_of_ble_eq_true rfl) ⟨Nat.zero_le _, Nat.zero_le _⟩ dX12_does_176 ?_
            clear hP hD hS; intro H locs hP hD hS
            exact hj179 r_176 hf _ _ _ (lv_sub hl [1] rfl) hP hD hS
          · replace hf := it_t c_162 hf
            refine lv_iconst (v := (-1)) hx hb dX12_does_165 (by decide) ?_
            refine lv_goto (tgt := 179) hx hb dX12_does_166 (by decide) ?_
            exact hj179 (-1) hf _ _ _ (lv_sub hl [1] rfl) hP hD hS
        · replace hf := it_t c_154 hf
          refine lv_iconst (v := 1) hx hb dX12_does_157 (by decide) ?_
          cases hf
          rw [hQ]
          exact r_zret C hr hP hD hS (Or.inr rfl) rfl dX12_does_158
      · replace hf := it_t c_109 hf
        refine lv_aload_n hx hb dX12_does_112 rfl (lv_at hl 1 rfl) ?_
        refine r_get C hP 0 rfl fl_X12_36 rfl dX12_does_113 ?_
        refine lv_bipush (v := 15) hx hb dX12_does_116 (by decide) ?_
        refine lv_iload_n hx hb dX12_does_118 rfl (lv_at hl 4 rfl) ?_
        refine lv_iadd hx hb dX12_does_119 ?_
        obtain ⟨hi_120, hf⟩ := gd_s hf
        refine r_iald C hP 1 rfl hi_120 dX12_does_120 ?_
        refine lv_iload hx hb dX12_does_121 (lv_at hl 0 rfl) ?_
        refine lv_icmp_ne (tgt := 138) hx hb dX12_does_123 (by decide) (fun c_123 => ?_) (fun c_123 => ?_)
        · replace hf := it_f c_123 hf
          refine lv_iconst (v := 0) hx hb dX12_does_138 (by decide) ?_
          cases hf
          rw [hQ]
          exact r_zret C hr hP hD hS (Or.inl rfl) rfl dX12_does_139
        · replace hf := it_t c_123 hf
          refine lv_aload_n hx hb dX12_does_126 rfl (lv_at hl 1 rfl) ?_
          refine r_get C hP 0 rfl fl_X12_36 rfl dX12_does_127 ?_
          refine lv_bipush (v := 19) hx hb dX12_does_130 (by decide) ?_
          refine lv_iload_n hx hb dX12_does_132 rfl (lv_at hl 4 rfl) ?_
          refine lv_iadd hx hb dX12_does_133 ?_
          obtain ⟨hi_134, hf⟩ := gd_s hf
          refine r_iald C hP 1 rfl hi_134 dX12_does_134 ?_
          refine lv_if_ne (tgt := 140) hx hb dX12_does_135 (by decide) (fun c_135 => ?_) (fun c_135 => ?_)
          · replace hf := it_f c_135 hf
            refine lv_aload_n hx hb dX12_does_140 rfl (lv_at hl 1 rfl) ?_
            refine r_get C hP 0 rfl fl_X12_36 rfl dX12_does_141 ?_
            refine lv_bipush (v := 19) hx hb dX12_does_144 (by decide) ?_
            refine lv_iload_n hx hb dX12_does_146 rfl (lv_at hl 4 rfl) ?_
            refine lv_iadd hx hb dX12_does_147 ?_
            refine lv_iconst (v := 0) hx hb dX12_does_148 (by decide) ?_
            obtain ⟨hi_149, hf⟩ := gd_s hf
            refine r_iast (ws' := (wX12_does E h h_inn h_tape h_far h_from h_real h_other h_kept h_set h_w h_book h_noteSort h_whose h_what h_noteIs h_fitting h_dawn h_likes h_walked h_came h_inn_creak h_inn_doorA h_inn_doorB h_inn_how h_inn_lies h_inn_isCold h_inn_falls h_inn_isFull h_inn_isTold h_inn_act h_inn_what h_inn_then h_inn_met h_inn_bed h_inn_dream h_inn_listens h_inn_name h_inn_nameSort h_inn_nameNumber v_thrown v_trouble v_where v_read v_taped v_size v_at v_sort v_place v_sign v_number v_fault v_wrongAt v_word v_marks v_notes (upd v_w (19 + p2).toNatClampNeg 0) v_inn_minutes v_inn_rooms v_inn_doors v_inn_things v_inn_dreams v_inn_sleepers v_inn_listeners v_inn_names v_inn_doorA v_inn_doorB)) C hP hD hS 1 rfl hi_149 rfl dX12_does_149 ?_
            clear hP hD hS; intro H locs hP hD hS
            refine lv_iconst (v := 1) hx hb dX12_does_150 (by decide) ?_
            cases hf
            rw [hQ]
            exact r_zret C hr hP hD hS (Or.inr rfl) rfl dX12_does_151
          · replace hf := it_t c_135 hf
            refine lv_iconst (v := 0) hx hb dX12_does_138 (by decide) ?_
            cases hf
            rw [hQ]
            exact r_zret C hr hP hD hS (Or.inl rfl) rfl dX12_does_139
    · replace hf := it_t c_69 hf
      refine lv_aload_n hx hb dX12_does_72 rfl (lv_at hl 1 rfl) ?_
      refine r_get C hP 0 rfl fl_X12_36 rfl dX12_does_73 ?_
      refine lv_bipush (v := 6) hx hb dX12_does_76 (by decide) ?_
      refine lv_iload_n hx hb dX12_does_78 rfl (lv_at hl 2 rfl) ?_
      refine lv_iadd hx hb dX12_does_79 ?_
      obtain ⟨hi_80, hf⟩ := gd_s hf
      refine r_iald C hP 1 rfl hi_80 dX12_does_80 ?_
      refine lv_bipush (v := (-2)) hx hb dX12_does_81 (by decide) ?_
      refine jnK hf (fun j91 ej91 hf => ?_)
      have hj91 : ∀ (x91_s0 : Int32) , j91 x91_s0 = some (z0, z1) → AT p l e (rmOf 1 23) s m args below meth c E A Q 0 0 6 [(0, .ref h), (1, .int p0)] (wX12_does E h h_inn h_tape h_far h_from h_real h_other h_kept h_set h_w h_book h_noteSort h_whose h_what h_noteIs h_fitting h_dawn h_likes h_walked h_came h_inn_creak h_inn_doorA h_inn_doorB h_inn_how h_inn_lies h_inn_isCold h_inn_falls h_inn_isFull h_inn_isTold h_inn_act h_inn_what h_inn_then h_inn_met h_inn_bed h_inn_dream h_inn_listens h_inn_name h_inn_nameSort h_inn_nameNumber v_thrown v_trouble v_where v_read v_taped v_size v_at v_sort v_place v_sign v_number v_fault v_wrongAt v_word v_marks v_notes v_w v_inn_minutes v_inn_rooms v_inn_doors v_inn_things v_inn_dreams v_inn_sleepers v_inn_listeners v_inn_names v_inn_doorA v_inn_doorB) 91 [.int x91_s0] := by
        intro x91_s0 hf H locs ls hl hP hD hS
        rw [ej91] at hf
        replace hf := un1_s hf
        refine lv_istore (lv' := [(5, .int x91_s0), (0, .ref h), (1, .int p0)]) hx hb dX12_does_91 hl (by decide) rfl (fun ls hl => ?_)
        refine lv_aload_n hx hb dX12_does_93 rfl (lv_at hl 1 rfl) ?_
        refine r_get C hP 0 rfl fl_X12_36 rfl dX12_does_94 ?_
        refine lv_bipush (v := 6) hx hb dX12_does_97 (by decide) ?_
        refine lv_iload_n hx hb dX12_does_99 rfl (lv_at hl 2 rfl) ?_
        refine lv_iadd hx hb dX12_does_100 ?_
        refine lv_bipush (v := (-2)) hx hb dX12_does_101 (by decide) ?_
        obtain ⟨hi_103, hf⟩ := gd_s hf
        refine r_iast (ws' := (wX12_does E h h_inn h_tape h_far h_from h_real h_other h_kept h_set h_w h_book h_noteSort h_whose h_what h_noteIs h_fitting h_dawn h_likes h_walked h_came h_inn_creak h_inn_doorA h_inn_doorB h_inn_how h_inn_lies h_inn_isCold h_inn_falls h_inn_isFull h_inn_isTold h_inn_act h_inn_what h_inn_then h_inn_met h_inn_bed h_inn_dream h_inn_listens h_inn_name h_inn_nameSort h_inn_nameNumber v_thrown v_trouble v_where v_read v_taped v_size v_at v_sort v_place v_sign v_number v_fault v_wrongAt v_word v_marks v_notes (upd v_w (6 + p0).toNatClampNeg (-2)) v_inn_minutes v_inn_rooms v_inn_doors v_inn_things v_inn_dreams v_inn_sleepers v_inn_listeners v_inn_names v_inn_doorA v_inn_doorB)) C hP hD hS 1 rfl hi_103 rfl dX12_does_103 ?_
        clear hP hD hS; intro H locs hP hD hS
        refine lv_iload hx hb dX12_does_104 (lv_at hl 0 rfl) ?_
        obtain ⟨hz_106, hf⟩ := zg_s hf
        cases hf
        rw [hQ]
        exact r_zret C hr hP hD hS hz_106 rfl dX12_does_106
      clear ej91
      refine lv_icmp_eq (tgt := 90) hx hb dX12_does_83 (by decide) (fun c_83 => ?_) (fun c_83 => ?_)
      · replace hf := it_t c_83 hf
        refine lv_iconst (v := 0) hx hb dX12_does_90 (by decide) ?_
        exact hj91 0 hf _ _ _ (lv_sub hl [1, 2] rfl) hP hD hS
      · replace hf := it_f c_83 hf
        refine lv_iconst (v := 1) hx hb dX12_does_86 (by decide) ?_
        refine lv_goto (tgt := 91) hx hb dX12_does_87 (by decide) ?_
        exact hj91 1 hf _ _ _ (lv_sub hl [1, 2] rfl) hP hD hS
  · replace hf := it_t c_12 hf
    refine lv_aload_n hx hb dX12_does_15 rfl (lv_at hl 1 rfl) ?_
    refine r_get C hP 0 rfl fl_X12_36 rfl dX12_does_16 ?_
    refine lv_bipush (v := 15) hx hb dX12_does_19 (by decide) ?_
    refine lv_iload_n hx hb dX12_does_21 rfl (lv_at hl 4 rfl) ?_
    refine lv_iadd hx hb dX12_does_22 ?_
    obtain ⟨hi_23, hf⟩ := gd_s hf
    refine r_iald C hP 1 rfl hi_23 dX12_does_23 ?_
    refine lv_iload hx hb dX12_does_24 (lv_at hl 0 rfl) ?_
    refine lv_icmp_ne (tgt := 53) hx hb dX12_does_26 (by decide) (fun c_26 => ?_) (fun c_26 => ?_)
    · replace hf := it_f c_26 hf
      refine lv_iconst (v := 0) hx hb dX12_does_53 (by decide) ?_
      cases hf
      rw [hQ]
      exact r_zret C hr hP hD hS (Or.inl rfl) rfl dX12_does_54
    · replace hf := it_t c_26 hf
      refine lv_aload_n hx hb dX12_does_29 rfl (lv_at hl 1 rfl) ?_
      refine lv_iload_n hx hb dX12_does_30 rfl (lv_at hl 4 rfl) ?_
      obtain ⟨r_31, hc_31, hf⟩ := bd1 hf
      refine r_callVi (ws' := (wX12_does E h h_inn h_tape h_far h_from h_real h_other h_kept h_set h_w h_book h_noteSort h_whose h_what h_noteIs h_fitting h_dawn h_likes h_walked h_came h_inn_creak h_inn_doorA h_inn_doorB h_inn_how h_inn_lies h_inn_isCold h_inn_falls h_inn_isFull h_inn_isTold h_inn_act h_inn_what h_inn_then h_inn_met h_inn_bed h_inn_dream h_inn_listens h_inn_name h_inn_nameSort h_inn_nameNumber v_thrown v_trouble v_where v_read v_taped v_size v_at v_sort v_place v_sign v_number v_fault v_wrongAt v_word v_marks v_notes v_w v_inn_minutes v_inn_rooms v_inn_doors v_inn_things v_inn_dreams v_inn_sleepers v_inn_listeners v_inn_names v_inn_doorA v_inn_doorB)) (As := [.int p2]) (rest := []) C (ctX12_holder l E h h_inn h_tape h_far h_from h_real h_other h_kept h_set h_w h_book h_noteSort h_whose h_what h_noteIs h_fitting h_dawn h_likes h_walked h_came h_inn_creak h_inn_doorA h_inn_doorB h_inn_how h_inn_lies h_inn_isCold h_inn_falls h_inn_isFull h_inn_isTold h_inn_act h_inn_what h_inn_then h_inn_met h_inn_bed h_inn_dream h_inn_listens h_inn_name h_inn_nameSort h_inn_nameNumber v_thrown v_trouble v_where v_read v_taped v_size v_at v_sort v_place v_sign v_number v_fault v_wrongAt v_word v_marks v_notes v_inn_minutes v_inn_rooms v_inn_doors v_inn_things v_inn_dreams v_inn_sleepers v_inn_listeners v_inn_names v_w N p2 r_31 hc_31) ml_X12_400 ⟨Nat.le_of_ble_eq_true rfl, Nat.le_of_ble_eq_true rfl⟩ hP hD hS 0 rfl rfl rfl [0, 2, 1] rfl rfl rfl rfl rfl hl.1 rfl (Nat.le_of_ble_eq_true rfl) ⟨Nat.zero_le _, Nat.zero_le _⟩ dX12_does_31 ?_
      clear hP hD hS; intro H locs hP hD hS
      refine lv_bipush (v := (-2)) hx hb dX12_does_34 (by decide) ?_
      refine lv_icmp_ne (tgt := 53) hx hb dX12_does_36 (by decide) (fun c_36 => ?_) (fun c_36 => ?_)
      · replace hf := it_f c_36 hf
        refine lv_iconst (v := 0) hx hb dX12_does_53 (by decide) ?_
        cases hf
        rw [hQ]
        exact r_zret C hr hP hD hS (Or.inl rfl) rfl dX12_does_54
      · replace hf := it_t c_36 hf
        refine lv_aload_n hx hb dX12_does_39 rfl (lv_at hl 1 rfl) ?_
        refine r_get C hP 0 rfl fl_X12_36 rfl dX12_does_40 ?_
        refine lv_bipush (v := 6) hx hb dX12_does_43 (by decide) ?_
        refine lv_iload_n hx hb dX12_does_45 rfl (lv_at hl 2 rfl) ?_
        refine lv_iadd hx hb dX12_does_46 ?_
        obtain ⟨hi_47, hf⟩ := gd_s hf
        refine r_iald C hP 1 rfl hi_47 dX12_does_47 ?_
        refine lv_bipush (v := (-2)) hx hb dX12_does_48 (by decide) ?_
        refine lv_icmp_eq (tgt := 55) hx hb dX12_does_50 (by decide) (fun c_50 => ?_) (fun c_50 => ?_)
        · replace hf := it_t c_50 hf
          refine lv_aload_n hx hb dX12_does_55 rfl (lv_at hl 1 rfl) ?_
          refine r_get C hP 0 rfl fl_X12_36 rfl dX12_does_56 ?_
          refine lv_bipush (v := 6) hx hb dX12_does_59 (by decide) ?_
          refine lv_iload_n hx hb dX12_does_61 rfl (lv_at hl 2 rfl) ?_
          refine lv_iadd hx hb dX12_does_62 ?_
          refine lv_iload_n hx hb dX12_does_63 rfl (lv_at hl 4 rfl) ?_
          obtain ⟨hi_64, hf⟩ := gd_s hf
          refine r_iast (ws' := (wX12_does E h h_inn h_tape h_far h_from h_real h_other h_kept h_set h_w h_book h_noteSort h_whose h_what h_noteIs h_fitting h_dawn h_likes h_walked h_came h_inn_creak h_inn_doorA h_inn_doorB h_inn_how h_inn_lies h_inn_isCold h_inn_falls h_inn_isFull h_inn_isTold h_inn_act h_inn_what h_inn_then h_inn_met h_inn_bed h_inn_dream h_inn_listens h_inn_name h_inn_nameSort h_inn_nameNumber v_thrown v_trouble v_where v_read v_taped v_size v_at v_sort v_place v_sign v_number v_fault v_wrongAt v_word v_marks v_notes (upd v_w (6 + p0).toNatClampNeg p2) v_inn_minutes v_inn_rooms v_inn_doors v_inn_things v_inn_dreams v_inn_sleepers v_inn_listeners v_inn_names v_inn_doorA v_inn_doorB)) C hP hD hS 1 rfl hi_64 rfl dX12_does_64 ?_
          clear hP hD hS; intro H locs hP hD hS
          refine lv_iconst (v := 1) hx hb dX12_does_65 (by decide) ?_
          cases hf
          rw [hQ]
          exact r_zret C hr hP hD hS (Or.inr rfl) rfl dX12_does_66
        · replace hf := it_f c_50 hf
          refine lv_iconst (v := 0) hx hb dX12_does_53 (by decide) ?_
          cases hf
          rw [hQ]
          exact r_zret C hr hP hD hS (Or.inl rfl) rfl dX12_does_54
def wX12_acts (E : EN) (h h_inn h_tape h_far h_from h_real h_other h_kept h_set h_w h_book h_noteSort h_whose h_what h_noteIs h_fitting h_dawn h_likes h_walked h_came h_inn_creak h_inn_doorA h_inn_doorB h_inn_how h_inn_lies h_inn_isCold h_inn_falls h_inn_isFull h_inn_isTold h_inn_act h_inn_what h_inn_then h_inn_met h_inn_bed h_inn_dream h_inn_listens h_inn_name h_inn_nameSort h_inn_nameNumber : Nat) (v_thrown : Int32) (v_trouble : Int32) (v_where : Int32) (v_read : Option Nat) (v_taped : Int32) (v_size : Int32) (v_at : Int32) (v_sort : Int32) (v_place : Int32) (v_sign : Int32) (v_number : Int32) (v_fault : Int32) (v_wrongAt : Int32) (v_word : Int64) (v_marks : Int32) (v_notes : Int32) (v_w : Nat → Int32) (v_inn_minutes : Int32) (v_inn_rooms : Int32) (v_inn_doors : Int32) (v_inn_things : Int32) (v_inn_dreams : Int32) (v_inn_sleepers : Int32) (v_inn_listeners : Int32) (v_inn_names : Int32) (v_inn_isTold : Nat → Int32) (v_inn_act : Nat → Int32) (v_inn_then : Nat → Int32) (v_inn_what : Nat → Int32) (v_inn_doorA : Nat → Int32) (v_inn_doorB : Nat → Int32) (v_from : Nat → Int32) (v_inn_falls : Nat → Int32) (v_inn_creak : Nat → Int32) (v_inn_listens : Nat → Int32) (v_far : Nat → Int32) (v_inn_isCold : Nat → Int32) (v_inn_met : Nat → Int32) : va_W := [(h, .inr (11, [.int v_thrown, .int v_trouble, .int v_where, .ref h_inn, va_rf v_read, .ref h_tape, .int v_taped, .int v_size, .int v_at, .int v_sort, .int v_place, .int v_sign, .int v_number, .int v_fault, .int v_wrongAt, .long v_word, .ref h_far, .ref h_from, .ref h_real, .ref h_other, .ref h_kept, .ref h_set, .ref h_w, .int v_marks, .int v_notes, .ref h_book, .ref h_noteSort, .ref h_whose, .ref h_what, .ref h_noteIs, .ref h_fitting, .ref h_dawn, .ref h_likes, .ref h_walked, .ref h_came])), (h_w, aI E 51 v_w), (h_inn, .inr (10, [.int v_inn_minutes, .int v_inn_rooms, .int v_inn_doors, .int v_inn_things, .int v_inn_dreams, .int v_inn_sleepers, .int v_inn_listeners, .int v_inn_names, .ref h_inn_creak, .ref h_inn_doorA, .ref h_inn_doorB, .ref h_inn_how, .ref h_inn_lies, .ref h_inn_isCold, .ref h_inn_falls, .ref h_inn_isFull, .ref h_inn_isTold, .ref h_inn_act, .ref h_inn_what, .ref h_inn_then, .ref h_inn_met, .ref h_inn_bed, .ref h_inn_dream, .ref h_inn_listens, .ref h_inn_name, .ref h_inn_nameSort, .ref h_inn_nameNumber])), (h_inn_isTold, aZ E 16 v_inn_isTold), (h_inn_act, aI E 16 v_inn_act), (h_inn_then, aI E 16 v_inn_then), (h_inn_what, aI E 16 v_inn_what), (h_inn_doorA, aI E 10 v_inn_doorA), (h_inn_doorB, aI E 10 v_inn_doorB), (h_from, aI E 8 v_from), (h_inn_falls, aZ E 10 v_inn_falls), (h_inn_creak, aI E 8 v_inn_creak), (h_inn_listens, aI E 3 v_inn_listens), (h_far, aI E 64 v_far), (h_inn_isCold, aZ E 8 v_inn_isCold), (h_inn_met, aI E 16 v_inn_met)]
def fX12_acts (N : Nat) (p0 : Int32) (v_w : Nat → Int32) (v_inn_rooms : Int32) (v_inn_doors : Int32) (v_inn_sleepers : Int32) (v_inn_listeners : Int32) (v_inn_isTold : Nat → Int32) (v_inn_act : Nat → Int32) (v_inn_then : Nat → Int32) (v_inn_what : Nat → Int32) (v_inn_doorA : Nat → Int32) (v_inn_doorB : Nat → Int32) (v_from : Nat → Int32) (v_inn_falls : Nat → Int32) (v_inn_creak : Nat → Int32) (v_inn_listens : Nat → Int32) (v_far : Nat → Int32) (v_inn_isCold : Nat → Int32) (v_inn_met : Nat → Int32) : Option ((Nat → Int32) × (Nat → Int32)) := (fX12_stateOf N p0 v_w).bind (un1 fun (r_2 : Int32) => gd r_2 16 (if (v_inn_isTold r_2.toNatClampNeg) = 0 then (some (v_w, v_from)) else (gd r_2 16 (jn (un0 (gd r_2 16 (jn (un1 fun (x106_w : Nat → Int32) => gd r_2 16 (gd (3 + p0) 51 (some (upd x106_w (3 + p0).toNatClampNeg (v_inn_then r_2.toNatClampNeg), v_from)))) (fun j106 => if (v_inn_act r_2.toNatClampNeg) = 0 then (j106 v_w) else (gd r_2 16 (gd r_2 16 ((fX12_does N p0 (v_inn_act r_2.toNatClampNeg) (v_inn_what r_2.toNatClampNeg) v_w v_inn_doors v_inn_sleepers v_inn_doorA v_inn_doorB).bind (un2 fun (r_100 : Int32) (v_w_100 : Nat → Int32) => if r_100 = 0 then (some (v_w_100, v_from)) else (j106 v_w_100))))))))) (fun j68 => if (v_inn_act r_2.toNatClampNeg) = 0 then (gd (0 + p0) 51 (gd r_2 16 (if (v_w (0 + p0).toNatClampNeg) = (v_inn_what r_2.toNatClampNeg) then (j68 ()) else (gd r_2 16 ((fX12_goes N p0 (v_inn_what r_2.toNatClampNeg) v_w v_inn_rooms v_inn_doors v_inn_sleepers v_inn_listeners v_inn_doorA v_from v_inn_doorB v_inn_falls v_inn_creak v_inn_listens v_far v_inn_isCold v_inn_isTold v_inn_met).bind (un2 fun (v_w_62 : Nat → Int32) (v_from_62 : Nat → Int32) => some (v_w_62, v_from_62))))))) else (j68 ()))))))
set_option maxHeartbeats 4000000 in
set_option maxRecDepth 100000 in
theorem ctX12_acts (l : Launch) (E : EN) (h h_inn h_tape h_far h_from h_real h_other h_kept h_set h_w h_book h_noteSort h_whose h_what h_noteIs h_fitting h_dawn h_likes h_walked h_came h_inn_creak h_inn_doorA h_inn_doorB h_inn_how h_inn_lies h_inn_isCold h_inn_falls h_inn_isFull h_inn_isTold h_inn_act h_inn_what h_inn_then h_inn_met h_inn_bed h_inn_dream h_inn_listens h_inn_name h_inn_nameSort h_inn_nameNumber : Nat) (v_thrown : Int32) (v_trouble : Int32) (v_where : Int32) (v_read : Option Nat) (v_taped : Int32) (v_size : Int32) (v_at : Int32) (v_sort : Int32) (v_place : Int32) (v_sign : Int32) (v_number : Int32) (v_fault : Int32) (v_wrongAt : Int32) (v_word : Int64) (v_marks : Int32) (v_notes : Int32) (v_w : Nat → Int32) (v_inn_minutes : Int32) (v_inn_rooms : Int32) (v_inn_doors : Int32) (v_inn_things : Int32) (v_inn_dreams : Int32) (v_inn_sleepers : Int32) (v_inn_listeners : Int32) (v_inn_names : Int32) (v_inn_isTold : Nat → Int32) (v_inn_act : Nat → Int32) (v_inn_then : Nat → Int32) (v_inn_what : Nat → Int32) (v_inn_doorA : Nat → Int32) (v_inn_doorB : Nat → Int32) (v_from : Nat → Int32) (v_inn_falls : Nat → Int32) (v_inn_creak : Nat → Int32) (v_inn_listens : Nat → Int32) (v_far : Nat → Int32) (v_inn_isCold : Nat → Int32) (v_inn_met : Nat → Int32) (N : Nat) (p0 : Int32) (z0 : Nat → Int32) (z1 : Nat → Int32) (hf : fX12_acts N p0 v_w v_inn_rooms v_inn_doors v_inn_sleepers v_inn_listeners v_inn_isTold v_inn_act v_inn_then v_inn_what v_inn_doorA v_inn_doorB v_from v_inn_falls v_inn_creak v_inn_listens v_far v_inn_isCold v_inn_met = some (z0, z1)) : CTv l E yX12_acts cX12_acts 3 3 73 [.ref h, .int p0] (wX12_acts E h h_inn h_tape h_far h_from h_real h_other h_kept h_set h_w h_book h_noteSort h_whose h_what h_noteIs h_fitting h_dawn h_likes h_walked h_came h_inn_creak h_inn_doorA h_inn_doorB h_inn_how h_inn_lies h_inn_isCold h_inn_falls h_inn_isFull h_inn_isTold h_inn_act h_inn_what h_inn_then h_inn_met h_inn_bed h_inn_dream h_inn_listens h_inn_name h_inn_nameSort h_inn_nameNumber v_thrown v_trouble v_where v_read v_taped v_size v_at v_sort v_place v_sign v_number v_fault v_wrongAt v_word v_marks v_notes v_w v_inn_minutes v_inn_rooms v_inn_doors v_inn_things v_inn_dreams v_inn_sleepers v_inn_listeners v_inn_names v_inn_isTold v_inn_act v_inn_then v_inn_what v_inn_doorA v_inn_doorB v_from v_inn_falls v_inn_creak v_inn_listens v_far v_inn_isCold v_inn_met) (wX12_acts E h h_inn h_tape h_far h_from h_real h_other h_kept h_set h_w h_book h_noteSort h_whose h_what h_noteIs h_fitting h_dawn h_likes h_walked h_came h_inn_creak h_inn_doorA h_inn_doorB h_inn_how h_inn_lies h_inn_isCold h_inn_falls h_inn_isFull h_inn_isTold h_inn_act h_inn_what h_inn_then h_inn_met h_inn_bed h_inn_dream h_inn_listens h_inn_name h_inn_nameSort h_inn_nameNumber v_thrown v_trouble v_where v_read v_taped v_size v_at v_sort v_place v_sign v_number v_fault v_wrongAt v_word v_marks v_notes z0 v_inn_minutes v_inn_rooms v_inn_doors v_inn_things v_inn_dreams v_inn_sleepers v_inn_listeners v_inn_names v_inn_isTold v_inn_act v_inn_then v_inn_what v_inn_doorA v_inn_doorB z1 v_inn_falls v_inn_creak v_inn_listens v_far v_inn_isCold v_inn_met) := by
  intro sz
  refine ct_body (by decide) (Nat.le_of_ble_eq_true rfl) ?_
  intro p e s m args below meth c A ls hAe C hr hin hP hD hS hl
  have C : CX p s m args meth c cX12_acts RX12 3 E A := C
  have hl : lv_has ls 3 [(0, .ref h), (1, .int p0)] := hl
  have hx := C.1
  have hb := C.2.1
  rw [hAe]
  clear hAe
  obtain ⟨Q, hQ⟩ : ∃ Q, Q = MQ below (Qv E A (wX12_acts E h h_inn h_tape h_far h_from h_real h_other h_kept h_set h_w h_book h_noteSort h_whose h_what h_noteIs h_fitting h_dawn h_likes h_walked h_came h_inn_creak h_inn_doorA h_inn_doorB h_inn_how h_inn_lies h_inn_isCold h_inn_falls h_inn_isFull h_inn_isTold h_inn_act h_inn_what h_inn_then h_inn_met h_inn_bed h_inn_dream h_inn_listens h_inn_name h_inn_nameSort h_inn_nameNumber v_thrown v_trouble v_where v_read v_taped v_size v_at v_sort v_place v_sign v_number v_fault v_wrongAt v_word v_marks v_notes z0 v_inn_minutes v_inn_rooms v_inn_doors v_inn_things v_inn_dreams v_inn_sleepers v_inn_listeners v_inn_names v_inn_isTold v_inn_act v_inn_then v_inn_what v_inn_doorA v_inn_doorB z1 v_inn_falls v_inn_creak v_inn_listens v_far v_inn_isCold v_inn_met)) args s 0 0 A := ⟨_, rfl⟩
  rw [← hQ]
  unfold fX12_acts at hf
  refine lv_aload_n hx hb dX12_acts_0 rfl (lv_at hl 0 rfl) ?_
  refine lv_iload_n hx hb dX12_acts_1 rfl (lv_at hl 1 rfl) ?_
  obtain ⟨r_2, hc_2, hf⟩ := bd1 hf
  refine r_callVi (ws' := (wX12_acts E h h_inn h_tape h_far h_from h_real h_other h_kept h_set h_w h_book h_noteSort h_whose h_what h_noteIs h_fitting h_dawn h_likes h_walked h_came h_inn_creak h_inn_doorA h_inn_doorB h_inn_how h_inn_lies h_inn_isCold h_inn_falls h_inn_isFull h_inn_isTold h_inn_act h_inn_what h_inn_then h_inn_met h_inn_bed h_inn_dream h_inn_listens h_inn_name h_inn_nameSort h_inn_nameNumber v_thrown v_trouble v_where v_read v_taped v_size v_at v_sort v_place v_sign v_number v_fault v_wrongAt v_word v_marks v_notes v_w v_inn_minutes v_inn_rooms v_inn_doors v_inn_things v_inn_dreams v_inn_sleepers v_inn_listeners v_inn_names v_inn_isTold v_inn_act v_inn_then v_inn_what v_inn_doorA v_inn_doorB v_from v_inn_falls v_inn_creak v_inn_listens v_far v_inn_isCold v_inn_met)) (As := [.int p0]) (rest := []) C (ctX12_stateOf l E h h_tape h_far h_from h_real h_other h_kept h_set h_w h_book h_noteSort h_whose h_what h_noteIs h_fitting h_dawn h_likes h_walked h_came v_thrown v_trouble v_where (some h_inn) v_read v_taped v_size v_at v_sort v_place v_sign v_number v_fault v_wrongAt v_word v_marks v_notes v_w N p0 r_2 hc_2) ml_X12_388 ⟨Nat.le_of_ble_eq_true rfl, Nat.le_of_ble_eq_true rfl⟩ hP hD hS 0 rfl rfl rfl [0, 1] rfl rfl rfl rfl rfl hl.1 rfl (Nat.le_of_ble_eq_true rfl) ⟨Nat.zero_le _, Nat.zero_le _⟩ dX12_acts_2 ?_
  clear hP hD hS; intro H locs hP hD hS
  refine lv_istore_n (lv' := [(2, .int r_2), (0, .ref h), (1, .int p0)]) hx hb dX12_acts_5 rfl hl (by decide) rfl (fun ls hl => ?_)
  refine lv_aload_n hx hb dX12_acts_6 rfl (lv_at hl 1 rfl) ?_
  refine r_get C hP 0 rfl fl_X12_358 rfl dX12_acts_7 ?_
  refine r_get C hP 2 rfl fl_X12_328 rfl dX12_acts_10 ?_
  refine lv_iload_n hx hb dX12_acts_13 rfl (lv_at hl 0 rfl) ?_
  obtain ⟨hi_14, hf⟩ := gd_s hf
  refine r_zald C hP 3 rfl hi_14 dX12_acts_14 ?_
  refine lv_if_ne (tgt := 19) hx hb dX12_acts_15 (by decide) (fun c_15 => ?_) (fun c_15 => ?_)
  · replace hf := it_f c_15 hf
    refine lv_aload_n hx hb dX12_acts_19 rfl (lv_at hl 1 rfl) ?_
    refine r_get C hP 0 rfl fl_X12_358 rfl dX12_acts_20 ?_
    refine r_get C hP 2 rfl fl_X12_331 rfl dX12_acts_23 ?_
    refine lv_iload_n hx hb dX12_acts_26 rfl (lv_at hl 0 rfl) ?_
    obtain ⟨hi_27, hf⟩ := gd_s hf
    refine r_iald C hP 4 rfl hi_27 dX12_acts_27 ?_
    refine jnK hf (fun j68 ej68 hf => ?_)
    have hj68 : j68 () = some (z0, z1) → AT p l e (rmOf 3 73) s m args below meth c E A Q 0 0 3 [(0, .ref h), (1, .int p0), (2, .int r_2)] (wX12_acts E h h_inn h_tape h_far h_from h_real h_other h_kept h_set h_w h_book h_noteSort h_whose h_what h_noteIs h_fitting h_dawn h_likes h_walked h_came h_inn_creak h_inn_doorA h_inn_doorB h_inn_how h_inn_lies h_inn_isCold h_inn_falls h_inn_isFull h_inn_isTold h_inn_act h_inn_what h_inn_then h_inn_met h_inn_bed h_inn_dream h_inn_listens h_inn_name h_inn_nameSort h_inn_nameNumber v_thrown v_trouble v_where v_read v_taped v_size v_at v_sort v_place v_sign v_number v_fault v_wrongAt v_word v_marks v_notes v_w v_inn_minutes v_inn_rooms v_inn_doors v_inn_things v_inn_dreams v_inn_sleepers v_inn_listeners v_inn_names v_inn_isTold v_inn_act v_inn_then v_inn_what v_inn_doorA v_inn_doorB v_from v_inn_falls v_inn_creak v_inn_listens v_far v_inn_isCold v_inn_met) 68 [] := by
      intro  hf H locs ls hl hP hD hS
      rw [ej68] at hf
      replace hf := un0_s hf
      refine lv_aload_n hx hb dX12_acts_68 rfl (lv_at hl 0 rfl) ?_
      refine r_get C hP 0 rfl fl_X12_358 rfl dX12_acts_69 ?_
      refine r_get C hP 2 rfl fl_X12_331 rfl dX12_acts_72 ?_
      refine lv_iload_n hx hb dX12_acts_75 rfl (lv_at hl 2 rfl) ?_
      obtain ⟨hi_76, hf⟩ := gd_s hf
      refine r_iald C hP 4 rfl hi_76 dX12_acts_76 ?_
      refine jnK hf (fun j106 ej106 hf => ?_)
      have hj106 : ∀ (x106_w : Nat → Int32) , j106 x106_w = some (z0, z1) → AT p l e (rmOf 3 73) s m args below meth c E A Q 0 0 3 [(0, .ref h), (1, .int p0), (2, .int r_2)] (wX12_acts E h h_inn h_tape h_far h_from h_real h_other h_kept h_set h_w h_book h_noteSort h_whose h_what h_noteIs h_fitting h_dawn h_likes h_walked h_came h_inn_creak h_inn_doorA h_inn_doorB h_inn_how h_inn_lies h_inn_isCold h_inn_falls h_inn_isFull h_inn_isTold h_inn_act h_inn_what h_inn_then h_inn_met h_inn_bed h_inn_dream h_inn_listens h_inn_name h_inn_nameSort h_inn_nameNumber v_thrown v_trouble v_where v_read v_taped v_size v_at v_sort v_place v_sign v_number v_fault v_wrongAt v_word v_marks v_notes x106_w v_inn_minutes v_inn_rooms v_inn_doors v_inn_things v_inn_dreams v_inn_sleepers v_inn_listeners v_inn_names v_inn_isTold v_inn_act v_inn_then v_inn_what v_inn_doorA v_inn_doorB v_from v_inn_falls v_inn_creak v_inn_listens v_far v_inn_isCold v_inn_met) 106 [] := by
        intro x106_w hf H locs ls hl hP hD hS
        rw [ej106] at hf
        replace hf := un1_s hf
        refine lv_aload_n hx hb dX12_acts_106 rfl (lv_at hl 0 rfl) ?_
        refine r_get C hP 0 rfl fl_X12_36 rfl dX12_acts_107 ?_
        refine lv_iconst (v := 3) hx hb dX12_acts_110 (by decide) ?_
        refine lv_iload_n hx hb dX12_acts_111 rfl (lv_at hl 1 rfl) ?_
        refine lv_iadd hx hb dX12_acts_112 ?_
        refine lv_aload_n hx hb dX12_acts_113 rfl (lv_at hl 0 rfl) ?_
        refine r_get C hP 0 rfl fl_X12_358 rfl dX12_acts_114 ?_
        refine r_get C hP 2 rfl fl_X12_335 rfl dX12_acts_117 ?_
        refine lv_iload_n hx hb dX12_acts_120 rfl (lv_at hl 2 rfl) ?_
        obtain ⟨hi_121, hf⟩ := gd_s hf
        refine r_iald C hP 5 rfl hi_121 dX12_acts_121 ?_
        obtain ⟨hi_122, hf⟩ := gd_s hf
        refine r_iast (ws' := (wX12_acts E h h_inn h_tape h_far h_from h_real h_other h_kept h_set h_w h_book h_noteSort h_whose h_what h_noteIs h_fitting h_dawn h_likes h_walked h_came h_inn_creak h_inn_doorA h_inn_doorB h_inn_how h_inn_lies h_inn_isCold h_inn_falls h_inn_isFull h_inn_isTold h_inn_act h_inn_what h_inn_then h_inn_met h_inn_bed h_inn_dream h_inn_listens h_inn_name h_inn_nameSort h_inn_nameNumber v_thrown v_trouble v_where v_read v_taped v_size v_at v_sort v_place v_sign v_number v_fault v_wrongAt v_word v_marks v_notes (upd x106_w (3 + p0).toNatClampNeg (v_inn_then r_2.toNatClampNeg)) v_inn_minutes v_inn_rooms v_inn_doors v_inn_things v_inn_dreams v_inn_sleepers v_inn_listeners v_inn_names v_inn_isTold v_inn_act v_inn_then v_inn_what v_inn_doorA v_inn_doorB v_from v_inn_falls v_inn_creak v_inn_listens v_far v_inn_isCold v_inn_met)) C hP hD hS 1 rfl hi_122 rfl dX12_acts_122 ?_
        clear hP hD hS; intro H locs hP hD hS
        cases hf
        rw [hQ]
        exact r_vret C hr hP hD hS dX12_acts_123
      clear ej106
      refine lv_if_eq (tgt := 106) hx hb dX12_acts_77 (by decide) (fun c_77 => ?_) (fun c_77 => ?_)
      · replace hf := it_t c_77 hf
        exact hj106 v_w hf _ _ _ (lv_sub hl [0, 1, 2] rfl) hP hD hS
      · replace hf := it_f c_77 hf
        refine lv_aload_n hx hb dX12_acts_80 rfl (lv_at hl 0 rfl) ?_
        refine lv_iload_n hx hb dX12_acts_81 rfl (lv_at hl 1 rfl) ?_
        refine lv_aload_n hx hb dX12_acts_82 rfl (lv_at hl 0 rfl) ?_
        refine r_get C hP 0 rfl fl_X12_358 rfl dX12_acts_83 ?_
        refine r_get C hP 2 rfl fl_X12_331 rfl dX12_acts_86 ?_
        refine lv_iload_n hx hb dX12_acts_89 rfl (lv_at hl 2 rfl) ?_
        obtain ⟨hi_90, hf⟩ := gd_s hf
        refine r_iald C hP 4 rfl hi_90 dX12_acts_90 ?_
        refine lv_aload_n hx hb dX12_acts_91 rfl (lv_at hl 0 rfl) ?_
        refine r_get C hP 0 rfl fl_X12_358 rfl dX12_acts_92 ?_
        refine r_get C hP 2 rfl fl_X12_334 rfl dX12_acts_95 ?_
        refine lv_iload_n hx hb dX12_acts_98 rfl (lv_at hl 2 rfl) ?_
        obtain ⟨hi_99, hf⟩ := gd_s hf
        refine r_iald C hP 6 rfl hi_99 dX12_acts_99 ?_
        obtain ⟨r_100, v_w_100, hc_100, hf⟩ := bd2 hf
        refine r_callVi (ws' := (wX12_acts E h h_inn h_tape h_far h_from h_real h_other h_kept h_set h_w h_book h_noteSort h_whose h_what h_noteIs h_fitting h_dawn h_likes h_walked h_came h_inn_creak h_inn_doorA h_inn_doorB h_inn_how h_inn_lies h_inn_isCold h_inn_falls h_inn_isFull h_inn_isTold h_inn_act h_inn_what h_inn_then h_inn_met h_inn_bed h_inn_dream h_inn_listens h_inn_name h_inn_nameSort h_inn_nameNumber v_thrown v_trouble v_where v_read v_taped v_size v_at v_sort v_place v_sign v_number v_fault v_wrongAt v_word v_marks v_notes v_w_100 v_inn_minutes v_inn_rooms v_inn_doors v_inn_things v_inn_dreams v_inn_sleepers v_inn_listeners v_inn_names v_inn_isTold v_inn_act v_inn_then v_inn_what v_inn_doorA v_inn_doorB v_from v_inn_falls v_inn_creak v_inn_listens v_far v_inn_isCold v_inn_met)) (As := [.int p0, .int (v_inn_act r_2.toNatClampNeg), .int (v_inn_what r_2.toNatClampNeg)]) (rest := []) C (ctX12_does l E h h_inn h_tape h_far h_from h_real h_other h_kept h_set h_w h_book h_noteSort h_whose h_what h_noteIs h_fitting h_dawn h_likes h_walked h_came h_inn_creak h_inn_doorA h_inn_doorB h_inn_how h_inn_lies h_inn_isCold h_inn_falls h_inn_isFull h_inn_isTold h_inn_act h_inn_what h_inn_then h_inn_met h_inn_bed h_inn_dream h_inn_listens h_inn_name h_inn_nameSort h_inn_nameNumber v_thrown v_trouble v_where v_read v_taped v_size v_at v_sort v_place v_sign v_number v_fault v_wrongAt v_word v_marks v_notes v_w v_inn_minutes v_inn_rooms v_inn_doors v_inn_things v_inn_dreams v_inn_sleepers v_inn_listeners v_inn_names v_inn_doorA v_inn_doorB N p0 (v_inn_act r_2.toNatClampNeg) (v_inn_what r_2.toNatClampNeg) r_100 v_w_100 hc_100) ml_X12_406 ⟨Nat.le_of_ble_eq_true rfl, Nat.le_of_ble_eq_true rfl⟩ hP hD hS 0 rfl rfl rfl [0, 1, 2, 7, 8] rfl rfl rfl rfl rfl hl.1 rfl (Nat.le_of_ble_eq_true rfl) ⟨Nat.zero_le _, Nat.zero_le _⟩ dX12_acts_100 ?_
        clear hP hD hS; intro H locs hP hD hS
        refine lv_if_eq (tgt := 123) hx hb dX12_acts_103 (by decide) (fun c_103 => ?_) (fun c_103 => ?_)
        · replace hf := it_t c_103 hf
          cases hf
          rw [hQ]
          exact r_vret C hr hP hD hS dX12_acts_123
        · replace hf := it_f c_103 hf
          exact hj106 v_w_100 hf _ _ _ (lv_sub hl [0, 1, 2] rfl) hP hD hS
    clear ej68
    refine lv_if_ne (tgt := 68) hx hb dX12_acts_28 (by decide) (fun c_28 => ?_) (fun c_28 => ?_)
    · replace hf := it_f c_28 hf
      exact hj68  hf _ _ _ (lv_sub hl [1, 2, 0] rfl) hP hD hS
    · replace hf := it_t c_28 hf
      refine lv_aload_n hx hb dX12_acts_31 rfl (lv_at hl 1 rfl) ?_
      refine r_get C hP 0 rfl fl_X12_36 rfl dX12_acts_32 ?_
      refine lv_iconst (v := 0) hx hb dX12_acts_35 (by decide) ?_
      refine lv_iload_n hx hb dX12_acts_36 rfl (lv_at hl 2 rfl) ?_
      refine lv_iadd hx hb dX12_acts_37 ?_
      obtain ⟨hi_38, hf⟩ := gd_s hf
      refine r_iald C hP 1 rfl hi_38 dX12_acts_38 ?_
      refine lv_aload_n hx hb dX12_acts_39 rfl (lv_at hl 1 rfl) ?_
      refine r_get C hP 0 rfl fl_X12_358 rfl dX12_acts_40 ?_
      refine r_get C hP 2 rfl fl_X12_334 rfl dX12_acts_43 ?_
      refine lv_iload_n hx hb dX12_acts_46 rfl (lv_at hl 0 rfl) ?_
      obtain ⟨hi_47, hf⟩ := gd_s hf
      refine r_iald C hP 6 rfl hi_47 dX12_acts_47 ?_
      refine lv_icmp_eq (tgt := 68) hx hb dX12_acts_48 (by decide) (fun c_48 => ?_) (fun c_48 => ?_)
      · replace hf := it_t c_48 hf
        exact hj68  hf _ _ _ (lv_sub hl [1, 2, 0] rfl) hP hD hS
      · replace hf := it_f c_48 hf
        refine lv_aload_n hx hb dX12_acts_51 rfl (lv_at hl 1 rfl) ?_
        refine lv_iload_n hx hb dX12_acts_52 rfl (lv_at hl 2 rfl) ?_
        refine lv_aload_n hx hb dX12_acts_53 rfl (lv_at hl 1 rfl) ?_
        refine r_get C hP 0 rfl fl_X12_358 rfl dX12_acts_54 ?_
        refine r_get C hP 2 rfl fl_X12_334 rfl dX12_acts_57 ?_
        refine lv_iload_n hx hb dX12_acts_60 rfl (lv_at hl 0 rfl) ?_
        obtain ⟨hi_61, hf⟩ := gd_s hf
        refine r_iald C hP 6 rfl hi_61 dX12_acts_61 ?_
        obtain ⟨v_w_62, v_from_62, hc_62, hf⟩ := bd2 hf
        refine r_callVv (ws' := (wX12_acts E h h_inn h_tape h_far h_from h_real h_other h_kept h_set h_w h_book h_noteSort h_whose h_what h_noteIs h_fitting h_dawn h_likes h_walked h_came h_inn_creak h_inn_doorA h_inn_doorB h_inn_how h_inn_lies h_inn_isCold h_inn_falls h_inn_isFull h_inn_isTold h_inn_act h_inn_what h_inn_then h_inn_met h_inn_bed h_inn_dream h_inn_listens h_inn_name h_inn_nameSort h_inn_nameNumber v_thrown v_trouble v_where v_read v_taped v_size v_at v_sort v_place v_sign v_number v_fault v_wrongAt v_word v_marks v_notes v_w_62 v_inn_minutes v_inn_rooms v_inn_doors v_inn_things v_inn_dreams v_inn_sleepers v_inn_listeners v_inn_names v_inn_isTold v_inn_act v_inn_then v_inn_what v_inn_doorA v_inn_doorB v_from_62 v_inn_falls v_inn_creak v_inn_listens v_far v_inn_isCold v_inn_met)) (As := [.int p0, .int (v_inn_what r_2.toNatClampNeg)]) (rest := []) C (ctX12_goes l E h h_inn h_tape h_far h_from h_real h_other h_kept h_set h_w h_book h_noteSort h_whose h_what h_noteIs h_fitting h_dawn h_likes h_walked h_came h_inn_creak h_inn_doorA h_inn_doorB h_inn_how h_inn_lies h_inn_isCold h_inn_falls h_inn_isFull h_inn_isTold h_inn_act h_inn_what h_inn_then h_inn_met h_inn_bed h_inn_dream h_inn_listens h_inn_name h_inn_nameSort h_inn_nameNumber v_thrown v_trouble v_where v_read v_taped v_size v_at v_sort v_place v_sign v_number v_fault v_wrongAt v_word v_marks v_notes v_w v_inn_minutes v_inn_rooms v_inn_doors v_inn_things v_inn_dreams v_inn_sleepers v_inn_listeners v_inn_names v_inn_doorA v_from v_inn_doorB v_inn_falls v_inn_creak v_inn_listens v_far v_inn_isCold v_inn_isTold v_inn_met N p0 (v_inn_what r_2.toNatClampNeg) v_w_62 v_from_62 hc_62) ml_X12_403 ⟨Nat.le_of_ble_eq_true rfl, Nat.le_of_ble_eq_true rfl⟩ hP hD hS 0 rfl rfl rfl [0, 1, 2, 7, 9, 8, 10, 11, 12, 13, 14, 3, 15] rfl rfl rfl rfl rfl hl.1 rfl (Nat.le_of_ble_eq_true rfl) ⟨Nat.zero_le _, Nat.zero_le _⟩ dX12_acts_62 ?_
        clear hP hD hS; intro H locs hP hD hS
        refine lv_goto (tgt := 123) hx hb dX12_acts_65 (by decide) ?_
        cases hf
        rw [hQ]
        exact r_vret C hr hP hD hS dX12_acts_123
  · replace hf := it_t c_15 hf
    cases hf
    rw [hQ]
    exact r_vret C hr hP hD hS dX12_acts_18
def wX12_passes (E : EN) (h h_inn h_tape h_far h_from h_real h_other h_kept h_set h_w h_book h_noteSort h_whose h_what h_noteIs h_fitting h_dawn h_likes h_walked h_came h_inn_creak h_inn_doorA h_inn_doorB h_inn_how h_inn_lies h_inn_isCold h_inn_falls h_inn_isFull h_inn_isTold h_inn_act h_inn_what h_inn_then h_inn_met h_inn_bed h_inn_dream h_inn_listens h_inn_name h_inn_nameSort h_inn_nameNumber : Nat) (v_thrown : Int32) (v_trouble : Int32) (v_where : Int32) (v_read : Option Nat) (v_taped : Int32) (v_size : Int32) (v_at : Int32) (v_sort : Int32) (v_place : Int32) (v_sign : Int32) (v_number : Int32) (v_fault : Int32) (v_wrongAt : Int32) (v_word : Int64) (v_marks : Int32) (v_notes : Int32) (v_w : Nat → Int32) (v_inn_minutes : Int32) (v_inn_rooms : Int32) (v_inn_doors : Int32) (v_inn_things : Int32) (v_inn_dreams : Int32) (v_inn_sleepers : Int32) (v_inn_listeners : Int32) (v_inn_names : Int32) (v_inn_isTold : Nat → Int32) (v_inn_act : Nat → Int32) (v_inn_then : Nat → Int32) (v_inn_what : Nat → Int32) (v_inn_doorA : Nat → Int32) (v_inn_doorB : Nat → Int32) (v_from : Nat → Int32) (v_inn_falls : Nat → Int32) (v_inn_creak : Nat → Int32) (v_inn_listens : Nat → Int32) (v_far : Nat → Int32) (v_inn_isCold : Nat → Int32) (v_inn_met : Nat → Int32) : va_W := [(h, .inr (11, [.int v_thrown, .int v_trouble, .int v_where, .ref h_inn, va_rf v_read, .ref h_tape, .int v_taped, .int v_size, .int v_at, .int v_sort, .int v_place, .int v_sign, .int v_number, .int v_fault, .int v_wrongAt, .long v_word, .ref h_far, .ref h_from, .ref h_real, .ref h_other, .ref h_kept, .ref h_set, .ref h_w, .int v_marks, .int v_notes, .ref h_book, .ref h_noteSort, .ref h_whose, .ref h_what, .ref h_noteIs, .ref h_fitting, .ref h_dawn, .ref h_likes, .ref h_walked, .ref h_came])), (h_w, aI E 51 v_w), (h_inn, .inr (10, [.int v_inn_minutes, .int v_inn_rooms, .int v_inn_doors, .int v_inn_things, .int v_inn_dreams, .int v_inn_sleepers, .int v_inn_listeners, .int v_inn_names, .ref h_inn_creak, .ref h_inn_doorA, .ref h_inn_doorB, .ref h_inn_how, .ref h_inn_lies, .ref h_inn_isCold, .ref h_inn_falls, .ref h_inn_isFull, .ref h_inn_isTold, .ref h_inn_act, .ref h_inn_what, .ref h_inn_then, .ref h_inn_met, .ref h_inn_bed, .ref h_inn_dream, .ref h_inn_listens, .ref h_inn_name, .ref h_inn_nameSort, .ref h_inn_nameNumber])), (h_inn_isTold, aZ E 16 v_inn_isTold), (h_inn_act, aI E 16 v_inn_act), (h_inn_then, aI E 16 v_inn_then), (h_inn_what, aI E 16 v_inn_what), (h_inn_doorA, aI E 10 v_inn_doorA), (h_inn_doorB, aI E 10 v_inn_doorB), (h_from, aI E 8 v_from), (h_inn_falls, aZ E 10 v_inn_falls), (h_inn_creak, aI E 8 v_inn_creak), (h_inn_listens, aI E 3 v_inn_listens), (h_far, aI E 64 v_far), (h_inn_isCold, aZ E 8 v_inn_isCold), (h_inn_met, aI E 16 v_inn_met)]
def BX12_passes_13 (v_inn_sleepers : Int32) (N : Nat) (v_inn_rooms : Int32) (v_inn_doors : Int32) (v_inn_listeners : Int32) (v_inn_isTold : Nat → Int32) (v_inn_act : Nat → Int32) (v_inn_then : Nat → Int32) (v_inn_what : Nat → Int32) (v_inn_doorA : Nat → Int32) (v_inn_doorB : Nat → Int32) (v_inn_falls : Nat → Int32) (v_inn_creak : Nat → Int32) (v_inn_listens : Nat → Int32) (v_far : Nat → Int32) (v_inn_isCold : Nat → Int32) (v_inn_met : Nat → Int32) (rec13 : (Int32 × (Nat → Int32) × (Nat → Int32)) → Option ((Nat → Int32) × (Nat → Int32))) : (Int32 × (Nat → Int32) × (Nat → Int32)) → Option ((Nat → Int32) × (Nat → Int32)) := un3 fun (x13_1 : Int32) (x13_w : Nat → Int32) (x13_from : Nat → Int32) => if v_inn_sleepers ≤ x13_1 then (some (x13_w, x13_from)) else (gd (9 + x13_1) 51 (jn (un2 fun (x41_w : Nat → Int32) (x41_from : Nat → Int32) => rec13 (x13_1 + 1, x41_w, x41_from)) (fun j41 => if (x13_w (9 + x13_1).toNatClampNeg) = 0 then ((fX12_acts N x13_1 x13_w v_inn_rooms v_inn_doors v_inn_sleepers v_inn_listeners v_inn_isTold v_inn_act v_inn_then v_inn_what v_inn_doorA v_inn_doorB x13_from v_inn_falls v_inn_creak v_inn_listens v_far v_inn_isCold v_inn_met).bind (un2 fun (v_w_38 : Nat → Int32) (v_from_38 : Nat → Int32) => j41 (v_w_38, v_from_38))) else (j41 (x13_w, x13_from)))))
def fX12_passes (N : Nat) (v_w : Nat → Int32) (v_inn_rooms : Int32) (v_inn_doors : Int32) (v_inn_sleepers : Int32) (v_inn_listeners : Int32) (v_inn_isTold : Nat → Int32) (v_inn_act : Nat → Int32) (v_inn_then : Nat → Int32) (v_inn_what : Nat → Int32) (v_inn_doorA : Nat → Int32) (v_inn_doorB : Nat → Int32) (v_from : Nat → Int32) (v_inn_falls : Nat → Int32) (v_inn_creak : Nat → Int32) (v_inn_listens : Nat → Int32) (v_far : Nat → Int32) (v_inn_isCold : Nat → Int32) (v_inn_met : Nat → Int32) : Option ((Nat → Int32) × (Nat → Int32)) := gd 49 51 (gd 49 51 (lp (BX12_passes_13 v_inn_sleepers N v_inn_rooms v_inn_doors v_inn_listeners v_inn_isTold v_inn_act v_inn_then v_inn_what v_inn_doorA v_inn_doorB v_inn_falls v_inn_creak v_inn_listens v_far v_inn_isCold v_inn_met) N (0, upd v_w (49 : Int32).toNatClampNeg ((v_w (49 : Int32).toNatClampNeg) + 1), v_from)))
set_option maxHeartbeats 4000000 in
set_option maxRecDepth 100000 in
theorem ctX12_passes (l : Launch) (E : EN) (h h_inn h_tape h_far h_from h_real h_other h_kept h_set h_w h_book h_noteSort h_whose h_what h_noteIs h_fitting h_dawn h_likes h_walked h_came h_inn_creak h_inn_doorA h_inn_doorB h_inn_how h_inn_lies h_inn_isCold h_inn_falls h_inn_isFull h_inn_isTold h_inn_act h_inn_what h_inn_then h_inn_met h_inn_bed h_inn_dream h_inn_listens h_inn_name h_inn_nameSort h_inn_nameNumber : Nat) (v_thrown : Int32) (v_trouble : Int32) (v_where : Int32) (v_read : Option Nat) (v_taped : Int32) (v_size : Int32) (v_at : Int32) (v_sort : Int32) (v_place : Int32) (v_sign : Int32) (v_number : Int32) (v_fault : Int32) (v_wrongAt : Int32) (v_word : Int64) (v_marks : Int32) (v_notes : Int32) (v_w : Nat → Int32) (v_inn_minutes : Int32) (v_inn_rooms : Int32) (v_inn_doors : Int32) (v_inn_things : Int32) (v_inn_dreams : Int32) (v_inn_sleepers : Int32) (v_inn_listeners : Int32) (v_inn_names : Int32) (v_inn_isTold : Nat → Int32) (v_inn_act : Nat → Int32) (v_inn_then : Nat → Int32) (v_inn_what : Nat → Int32) (v_inn_doorA : Nat → Int32) (v_inn_doorB : Nat → Int32) (v_from : Nat → Int32) (v_inn_falls : Nat → Int32) (v_inn_creak : Nat → Int32) (v_inn_listens : Nat → Int32) (v_far : Nat → Int32) (v_inn_isCold : Nat → Int32) (v_inn_met : Nat → Int32) (N : Nat) (z0 : Nat → Int32) (z1 : Nat → Int32) (hf : fX12_passes N v_w v_inn_rooms v_inn_doors v_inn_sleepers v_inn_listeners v_inn_isTold v_inn_act v_inn_then v_inn_what v_inn_doorA v_inn_doorB v_from v_inn_falls v_inn_creak v_inn_listens v_far v_inn_isCold v_inn_met = some (z0, z1)) : CTv l E yX12_passes cX12_passes 2 4 95 [.ref h] (wX12_passes E h h_inn h_tape h_far h_from h_real h_other h_kept h_set h_w h_book h_noteSort h_whose h_what h_noteIs h_fitting h_dawn h_likes h_walked h_came h_inn_creak h_inn_doorA h_inn_doorB h_inn_how h_inn_lies h_inn_isCold h_inn_falls h_inn_isFull h_inn_isTold h_inn_act h_inn_what h_inn_then h_inn_met h_inn_bed h_inn_dream h_inn_listens h_inn_name h_inn_nameSort h_inn_nameNumber v_thrown v_trouble v_where v_read v_taped v_size v_at v_sort v_place v_sign v_number v_fault v_wrongAt v_word v_marks v_notes v_w v_inn_minutes v_inn_rooms v_inn_doors v_inn_things v_inn_dreams v_inn_sleepers v_inn_listeners v_inn_names v_inn_isTold v_inn_act v_inn_then v_inn_what v_inn_doorA v_inn_doorB v_from v_inn_falls v_inn_creak v_inn_listens v_far v_inn_isCold v_inn_met) (wX12_passes E h h_inn h_tape h_far h_from h_real h_other h_kept h_set h_w h_book h_noteSort h_whose h_what h_noteIs h_fitting h_dawn h_likes h_walked h_came h_inn_creak h_inn_doorA h_inn_doorB h_inn_how h_inn_lies h_inn_isCold h_inn_falls h_inn_isFull h_inn_isTold h_inn_act h_inn_what h_inn_then h_inn_met h_inn_bed h_inn_dream h_inn_listens h_inn_name h_inn_nameSort h_inn_nameNumber v_thrown v_trouble v_where v_read v_taped v_size v_at v_sort v_place v_sign v_number v_fault v_wrongAt v_word v_marks v_notes z0 v_inn_minutes v_inn_rooms v_inn_doors v_inn_things v_inn_dreams v_inn_sleepers v_inn_listeners v_inn_names v_inn_isTold v_inn_act v_inn_then v_inn_what v_inn_doorA v_inn_doorB z1 v_inn_falls v_inn_creak v_inn_listens v_far v_inn_isCold v_inn_met) := by
  intro sz
  refine ct_body (by decide) (Nat.le_of_ble_eq_true rfl) ?_
  intro p e s m args below meth c A ls hAe C hr hin hP hD hS hl
  have C : CX p s m args meth c cX12_passes RX12 2 E A := C
  have hl : lv_has ls 2 [(0, .ref h)] := hl
  have hx := C.1
  have hb := C.2.1
  rw [hAe]
  clear hAe
  obtain ⟨Q, hQ⟩ : ∃ Q, Q = MQ below (Qv E A (wX12_passes E h h_inn h_tape h_far h_from h_real h_other h_kept h_set h_w h_book h_noteSort h_whose h_what h_noteIs h_fitting h_dawn h_likes h_walked h_came h_inn_creak h_inn_doorA h_inn_doorB h_inn_how h_inn_lies h_inn_isCold h_inn_falls h_inn_isFull h_inn_isTold h_inn_act h_inn_what h_inn_then h_inn_met h_inn_bed h_inn_dream h_inn_listens h_inn_name h_inn_nameSort h_inn_nameNumber v_thrown v_trouble v_where v_read v_taped v_size v_at v_sort v_place v_sign v_number v_fault v_wrongAt v_word v_marks v_notes z0 v_inn_minutes v_inn_rooms v_inn_doors v_inn_things v_inn_dreams v_inn_sleepers v_inn_listeners v_inn_names v_inn_isTold v_inn_act v_inn_then v_inn_what v_inn_doorA v_inn_doorB z1 v_inn_falls v_inn_creak v_inn_listens v_far v_inn_isCold v_inn_met)) args s 0 0 A := ⟨_, rfl⟩
  rw [← hQ]
  unfold fX12_passes at hf
  refine lv_aload_n hx hb dX12_passes_0 rfl (lv_at hl 0 rfl) ?_
  refine r_get C hP 0 rfl fl_X12_36 rfl dX12_passes_1 ?_
  refine lv_bipush (v := 49) hx hb dX12_passes_4 (by decide) ?_
  refine lv_dup2_11 hx hb dX12_passes_6 rfl rfl ?_
  obtain ⟨hi_7, hf⟩ := gd_s hf
  refine r_iald C hP 1 rfl hi_7 dX12_passes_7 ?_
  refine lv_iconst (v := 1) hx hb dX12_passes_8 (by decide) ?_
  refine lv_iadd hx hb dX12_passes_9 ?_
  obtain ⟨hi_10, hf⟩ := gd_s hf
  refine r_iast (ws' := (wX12_passes E h h_inn h_tape h_far h_from h_real h_other h_kept h_set h_w h_book h_noteSort h_whose h_what h_noteIs h_fitting h_dawn h_likes h_walked h_came h_inn_creak h_inn_doorA h_inn_doorB h_inn_how h_inn_lies h_inn_isCold h_inn_falls h_inn_isFull h_inn_isTold h_inn_act h_inn_what h_inn_then h_inn_met h_inn_bed h_inn_dream h_inn_listens h_inn_name h_inn_nameSort h_inn_nameNumber v_thrown v_trouble v_where v_read v_taped v_size v_at v_sort v_place v_sign v_number v_fault v_wrongAt v_word v_marks v_notes (upd v_w (49 : Int32).toNatClampNeg ((v_w (49 : Int32).toNatClampNeg) + 1)) v_inn_minutes v_inn_rooms v_inn_doors v_inn_things v_inn_dreams v_inn_sleepers v_inn_listeners v_inn_names v_inn_isTold v_inn_act v_inn_then v_inn_what v_inn_doorA v_inn_doorB v_from v_inn_falls v_inn_creak v_inn_listens v_far v_inn_isCold v_inn_met)) C hP hD hS 1 rfl hi_10 rfl dX12_passes_10 ?_
  clear hP hD hS; intro H locs hP hD hS
  refine lv_iconst (v := 0) hx hb dX12_passes_11 (by decide) ?_
  refine lv_istore_n (lv' := [(1, .int 0), (0, .ref h)]) hx hb dX12_passes_12 rfl hl (by decide) rfl (fun ls hl => ?_)
  have key13 : ∀ (n : Nat) (x13_1 : Int32) (x13_w : Nat → Int32) (x13_from : Nat → Int32) , lp (BX12_passes_13 v_inn_sleepers N v_inn_rooms v_inn_doors v_inn_listeners v_inn_isTold v_inn_act v_inn_then v_inn_what v_inn_doorA v_inn_doorB v_inn_falls v_inn_creak v_inn_listens v_far v_inn_isCold v_inn_met) n (x13_1, x13_w, x13_from) = some (z0, z1) → AT p l e (rmOf 4 95) s m args below meth c E A Q 0 0 2 [(0, .ref h), (1, .int x13_1)] (wX12_passes E h h_inn h_tape h_far h_from h_real h_other h_kept h_set h_w h_book h_noteSort h_whose h_what h_noteIs h_fitting h_dawn h_likes h_walked h_came h_inn_creak h_inn_doorA h_inn_doorB h_inn_how h_inn_lies h_inn_isCold h_inn_falls h_inn_isFull h_inn_isTold h_inn_act h_inn_what h_inn_then h_inn_met h_inn_bed h_inn_dream h_inn_listens h_inn_name h_inn_nameSort h_inn_nameNumber v_thrown v_trouble v_where v_read v_taped v_size v_at v_sort v_place v_sign v_number v_fault v_wrongAt v_word v_marks v_notes x13_w v_inn_minutes v_inn_rooms v_inn_doors v_inn_things v_inn_dreams v_inn_sleepers v_inn_listeners v_inn_names v_inn_isTold v_inn_act v_inn_then v_inn_what v_inn_doorA v_inn_doorB x13_from v_inn_falls v_inn_creak v_inn_listens v_far v_inn_isCold v_inn_met) 13 [] := by
    intro n
    induction n with
    | zero => intro x13_1 x13_w x13_from hf; exact (lp_0 hf).elim
    | succ n ih13 =>
      intro x13_1 x13_w x13_from hf H locs ls hl hP hD hS
      replace hf := lp_s hf
      generalize lp (BX12_passes_13 v_inn_sleepers N v_inn_rooms v_inn_doors v_inn_listeners v_inn_isTold v_inn_act v_inn_then v_inn_what v_inn_doorA v_inn_doorB v_inn_falls v_inn_creak v_inn_listens v_far v_inn_isCold v_inn_met) n = rec13 at ih13 hf
      unfold BX12_passes_13 at hf
      replace hf := un3_s hf
      refine lv_iload_n hx hb dX12_passes_13 rfl (lv_at hl 1 rfl) ?_
      refine lv_aload_n hx hb dX12_passes_14 rfl (lv_at hl 0 rfl) ?_
      refine r_get C hP 0 rfl fl_X12_358 rfl dX12_passes_15 ?_
      refine r_get C hP 2 rfl fl_X12_247 rfl dX12_passes_18 ?_
      refine lv_icmp_ge (tgt := 47) hx hb dX12_passes_21 (by decide) (fun c_21 => ?_) (fun c_21 => ?_)
      · replace hf := it_t c_21 hf
        cases hf
        rw [hQ]
        exact r_vret C hr hP hD hS dX12_passes_47
      · replace hf := it_f c_21 hf
        refine lv_aload_n hx hb dX12_passes_24 rfl (lv_at hl 0 rfl) ?_
        refine r_get C hP 0 rfl fl_X12_36 rfl dX12_passes_25 ?_
        refine lv_bipush (v := 9) hx hb dX12_passes_28 (by decide) ?_
        refine lv_iload_n hx hb dX12_passes_30 rfl (lv_at hl 1 rfl) ?_
        refine lv_iadd hx hb dX12_passes_31 ?_
        obtain ⟨hi_32, hf⟩ := gd_s hf
        refine r_iald C hP 1 rfl hi_32 dX12_passes_32 ?_
        refine jnK hf (fun j41 ej41 hf => ?_)
        have hj41 : ∀ (x41_w : Nat → Int32) (x41_from : Nat → Int32) , j41 (x41_w, x41_from) = some (z0, z1) → AT p l e (rmOf 4 95) s m args below meth c E A Q 0 0 2 [(0, .ref h), (1, .int x13_1)] (wX12_passes E h h_inn h_tape h_far h_from h_real h_other h_kept h_set h_w h_book h_noteSort h_whose h_what h_noteIs h_fitting h_dawn h_likes h_walked h_came h_inn_creak h_inn_doorA h_inn_doorB h_inn_how h_inn_lies h_inn_isCold h_inn_falls h_inn_isFull h_inn_isTold h_inn_act h_inn_what h_inn_then h_inn_met h_inn_bed h_inn_dream h_inn_listens h_inn_name h_inn_nameSort h_inn_nameNumber v_thrown v_trouble v_where v_read v_taped v_size v_at v_sort v_place v_sign v_number v_fault v_wrongAt v_word v_marks v_notes x41_w v_inn_minutes v_inn_rooms v_inn_doors v_inn_things v_inn_dreams v_inn_sleepers v_inn_listeners v_inn_names v_inn_isTold v_inn_act v_inn_then v_inn_what v_inn_doorA v_inn_doorB x41_from v_inn_falls v_inn_creak v_inn_listens v_far v_inn_isCold v_inn_met) 41 [] := by
          intro x41_w x41_from hf H locs ls hl hP hD hS
          rw [ej41] at hf
          replace hf := un2_s hf
          refine lv_iinc (v := x13_1 + 1) (lv' := [(1, .int (x13_1 + 1)), (0, .ref h)]) hx hb dX12_passes_41 hl (k := 1) rfl rfl (by decide) rfl (fun ls hl => ?_)
          refine lv_goto (tgt := 13) hx hb dX12_passes_44 (by decide) ?_
          exact ih13 (x13_1 + 1) x41_w x41_from hf _ _ _ (lv_sub hl [1, 0] rfl) hP hD hS
        clear ej41
        refine lv_if_ne (tgt := 41) hx hb dX12_passes_33 (by decide) (fun c_33 => ?_) (fun c_33 => ?_)
        · replace hf := it_f c_33 hf
          exact hj41 x13_w x13_from hf _ _ _ (lv_sub hl [0, 1] rfl) hP hD hS
        · replace hf := it_t c_33 hf
          refine lv_aload_n hx hb dX12_passes_36 rfl (lv_at hl 0 rfl) ?_
          refine lv_iload_n hx hb dX12_passes_37 rfl (lv_at hl 1 rfl) ?_
          obtain ⟨v_w_38, v_from_38, hc_38, hf⟩ := bd2 hf
          refine r_callVv (ws' := (wX12_passes E h h_inn h_tape h_far h_from h_real h_other h_kept h_set h_w h_book h_noteSort h_whose h_what h_noteIs h_fitting h_dawn h_likes h_walked h_came h_inn_creak h_inn_doorA h_inn_doorB h_inn_how h_inn_lies h_inn_isCold h_inn_falls h_inn_isFull h_inn_isTold h_inn_act h_inn_what h_inn_then h_inn_met h_inn_bed h_inn_dream h_inn_listens h_inn_name h_inn_nameSort h_inn_nameNumber v_thrown v_trouble v_where v_read v_taped v_size v_at v_sort v_place v_sign v_number v_fault v_wrongAt v_word v_marks v_notes v_w_38 v_inn_minutes v_inn_rooms v_inn_doors v_inn_things v_inn_dreams v_inn_sleepers v_inn_listeners v_inn_names v_inn_isTold v_inn_act v_inn_then v_inn_what v_inn_doorA v_inn_doorB v_from_38 v_inn_falls v_inn_creak v_inn_listens v_far v_inn_isCold v_inn_met)) (As := [.int x13_1]) (rest := []) C (ctX12_acts l E h h_inn h_tape h_far h_from h_real h_other h_kept h_set h_w h_book h_noteSort h_whose h_what h_noteIs h_fitting h_dawn h_likes h_walked h_came h_inn_creak h_inn_doorA h_inn_doorB h_inn_how h_inn_lies h_inn_isCold h_inn_falls h_inn_isFull h_inn_isTold h_inn_act h_inn_what h_inn_then h_inn_met h_inn_bed h_inn_dream h_inn_listens h_inn_name h_inn_nameSort h_inn_nameNumber v_thrown v_trouble v_where v_read v_taped v_size v_at v_sort v_place v_sign v_number v_fault v_wrongAt v_word v_marks v_notes x13_w v_inn_minutes v_inn_rooms v_inn_doors v_inn_things v_inn_dreams v_inn_sleepers v_inn_listeners v_inn_names v_inn_isTold v_inn_act v_inn_then v_inn_what v_inn_doorA v_inn_doorB x13_from v_inn_falls v_inn_creak v_inn_listens v_far v_inn_isCold v_inn_met N x13_1 v_w_38 v_from_38 hc_38) ml_X12_409 ⟨Nat.le_of_ble_eq_true rfl, Nat.le_of_ble_eq_true rfl⟩ hP hD hS 0 rfl rfl rfl [0, 1, 2, 3, 4, 5, 6, 7, 8, 9, 10, 11, 12, 13, 14, 15] rfl rfl rfl rfl rfl hl.1 rfl (Nat.le_of_ble_eq_true rfl) ⟨Nat.zero_le _, Nat.zero_le _⟩ dX12_passes_38 ?_
          clear hP hD hS; intro H locs hP hD hS
          exact hj41 v_w_38 v_from_38 hf _ _ _ (lv_sub hl [0, 1] rfl) hP hD hS
  exact key13 _ 0 (upd v_w (49 : Int32).toNatClampNeg ((v_w (49 : Int32).toNatClampNeg) + 1)) v_from hf _ _ _ (lv_sub hl [1, 0] rfl) hP hD hS
def wX12_nightfall (E : EN) (h h_inn h_tape h_far h_from h_real h_other h_kept h_set h_w h_book h_noteSort h_whose h_what h_noteIs h_fitting h_dawn h_likes h_walked h_came h_inn_creak h_inn_doorA h_inn_doorB h_inn_how h_inn_lies h_inn_isCold h_inn_falls h_inn_isFull h_inn_isTold h_inn_act h_inn_what h_inn_then h_inn_met h_inn_bed h_inn_dream h_inn_listens h_inn_name h_inn_nameSort h_inn_nameNumber : Nat) (v_thrown : Int32) (v_trouble : Int32) (v_where : Int32) (v_read : Option Nat) (v_taped : Int32) (v_size : Int32) (v_at : Int32) (v_sort : Int32) (v_place : Int32) (v_sign : Int32) (v_number : Int32) (v_fault : Int32) (v_wrongAt : Int32) (v_word : Int64) (v_marks : Int32) (v_notes : Int32) (v_inn_minutes : Int32) (v_inn_rooms : Int32) (v_inn_doors : Int32) (v_inn_things : Int32) (v_inn_dreams : Int32) (v_inn_sleepers : Int32) (v_inn_listeners : Int32) (v_inn_names : Int32) (v_w : Nat → Int32) (v_inn_how : Nat → Int32) (v_inn_lies : Nat → Int32) (v_inn_isFull : Nat → Int32) (v_inn_bed : Nat → Int32) (v_set : Nat → Int32) : va_W := [(h, .inr (11, [.int v_thrown, .int v_trouble, .int v_where, .ref h_inn, va_rf v_read, .ref h_tape, .int v_taped, .int v_size, .int v_at, .int v_sort, .int v_place, .int v_sign, .int v_number, .int v_fault, .int v_wrongAt, .long v_word, .ref h_far, .ref h_from, .ref h_real, .ref h_other, .ref h_kept, .ref h_set, .ref h_w, .int v_marks, .int v_notes, .ref h_book, .ref h_noteSort, .ref h_whose, .ref h_what, .ref h_noteIs, .ref h_fitting, .ref h_dawn, .ref h_likes, .ref h_walked, .ref h_came])), (h_inn, .inr (10, [.int v_inn_minutes, .int v_inn_rooms, .int v_inn_doors, .int v_inn_things, .int v_inn_dreams, .int v_inn_sleepers, .int v_inn_listeners, .int v_inn_names, .ref h_inn_creak, .ref h_inn_doorA, .ref h_inn_doorB, .ref h_inn_how, .ref h_inn_lies, .ref h_inn_isCold, .ref h_inn_falls, .ref h_inn_isFull, .ref h_inn_isTold, .ref h_inn_act, .ref h_inn_what, .ref h_inn_then, .ref h_inn_met, .ref h_inn_bed, .ref h_inn_dream, .ref h_inn_listens, .ref h_inn_name, .ref h_inn_nameSort, .ref h_inn_nameNumber])), (h_w, aI E 51 v_w), (h_inn_how, aI E 10 v_inn_how), (h_inn_lies, aI E 4 v_inn_lies), (h_inn_isFull, aZ E 4 v_inn_isFull), (h_inn_bed, aI E 3 v_inn_bed), (h_set, aI E 3 v_set)]
def BX12_nightfall_26 (v_inn_sleepers : Int32) (N : Nat) (v_set : Nat → Int32) (rec26 : (Int32 × (Nat → Int32)) → Option (Int32 × Int32 × Int32 × Int32 × (Nat → Int32))) : (Int32 × (Nat → Int32)) → Option (Int32 × Int32 × Int32 × Int32 × (Nat → Int32)) := un2 fun (x26_2 : Int32) (x26_w : Nat → Int32) => if v_inn_sleepers ≤ x26_2 then ((fX12_granted N).bind (un3 fun (r_59 : Int32) (v_trouble_59 : Int32) (v_where_59 : Int32) => zg r_59 (some (r_59, 0, v_trouble_59, v_where_59, x26_w))) else (gd x26_2 3 (gd (12 + x26_2) 51 (rec26 (x26_2 + 1, upd x26_w (12 + x26_2).toNatClampNeg (v_set x26_2.toNatClampNeg)))))
def fX12_nightfall (N : Nat) (p0 : Int32) (v_inn_doors : Int32) (v_inn_things : Int32) (v_inn_sleepers : Int32) (v_w : Nat → Int32) (v_inn_how : Nat → Int32) (v_inn_lies : Nat → Int32) (v_inn_isFull : Nat → Int32) (v_inn_bed : Nat → Int32) (v_set : Nat → Int32) : Option (Int32 × Int32 × Int32 × Int32 × (Nat → Int32)) := (fX12_isSetting N p0 v_inn_doors).bind (un1 fun (r_7 : Int32) => if r_7 = 0 then ((fX12_denied N 1).bind (un3 fun (r_15 : Int32) (v_trouble_15 : Int32) (v_where_15 : Int32) => zg r_15 (some (r_15, 0, v_trouble_15, v_where_15, v_w))) else ((fX12_fallsNight N p0 v_inn_doors v_inn_things v_inn_sleepers v_w v_inn_how v_inn_lies v_inn_isFull v_inn_bed).bind (un1 fun (v_w_21 : Nat → Int32) => lp (BX12_nightfall_26 v_inn_sleepers N v_set) N (0, v_w_21))))
set_option maxHeartbeats 4000000 in
set_option maxRecDepth 100000 in
theorem ctX12_nightfall (l : Launch) (E : EN) (h h_inn h_tape h_far h_from h_real h_other h_kept h_set h_w h_book h_noteSort h_whose h_what h_noteIs h_fitting h_dawn h_likes h_walked h_came h_inn_creak h_inn_doorA h_inn_doorB h_inn_how h_inn_lies h_inn_isCold h_inn_falls h_inn_isFull h_inn_isTold h_inn_act h_inn_what h_inn_then h_inn_met h_inn_bed h_inn_dream h_inn_listens h_inn_name h_inn_nameSort h_inn_nameNumber : Nat) (v_thrown : Int32) (v_trouble : Int32) (v_where : Int32) (v_read : Option Nat) (v_taped : Int32) (v_size : Int32) (v_at : Int32) (v_sort : Int32) (v_place : Int32) (v_sign : Int32) (v_number : Int32) (v_fault : Int32) (v_wrongAt : Int32) (v_word : Int64) (v_marks : Int32) (v_notes : Int32) (v_inn_minutes : Int32) (v_inn_rooms : Int32) (v_inn_doors : Int32) (v_inn_things : Int32) (v_inn_dreams : Int32) (v_inn_sleepers : Int32) (v_inn_listeners : Int32) (v_inn_names : Int32) (v_w : Nat → Int32) (v_inn_how : Nat → Int32) (v_inn_lies : Nat → Int32) (v_inn_isFull : Nat → Int32) (v_inn_bed : Nat → Int32) (v_set : Nat → Int32) (N : Nat) (p0 : Int32) (z0 : Int32) (z1 : Int32) (z2 : Int32) (z3 : Int32) (z4 : Nat → Int32) (hf : fX12_nightfall N p0 v_inn_doors v_inn_things v_inn_sleepers v_w v_inn_how v_inn_lies v_inn_isFull v_inn_bed v_set = some (z0, z1, z2, z3, z4)) : CTi l E yX12_nightfall cX12_nightfall 3 .boolean 2 44 [.ref h, .int p0] (wX12_nightfall E h h_inn h_tape h_far h_from h_real h_other h_kept h_set h_w h_book h_noteSort h_whose h_what h_noteIs h_fitting h_dawn h_likes h_walked h_came h_inn_creak h_inn_doorA h_inn_doorB h_inn_how h_inn_lies h_inn_isCold h_inn_falls h_inn_isFull h_inn_isTold h_inn_act h_inn_what h_inn_then h_inn_met h_inn_bed h_inn_dream h_inn_listens h_inn_name h_inn_nameSort h_inn_nameNumber v_thrown v_trouble v_where v_read v_taped v_size v_at v_sort v_place v_sign v_number v_fault v_wrongAt v_word v_marks v_notes v_inn_minutes v_inn_rooms v_inn_doors v_inn_things v_inn_dreams v_inn_sleepers v_inn_listeners v_inn_names v_w v_inn_how v_inn_lies v_inn_isFull v_inn_bed v_set) z0 (wX12_nightfall E h h_inn h_tape h_far h_from h_real h_other h_kept h_set h_w h_book h_noteSort h_whose h_what h_noteIs h_fitting h_dawn h_likes h_walked h_came h_inn_creak h_inn_doorA h_inn_doorB h_inn_how h_inn_lies h_inn_isCold h_inn_falls h_inn_isFull h_inn_isTold h_inn_act h_inn_what h_inn_then h_inn_met h_inn_bed h_inn_dream h_inn_listens h_inn_name h_inn_nameSort h_inn_nameNumber z1 z2 z3 v_read v_taped v_size v_at v_sort v_place v_sign v_number v_fault v_wrongAt v_word v_marks v_notes v_inn_minutes v_inn_rooms v_inn_doors v_inn_things v_inn_dreams v_inn_sleepers v_inn_listeners v_inn_names z4 v_inn_how v_inn_lies v_inn_isFull v_inn_bed v_set) := by
  intro sz
  refine ct_body (by decide) (Nat.le_of_ble_eq_true rfl) ?_
  intro p e s m args below meth c A ls hAe C hr hin hP hD hS hl
  have C : CX p s m args meth c cX12_nightfall RX12 3 E A := C
  have hl : lv_has ls 3 [(0, .ref h), (1, .int p0)] := hl
  have hx := C.1
  have hb := C.2.1
  rw [hAe]
  clear hAe
  obtain ⟨Q, hQ⟩ : ∃ Q, Q = MQ below (Qi E A z0 (wX12_nightfall E h h_inn h_tape h_far h_from h_real h_other h_kept h_set h_w h_book h_noteSort h_whose h_what h_noteIs h_fitting h_dawn h_likes h_walked h_came h_inn_creak h_inn_doorA h_inn_doorB h_inn_how h_inn_lies h_inn_isCold h_inn_falls h_inn_isFull h_inn_isTold h_inn_act h_inn_what h_inn_then h_inn_met h_inn_bed h_inn_dream h_inn_listens h_inn_name h_inn_nameSort h_inn_nameNumber z1 z2 z3 v_read v_taped v_size v_at v_sort v_place v_sign v_number v_fault v_wrongAt v_word v_marks v_notes v_inn_minutes v_inn_rooms v_inn_doors v_inn_things v_inn_dreams v_inn_sleepers v_inn_listeners v_inn_names z4 v_inn_how v_inn_lies v_inn_isFull v_inn_bed v_set)) args s 0 0 A := ⟨_, rfl⟩
  rw [← hQ]
  unfold fX12_nightfall at hf
  refine lv_aload_n hx hb dX12_nightfall_0 rfl (lv_at hl 0 rfl) ?_
  refine lv_iconst (v := 0) hx hb dX12_nightfall_1 (by decide) ?_
  refine r_put (ws' := (wX12_nightfall E h h_inn h_tape h_far h_from h_real h_other h_kept h_set h_w h_book h_noteSort h_whose h_what h_noteIs h_fitting h_dawn h_likes h_walked h_came h_inn_creak h_inn_doorA h_inn_doorB h_inn_how h_inn_lies h_inn_isCold h_inn_falls h_inn_isFull h_inn_isTold h_inn_act h_inn_what h_inn_then h_inn_met h_inn_bed h_inn_dream h_inn_listens h_inn_name h_inn_nameSort h_inn_nameNumber 0 v_trouble v_where v_read v_taped v_size v_at v_sort v_place v_sign v_number v_fault v_wrongAt v_word v_marks v_notes v_inn_minutes v_inn_rooms v_inn_doors v_inn_things v_inn_dreams v_inn_sleepers v_inn_listeners v_inn_names v_w v_inn_how v_inn_lies v_inn_isFull v_inn_bed v_set)) C hP hD hS 0 rfl fl_X12_71 rfl rfl (by decide) rfl dX12_nightfall_2 ?_
  clear hP hD hS; intro H locs hP hD hS
  refine lv_aload_n hx hb dX12_nightfall_5 rfl (lv_at hl 0 rfl) ?_
  refine lv_iload_n hx hb dX12_nightfall_6 rfl (lv_at hl 1 rfl) ?_
  obtain ⟨r_7, hc_7, hf⟩ := bd1 hf
  refine r_callVi (ws' := (wX12_nightfall E h h_inn h_tape h_far h_from h_real h_other h_kept h_set h_w h_book h_noteSort h_whose h_what h_noteIs h_fitting h_dawn h_likes h_walked h_came h_inn_creak h_inn_doorA h_inn_doorB h_inn_how h_inn_lies h_inn_isCold h_inn_falls h_inn_isFull h_inn_isTold h_inn_act h_inn_what h_inn_then h_inn_met h_inn_bed h_inn_dream h_inn_listens h_inn_name h_inn_nameSort h_inn_nameNumber 0 v_trouble v_where v_read v_taped v_size v_at v_sort v_place v_sign v_number v_fault v_wrongAt v_word v_marks v_notes v_inn_minutes v_inn_rooms v_inn_doors v_inn_things v_inn_dreams v_inn_sleepers v_inn_listeners v_inn_names v_w v_inn_how v_inn_lies v_inn_isFull v_inn_bed v_set)) (As := [.int p0]) (rest := []) C (ctX12_isSetting l E h h_inn h_tape h_far h_from h_real h_other h_kept h_set h_w h_book h_noteSort h_whose h_what h_noteIs h_fitting h_dawn h_likes h_walked h_came h_inn_creak h_inn_doorA h_inn_doorB h_inn_how h_inn_lies h_inn_isCold h_inn_falls h_inn_isFull h_inn_isTold h_inn_act h_inn_what h_inn_then h_inn_met h_inn_bed h_inn_dream h_inn_listens h_inn_name h_inn_nameSort h_inn_nameNumber 0 v_trouble v_where v_read v_taped v_size v_at v_sort v_place v_sign v_number v_fault v_wrongAt v_word v_marks v_notes v_inn_minutes v_inn_rooms v_inn_doors v_inn_things v_inn_dreams v_inn_sleepers v_inn_listeners v_inn_names N p0 r_7 hc_7) ml_X12_412 ⟨Nat.le_of_ble_eq_true rfl, Nat.le_of_ble_eq_true rfl⟩ hP hD hS 0 rfl rfl rfl [0, 1] rfl rfl rfl rfl rfl hl.1 rfl (Nat.le_of_ble_eq_true rfl) ⟨Nat.zero_le _, Nat.zero_le _⟩ dX12_nightfall_7 ?_
  clear hP hD hS; intro H locs hP hD hS
  refine lv_if_ne (tgt := 19) hx hb dX12_nightfall_10 (by decide) (fun c_10 => ?_) (fun c_10 => ?_)
  · replace hf := it_f c_10 hf
    refine lv_aload_n hx hb dX12_nightfall_19 rfl (lv_at hl 0 rfl) ?_
    refine lv_iload_n hx hb dX12_nightfall_20 rfl (lv_at hl 1 rfl) ?_
    obtain ⟨v_w_21, hc_21, hf⟩ := bd1 hf
    refine r_callVv (ws' := (wX12_nightfall E h h_inn h_tape h_far h_from h_real h_other h_kept h_set h_w h_book h_noteSort h_whose h_what h_noteIs h_fitting h_dawn h_likes h_walked h_came h_inn_creak h_inn_doorA h_inn_doorB h_inn_how h_inn_lies h_inn_isCold h_inn_falls h_inn_isFull h_inn_isTold h_inn_act h_inn_what h_inn_then h_inn_met h_inn_bed h_inn_dream h_inn_listens h_inn_name h_inn_nameSort h_inn_nameNumber 0 v_trouble v_where v_read v_taped v_size v_at v_sort v_place v_sign v_number v_fault v_wrongAt v_word v_marks v_notes v_inn_minutes v_inn_rooms v_inn_doors v_inn_things v_inn_dreams v_inn_sleepers v_inn_listeners v_inn_names v_w_21 v_inn_how v_inn_lies v_inn_isFull v_inn_bed v_set)) (As := [.int p0]) (rest := []) C (ctX12_fallsNight l E h h_inn h_tape h_far h_from h_real h_other h_kept h_set h_w h_book h_noteSort h_whose h_what h_noteIs h_fitting h_dawn h_likes h_walked h_came h_inn_creak h_inn_doorA h_inn_doorB h_inn_how h_inn_lies h_inn_isCold h_inn_falls h_inn_isFull h_inn_isTold h_inn_act h_inn_what h_inn_then h_inn_met h_inn_bed h_inn_dream h_inn_listens h_inn_name h_inn_nameSort h_inn_nameNumber 0 v_trouble v_where v_read v_taped v_size v_at v_sort v_place v_sign v_number v_fault v_wrongAt v_word v_marks v_notes v_inn_minutes v_inn_rooms v_inn_doors v_inn_things v_inn_dreams v_inn_sleepers v_inn_listeners v_inn_names v_w v_inn_how v_inn_lies v_inn_isFull v_inn_bed N p0 v_w_21 hc_21) ml_X12_369 ⟨Nat.le_of_ble_eq_true rfl, Nat.le_of_ble_eq_true rfl⟩ hP hD hS 0 rfl rfl rfl [0, 1, 2, 3, 4, 5, 6] rfl rfl rfl rfl rfl hl.1 rfl (Nat.le_of_ble_eq_true rfl) ⟨Nat.zero_le _, Nat.zero_le _⟩ dX12_nightfall_21 ?_
    clear hP hD hS; intro H locs hP hD hS
    refine lv_iconst (v := 0) hx hb dX12_nightfall_24 (by decide) ?_
    refine lv_istore_n (lv' := [(2, .int 0), (0, .ref h), (1, .int p0)]) hx hb dX12_nightfall_25 rfl hl (by decide) rfl (fun ls hl => ?_)
    have key26 : ∀ (n : Nat) (x26_2 : Int32) (x26_w : Nat → Int32) , lp (BX12_nightfall_26 v_inn_sleepers N v_set) n (x26_2, x26_w) = some (z0, z1, z2, z3, z4) → AT p l e (rmOf 2 44) s m args below meth c E A Q 0 0 3 [(0, .ref h), (2, .int x26_2)] (wX12_nightfall E h h_inn h_tape h_far h_from h_real h_other h_kept h_set h_w h_book h_noteSort h_whose h_what h_noteIs h_fitting h_dawn h_likes h_walked h_came h_inn_creak h_inn_doorA h_inn_doorB h_inn_how h_inn_lies h_inn_isCold h_inn_falls h_inn_isFull h_inn_isTold h_inn_act h_inn_what h_inn_then h_inn_met h_inn_bed h_inn_dream h_inn_listens h_inn_name h_inn_nameSort h_inn_nameNumber 0 v_trouble v_where v_read v_taped v_size v_at v_sort v_place v_sign v_number v_fault v_wrongAt v_word v_marks v_notes v_inn_minutes v_inn_rooms v_inn_doors v_inn_things v_inn_dreams v_inn_sleepers v_inn_listeners v_inn_names x26_w v_inn_how v_inn_lies v_inn_isFull v_inn_bed v_set) 26 [] := by
      intro n
      induction n with
      | zero => intro x26_2 x26_w hf; exact (lp_0 hf).elim
      | succ n ih26 =>
        intro x26_2 x26_w hf H locs ls hl hP hD hS
        replace hf := lp_s hf
        generalize lp (BX12_nightfall_26 v_inn_sleepers N v_set) n = rec26 at ih26 hf
        unfold BX12_nightfall_26 at hf
        replace hf := un2_s hf
        refine lv_iload_n hx hb dX12_nightfall_26 rfl (lv_at hl 1 rfl) ?_
        refine lv_aload_n hx hb dX12_nightfall_27 rfl (lv_at hl 0 rfl) ?_
        refine r_get C hP 0 rfl fl_X12_358 rfl dX12_nightfall_28 ?_
        refine r_get C hP 1 rfl fl_X12_247 rfl dX12_nightfall_31 ?_
        refine lv_icmp_ge (tgt := 58) hx hb dX12_nightfall_34 (by decide) (fun c_34 => ?_) (fun c_34 => ?_)
        · replace hf := it_t c_34 hf
          refine lv_aload_n hx hb dX12_nightfall_58 rfl (lv_at hl 0 rfl) ?_
          obtain ⟨r_59, v_trouble_59, v_where_59, hc_59, hf⟩ := bd3 hf
          refine r_callVi (ws' := (wX12_nightfall E h h_inn h_tape h_far h_from h_real h_other h_kept h_set h_w h_book h_noteSort h_whose h_what h_noteIs h_fitting h_dawn h_likes h_walked h_came h_inn_creak h_inn_doorA h_inn_doorB h_inn_how h_inn_lies h_inn_isCold h_inn_falls h_inn_isFull h_inn_isTold h_inn_act h_inn_what h_inn_then h_inn_met h_inn_bed h_inn_dream h_inn_listens h_inn_name h_inn_nameSort h_inn_nameNumber 0 v_trouble_59 v_where_59 v_read v_taped v_size v_at v_sort v_place v_sign v_number v_fault v_wrongAt v_word v_marks v_notes v_inn_minutes v_inn_rooms v_inn_doors v_inn_things v_inn_dreams v_inn_sleepers v_inn_listeners v_inn_names x26_w v_inn_how v_inn_lies v_inn_isFull v_inn_bed v_set)) (As := []) (rest := []) C (ctX12_granted l E h h_tape h_far h_from h_real h_other h_kept h_set h_w h_book h_noteSort h_whose h_what h_noteIs h_fitting h_dawn h_likes h_walked h_came 0 v_trouble v_where (some h_inn) v_read v_taped v_size v_at v_sort v_place v_sign v_number v_fault v_wrongAt v_word v_marks v_notes N r_59 v_trouble_59 v_where_59 hc_59) ml_X12_418 ⟨Nat.le_of_ble_eq_true rfl, Nat.le_of_ble_eq_true rfl⟩ hP hD hS 0 rfl rfl rfl [0] rfl rfl rfl rfl rfl hl.1 rfl (Nat.le_of_ble_eq_true rfl) ⟨Nat.zero_le _, Nat.zero_le _⟩ dX12_nightfall_59 ?_
          clear hP hD hS; intro H locs hP hD hS
          obtain ⟨hz_62, hf⟩ := zg_s hf
          cases hf
          rw [hQ]
          exact r_zret C hr hP hD hS hz_62 rfl dX12_nightfall_62
        · replace hf := it_f c_34 hf
          refine lv_aload_n hx hb dX12_nightfall_37 rfl (lv_at hl 0 rfl) ?_
          refine r_get C hP 0 rfl fl_X12_36 rfl dX12_nightfall_38 ?_
          refine lv_bipush (v := 12) hx hb dX12_nightfall_41 (by decide) ?_
          refine lv_iload_n hx hb dX12_nightfall_43 rfl (lv_at hl 1 rfl) ?_
          refine lv_iadd hx hb dX12_nightfall_44 ?_
          refine lv_aload_n hx hb dX12_nightfall_45 rfl (lv_at hl 0 rfl) ?_
          refine r_get C hP 0 rfl fl_X12_33 rfl dX12_nightfall_46 ?_
          refine lv_iload_n hx hb dX12_nightfall_49 rfl (lv_at hl 1 rfl) ?_
          obtain ⟨hi_50, hf⟩ := gd_s hf
          refine r_iald C hP 7 rfl hi_50 dX12_nightfall_50 ?_
          obtain ⟨hi_51, hf⟩ := gd_s hf
          refine r_iast (ws' := (wX12_nightfall E h h_inn h_tape h_far h_from h_real h_other h_kept h_set h_w h_book h_noteSort h_whose h_what h_noteIs h_fitting h_dawn h_likes h_walked h_came h_inn_creak h_inn_doorA h_inn_doorB h_inn_how h_inn_lies h_inn_isCold h_inn_falls h_inn_isFull h_inn_isTold h_inn_act h_inn_what h_inn_then h_inn_met h_inn_bed h_inn_dream h_inn_listens h_inn_name h_inn_nameSort h_inn_nameNumber 0 v_trouble v_where v_read v_taped v_size v_at v_sort v_place v_sign v_number v_fault v_wrongAt v_word v_marks v_notes v_inn_minutes v_inn_rooms v_inn_doors v_inn_things v_inn_dreams v_inn_sleepers v_inn_listeners v_inn_names (upd x26_w (12 + x26_2).toNatClampNeg (v_set x26_2.toNatClampNeg)) v_inn_how v_inn_lies v_inn_isFull v_inn_bed v_set)) C hP hD hS 2 rfl hi_51 rfl dX12_nightfall_51 ?_
          clear hP hD hS; intro H locs hP hD hS
          refine lv_iinc (v := x26_2 + 1) (lv' := [(2, .int (x26_2 + 1)), (0, .ref h)]) hx hb dX12_nightfall_52 hl (k := 1) rfl rfl (by decide) rfl (fun ls hl => ?_)
          refine lv_goto (tgt := 26) hx hb dX12_nightfall_55 (by decide) ?_
          exact ih26 (x26_2 + 1) (upd x26_w (12 + x26_2).toNatClampNeg (v_set x26_2.toNatClampNeg)) hf _ _ _ (lv_sub hl [1, 0] rfl) hP hD hS
    exact key26 _ 0 v_w_21 hf _ _ _ (lv_sub hl [1, 0] rfl) hP hD hS
  · replace hf := it_t c_10 hf
    refine lv_aload_n hx hb dX12_nightfall_13 rfl (lv_at hl 0 rfl) ?_
    refine lv_iconst (v := 1) hx hb dX12_nightfall_14 (by decide) ?_
    obtain ⟨r_15, v_trouble_15, v_where_15, hc_15, hf⟩ := bd3 hf
    refine r_callVi (ws' := (wX12_nightfall E h h_inn h_tape h_far h_from h_real h_other h_kept h_set h_w h_book h_noteSort h_whose h_what h_noteIs h_fitting h_dawn h_likes h_walked h_came h_inn_creak h_inn_doorA h_inn_doorB h_inn_how h_inn_lies h_inn_isCold h_inn_falls h_inn_isFull h_inn_isTold h_inn_act h_inn_what h_inn_then h_inn_met h_inn_bed h_inn_dream h_inn_listens h_inn_name h_inn_nameSort h_inn_nameNumber 0 v_trouble_15 v_where_15 v_read v_taped v_size v_at v_sort v_place v_sign v_number v_fault v_wrongAt v_word v_marks v_notes v_inn_minutes v_inn_rooms v_inn_doors v_inn_things v_inn_dreams v_inn_sleepers v_inn_listeners v_inn_names v_w v_inn_how v_inn_lies v_inn_isFull v_inn_bed v_set)) (As := [.int 1]) (rest := []) C (ctX12_denied l E h h_tape h_far h_from h_real h_other h_kept h_set h_w h_book h_noteSort h_whose h_what h_noteIs h_fitting h_dawn h_likes h_walked h_came 0 v_trouble v_where (some h_inn) v_read v_taped v_size v_at v_sort v_place v_sign v_number v_fault v_wrongAt v_word v_marks v_notes N 1 r_15 v_trouble_15 v_where_15 hc_15) ml_X12_415 ⟨Nat.le_of_ble_eq_true rfl, Nat.le_of_ble_eq_true rfl⟩ hP hD hS 0 rfl rfl rfl [0] rfl rfl rfl rfl rfl hl.1 rfl (Nat.le_of_ble_eq_true rfl) ⟨Nat.zero_le _, Nat.zero_le _⟩ dX12_nightfall_15 ?_
    clear hP hD hS; intro H locs hP hD hS
    obtain ⟨hz_18, hf⟩ := zg_s hf
    cases hf
    rw [hQ]
    exact r_zret C hr hP hD hS hz_18 rfl dX12_nightfall_18
def wX12_isSleeper (E : EN) (h h_inn h_tape h_far h_from h_real h_other h_kept h_set h_w h_book h_noteSort h_whose h_what h_noteIs h_fitting h_dawn h_likes h_walked h_came h_inn_creak h_inn_doorA h_inn_doorB h_inn_how h_inn_lies h_inn_isCold h_inn_falls h_inn_isFull h_inn_isTold h_inn_act h_inn_what h_inn_then h_inn_met h_inn_bed h_inn_dream h_inn_listens h_inn_name h_inn_nameSort h_inn_nameNumber : Nat) (v_thrown : Int32) (v_trouble : Int32) (v_where : Int32) (v_read : Option Nat) (v_taped : Int32) (v_size : Int32) (v_at : Int32) (v_sort : Int32) (v_place : Int32) (v_sign : Int32) (v_number : Int32) (v_fault : Int32) (v_wrongAt : Int32) (v_word : Int64) (v_marks : Int32) (v_notes : Int32) (v_inn_minutes : Int32) (v_inn_rooms : Int32) (v_inn_doors : Int32) (v_inn_things : Int32) (v_inn_dreams : Int32) (v_inn_sleepers : Int32) (v_inn_listeners : Int32) (v_inn_names : Int32) : va_W := [(h, .inr (11, [.int v_thrown, .int v_trouble, .int v_where, .ref h_inn, va_rf v_read, .ref h_tape, .int v_taped, .int v_size, .int v_at, .int v_sort, .int v_place, .int v_sign, .int v_number, .int v_fault, .int v_wrongAt, .long v_word, .ref h_far, .ref h_from, .ref h_real, .ref h_other, .ref h_kept, .ref h_set, .ref h_w, .int v_marks, .int v_notes, .ref h_book, .ref h_noteSort, .ref h_whose, .ref h_what, .ref h_noteIs, .ref h_fitting, .ref h_dawn, .ref h_likes, .ref h_walked, .ref h_came])), (h_inn, .inr (10, [.int v_inn_minutes, .int v_inn_rooms, .int v_inn_doors, .int v_inn_things, .int v_inn_dreams, .int v_inn_sleepers, .int v_inn_listeners, .int v_inn_names, .ref h_inn_creak, .ref h_inn_doorA, .ref h_inn_doorB, .ref h_inn_how, .ref h_inn_lies, .ref h_inn_isCold, .ref h_inn_falls, .ref h_inn_isFull, .ref h_inn_isTold, .ref h_inn_act, .ref h_inn_what, .ref h_inn_then, .ref h_inn_met, .ref h_inn_bed, .ref h_inn_dream, .ref h_inn_listens, .ref h_inn_name, .ref h_inn_nameSort, .ref h_inn_nameNumber]))]
def fX12_isSleeper (N : Nat) (p0 : Int32) (v_inn_sleepers : Int32) : Option Int32 := jn (un0 (some 0)) (fun j26 => if p0 < 0 then (j26 ()) else (if v_inn_sleepers ≤ p0 then (j26 ()) else (some 1)))
set_option maxHeartbeats 4000000 in
set_option maxRecDepth 100000 in
theorem ctX12_isSleeper (l : Launch) (E : EN) (h h_inn h_tape h_far h_from h_real h_other h_kept h_set h_w h_book h_noteSort h_whose h_what h_noteIs h_fitting h_dawn h_likes h_walked h_came h_inn_creak h_inn_doorA h_inn_doorB h_inn_how h_inn_lies h_inn_isCold h_inn_falls h_inn_isFull h_inn_isTold h_inn_act h_inn_what h_inn_then h_inn_met h_inn_bed h_inn_dream h_inn_listens h_inn_name h_inn_nameSort h_inn_nameNumber : Nat) (v_thrown : Int32) (v_trouble : Int32) (v_where : Int32) (v_read : Option Nat) (v_taped : Int32) (v_size : Int32) (v_at : Int32) (v_sort : Int32) (v_place : Int32) (v_sign : Int32) (v_number : Int32) (v_fault : Int32) (v_wrongAt : Int32) (v_word : Int64) (v_marks : Int32) (v_notes : Int32) (v_inn_minutes : Int32) (v_inn_rooms : Int32) (v_inn_doors : Int32) (v_inn_things : Int32) (v_inn_dreams : Int32) (v_inn_sleepers : Int32) (v_inn_listeners : Int32) (v_inn_names : Int32) (N : Nat) (p0 : Int32) (z0 : Int32) (hf : fX12_isSleeper N p0 v_inn_sleepers = some z0) : CTi l E yX12_isSleeper cX12_isSleeper 2 .boolean 0 0 [.ref h, .int p0] (wX12_isSleeper E h h_inn h_tape h_far h_from h_real h_other h_kept h_set h_w h_book h_noteSort h_whose h_what h_noteIs h_fitting h_dawn h_likes h_walked h_came h_inn_creak h_inn_doorA h_inn_doorB h_inn_how h_inn_lies h_inn_isCold h_inn_falls h_inn_isFull h_inn_isTold h_inn_act h_inn_what h_inn_then h_inn_met h_inn_bed h_inn_dream h_inn_listens h_inn_name h_inn_nameSort h_inn_nameNumber v_thrown v_trouble v_where v_read v_taped v_size v_at v_sort v_place v_sign v_number v_fault v_wrongAt v_word v_marks v_notes v_inn_minutes v_inn_rooms v_inn_doors v_inn_things v_inn_dreams v_inn_sleepers v_inn_listeners v_inn_names) z0 (wX12_isSleeper E h h_inn h_tape h_far h_from h_real h_other h_kept h_set h_w h_book h_noteSort h_whose h_what h_noteIs h_fitting h_dawn h_likes h_walked h_came h_inn_creak h_inn_doorA h_inn_doorB h_inn_how h_inn_lies h_inn_isCold h_inn_falls h_inn_isFull h_inn_isTold h_inn_act h_inn_what h_inn_then h_inn_met h_inn_bed h_inn_dream h_inn_listens h_inn_name h_inn_nameSort h_inn_nameNumber v_thrown v_trouble v_where v_read v_taped v_size v_at v_sort v_place v_sign v_number v_fault v_wrongAt v_word v_marks v_notes v_inn_minutes v_inn_rooms v_inn_doors v_inn_things v_inn_dreams v_inn_sleepers v_inn_listeners v_inn_names) := by
  intro sz
  refine ct_body (by decide) (Nat.le_of_ble_eq_true rfl) ?_
  intro p e s m args below meth c A ls hAe C hr hin hP hD hS hl
  have C : CX p s m args meth c cX12_isSleeper RX12 2 E A := C
  have hl : lv_has ls 2 [(0, .ref h), (1, .int p0)] := hl
  have hx := C.1
  have hb := C.2.1
  rw [hAe]
  clear hAe
  obtain ⟨Q, hQ⟩ : ∃ Q, Q = MQ below (Qi E A z0 (wX12_isSleeper E h h_inn h_tape h_far h_from h_real h_other h_kept h_set h_w h_book h_noteSort h_whose h_what h_noteIs h_fitting h_dawn h_likes h_walked h_came h_inn_creak h_inn_doorA h_inn_doorB h_inn_how h_inn_lies h_inn_isCold h_inn_falls h_inn_isFull h_inn_isTold h_inn_act h_inn_what h_inn_then h_inn_met h_inn_bed h_inn_dream h_inn_listens h_inn_name h_inn_nameSort h_inn_nameNumber v_thrown v_trouble v_where v_read v_taped v_size v_at v_sort v_place v_sign v_number v_fault v_wrongAt v_word v_marks v_notes v_inn_minutes v_inn_rooms v_inn_doors v_inn_things v_inn_dreams v_inn_sleepers v_inn_listeners v_inn_names)) args s 0 0 A := ⟨_, rfl⟩
  rw [← hQ]
  unfold fX12_isSleeper at hf
  refine lv_aload_n hx hb dX12_isSleeper_0 rfl (lv_at hl 0 rfl) ?_
  refine r_get C hP 0 rfl fl_X12_358 rfl dX12_isSleeper_1 ?_
  refine jnK hf (fun j26 ej26 hf => ?_)
  have hj26 : j26 () = some z0 → AT p l e (rmOf 0 0) s m args below meth c E A Q 0 0 2 [] (wX12_isSleeper E h h_inn h_tape h_far h_from h_real h_other h_kept h_set h_w h_book h_noteSort h_whose h_what h_noteIs h_fitting h_dawn h_likes h_walked h_came h_inn_creak h_inn_doorA h_inn_doorB h_inn_how h_inn_lies h_inn_isCold h_inn_falls h_inn_isFull h_inn_isTold h_inn_act h_inn_what h_inn_then h_inn_met h_inn_bed h_inn_dream h_inn_listens h_inn_name h_inn_nameSort h_inn_nameNumber v_thrown v_trouble v_where v_read v_taped v_size v_at v_sort v_place v_sign v_number v_fault v_wrongAt v_word v_marks v_notes v_inn_minutes v_inn_rooms v_inn_doors v_inn_things v_inn_dreams v_inn_sleepers v_inn_listeners v_inn_names) 26 [] := by
    intro  hf H locs ls hl hP hD hS
    rw [ej26] at hf
    replace hf := un0_s hf
    refine lv_iconst (v := 0) hx hb dX12_isSleeper_26 (by decide) ?_
    cases hf
    rw [hQ]
    exact r_zret C hr hP hD hS (Or.inl rfl) rfl dX12_isSleeper_27
  clear ej26
  refine lv_ifnull hx hb dX12_isSleeper_4 ?_
  refine lv_iload_n hx hb dX12_isSleeper_7 rfl (lv_at hl 1 rfl) ?_
  refine lv_if_lt (tgt := 26) hx hb dX12_isSleeper_8 (by decide) (fun c_8 => ?_) (fun c_8 => ?_)
  · replace hf := it_t c_8 hf
    exact hj26  hf _ _ _ (lv_sub hl [] rfl) hP hD hS
  · replace hf := it_f c_8 hf
    refine lv_iload_n hx hb dX12_isSleeper_11 rfl (lv_at hl 1 rfl) ?_
    refine lv_aload_n hx hb dX12_isSleeper_12 rfl (lv_at hl 0 rfl) ?_
    refine r_get C hP 0 rfl fl_X12_358 rfl dX12_isSleeper_13 ?_
    refine r_get C hP 1 rfl fl_X12_247 rfl dX12_isSleeper_16 ?_
    refine lv_icmp_ge (tgt := 26) hx hb dX12_isSleeper_19 (by decide) (fun c_19 => ?_) (fun c_19 => ?_)
    · replace hf := it_t c_19 hf
      exact hj26  hf _ _ _ (lv_sub hl [] rfl) hP hD hS
    · replace hf := it_f c_19 hf
      refine lv_iconst (v := 1) hx hb dX12_isSleeper_22 (by decide) ?_
      refine lv_goto (tgt := 27) hx hb dX12_isSleeper_23 (by decide) ?_
      cases hf
      rw [hQ]
      exact r_zret C hr hP hD hS (Or.inr rfl) rfl dX12_isSleeper_27
def wX12_isSleeper0 (E : EN) (h h_tape h_far h_from h_real h_other h_kept h_set h_w h_book h_noteSort h_whose h_what h_noteIs h_fitting h_dawn h_likes h_walked h_came : Nat) (v_thrown : Int32) (v_trouble : Int32) (v_where : Int32) (v_read : Option Nat) (v_taped : Int32) (v_size : Int32) (v_at : Int32) (v_sort : Int32) (v_place : Int32) (v_sign : Int32) (v_number : Int32) (v_fault : Int32) (v_wrongAt : Int32) (v_word : Int64) (v_marks : Int32) (v_notes : Int32) : va_W := [(h, .inr (11, [.int v_thrown, .int v_trouble, .int v_where, .null, va_rf v_read, .ref h_tape, .int v_taped, .int v_size, .int v_at, .int v_sort, .int v_place, .int v_sign, .int v_number, .int v_fault, .int v_wrongAt, .long v_word, .ref h_far, .ref h_from, .ref h_real, .ref h_other, .ref h_kept, .ref h_set, .ref h_w, .int v_marks, .int v_notes, .ref h_book, .ref h_noteSort, .ref h_whose, .ref h_what, .ref h_noteIs, .ref h_fitting, .ref h_dawn, .ref h_likes, .ref h_walked, .ref h_came]))]
def fX12_isSleeper0 (N : Nat) : Option Int32 := jn (un0 (some 0)) (fun j26 => j26 ())
set_option maxHeartbeats 4000000 in
set_option maxRecDepth 100000 in
theorem ctX12_isSleeper0 (l : Launch) (E : EN) (h h_tape h_far h_from h_real h_other h_kept h_set h_w h_book h_noteSort h_whose h_what h_noteIs h_fitting h_dawn h_likes h_walked h_came : Nat) (v_thrown : Int32) (v_trouble : Int32) (v_where : Int32) (v_read : Option Nat) (v_taped : Int32) (v_size : Int32) (v_at : Int32) (v_sort : Int32) (v_place : Int32) (v_sign : Int32) (v_number : Int32) (v_fault : Int32) (v_wrongAt : Int32) (v_word : Int64) (v_marks : Int32) (v_notes : Int32) (N : Nat) (p0 : Int32) (z0 : Int32) (hf : fX12_isSleeper0 N  = some z0) : CTi l E yX12_isSleeper cX12_isSleeper 2 .boolean 0 0 [.ref h, .int p0] (wX12_isSleeper0 E h h_tape h_far h_from h_real h_other h_kept h_set h_w h_book h_noteSort h_whose h_what h_noteIs h_fitting h_dawn h_likes h_walked h_came v_thrown v_trouble v_where v_read v_taped v_size v_at v_sort v_place v_sign v_number v_fault v_wrongAt v_word v_marks v_notes) z0 (wX12_isSleeper0 E h h_tape h_far h_from h_real h_other h_kept h_set h_w h_book h_noteSort h_whose h_what h_noteIs h_fitting h_dawn h_likes h_walked h_came v_thrown v_trouble v_where v_read v_taped v_size v_at v_sort v_place v_sign v_number v_fault v_wrongAt v_word v_marks v_notes) := by
  intro sz
  refine ct_body (by decide) (Nat.le_of_ble_eq_true rfl) ?_
  intro p e s m args below meth c A ls hAe C hr hin hP hD hS hl
  have C : CX p s m args meth c cX12_isSleeper RX12 2 E A := C
  have hl : lv_has ls 2 [(0, .ref h), (1, .int p0)] := hl
  have hx := C.1
  have hb := C.2.1
  rw [hAe]
  clear hAe
  obtain ⟨Q, hQ⟩ : ∃ Q, Q = MQ below (Qi E A z0 (wX12_isSleeper0 E h h_tape h_far h_from h_real h_other h_kept h_set h_w h_book h_noteSort h_whose h_what h_noteIs h_fitting h_dawn h_likes h_walked h_came v_thrown v_trouble v_where v_read v_taped v_size v_at v_sort v_place v_sign v_number v_fault v_wrongAt v_word v_marks v_notes)) args s 0 0 A := ⟨_, rfl⟩
  rw [← hQ]
  unfold fX12_isSleeper0 at hf
  refine lv_aload_n hx hb dX12_isSleeper_0 rfl (lv_at hl 0 rfl) ?_
  refine r_get C hP 0 rfl fl_X12_358 rfl dX12_isSleeper_1 ?_
  refine jnK hf (fun j26 ej26 hf => ?_)
  have hj26 : j26 () = some z0 → AT p l e (rmOf 0 0) s m args below meth c E A Q 0 0 2 [] (wX12_isSleeper0 E h h_tape h_far h_from h_real h_other h_kept h_set h_w h_book h_noteSort h_whose h_what h_noteIs h_fitting h_dawn h_likes h_walked h_came v_thrown v_trouble v_where v_read v_taped v_size v_at v_sort v_place v_sign v_number v_fault v_wrongAt v_word v_marks v_notes) 26 [] := by
    intro  hf H locs ls hl hP hD hS
    rw [ej26] at hf
    replace hf := un0_s hf
    refine lv_iconst (v := 0) hx hb dX12_isSleeper_26 (by decide) ?_
    cases hf
    rw [hQ]
    exact r_zret C hr hP hD hS (Or.inl rfl) rfl dX12_isSleeper_27
  clear ej26
  refine lv_ifnullN (tgt := 26) hx hb dX12_isSleeper_4 (by decide) ?_
  exact hj26  hf _ _ _ (lv_sub hl [] rfl) hP hD hS
def wX12_dreams (E : EN) (h h_inn h_tape h_far h_from h_real h_other h_kept h_set h_w h_book h_noteSort h_whose h_what h_noteIs h_fitting h_dawn h_likes h_walked h_came h_inn_creak h_inn_doorA h_inn_doorB h_inn_how h_inn_lies h_inn_isCold h_inn_falls h_inn_isFull h_inn_isTold h_inn_act h_inn_what h_inn_then h_inn_met h_inn_bed h_inn_dream h_inn_listens h_inn_name h_inn_nameSort h_inn_nameNumber : Nat) (v_thrown : Int32) (v_trouble : Int32) (v_where : Int32) (v_read : Option Nat) (v_taped : Int32) (v_size : Int32) (v_at : Int32) (v_sort : Int32) (v_place : Int32) (v_sign : Int32) (v_number : Int32) (v_fault : Int32) (v_wrongAt : Int32) (v_word : Int64) (v_marks : Int32) (v_notes : Int32) (v_inn_minutes : Int32) (v_inn_rooms : Int32) (v_inn_doors : Int32) (v_inn_things : Int32) (v_inn_dreams : Int32) (v_inn_sleepers : Int32) (v_inn_listeners : Int32) (v_inn_names : Int32) (v_set : Nat → Int32) : va_W := [(h, .inr (11, [.int v_thrown, .int v_trouble, .int v_where, .ref h_inn, va_rf v_read, .ref h_tape, .int v_taped, .int v_size, .int v_at, .int v_sort, .int v_place, .int v_sign, .int v_number, .int v_fault, .int v_wrongAt, .long v_word, .ref h_far, .ref h_from, .ref h_real, .ref h_other, .ref h_kept, .ref h_set, .ref h_w, .int v_marks, .int v_notes, .ref h_book, .ref h_noteSort, .ref h_whose, .ref h_what, .ref h_noteIs, .ref h_fitting, .ref h_dawn, .ref h_likes, .ref h_walked, .ref h_came])), (h_inn, .inr (10, [.int v_inn_minutes, .int v_inn_rooms, .int v_inn_doors, .int v_inn_things, .int v_inn_dreams, .int v_inn_sleepers, .int v_inn_listeners, .int v_inn_names, .ref h_inn_creak, .ref h_inn_doorA, .ref h_inn_doorB, .ref h_inn_how, .ref h_inn_lies, .ref h_inn_isCold, .ref h_inn_falls, .ref h_inn_isFull, .ref h_inn_isTold, .ref h_inn_act, .ref h_inn_what, .ref h_inn_then, .ref h_inn_met, .ref h_inn_bed, .ref h_inn_dream, .ref h_inn_listens, .ref h_inn_name, .ref h_inn_nameSort, .ref h_inn_nameNumber])), (h_set, aI E 3 v_set)]
def fX12_dreams (N : Nat) (p0 : Int32) (p1 : Int32) (v_inn_dreams : Int32) (v_inn_sleepers : Int32) (v_set : Nat → Int32) : Option (Int32 × Int32 × Int32 × Int32 × (Nat → Int32)) := (fX12_isSleeper N p0 v_inn_sleepers).bind (un1 fun (r_7 : Int32) => if r_7 = 0 then ((fX12_denied N 1).bind (un3 fun (r_23 : Int32) (v_trouble_23 : Int32) (v_where_23 : Int32) => zg r_23 (some (r_23, 0, v_trouble_23, v_where_23, v_set))) else ((fX12_isDream N p1 v_inn_dreams).bind (un1 fun (r_15 : Int32) => if r_15 = 0 then ((fX12_denied N 1).bind (un3 fun (r_23 : Int32) (v_trouble_23 : Int32) (v_where_23 : Int32) => zg r_23 (some (r_23, 0, v_trouble_23, v_where_23, v_set))) else (gd p0 3 ((fX12_granted N).bind (un3 fun (r_35 : Int32) (v_trouble_35 : Int32) (v_where_35 : Int32) => zg r_35 (some (r_35, 0, v_trouble_35, v_where_35, upd v_set p0.toNatClampNeg p1)))))))
set_option maxHeartbeats 4000000 in
set_option maxRecDepth 100000 in
theorem ctX12_dreams (l : Launch) (E : EN) (h h_inn h_tape h_far h_from h_real h_other h_kept h_set h_w h_book h_noteSort h_whose h_what h_noteIs h_fitting h_dawn h_likes h_walked h_came h_inn_creak h_inn_doorA h_inn_doorB h_inn_how h_inn_lies h_inn_isCold h_inn_falls h_inn_isFull h_inn_isTold h_inn_act h_inn_what h_inn_then h_inn_met h_inn_bed h_inn_dream h_inn_listens h_inn_name h_inn_nameSort h_inn_nameNumber : Nat) (v_thrown : Int32) (v_trouble : Int32) (v_where : Int32) (v_read : Option Nat) (v_taped : Int32) (v_size : Int32) (v_at : Int32) (v_sort : Int32) (v_place : Int32) (v_sign : Int32) (v_number : Int32) (v_fault : Int32) (v_wrongAt : Int32) (v_word : Int64) (v_marks : Int32) (v_notes : Int32) (v_inn_minutes : Int32) (v_inn_rooms : Int32) (v_inn_doors : Int32) (v_inn_things : Int32) (v_inn_dreams : Int32) (v_inn_sleepers : Int32) (v_inn_listeners : Int32) (v_inn_names : Int32) (v_set : Nat → Int32) (N : Nat) (p0 : Int32) (p1 : Int32) (z0 : Int32) (z1 : Int32) (z2 : Int32) (z3 : Int32) (z4 : Nat → Int32) (hf : fX12_dreams N p0 p1 v_inn_dreams v_inn_sleepers v_set = some (z0, z1, z2, z3, z4)) : CTi l E yX12_dreams cX12_dreams 3 .boolean 2 42 [.ref h, .int p0, .int p1] (wX12_dreams E h h_inn h_tape h_far h_from h_real h_other h_kept h_set h_w h_book h_noteSort h_whose h_what h_noteIs h_fitting h_dawn h_likes h_walked h_came h_inn_creak h_inn_doorA h_inn_doorB h_inn_how h_inn_lies h_inn_isCold h_inn_falls h_inn_isFull h_inn_isTold h_inn_act h_inn_what h_inn_then h_inn_met h_inn_bed h_inn_dream h_inn_listens h_inn_name h_inn_nameSort h_inn_nameNumber v_thrown v_trouble v_where v_read v_taped v_size v_at v_sort v_place v_sign v_number v_fault v_wrongAt v_word v_marks v_notes v_inn_minutes v_inn_rooms v_inn_doors v_inn_things v_inn_dreams v_inn_sleepers v_inn_listeners v_inn_names v_set) z0 (wX12_dreams E h h_inn h_tape h_far h_from h_real h_other h_kept h_set h_w h_book h_noteSort h_whose h_what h_noteIs h_fitting h_dawn h_likes h_walked h_came h_inn_creak h_inn_doorA h_inn_doorB h_inn_how h_inn_lies h_inn_isCold h_inn_falls h_inn_isFull h_inn_isTold h_inn_act h_inn_what h_inn_then h_inn_met h_inn_bed h_inn_dream h_inn_listens h_inn_name h_inn_nameSort h_inn_nameNumber z1 z2 z3 v_read v_taped v_size v_at v_sort v_place v_sign v_number v_fault v_wrongAt v_word v_marks v_notes v_inn_minutes v_inn_rooms v_inn_doors v_inn_things v_inn_dreams v_inn_sleepers v_inn_listeners v_inn_names z4) := by
  intro sz
  refine ct_body (by decide) (Nat.le_of_ble_eq_true rfl) ?_
  intro p e s m args below meth c A ls hAe C hr hin hP hD hS hl
  have C : CX p s m args meth c cX12_dreams RX12 3 E A := C
  have hl : lv_has ls 3 [(0, .ref h), (1, .int p0), (2, .int p1)] := hl
  have hx := C.1
  have hb := C.2.1
  rw [hAe]
  clear hAe
  obtain ⟨Q, hQ⟩ : ∃ Q, Q = MQ below (Qi E A z0 (wX12_dreams E h h_inn h_tape h_far h_from h_real h_other h_kept h_set h_w h_book h_noteSort h_whose h_what h_noteIs h_fitting h_dawn h_likes h_walked h_came h_inn_creak h_inn_doorA h_inn_doorB h_inn_how h_inn_lies h_inn_isCold h_inn_falls h_inn_isFull h_inn_isTold h_inn_act h_inn_what h_inn_then h_inn_met h_inn_bed h_inn_dream h_inn_listens h_inn_name h_inn_nameSort h_inn_nameNumber z1 z2 z3 v_read v_taped v_size v_at v_sort v_place v_sign v_number v_fault v_wrongAt v_word v_marks v_notes v_inn_minutes v_inn_rooms v_inn_doors v_inn_things v_inn_dreams v_inn_sleepers v_inn_listeners v_inn_names z4)) args s 0 0 A := ⟨_, rfl⟩
  rw [← hQ]
  unfold fX12_dreams at hf
  refine lv_aload_n hx hb dX12_dreams_0 rfl (lv_at hl 0 rfl) ?_
  refine lv_iconst (v := 0) hx hb dX12_dreams_1 (by decide) ?_
  refine r_put (ws' := (wX12_dreams E h h_inn h_tape h_far h_from h_real h_other h_kept h_set h_w h_book h_noteSort h_whose h_what h_noteIs h_fitting h_dawn h_likes h_walked h_came h_inn_creak h_inn_doorA h_inn_doorB h_inn_how h_inn_lies h_inn_isCold h_inn_falls h_inn_isFull h_inn_isTold h_inn_act h_inn_what h_inn_then h_inn_met h_inn_bed h_inn_dream h_inn_listens h_inn_name h_inn_nameSort h_inn_nameNumber 0 v_trouble v_where v_read v_taped v_size v_at v_sort v_place v_sign v_number v_fault v_wrongAt v_word v_marks v_notes v_inn_minutes v_inn_rooms v_inn_doors v_inn_things v_inn_dreams v_inn_sleepers v_inn_listeners v_inn_names v_set)) C hP hD hS 0 rfl fl_X12_71 rfl rfl (by decide) rfl dX12_dreams_2 ?_
  clear hP hD hS; intro H locs hP hD hS
  refine lv_aload_n hx hb dX12_dreams_5 rfl (lv_at hl 0 rfl) ?_
  refine lv_iload_n hx hb dX12_dreams_6 rfl (lv_at hl 1 rfl) ?_
  obtain ⟨r_7, hc_7, hf⟩ := bd1 hf
  refine r_callVi (ws' := (wX12_dreams E h h_inn h_tape h_far h_from h_real h_other h_kept h_set h_w h_book h_noteSort h_whose h_what h_noteIs h_fitting h_dawn h_likes h_walked h_came h_inn_creak h_inn_doorA h_inn_doorB h_inn_how h_inn_lies h_inn_isCold h_inn_falls h_inn_isFull h_inn_isTold h_inn_act h_inn_what h_inn_then h_inn_met h_inn_bed h_inn_dream h_inn_listens h_inn_name h_inn_nameSort h_inn_nameNumber 0 v_trouble v_where v_read v_taped v_size v_at v_sort v_place v_sign v_number v_fault v_wrongAt v_word v_marks v_notes v_inn_minutes v_inn_rooms v_inn_doors v_inn_things v_inn_dreams v_inn_sleepers v_inn_listeners v_inn_names v_set)) (As := [.int p0]) (rest := []) C (ctX12_isSleeper l E h h_inn h_tape h_far h_from h_real h_other h_kept h_set h_w h_book h_noteSort h_whose h_what h_noteIs h_fitting h_dawn h_likes h_walked h_came h_inn_creak h_inn_doorA h_inn_doorB h_inn_how h_inn_lies h_inn_isCold h_inn_falls h_inn_isFull h_inn_isTold h_inn_act h_inn_what h_inn_then h_inn_met h_inn_bed h_inn_dream h_inn_listens h_inn_name h_inn_nameSort h_inn_nameNumber 0 v_trouble v_where v_read v_taped v_size v_at v_sort v_place v_sign v_number v_fault v_wrongAt v_word v_marks v_notes v_inn_minutes v_inn_rooms v_inn_doors v_inn_things v_inn_dreams v_inn_sleepers v_inn_listeners v_inn_names N p0 r_7 hc_7) ml_X12_421 ⟨Nat.le_of_ble_eq_true rfl, Nat.le_of_ble_eq_true rfl⟩ hP hD hS 0 rfl rfl rfl [0, 1] rfl rfl rfl rfl rfl hl.1 rfl (Nat.le_of_ble_eq_true rfl) ⟨Nat.zero_le _, Nat.zero_le _⟩ dX12_dreams_7 ?_
  clear hP hD hS; intro H locs hP hD hS
  refine lv_if_eq (tgt := 21) hx hb dX12_dreams_10 (by decide) (fun c_10 => ?_) (fun c_10 => ?_)
  · replace hf := it_t c_10 hf
    refine lv_aload_n hx hb dX12_dreams_21 rfl (lv_at hl 0 rfl) ?_
    refine lv_iconst (v := 1) hx hb dX12_dreams_22 (by decide) ?_
    obtain ⟨r_23, v_trouble_23, v_where_23, hc_23, hf⟩ := bd3 hf
    refine r_callVi (ws' := (wX12_dreams E h h_inn h_tape h_far h_from h_real h_other h_kept h_set h_w h_book h_noteSort h_whose h_what h_noteIs h_fitting h_dawn h_likes h_walked h_came h_inn_creak h_inn_doorA h_inn_doorB h_inn_how h_inn_lies h_inn_isCold h_inn_falls h_inn_isFull h_inn_isTold h_inn_act h_inn_what h_inn_then h_inn_met h_inn_bed h_inn_dream h_inn_listens h_inn_name h_inn_nameSort h_inn_nameNumber 0 v_trouble_23 v_where_23 v_read v_taped v_size v_at v_sort v_place v_sign v_number v_fault v_wrongAt v_word v_marks v_notes v_inn_minutes v_inn_rooms v_inn_doors v_inn_things v_inn_dreams v_inn_sleepers v_inn_listeners v_inn_names v_set)) (As := [.int 1]) (rest := []) C (ctX12_denied l E h h_tape h_far h_from h_real h_other h_kept h_set h_w h_book h_noteSort h_whose h_what h_noteIs h_fitting h_dawn h_likes h_walked h_came 0 v_trouble v_where (some h_inn) v_read v_taped v_size v_at v_sort v_place v_sign v_number v_fault v_wrongAt v_word v_marks v_notes N 1 r_23 v_trouble_23 v_where_23 hc_23) ml_X12_415 ⟨Nat.le_of_ble_eq_true rfl, Nat.le_of_ble_eq_true rfl⟩ hP hD hS 0 rfl rfl rfl [0] rfl rfl rfl rfl rfl hl.1 rfl (Nat.le_of_ble_eq_true rfl) ⟨Nat.zero_le _, Nat.zero_le _⟩ dX12_dreams_23 ?_
    clear hP hD hS; intro H locs hP hD hS
    obtain ⟨hz_26, hf⟩ := zg_s hf
    cases hf
    rw [hQ]
    exact r_zret C hr hP hD hS hz_26 rfl dX12_dreams_26
  · replace hf := it_f c_10 hf
    refine lv_aload_n hx hb dX12_dreams_13 rfl (lv_at hl 0 rfl) ?_
    refine lv_iload_n hx hb dX12_dreams_14 rfl (lv_at hl 2 rfl) ?_
    obtain ⟨r_15, hc_15, hf⟩ := bd1 hf
    refine r_callVi (ws' := (wX12_dreams E h h_inn h_tape h_far h_from h_real h_other h_kept h_set h_w h_book h_noteSort h_whose h_what h_noteIs h_fitting h_dawn h_likes h_walked h_came h_inn_creak h_inn_doorA h_inn_doorB h_inn_how h_inn_lies h_inn_isCold h_inn_falls h_inn_isFull h_inn_isTold h_inn_act h_inn_what h_inn_then h_inn_met h_inn_bed h_inn_dream h_inn_listens h_inn_name h_inn_nameSort h_inn_nameNumber 0 v_trouble v_where v_read v_taped v_size v_at v_sort v_place v_sign v_number v_fault v_wrongAt v_word v_marks v_notes v_inn_minutes v_inn_rooms v_inn_doors v_inn_things v_inn_dreams v_inn_sleepers v_inn_listeners v_inn_names v_set)) (As := [.int p1]) (rest := []) C (ctX12_isDream l E h h_inn h_tape h_far h_from h_real h_other h_kept h_set h_w h_book h_noteSort h_whose h_what h_noteIs h_fitting h_dawn h_likes h_walked h_came h_inn_creak h_inn_doorA h_inn_doorB h_inn_how h_inn_lies h_inn_isCold h_inn_falls h_inn_isFull h_inn_isTold h_inn_act h_inn_what h_inn_then h_inn_met h_inn_bed h_inn_dream h_inn_listens h_inn_name h_inn_nameSort h_inn_nameNumber 0 v_trouble v_where v_read v_taped v_size v_at v_sort v_place v_sign v_number v_fault v_wrongAt v_word v_marks v_notes v_inn_minutes v_inn_rooms v_inn_doors v_inn_things v_inn_dreams v_inn_sleepers v_inn_listeners v_inn_names N p1 r_15 hc_15) ml_X12_382 ⟨Nat.le_of_ble_eq_true rfl, Nat.le_of_ble_eq_true rfl⟩ hP hD hS 0 rfl rfl rfl [0, 1] rfl rfl rfl rfl rfl hl.1 rfl (Nat.le_of_ble_eq_true rfl) ⟨Nat.zero_le _, Nat.zero_le _⟩ dX12_dreams_15 ?_
    clear hP hD hS; intro H locs hP hD hS
    refine lv_if_ne (tgt := 27) hx hb dX12_dreams_18 (by decide) (fun c_18 => ?_) (fun c_18 => ?_)
    · replace hf := it_f c_18 hf
      refine lv_aload_n hx hb dX12_dreams_27 rfl (lv_at hl 0 rfl) ?_
      refine r_get C hP 0 rfl fl_X12_33 rfl dX12_dreams_28 ?_
      refine lv_iload_n hx hb dX12_dreams_31 rfl (lv_at hl 1 rfl) ?_
      refine lv_iload_n hx hb dX12_dreams_32 rfl (lv_at hl 2 rfl) ?_
      obtain ⟨hi_33, hf⟩ := gd_s hf
      refine r_iast (ws' := (wX12_dreams E h h_inn h_tape h_far h_from h_real h_other h_kept h_set h_w h_book h_noteSort h_whose h_what h_noteIs h_fitting h_dawn h_likes h_walked h_came h_inn_creak h_inn_doorA h_inn_doorB h_inn_how h_inn_lies h_inn_isCold h_inn_falls h_inn_isFull h_inn_isTold h_inn_act h_inn_what h_inn_then h_inn_met h_inn_bed h_inn_dream h_inn_listens h_inn_name h_inn_nameSort h_inn_nameNumber 0 v_trouble v_where v_read v_taped v_size v_at v_sort v_place v_sign v_number v_fault v_wrongAt v_word v_marks v_notes v_inn_minutes v_inn_rooms v_inn_doors v_inn_things v_inn_dreams v_inn_sleepers v_inn_listeners v_inn_names (upd v_set p0.toNatClampNeg p1))) C hP hD hS 2 rfl hi_33 rfl dX12_dreams_33 ?_
      clear hP hD hS; intro H locs hP hD hS
      refine lv_aload_n hx hb dX12_dreams_34 rfl (lv_at hl 0 rfl) ?_
      obtain ⟨r_35, v_trouble_35, v_where_35, hc_35, hf⟩ := bd3 hf
      refine r_callVi (ws' := (wX12_dreams E h h_inn h_tape h_far h_from h_real h_other h_kept h_set h_w h_book h_noteSort h_whose h_what h_noteIs h_fitting h_dawn h_likes h_walked h_came h_inn_creak h_inn_doorA h_inn_doorB h_inn_how h_inn_lies h_inn_isCold h_inn_falls h_inn_isFull h_inn_isTold h_inn_act h_inn_what h_inn_then h_inn_met h_inn_bed h_inn_dream h_inn_listens h_inn_name h_inn_nameSort h_inn_nameNumber 0 v_trouble_35 v_where_35 v_read v_taped v_size v_at v_sort v_place v_sign v_number v_fault v_wrongAt v_word v_marks v_notes v_inn_minutes v_inn_rooms v_inn_doors v_inn_things v_inn_dreams v_inn_sleepers v_inn_listeners v_inn_names (upd v_set p0.toNatClampNeg p1))) (As := []) (rest := []) C (ctX12_granted l E h h_tape h_far h_from h_real h_other h_kept h_set h_w h_book h_noteSort h_whose h_what h_noteIs h_fitting h_dawn h_likes h_walked h_came 0 v_trouble v_where (some h_inn) v_read v_taped v_size v_at v_sort v_place v_sign v_number v_fault v_wrongAt v_word v_marks v_notes N r_35 v_trouble_35 v_where_35 hc_35) ml_X12_418 ⟨Nat.le_of_ble_eq_true rfl, Nat.le_of_ble_eq_true rfl⟩ hP hD hS 0 rfl rfl rfl [0] rfl rfl rfl rfl rfl hl.1 rfl (Nat.le_of_ble_eq_true rfl) ⟨Nat.zero_le _, Nat.zero_le _⟩ dX12_dreams_35 ?_
      clear hP hD hS; intro H locs hP hD hS
      obtain ⟨hz_38, hf⟩ := zg_s hf
      cases hf
      rw [hQ]
      exact r_zret C hr hP hD hS hz_38 rfl dX12_dreams_38
    · replace hf := it_t c_18 hf
      refine lv_aload_n hx hb dX12_dreams_21 rfl (lv_at hl 0 rfl) ?_
      refine lv_iconst (v := 1) hx hb dX12_dreams_22 (by decide) ?_
      obtain ⟨r_23, v_trouble_23, v_where_23, hc_23, hf⟩ := bd3 hf
      refine r_callVi (ws' := (wX12_dreams E h h_inn h_tape h_far h_from h_real h_other h_kept h_set h_w h_book h_noteSort h_whose h_what h_noteIs h_fitting h_dawn h_likes h_walked h_came h_inn_creak h_inn_doorA h_inn_doorB h_inn_how h_inn_lies h_inn_isCold h_inn_falls h_inn_isFull h_inn_isTold h_inn_act h_inn_what h_inn_then h_inn_met h_inn_bed h_inn_dream h_inn_listens h_inn_name h_inn_nameSort h_inn_nameNumber 0 v_trouble_23 v_where_23 v_read v_taped v_size v_at v_sort v_place v_sign v_number v_fault v_wrongAt v_word v_marks v_notes v_inn_minutes v_inn_rooms v_inn_doors v_inn_things v_inn_dreams v_inn_sleepers v_inn_listeners v_inn_names v_set)) (As := [.int 1]) (rest := []) C (ctX12_denied l E h h_tape h_far h_from h_real h_other h_kept h_set h_w h_book h_noteSort h_whose h_what h_noteIs h_fitting h_dawn h_likes h_walked h_came 0 v_trouble v_where (some h_inn) v_read v_taped v_size v_at v_sort v_place v_sign v_number v_fault v_wrongAt v_word v_marks v_notes N 1 r_23 v_trouble_23 v_where_23 hc_23) ml_X12_415 ⟨Nat.le_of_ble_eq_true rfl, Nat.le_of_ble_eq_true rfl⟩ hP hD hS 0 rfl rfl rfl [0] rfl rfl rfl rfl rfl hl.1 rfl (Nat.le_of_ble_eq_true rfl) ⟨Nat.zero_le _, Nat.zero_le _⟩ dX12_dreams_23 ?_
      clear hP hD hS; intro H locs hP hD hS
      obtain ⟨hz_26, hf⟩ := zg_s hf
      cases hf
      rw [hQ]
      exact r_zret C hr hP hD hS hz_26 rfl dX12_dreams_26
def wX12_dreams0 (E : EN) (h h_tape h_far h_from h_real h_other h_kept h_set h_w h_book h_noteSort h_whose h_what h_noteIs h_fitting h_dawn h_likes h_walked h_came : Nat) (v_thrown : Int32) (v_trouble : Int32) (v_where : Int32) (v_read : Option Nat) (v_taped : Int32) (v_size : Int32) (v_at : Int32) (v_sort : Int32) (v_place : Int32) (v_sign : Int32) (v_number : Int32) (v_fault : Int32) (v_wrongAt : Int32) (v_word : Int64) (v_marks : Int32) (v_notes : Int32) (v_set : Nat → Int32) : va_W := [(h, .inr (11, [.int v_thrown, .int v_trouble, .int v_where, .null, va_rf v_read, .ref h_tape, .int v_taped, .int v_size, .int v_at, .int v_sort, .int v_place, .int v_sign, .int v_number, .int v_fault, .int v_wrongAt, .long v_word, .ref h_far, .ref h_from, .ref h_real, .ref h_other, .ref h_kept, .ref h_set, .ref h_w, .int v_marks, .int v_notes, .ref h_book, .ref h_noteSort, .ref h_whose, .ref h_what, .ref h_noteIs, .ref h_fitting, .ref h_dawn, .ref h_likes, .ref h_walked, .ref h_came])), (h_set, aI E 3 v_set)]
def fX12_dreams0 (N : Nat) (p0 : Int32) (p1 : Int32) (v_set : Nat → Int32) : Option (Int32 × Int32 × Int32 × Int32 × (Nat → Int32)) := (fX12_isSleeper0 N).bind (un1 fun (r_7 : Int32) => if r_7 = 0 then ((fX12_denied N 1).bind (un3 fun (r_23 : Int32) (v_trouble_23 : Int32) (v_where_23 : Int32) => zg r_23 (some (r_23, 0, v_trouble_23, v_where_23, v_set))) else ((fX12_isDream0 N).bind (un1 fun (r_15 : Int32) => if r_15 = 0 then ((fX12_denied N 1).bind (un3 fun (r_23 : Int32) (v_trouble_23 : Int32) (v_where_23 : Int32) => zg r_23 (some (r_23, 0, v_trouble_23, v_where_23, v_set))) else (gd p0 3 ((fX12_granted N).bind (un3 fun (r_35 : Int32) (v_trouble_35 : Int32) (v_where_35 : Int32) => zg r_35 (some (r_35, 0, v_trouble_35, v_where_35, upd v_set p0.toNatClampNeg p1)))))))
set_option maxHeartbeats 4000000 in
set_option maxRecDepth 100000 in
theorem ctX12_dreams0 (l : Launch) (E : EN) (h h_tape h_far h_from h_real h_other h_kept h_set h_w h_book h_noteSort h_whose h_what h_noteIs h_fitting h_dawn h_likes h_walked h_came : Nat) (v_thrown : Int32) (v_trouble : Int32) (v_where : Int32) (v_read : Option Nat) (v_taped : Int32) (v_size : Int32) (v_at : Int32) (v_sort : Int32) (v_place : Int32) (v_sign : Int32) (v_number : Int32) (v_fault : Int32) (v_wrongAt : Int32) (v_word : Int64) (v_marks : Int32) (v_notes : Int32) (v_set : Nat → Int32) (N : Nat) (p0 : Int32) (p1 : Int32) (z0 : Int32) (z1 : Int32) (z2 : Int32) (z3 : Int32) (z4 : Nat → Int32) (hf : fX12_dreams0 N p0 p1 v_set = some (z0, z1, z2, z3, z4)) : CTi l E yX12_dreams cX12_dreams 3 .boolean 2 42 [.ref h, .int p0, .int p1] (wX12_dreams0 E h h_tape h_far h_from h_real h_other h_kept h_set h_w h_book h_noteSort h_whose h_what h_noteIs h_fitting h_dawn h_likes h_walked h_came v_thrown v_trouble v_where v_read v_taped v_size v_at v_sort v_place v_sign v_number v_fault v_wrongAt v_word v_marks v_notes v_set) z0 (wX12_dreams0 E h h_tape h_far h_from h_real h_other h_kept h_set h_w h_book h_noteSort h_whose h_what h_noteIs h_fitting h_dawn h_likes h_walked h_came z1 z2 z3 v_read v_taped v_size v_at v_sort v_place v_sign v_number v_fault v_wrongAt v_word v_marks v_notes z4) := by
  intro sz
  refine ct_body (by decide) (Nat.le_of_ble_eq_true rfl) ?_
  intro p e s m args below meth c A ls hAe C hr hin hP hD hS hl
  have C : CX p s m args meth c cX12_dreams RX12 3 E A := C
  have hl : lv_has ls 3 [(0, .ref h), (1, .int p0), (2, .int p1)] := hl
  have hx := C.1
  have hb := C.2.1
  rw [hAe]
  clear hAe
  obtain ⟨Q, hQ⟩ : ∃ Q, Q = MQ below (Qi E A z0 (wX12_dreams0 E h h_tape h_far h_from h_real h_other h_kept h_set h_w h_book h_noteSort h_whose h_what h_noteIs h_fitting h_dawn h_likes h_walked h_came z1 z2 z3 v_read v_taped v_size v_at v_sort v_place v_sign v_number v_fault v_wrongAt v_word v_marks v_notes z4)) args s 0 0 A := ⟨_, rfl⟩
  rw [← hQ]
  unfold fX12_dreams0 at hf
  refine lv_aload_n hx hb dX12_dreams_0 rfl (lv_at hl 0 rfl) ?_
  refine lv_iconst (v := 0) hx hb dX12_dreams_1 (by decide) ?_
  refine r_put (ws' := (wX12_dreams0 E h h_tape h_far h_from h_real h_other h_kept h_set h_w h_book h_noteSort h_whose h_what h_noteIs h_fitting h_dawn h_likes h_walked h_came 0 v_trouble v_where v_read v_taped v_size v_at v_sort v_place v_sign v_number v_fault v_wrongAt v_word v_marks v_notes v_set)) C hP hD hS 0 rfl fl_X12_71 rfl rfl (by decide) rfl dX12_dreams_2 ?_
  clear hP hD hS; intro H locs hP hD hS
  refine lv_aload_n hx hb dX12_dreams_5 rfl (lv_at hl 0 rfl) ?_
  refine lv_iload_n hx hb dX12_dreams_6 rfl (lv_at hl 1 rfl) ?_
  obtain ⟨r_7, hc_7, hf⟩ := bd1 hf
  refine r_callVi (ws' := (wX12_dreams0 E h h_tape h_far h_from h_real h_other h_kept h_set h_w h_book h_noteSort h_whose h_what h_noteIs h_fitting h_dawn h_likes h_walked h_came 0 v_trouble v_where v_read v_taped v_size v_at v_sort v_place v_sign v_number v_fault v_wrongAt v_word v_marks v_notes v_set)) (As := [.int p0]) (rest := []) C (ctX12_isSleeper0 l E h h_tape h_far h_from h_real h_other h_kept h_set h_w h_book h_noteSort h_whose h_what h_noteIs h_fitting h_dawn h_likes h_walked h_came 0 v_trouble v_where v_read v_taped v_size v_at v_sort v_place v_sign v_number v_fault v_wrongAt v_word v_marks v_notes N p0 r_7 hc_7) ml_X12_421 ⟨Nat.le_of_ble_eq_true rfl, Nat.le_of_ble_eq_true rfl⟩ hP hD hS 0 rfl rfl rfl [0] rfl rfl rfl rfl rfl hl.1 rfl (Nat.le_of_ble_eq_true rfl) ⟨Nat.zero_le _, Nat.zero_le _⟩ dX12_dreams_7 ?_
  clear hP hD hS; intro H locs hP hD hS
  refine lv_if_eq (tgt := 21) hx hb dX12_dreams_10 (by decide) (fun c_10 => ?_) (fun c_10 => ?_)
  · replace hf := it_t c_10 hf
    refine lv_aload_n hx hb dX12_dreams_21 rfl (lv_at hl 0 rfl) ?_
    refine lv_iconst (v := 1) hx hb dX12_dreams_22 (by decide) ?_
    obtain ⟨r_23, v_trouble_23, v_where_23, hc_23, hf⟩ := bd3 hf
    refine r_callVi (ws' := (wX12_dreams0 E h h_tape h_far h_from h_real h_other h_kept h_set h_w h_book h_noteSort h_whose h_what h_noteIs h_fitting h_dawn h_likes h_walked h_came 0 v_trouble_23 v_where_23 v_read v_taped v_size v_at v_sort v_place v_sign v_number v_fault v_wrongAt v_word v_marks v_notes v_set)) (As := [.int 1]) (rest := []) C (ctX12_denied l E h h_tape h_far h_from h_real h_other h_kept h_set h_w h_book h_noteSort h_whose h_what h_noteIs h_fitting h_dawn h_likes h_walked h_came 0 v_trouble v_where none v_read v_taped v_size v_at v_sort v_place v_sign v_number v_fault v_wrongAt v_word v_marks v_notes N 1 r_23 v_trouble_23 v_where_23 hc_23) ml_X12_415 ⟨Nat.le_of_ble_eq_true rfl, Nat.le_of_ble_eq_true rfl⟩ hP hD hS 0 rfl rfl rfl [0] rfl rfl rfl rfl rfl hl.1 rfl (Nat.le_of_ble_eq_true rfl) ⟨Nat.zero_le _, Nat.zero_le _⟩ dX12_dreams_23 ?_
    clear hP hD hS; intro H locs hP hD hS
    obtain ⟨hz_26, hf⟩ := zg_s hf
    cases hf
    rw [hQ]
    exact r_zret C hr hP hD hS hz_26 rfl dX12_dreams_26
  · replace hf := it_f c_10 hf
    refine lv_aload_n hx hb dX12_dreams_13 rfl (lv_at hl 0 rfl) ?_
    refine lv_iload_n hx hb dX12_dreams_14 rfl (lv_at hl 2 rfl) ?_
    obtain ⟨r_15, hc_15, hf⟩ := bd1 hf
    refine r_callVi (ws' := (wX12_dreams0 E h h_tape h_far h_from h_real h_other h_kept h_set h_w h_book h_noteSort h_whose h_what h_noteIs h_fitting h_dawn h_likes h_walked h_came 0 v_trouble v_where v_read v_taped v_size v_at v_sort v_place v_sign v_number v_fault v_wrongAt v_word v_marks v_notes v_set)) (As := [.int p1]) (rest := []) C (ctX12_isDream0 l E h h_tape h_far h_from h_real h_other h_kept h_set h_w h_book h_noteSort h_whose h_what h_noteIs h_fitting h_dawn h_likes h_walked h_came 0 v_trouble v_where v_read v_taped v_size v_at v_sort v_place v_sign v_number v_fault v_wrongAt v_word v_marks v_notes N p1 r_15 hc_15) ml_X12_382 ⟨Nat.le_of_ble_eq_true rfl, Nat.le_of_ble_eq_true rfl⟩ hP hD hS 0 rfl rfl rfl [0] rfl rfl rfl rfl rfl hl.1 rfl (Nat.le_of_ble_eq_true rfl) ⟨Nat.zero_le _, Nat.zero_le _⟩ dX12_dreams_15 ?_
    clear hP hD hS; intro H locs hP hD hS
    refine lv_if_ne (tgt := 27) hx hb dX12_dreams_18 (by decide) (fun c_18 => ?_) (fun c_18 => ?_)
    · replace hf := it_f c_18 hf
      refine lv_aload_n hx hb dX12_dreams_27 rfl (lv_at hl 0 rfl) ?_
      refine r_get C hP 0 rfl fl_X12_33 rfl dX12_dreams_28 ?_
      refine lv_iload_n hx hb dX12_dreams_31 rfl (lv_at hl 1 rfl) ?_
      refine lv_iload_n hx hb dX12_dreams_32 rfl (lv_at hl 2 rfl) ?_
      obtain ⟨hi_33, hf⟩ := gd_s hf
      refine r_iast (ws' := (wX12_dreams0 E h h_tape h_far h_from h_real h_other h_kept h_set h_w h_book h_noteSort h_whose h_what h_noteIs h_fitting h_dawn h_likes h_walked h_came 0 v_trouble v_where v_read v_taped v_size v_at v_sort v_place v_sign v_number v_fault v_wrongAt v_word v_marks v_notes (upd v_set p0.toNatClampNeg p1))) C hP hD hS 1 rfl hi_33 rfl dX12_dreams_33 ?_
      clear hP hD hS; intro H locs hP hD hS
      refine lv_aload_n hx hb dX12_dreams_34 rfl (lv_at hl 0 rfl) ?_
      obtain ⟨r_35, v_trouble_35, v_where_35, hc_35, hf⟩ := bd3 hf
      refine r_callVi (ws' := (wX12_dreams0 E h h_tape h_far h_from h_real h_other h_kept h_set h_w h_book h_noteSort h_whose h_what h_noteIs h_fitting h_dawn h_likes h_walked h_came 0 v_trouble_35 v_where_35 v_read v_taped v_size v_at v_sort v_place v_sign v_number v_fault v_wrongAt v_word v_marks v_notes (upd v_set p0.toNatClampNeg p1))) (As := []) (rest := []) C (ctX12_granted l E h h_tape h_far h_from h_real h_other h_kept h_set h_w h_book h_noteSort h_whose h_what h_noteIs h_fitting h_dawn h_likes h_walked h_came 0 v_trouble v_where none v_read v_taped v_size v_at v_sort v_place v_sign v_number v_fault v_wrongAt v_word v_marks v_notes N r_35 v_trouble_35 v_where_35 hc_35) ml_X12_418 ⟨Nat.le_of_ble_eq_true rfl, Nat.le_of_ble_eq_true rfl⟩ hP hD hS 0 rfl rfl rfl [0] rfl rfl rfl rfl rfl hl.1 rfl (Nat.le_of_ble_eq_true rfl) ⟨Nat.zero_le _, Nat.zero_le _⟩ dX12_dreams_35 ?_
      clear hP hD hS; intro H locs hP hD hS
      obtain ⟨hz_38, hf⟩ := zg_s hf
      cases hf
      rw [hQ]
      exact r_zret C hr hP hD hS hz_38 rfl dX12_dreams_38
    · replace hf := it_t c_18 hf
      refine lv_aload_n hx hb dX12_dreams_21 rfl (lv_at hl 0 rfl) ?_
      refine lv_iconst (v := 1) hx hb dX12_dreams_22 (by decide) ?_
      obtain ⟨r_23, v_trouble_23, v_where_23, hc_23, hf⟩ := bd3 hf
      refine r_callVi (ws' := (wX12_dreams0 E h h_tape h_far h_from h_real h_other h_kept h_set h_w h_book h_noteSort h_whose h_what h_noteIs h_fitting h_dawn h_likes h_walked h_came 0 v_trouble_23 v_where_23 v_read v_taped v_size v_at v_sort v_place v_sign v_number v_fault v_wrongAt v_word v_marks v_notes v_set)) (As := [.int 1]) (rest := []) C (ctX12_denied l E h h_tape h_far h_from h_real h_other h_kept h_set h_w h_book h_noteSort h_whose h_what h_noteIs h_fitting h_dawn h_likes h_walked h_came 0 v_trouble v_where none v_read v_taped v_size v_at v_sort v_place v_sign v_number v_fault v_wrongAt v_word v_marks v_notes N 1 r_23 v_trouble_23 v_where_23 hc_23) ml_X12_415 ⟨Nat.le_of_ble_eq_true rfl, Nat.le_of_ble_eq_true rfl⟩ hP hD hS 0 rfl rfl rfl [0] rfl rfl rfl rfl rfl hl.1 rfl (Nat.le_of_ble_eq_true rfl) ⟨Nat.zero_le _, Nat.zero_le _⟩ dX12_dreams_23 ?_
      clear hP hD hS; intro H locs hP hD hS
      obtain ⟨hz_26, hf⟩ := zg_s hf
      cases hf
      rw [hQ]
      exact r_zret C hr hP hD hS hz_26 rfl dX12_dreams_26
def wX12_passAll (E : EN) (h h_inn h_tape h_far h_from h_real h_other h_kept h_set h_w h_book h_noteSort h_whose h_what h_noteIs h_fitting h_dawn h_likes h_walked h_came h_inn_creak h_inn_doorA h_inn_doorB h_inn_how h_inn_lies h_inn_isCold h_inn_falls h_inn_isFull h_inn_isTold h_inn_act h_inn_what h_inn_then h_inn_met h_inn_bed h_inn_dream h_inn_listens h_inn_name h_inn_nameSort h_inn_nameNumber : Nat) (v_thrown : Int32) (v_trouble : Int32) (v_where : Int32) (v_read : Option Nat) (v_taped : Int32) (v_size : Int32) (v_at : Int32) (v_sort : Int32) (v_place : Int32) (v_sign : Int32) (v_number : Int32) (v_fault : Int32) (v_wrongAt : Int32) (v_word : Int64) (v_marks : Int32) (v_notes : Int32) (v_w : Nat → Int32) (v_inn_minutes : Int32) (v_inn_rooms : Int32) (v_inn_doors : Int32) (v_inn_things : Int32) (v_inn_dreams : Int32) (v_inn_sleepers : Int32) (v_inn_listeners : Int32) (v_inn_names : Int32) (v_inn_isTold : Nat → Int32) (v_inn_act : Nat → Int32) (v_inn_then : Nat → Int32) (v_inn_what : Nat → Int32) (v_inn_doorA : Nat → Int32) (v_inn_doorB : Nat → Int32) (v_from : Nat → Int32) (v_inn_falls : Nat → Int32) (v_inn_creak : Nat → Int32) (v_inn_listens : Nat → Int32) (v_far : Nat → Int32) (v_inn_isCold : Nat → Int32) (v_inn_met : Nat → Int32) : va_W := [(h, .inr (11, [.int v_thrown, .int v_trouble, .int v_where, .ref h_inn, va_rf v_read, .ref h_tape, .int v_taped, .int v_size, .int v_at, .int v_sort, .int v_place, .int v_sign, .int v_number, .int v_fault, .int v_wrongAt, .long v_word, .ref h_far, .ref h_from, .ref h_real, .ref h_other, .ref h_kept, .ref h_set, .ref h_w, .int v_marks, .int v_notes, .ref h_book, .ref h_noteSort, .ref h_whose, .ref h_what, .ref h_noteIs, .ref h_fitting, .ref h_dawn, .ref h_likes, .ref h_walked, .ref h_came])), (h_w, aI E 51 v_w), (h_inn, .inr (10, [.int v_inn_minutes, .int v_inn_rooms, .int v_inn_doors, .int v_inn_things, .int v_inn_dreams, .int v_inn_sleepers, .int v_inn_listeners, .int v_inn_names, .ref h_inn_creak, .ref h_inn_doorA, .ref h_inn_doorB, .ref h_inn_how, .ref h_inn_lies, .ref h_inn_isCold, .ref h_inn_falls, .ref h_inn_isFull, .ref h_inn_isTold, .ref h_inn_act, .ref h_inn_what, .ref h_inn_then, .ref h_inn_met, .ref h_inn_bed, .ref h_inn_dream, .ref h_inn_listens, .ref h_inn_name, .ref h_inn_nameSort, .ref h_inn_nameNumber])), (h_inn_isTold, aZ E 16 v_inn_isTold), (h_inn_act, aI E 16 v_inn_act), (h_inn_then, aI E 16 v_inn_then), (h_inn_what, aI E 16 v_inn_what), (h_inn_doorA, aI E 10 v_inn_doorA), (h_inn_doorB, aI E 10 v_inn_doorB), (h_from, aI E 8 v_from), (h_inn_falls, aZ E 10 v_inn_falls), (h_inn_creak, aI E 8 v_inn_creak), (h_inn_listens, aI E 3 v_inn_listens), (h_far, aI E 64 v_far), (h_inn_isCold, aZ E 8 v_inn_isCold), (h_inn_met, aI E 16 v_inn_met)]
def BX12_passAll_2 (p0 : Int32) (v_inn_minutes : Int32) (N : Nat) (v_inn_rooms : Int32) (v_inn_doors : Int32) (v_inn_sleepers : Int32) (v_inn_listeners : Int32) (v_inn_isTold : Nat → Int32) (v_inn_act : Nat → Int32) (v_inn_then : Nat → Int32) (v_inn_what : Nat → Int32) (v_inn_doorA : Nat → Int32) (v_inn_doorB : Nat → Int32) (v_inn_falls : Nat → Int32) (v_inn_creak : Nat → Int32) (v_inn_listens : Nat → Int32) (v_far : Nat → Int32) (v_inn_isCold : Nat → Int32) (v_inn_met : Nat → Int32) (rec2 : (Int32 × (Nat → Int32) × (Nat → Int32)) → Option (Int32 × (Nat → Int32) × (Nat → Int32))) : (Int32 × (Nat → Int32) × (Nat → Int32)) → Option (Int32 × (Nat → Int32) × (Nat → Int32)) := un3 fun (x2_2 : Int32) (x2_w : Nat → Int32) (x2_from : Nat → Int32) => if p0 ≤ x2_2 then (some (x2_2, x2_w, x2_from)) else (gd 49 51 (if v_inn_minutes ≤ (x2_w (49 : Int32).toNatClampNeg) then (some (x2_2, x2_w, x2_from)) else ((fX12_passes N x2_w v_inn_rooms v_inn_doors v_inn_sleepers v_inn_listeners v_inn_isTold v_inn_act v_inn_then v_inn_what v_inn_doorA v_inn_doorB x2_from v_inn_falls v_inn_creak v_inn_listens v_far v_inn_isCold v_inn_met).bind (un2 fun (v_w_25 : Nat → Int32) (v_from_25 : Nat → Int32) => rec2 (x2_2 + 1, v_w_25, v_from_25)))))
def fX12_passAll (N : Nat) (p0 : Int32) (v_w : Nat → Int32) (v_inn_minutes : Int32) (v_inn_rooms : Int32) (v_inn_doors : Int32) (v_inn_sleepers : Int32) (v_inn_listeners : Int32) (v_inn_isTold : Nat → Int32) (v_inn_act : Nat → Int32) (v_inn_then : Nat → Int32) (v_inn_what : Nat → Int32) (v_inn_doorA : Nat → Int32) (v_inn_doorB : Nat → Int32) (v_from : Nat → Int32) (v_inn_falls : Nat → Int32) (v_inn_creak : Nat → Int32) (v_inn_listens : Nat → Int32) (v_far : Nat → Int32) (v_inn_isCold : Nat → Int32) (v_inn_met : Nat → Int32) : Option (Int32 × (Nat → Int32) × (Nat → Int32)) := lp (BX12_passAll_2 p0 v_inn_minutes N v_inn_rooms v_inn_doors v_inn_sleepers v_inn_listeners v_inn_isTold v_inn_act v_inn_then v_inn_what v_inn_doorA v_inn_doorB v_inn_falls v_inn_creak v_inn_listens v_far v_inn_isCold v_inn_met) N (0, v_w, v_from)
set_option maxHeartbeats 4000000 in
set_option maxRecDepth 100000 in
theorem ctX12_passAll (l : Launch) (E : EN) (h h_inn h_tape h_far h_from h_real h_other h_kept h_set h_w h_book h_noteSort h_whose h_what h_noteIs h_fitting h_dawn h_likes h_walked h_came h_inn_creak h_inn_doorA h_inn_doorB h_inn_how h_inn_lies h_inn_isCold h_inn_falls h_inn_isFull h_inn_isTold h_inn_act h_inn_what h_inn_then h_inn_met h_inn_bed h_inn_dream h_inn_listens h_inn_name h_inn_nameSort h_inn_nameNumber : Nat) (v_thrown : Int32) (v_trouble : Int32) (v_where : Int32) (v_read : Option Nat) (v_taped : Int32) (v_size : Int32) (v_at : Int32) (v_sort : Int32) (v_place : Int32) (v_sign : Int32) (v_number : Int32) (v_fault : Int32) (v_wrongAt : Int32) (v_word : Int64) (v_marks : Int32) (v_notes : Int32) (v_w : Nat → Int32) (v_inn_minutes : Int32) (v_inn_rooms : Int32) (v_inn_doors : Int32) (v_inn_things : Int32) (v_inn_dreams : Int32) (v_inn_sleepers : Int32) (v_inn_listeners : Int32) (v_inn_names : Int32) (v_inn_isTold : Nat → Int32) (v_inn_act : Nat → Int32) (v_inn_then : Nat → Int32) (v_inn_what : Nat → Int32) (v_inn_doorA : Nat → Int32) (v_inn_doorB : Nat → Int32) (v_from : Nat → Int32) (v_inn_falls : Nat → Int32) (v_inn_creak : Nat → Int32) (v_inn_listens : Nat → Int32) (v_far : Nat → Int32) (v_inn_isCold : Nat → Int32) (v_inn_met : Nat → Int32) (N : Nat) (p0 : Int32) (z0 : Int32) (z1 : Nat → Int32) (z2 : Nat → Int32) (hf : fX12_passAll N p0 v_w v_inn_minutes v_inn_rooms v_inn_doors v_inn_sleepers v_inn_listeners v_inn_isTold v_inn_act v_inn_then v_inn_what v_inn_doorA v_inn_doorB v_from v_inn_falls v_inn_creak v_inn_listens v_far v_inn_isCold v_inn_met = some (z0, z1, z2)) : CTi l E yX12_passAll cX12_passAll 3 .int 5 116 [.ref h, .int p0] (wX12_passAll E h h_inn h_tape h_far h_from h_real h_other h_kept h_set h_w h_book h_noteSort h_whose h_what h_noteIs h_fitting h_dawn h_likes h_walked h_came h_inn_creak h_inn_doorA h_inn_doorB h_inn_how h_inn_lies h_inn_isCold h_inn_falls h_inn_isFull h_inn_isTold h_inn_act h_inn_what h_inn_then h_inn_met h_inn_bed h_inn_dream h_inn_listens h_inn_name h_inn_nameSort h_inn_nameNumber v_thrown v_trouble v_where v_read v_taped v_size v_at v_sort v_place v_sign v_number v_fault v_wrongAt v_word v_marks v_notes v_w v_inn_minutes v_inn_rooms v_inn_doors v_inn_things v_inn_dreams v_inn_sleepers v_inn_listeners v_inn_names v_inn_isTold v_inn_act v_inn_then v_inn_what v_inn_doorA v_inn_doorB v_from v_inn_falls v_inn_creak v_inn_listens v_far v_inn_isCold v_inn_met) z0 (wX12_passAll E h h_inn h_tape h_far h_from h_real h_other h_kept h_set h_w h_book h_noteSort h_whose h_what h_noteIs h_fitting h_dawn h_likes h_walked h_came h_inn_creak h_inn_doorA h_inn_doorB h_inn_how h_inn_lies h_inn_isCold h_inn_falls h_inn_isFull h_inn_isTold h_inn_act h_inn_what h_inn_then h_inn_met h_inn_bed h_inn_dream h_inn_listens h_inn_name h_inn_nameSort h_inn_nameNumber v_thrown v_trouble v_where v_read v_taped v_size v_at v_sort v_place v_sign v_number v_fault v_wrongAt v_word v_marks v_notes z1 v_inn_minutes v_inn_rooms v_inn_doors v_inn_things v_inn_dreams v_inn_sleepers v_inn_listeners v_inn_names v_inn_isTold v_inn_act v_inn_then v_inn_what v_inn_doorA v_inn_doorB z2 v_inn_falls v_inn_creak v_inn_listens v_far v_inn_isCold v_inn_met) := by
  intro sz
  refine ct_body (by decide) (Nat.le_of_ble_eq_true rfl) ?_
  intro p e s m args below meth c A ls hAe C hr hin hP hD hS hl
  have C : CX p s m args meth c cX12_passAll RX12 3 E A := C
  have hl : lv_has ls 3 [(0, .ref h), (1, .int p0)] := hl
  have hx := C.1
  have hb := C.2.1
  rw [hAe]
  clear hAe
  obtain ⟨Q, hQ⟩ : ∃ Q, Q = MQ below (Qi E A z0 (wX12_passAll E h h_inn h_tape h_far h_from h_real h_other h_kept h_set h_w h_book h_noteSort h_whose h_what h_noteIs h_fitting h_dawn h_likes h_walked h_came h_inn_creak h_inn_doorA h_inn_doorB h_inn_how h_inn_lies h_inn_isCold h_inn_falls h_inn_isFull h_inn_isTold h_inn_act h_inn_what h_inn_then h_inn_met h_inn_bed h_inn_dream h_inn_listens h_inn_name h_inn_nameSort h_inn_nameNumber v_thrown v_trouble v_where v_read v_taped v_size v_at v_sort v_place v_sign v_number v_fault v_wrongAt v_word v_marks v_notes z1 v_inn_minutes v_inn_rooms v_inn_doors v_inn_things v_inn_dreams v_inn_sleepers v_inn_listeners v_inn_names v_inn_isTold v_inn_act v_inn_then v_inn_what v_inn_doorA v_inn_doorB z2 v_inn_falls v_inn_creak v_inn_listens v_far v_inn_isCold v_inn_met)) args s 0 0 A := ⟨_, rfl⟩
  rw [← hQ]
  unfold fX12_passAll at hf
  refine lv_iconst (v := 0) hx hb dX12_passAll_0 (by decide) ?_
  refine lv_istore_n (lv' := [(2, .int 0), (0, .ref h), (1, .int p0)]) hx hb dX12_passAll_1 rfl hl (by decide) rfl (fun ls hl => ?_)
  have key2 : ∀ (n : Nat) (x2_2 : Int32) (x2_w : Nat → Int32) (x2_from : Nat → Int32) , lp (BX12_passAll_2 p0 v_inn_minutes N v_inn_rooms v_inn_doors v_inn_sleepers v_inn_listeners v_inn_isTold v_inn_act v_inn_then v_inn_what v_inn_doorA v_inn_doorB v_inn_falls v_inn_creak v_inn_listens v_far v_inn_isCold v_inn_met) n (x2_2, x2_w, x2_from) = some (z0, z1, z2) → AT p l e (rmOf 5 116) s m args below meth c E A Q 0 0 3 [(0, .ref h), (1, .int p0), (2, .int x2_2)] (wX12_passAll E h h_inn h_tape h_far h_from h_real h_other h_kept h_set h_w h_book h_noteSort h_whose h_what h_noteIs h_fitting h_dawn h_likes h_walked h_came h_inn_creak h_inn_doorA h_inn_doorB h_inn_how h_inn_lies h_inn_isCold h_inn_falls h_inn_isFull h_inn_isTold h_inn_act h_inn_what h_inn_then h_inn_met h_inn_bed h_inn_dream h_inn_listens h_inn_name h_inn_nameSort h_inn_nameNumber v_thrown v_trouble v_where v_read v_taped v_size v_at v_sort v_place v_sign v_number v_fault v_wrongAt v_word v_marks v_notes x2_w v_inn_minutes v_inn_rooms v_inn_doors v_inn_things v_inn_dreams v_inn_sleepers v_inn_listeners v_inn_names v_inn_isTold v_inn_act v_inn_then v_inn_what v_inn_doorA v_inn_doorB x2_from v_inn_falls v_inn_creak v_inn_listens v_far v_inn_isCold v_inn_met) 2 [] := by
    intro n
    induction n with
    | zero => intro x2_2 x2_w x2_from hf; exact (lp_0 hf).elim
    | succ n ih2 =>
      intro x2_2 x2_w x2_from hf H locs ls hl hP hD hS
      replace hf := lp_s hf
      generalize lp (BX12_passAll_2 p0 v_inn_minutes N v_inn_rooms v_inn_doors v_inn_sleepers v_inn_listeners v_inn_isTold v_inn_act v_inn_then v_inn_what v_inn_doorA v_inn_doorB v_inn_falls v_inn_creak v_inn_listens v_far v_inn_isCold v_inn_met) n = rec2 at ih2 hf
      unfold BX12_passAll_2 at hf
      replace hf := un3_s hf
      refine lv_iload_n hx hb dX12_passAll_2 rfl (lv_at hl 2 rfl) ?_
      refine lv_iload_n hx hb dX12_passAll_3 rfl (lv_at hl 1 rfl) ?_
      refine lv_icmp_ge (tgt := 34) hx hb dX12_passAll_4 (by decide) (fun c_4 => ?_) (fun c_4 => ?_)
      · replace hf := it_t c_4 hf
        refine lv_iload_n hx hb dX12_passAll_34 rfl (lv_at hl 2 rfl) ?_
        cases hf
        rw [hQ]
        exact r_iret C hr hP hD hS rfl dX12_passAll_35
      · replace hf := it_f c_4 hf
        refine lv_aload_n hx hb dX12_passAll_7 rfl (lv_at hl 0 rfl) ?_
        refine r_get C hP 0 rfl fl_X12_36 rfl dX12_passAll_8 ?_
        refine lv_bipush (v := 49) hx hb dX12_passAll_11 (by decide) ?_
        obtain ⟨hi_13, hf⟩ := gd_s hf
        refine r_iald C hP 1 rfl hi_13 dX12_passAll_13 ?_
        refine lv_aload_n hx hb dX12_passAll_14 rfl (lv_at hl 0 rfl) ?_
        refine r_get C hP 0 rfl fl_X12_358 rfl dX12_passAll_15 ?_
        refine r_get C hP 2 rfl fl_X12_241 rfl dX12_passAll_18 ?_
        refine lv_icmp_ge (tgt := 34) hx hb dX12_passAll_21 (by decide) (fun c_21 => ?_) (fun c_21 => ?_)
        · replace hf := it_t c_21 hf
          refine lv_iload_n hx hb dX12_passAll_34 rfl (lv_at hl 2 rfl) ?_
          cases hf
          rw [hQ]
          exact r_iret C hr hP hD hS rfl dX12_passAll_35
        · replace hf := it_f c_21 hf
          refine lv_aload_n hx hb dX12_passAll_24 rfl (lv_at hl 0 rfl) ?_
          obtain ⟨v_w_25, v_from_25, hc_25, hf⟩ := bd2 hf
          refine r_callVv (ws' := (wX12_passAll E h h_inn h_tape h_far h_from h_real h_other h_kept h_set h_w h_book h_noteSort h_whose h_what h_noteIs h_fitting h_dawn h_likes h_walked h_came h_inn_creak h_inn_doorA h_inn_doorB h_inn_how h_inn_lies h_inn_isCold h_inn_falls h_inn_isFull h_inn_isTold h_inn_act h_inn_what h_inn_then h_inn_met h_inn_bed h_inn_dream h_inn_listens h_inn_name h_inn_nameSort h_inn_nameNumber v_thrown v_trouble v_where v_read v_taped v_size v_at v_sort v_place v_sign v_number v_fault v_wrongAt v_word v_marks v_notes v_w_25 v_inn_minutes v_inn_rooms v_inn_doors v_inn_things v_inn_dreams v_inn_sleepers v_inn_listeners v_inn_names v_inn_isTold v_inn_act v_inn_then v_inn_what v_inn_doorA v_inn_doorB v_from_25 v_inn_falls v_inn_creak v_inn_listens v_far v_inn_isCold v_inn_met)) (As := []) (rest := []) C (ctX12_passes l E h h_inn h_tape h_far h_from h_real h_other h_kept h_set h_w h_book h_noteSort h_whose h_what h_noteIs h_fitting h_dawn h_likes h_walked h_came h_inn_creak h_inn_doorA h_inn_doorB h_inn_how h_inn_lies h_inn_isCold h_inn_falls h_inn_isFull h_inn_isTold h_inn_act h_inn_what h_inn_then h_inn_met h_inn_bed h_inn_dream h_inn_listens h_inn_name h_inn_nameSort h_inn_nameNumber v_thrown v_trouble v_where v_read v_taped v_size v_at v_sort v_place v_sign v_number v_fault v_wrongAt v_word v_marks v_notes x2_w v_inn_minutes v_inn_rooms v_inn_doors v_inn_things v_inn_dreams v_inn_sleepers v_inn_listeners v_inn_names v_inn_isTold v_inn_act v_inn_then v_inn_what v_inn_doorA v_inn_doorB x2_from v_inn_falls v_inn_creak v_inn_listens v_far v_inn_isCold v_inn_met N v_w_25 v_from_25 hc_25) ml_X12_424 ⟨Nat.le_of_ble_eq_true rfl, Nat.le_of_ble_eq_true rfl⟩ hP hD hS 0 rfl rfl rfl [0, 1, 2, 3, 4, 5, 6, 7, 8, 9, 10, 11, 12, 13, 14, 15] rfl rfl rfl rfl rfl hl.1 rfl (Nat.le_of_ble_eq_true rfl) ⟨Nat.zero_le _, Nat.zero_le _⟩ dX12_passAll_25 ?_
          clear hP hD hS; intro H locs hP hD hS
          refine lv_iinc (v := x2_2 + 1) (lv' := [(2, .int (x2_2 + 1)), (0, .ref h), (1, .int p0)]) hx hb dX12_passAll_28 hl (k := 2) rfl rfl (by decide) rfl (fun ls hl => ?_)
          refine lv_goto (tgt := 2) hx hb dX12_passAll_31 (by decide) ?_
          exact ih2 (x2_2 + 1) v_w_25 v_from_25 hf _ _ _ (lv_sub hl [1, 2, 0] rfl) hP hD hS
  exact key2 _ 0 v_w v_from hf _ _ _ (lv_sub hl [1, 2, 0] rfl) hP hD hS
def wX12_minutes (E : EN) (h h_inn h_tape h_far h_from h_real h_other h_kept h_set h_w h_book h_noteSort h_whose h_what h_noteIs h_fitting h_dawn h_likes h_walked h_came h_inn_creak h_inn_doorA h_inn_doorB h_inn_how h_inn_lies h_inn_isCold h_inn_falls h_inn_isFull h_inn_isTold h_inn_act h_inn_what h_inn_then h_inn_met h_inn_bed h_inn_dream h_inn_listens h_inn_name h_inn_nameSort h_inn_nameNumber : Nat) (v_thrown : Int32) (v_trouble : Int32) (v_where : Int32) (v_read : Option Nat) (v_taped : Int32) (v_size : Int32) (v_at : Int32) (v_sort : Int32) (v_place : Int32) (v_sign : Int32) (v_number : Int32) (v_fault : Int32) (v_wrongAt : Int32) (v_word : Int64) (v_marks : Int32) (v_notes : Int32) (v_w : Nat → Int32) (v_inn_minutes : Int32) (v_inn_rooms : Int32) (v_inn_doors : Int32) (v_inn_things : Int32) (v_inn_dreams : Int32) (v_inn_sleepers : Int32) (v_inn_listeners : Int32) (v_inn_names : Int32) (v_inn_isTold : Nat → Int32) (v_inn_act : Nat → Int32) (v_inn_then : Nat → Int32) (v_inn_what : Nat → Int32) (v_inn_doorA : Nat → Int32) (v_inn_doorB : Nat → Int32) (v_from : Nat → Int32) (v_inn_falls : Nat → Int32) (v_inn_creak : Nat → Int32) (v_inn_listens : Nat → Int32) (v_far : Nat → Int32) (v_inn_isCold : Nat → Int32) (v_inn_met : Nat → Int32) : va_W := [(h, .inr (11, [.int v_thrown, .int v_trouble, .int v_where, .ref h_inn, va_rf v_read, .ref h_tape, .int v_taped, .int v_size, .int v_at, .int v_sort, .int v_place, .int v_sign, .int v_number, .int v_fault, .int v_wrongAt, .long v_word, .ref h_far, .ref h_from, .ref h_real, .ref h_other, .ref h_kept, .ref h_set, .ref h_w, .int v_marks, .int v_notes, .ref h_book, .ref h_noteSort, .ref h_whose, .ref h_what, .ref h_noteIs, .ref h_fitting, .ref h_dawn, .ref h_likes, .ref h_walked, .ref h_came])), (h_w, aI E 51 v_w), (h_inn, .inr (10, [.int v_inn_minutes, .int v_inn_rooms, .int v_inn_doors, .int v_inn_things, .int v_inn_dreams, .int v_inn_sleepers, .int v_inn_listeners, .int v_inn_names, .ref h_inn_creak, .ref h_inn_doorA, .ref h_inn_doorB, .ref h_inn_how, .ref h_inn_lies, .ref h_inn_isCold, .ref h_inn_falls, .ref h_inn_isFull, .ref h_inn_isTold, .ref h_inn_act, .ref h_inn_what, .ref h_inn_then, .ref h_inn_met, .ref h_inn_bed, .ref h_inn_dream, .ref h_inn_listens, .ref h_inn_name, .ref h_inn_nameSort, .ref h_inn_nameNumber])), (h_inn_isTold, aZ E 16 v_inn_isTold), (h_inn_act, aI E 16 v_inn_act), (h_inn_then, aI E 16 v_inn_then), (h_inn_what, aI E 16 v_inn_what), (h_inn_doorA, aI E 10 v_inn_doorA), (h_inn_doorB, aI E 10 v_inn_doorB), (h_from, aI E 8 v_from), (h_inn_falls, aZ E 10 v_inn_falls), (h_inn_creak, aI E 8 v_inn_creak), (h_inn_listens, aI E 3 v_inn_listens), (h_far, aI E 64 v_far), (h_inn_isCold, aZ E 8 v_inn_isCold), (h_inn_met, aI E 16 v_inn_met)]
def fX12_minutes (N : Nat) (p0 : Int32) (v_w : Nat → Int32) (v_inn_minutes : Int32) (v_inn_rooms : Int32) (v_inn_doors : Int32) (v_inn_sleepers : Int32) (v_inn_listeners : Int32) (v_inn_isTold : Nat → Int32) (v_inn_act : Nat → Int32) (v_inn_then : Nat → Int32) (v_inn_what : Nat → Int32) (v_inn_doorA : Nat → Int32) (v_inn_doorB : Nat → Int32) (v_from : Nat → Int32) (v_inn_falls : Nat → Int32) (v_inn_creak : Nat → Int32) (v_inn_listens : Nat → Int32) (v_far : Nat → Int32) (v_inn_isCold : Nat → Int32) (v_inn_met : Nat → Int32) : Option (Int32 × Int32 × Int32 × Int32 × (Nat → Int32) × (Nat → Int32)) := (fX12_in N p0 1 40).bind (un1 fun (r_22 : Int32) => if r_22 = 0 then ((fX12_refused N 2).bind (un3 fun (r_30 : Int32) (v_trouble_30 : Int32) (v_where_30 : Int32) => some (r_30, 0, v_trouble_30, v_where_30, v_w, v_from))) else (gd 49 51 (if (v_w (49 : Int32).toNatClampNeg) = v_inn_minutes then ((fX12_refused N 6).bind (un3 fun (r_54 : Int32) (v_trouble_54 : Int32) (v_where_54 : Int32) => some (r_54, 0, v_trouble_54, v_where_54, v_w, v_from))) else ((fX12_passAll N p0 v_w v_inn_minutes v_inn_rooms v_inn_doors v_inn_sleepers v_inn_listeners v_inn_isTold v_inn_act v_inn_then v_inn_what v_inn_doorA v_inn_doorB v_from v_inn_falls v_inn_creak v_inn_listens v_far v_inn_isCold v_inn_met).bind (un3 fun (r_63 : Int32) (v_w_63 : Nat → Int32) (v_from_63 : Nat → Int32) => (fX12_good N r_63).bind (un3 fun (r_66 : Int32) (v_trouble_66 : Int32) (v_where_66 : Int32) => some (r_66, 0, v_trouble_66, v_where_66, v_w_63, v_from_63)))))))
set_option maxHeartbeats 4000000 in
set_option maxRecDepth 100000 in
theorem ctX12_minutes (l : Launch) (E : EN) (h h_inn h_tape h_far h_from h_real h_other h_kept h_set h_w h_book h_noteSort h_whose h_what h_noteIs h_fitting h_dawn h_likes h_walked h_came h_inn_creak h_inn_doorA h_inn_doorB h_inn_how h_inn_lies h_inn_isCold h_inn_falls h_inn_isFull h_inn_isTold h_inn_act h_inn_what h_inn_then h_inn_met h_inn_bed h_inn_dream h_inn_listens h_inn_name h_inn_nameSort h_inn_nameNumber : Nat) (v_thrown : Int32) (v_trouble : Int32) (v_where : Int32) (v_read : Option Nat) (v_taped : Int32) (v_size : Int32) (v_at : Int32) (v_sort : Int32) (v_place : Int32) (v_sign : Int32) (v_number : Int32) (v_fault : Int32) (v_wrongAt : Int32) (v_word : Int64) (v_marks : Int32) (v_notes : Int32) (v_w : Nat → Int32) (v_inn_minutes : Int32) (v_inn_rooms : Int32) (v_inn_doors : Int32) (v_inn_things : Int32) (v_inn_dreams : Int32) (v_inn_sleepers : Int32) (v_inn_listeners : Int32) (v_inn_names : Int32) (v_inn_isTold : Nat → Int32) (v_inn_act : Nat → Int32) (v_inn_then : Nat → Int32) (v_inn_what : Nat → Int32) (v_inn_doorA : Nat → Int32) (v_inn_doorB : Nat → Int32) (v_from : Nat → Int32) (v_inn_falls : Nat → Int32) (v_inn_creak : Nat → Int32) (v_inn_listens : Nat → Int32) (v_far : Nat → Int32) (v_inn_isCold : Nat → Int32) (v_inn_met : Nat → Int32) (N : Nat) (p0 : Int32) (z0 : Int32) (z1 : Int32) (z2 : Int32) (z3 : Int32) (z4 : Nat → Int32) (z5 : Nat → Int32) (hf : fX12_minutes N p0 v_w v_inn_minutes v_inn_rooms v_inn_doors v_inn_sleepers v_inn_listeners v_inn_isTold v_inn_act v_inn_then v_inn_what v_inn_doorA v_inn_doorB v_from v_inn_falls v_inn_creak v_inn_listens v_far v_inn_isCold v_inn_met = some (z0, z1, z2, z3, z4, z5)) : CTi l E yX12_minutes cX12_minutes 2 .int 6 138 [.ref h, .int p0] (wX12_minutes E h h_inn h_tape h_far h_from h_real h_other h_kept h_set h_w h_book h_noteSort h_whose h_what h_noteIs h_fitting h_dawn h_likes h_walked h_came h_inn_creak h_inn_doorA h_inn_doorB h_inn_how h_inn_lies h_inn_isCold h_inn_falls h_inn_isFull h_inn_isTold h_inn_act h_inn_what h_inn_then h_inn_met h_inn_bed h_inn_dream h_inn_listens h_inn_name h_inn_nameSort h_inn_nameNumber v_thrown v_trouble v_where v_read v_taped v_size v_at v_sort v_place v_sign v_number v_fault v_wrongAt v_word v_marks v_notes v_w v_inn_minutes v_inn_rooms v_inn_doors v_inn_things v_inn_dreams v_inn_sleepers v_inn_listeners v_inn_names v_inn_isTold v_inn_act v_inn_then v_inn_what v_inn_doorA v_inn_doorB v_from v_inn_falls v_inn_creak v_inn_listens v_far v_inn_isCold v_inn_met) z0 (wX12_minutes E h h_inn h_tape h_far h_from h_real h_other h_kept h_set h_w h_book h_noteSort h_whose h_what h_noteIs h_fitting h_dawn h_likes h_walked h_came h_inn_creak h_inn_doorA h_inn_doorB h_inn_how h_inn_lies h_inn_isCold h_inn_falls h_inn_isFull h_inn_isTold h_inn_act h_inn_what h_inn_then h_inn_met h_inn_bed h_inn_dream h_inn_listens h_inn_name h_inn_nameSort h_inn_nameNumber z1 z2 z3 v_read v_taped v_size v_at v_sort v_place v_sign v_number v_fault v_wrongAt v_word v_marks v_notes z4 v_inn_minutes v_inn_rooms v_inn_doors v_inn_things v_inn_dreams v_inn_sleepers v_inn_listeners v_inn_names v_inn_isTold v_inn_act v_inn_then v_inn_what v_inn_doorA v_inn_doorB z5 v_inn_falls v_inn_creak v_inn_listens v_far v_inn_isCold v_inn_met) := by
  intro sz
  refine ct_body (by decide) (Nat.le_of_ble_eq_true rfl) ?_
  intro p e s m args below meth c A ls hAe C hr hin hP hD hS hl
  have C : CX p s m args meth c cX12_minutes RX12 2 E A := C
  have hl : lv_has ls 2 [(0, .ref h), (1, .int p0)] := hl
  have hx := C.1
  have hb := C.2.1
  rw [hAe]
  clear hAe
  obtain ⟨Q, hQ⟩ : ∃ Q, Q = MQ below (Qi E A z0 (wX12_minutes E h h_inn h_tape h_far h_from h_real h_other h_kept h_set h_w h_book h_noteSort h_whose h_what h_noteIs h_fitting h_dawn h_likes h_walked h_came h_inn_creak h_inn_doorA h_inn_doorB h_inn_how h_inn_lies h_inn_isCold h_inn_falls h_inn_isFull h_inn_isTold h_inn_act h_inn_what h_inn_then h_inn_met h_inn_bed h_inn_dream h_inn_listens h_inn_name h_inn_nameSort h_inn_nameNumber z1 z2 z3 v_read v_taped v_size v_at v_sort v_place v_sign v_number v_fault v_wrongAt v_word v_marks v_notes z4 v_inn_minutes v_inn_rooms v_inn_doors v_inn_things v_inn_dreams v_inn_sleepers v_inn_listeners v_inn_names v_inn_isTold v_inn_act v_inn_then v_inn_what v_inn_doorA v_inn_doorB z5 v_inn_falls v_inn_creak v_inn_listens v_far v_inn_isCold v_inn_met)) args s 0 0 A := ⟨_, rfl⟩
  rw [← hQ]
  unfold fX12_minutes at hf
  refine lv_aload_n hx hb dX12_minutes_0 rfl (lv_at hl 0 rfl) ?_
  refine lv_iconst (v := 0) hx hb dX12_minutes_1 (by decide) ?_
  refine r_put (ws' := (wX12_minutes E h h_inn h_tape h_far h_from h_real h_other h_kept h_set h_w h_book h_noteSort h_whose h_what h_noteIs h_fitting h_dawn h_likes h_walked h_came h_inn_creak h_inn_doorA h_inn_doorB h_inn_how h_inn_lies h_inn_isCold h_inn_falls h_inn_isFull h_inn_isTold h_inn_act h_inn_what h_inn_then h_inn_met h_inn_bed h_inn_dream h_inn_listens h_inn_name h_inn_nameSort h_inn_nameNumber 0 v_trouble v_where v_read v_taped v_size v_at v_sort v_place v_sign v_number v_fault v_wrongAt v_word v_marks v_notes v_w v_inn_minutes v_inn_rooms v_inn_doors v_inn_things v_inn_dreams v_inn_sleepers v_inn_listeners v_inn_names v_inn_isTold v_inn_act v_inn_then v_inn_what v_inn_doorA v_inn_doorB v_from v_inn_falls v_inn_creak v_inn_listens v_far v_inn_isCold v_inn_met)) C hP hD hS 0 rfl fl_X12_71 rfl rfl (by decide) rfl dX12_minutes_2 ?_
  clear hP hD hS; intro H locs hP hD hS
  refine lv_aload_n hx hb dX12_minutes_5 rfl (lv_at hl 0 rfl) ?_
  refine r_get C hP 0 rfl fl_X12_358 rfl dX12_minutes_6 ?_
  refine lv_ifnonnull (tgt := 18) hx hb dX12_minutes_9 (by decide) ?_
  refine lv_iload_n hx hb dX12_minutes_18 rfl (lv_at hl 1 rfl) ?_
  refine lv_iconst (v := 1) hx hb dX12_minutes_19 (by decide) ?_
  refine lv_bipush (v := 40) hx hb dX12_minutes_20 (by decide) ?_
  obtain ⟨r_22, hc_22, hf⟩ := bd1 hf
  refine r_callSi (ws' := (wX12_minutes E h h_inn h_tape h_far h_from h_real h_other h_kept h_set h_w h_book h_noteSort h_whose h_what h_noteIs h_fitting h_dawn h_likes h_walked h_came h_inn_creak h_inn_doorA h_inn_doorB h_inn_how h_inn_lies h_inn_isCold h_inn_falls h_inn_isFull h_inn_isTold h_inn_act h_inn_what h_inn_then h_inn_met h_inn_bed h_inn_dream h_inn_listens h_inn_name h_inn_nameSort h_inn_nameNumber 0 v_trouble v_where v_read v_taped v_size v_at v_sort v_place v_sign v_number v_fault v_wrongAt v_word v_marks v_notes v_w v_inn_minutes v_inn_rooms v_inn_doors v_inn_things v_inn_dreams v_inn_sleepers v_inn_listeners v_inn_names v_inn_isTold v_inn_act v_inn_then v_inn_what v_inn_doorA v_inn_doorB v_from v_inn_falls v_inn_creak v_inn_listens v_far v_inn_isCold v_inn_met)) (As := [.int p0, .int 1, .int 40]) (rest := []) C (ctX12_in l E N p0 1 40 r_22 hc_22) ml_X12_149 ⟨Nat.le_of_ble_eq_true rfl, Nat.le_of_ble_eq_true rfl⟩ hP hD hS [] rfl rfl rfl rfl rfl hl.1 rfl (Nat.le_of_ble_eq_true rfl) ⟨Nat.zero_le _, Nat.zero_le _⟩ dX12_minutes_22 ?_
  clear hP hD hS; intro H locs hP hD hS
  refine lv_if_ne (tgt := 34) hx hb dX12_minutes_25 (by decide) (fun c_25 => ?_) (fun c_25 => ?_)
  · replace hf := it_f c_25 hf
    refine lv_aload_n hx hb dX12_minutes_34 rfl (lv_at hl 0 rfl) ?_
    refine r_get C hP 0 rfl fl_X12_36 rfl dX12_minutes_35 ?_
    refine lv_bipush (v := 49) hx hb dX12_minutes_38 (by decide) ?_
    obtain ⟨hi_40, hf⟩ := gd_s hf
    refine r_iald C hP 1 rfl hi_40 dX12_minutes_40 ?_
    refine lv_aload_n hx hb dX12_minutes_41 rfl (lv_at hl 0 rfl) ?_
    refine r_get C hP 0 rfl fl_X12_358 rfl dX12_minutes_42 ?_
    refine r_get C hP 2 rfl fl_X12_241 rfl dX12_minutes_45 ?_
    refine lv_icmp_ne (tgt := 60) hx hb dX12_minutes_48 (by decide) (fun c_48 => ?_) (fun c_48 => ?_)
    · replace hf := it_f c_48 hf
      refine lv_aload_n hx hb dX12_minutes_60 rfl (lv_at hl 0 rfl) ?_
      refine lv_aload_n hx hb dX12_minutes_61 rfl (lv_at hl 0 rfl) ?_
      refine lv_iload_n hx hb dX12_minutes_62 rfl (lv_at hl 1 rfl) ?_
      obtain ⟨r_63, v_w_63, v_from_63, hc_63, hf⟩ := bd3 hf
      refine r_callVi (ws' := (wX12_minutes E h h_inn h_tape h_far h_from h_real h_other h_kept h_set h_w h_book h_noteSort h_whose h_what h_noteIs h_fitting h_dawn h_likes h_walked h_came h_inn_creak h_inn_doorA h_inn_doorB h_inn_how h_inn_lies h_inn_isCold h_inn_falls h_inn_isFull h_inn_isTold h_inn_act h_inn_what h_inn_then h_inn_met h_inn_bed h_inn_dream h_inn_listens h_inn_name h_inn_nameSort h_inn_nameNumber 0 v_trouble v_where v_read v_taped v_size v_at v_sort v_place v_sign v_number v_fault v_wrongAt v_word v_marks v_notes v_w_63 v_inn_minutes v_inn_rooms v_inn_doors v_inn_things v_inn_dreams v_inn_sleepers v_inn_listeners v_inn_names v_inn_isTold v_inn_act v_inn_then v_inn_what v_inn_doorA v_inn_doorB v_from_63 v_inn_falls v_inn_creak v_inn_listens v_far v_inn_isCold v_inn_met)) (As := [.int p0]) (rest := [.ref h]) C (ctX12_passAll l E h h_inn h_tape h_far h_from h_real h_other h_kept h_set h_w h_book h_noteSort h_whose h_what h_noteIs h_fitting h_dawn h_likes h_walked h_came h_inn_creak h_inn_doorA h_inn_doorB h_inn_how h_inn_lies h_inn_isCold h_inn_falls h_inn_isFull h_inn_isTold h_inn_act h_inn_what h_inn_then h_inn_met h_inn_bed h_inn_dream h_inn_listens h_inn_name h_inn_nameSort h_inn_nameNumber 0 v_trouble v_where v_read v_taped v_size v_at v_sort v_place v_sign v_number v_fault v_wrongAt v_word v_marks v_notes v_w v_inn_minutes v_inn_rooms v_inn_doors v_inn_things v_inn_dreams v_inn_sleepers v_inn_listeners v_inn_names v_inn_isTold v_inn_act v_inn_then v_inn_what v_inn_doorA v_inn_doorB v_from v_inn_falls v_inn_creak v_inn_listens v_far v_inn_isCold v_inn_met N p0 r_63 v_w_63 v_from_63 hc_63) ml_X12_427 ⟨Nat.le_of_ble_eq_true rfl, Nat.le_of_ble_eq_true rfl⟩ hP hD hS 0 rfl rfl rfl [0, 1, 2, 3, 4, 5, 6, 7, 8, 9, 10, 11, 12, 13, 14, 15] rfl rfl rfl rfl rfl hl.1 rfl (Nat.le_of_ble_eq_true rfl) ⟨Nat.zero_le _, Nat.zero_le _⟩ dX12_minutes_63 ?_
      clear hP hD hS; intro H locs hP hD hS
      obtain ⟨r_66, v_trouble_66, v_where_66, hc_66, hf⟩ := bd3 hf
      refine r_callVi (ws' := (wX12_minutes E h h_inn h_tape h_far h_from h_real h_other h_kept h_set h_w h_book h_noteSort h_whose h_what h_noteIs h_fitting h_dawn h_likes h_walked h_came h_inn_creak h_inn_doorA h_inn_doorB h_inn_how h_inn_lies h_inn_isCold h_inn_falls h_inn_isFull h_inn_isTold h_inn_act h_inn_what h_inn_then h_inn_met h_inn_bed h_inn_dream h_inn_listens h_inn_name h_inn_nameSort h_inn_nameNumber 0 v_trouble_66 v_where_66 v_read v_taped v_size v_at v_sort v_place v_sign v_number v_fault v_wrongAt v_word v_marks v_notes v_w_63 v_inn_minutes v_inn_rooms v_inn_doors v_inn_things v_inn_dreams v_inn_sleepers v_inn_listeners v_inn_names v_inn_isTold v_inn_act v_inn_then v_inn_what v_inn_doorA v_inn_doorB v_from_63 v_inn_falls v_inn_creak v_inn_listens v_far v_inn_isCold v_inn_met)) (As := [.int r_63]) (rest := []) C (ctX12_good l E h h_tape h_far h_from h_real h_other h_kept h_set h_w h_book h_noteSort h_whose h_what h_noteIs h_fitting h_dawn h_likes h_walked h_came 0 v_trouble v_where (some h_inn) v_read v_taped v_size v_at v_sort v_place v_sign v_number v_fault v_wrongAt v_word v_marks v_notes N r_63 r_66 v_trouble_66 v_where_66 hc_66) ml_X12_81 ⟨Nat.le_of_ble_eq_true rfl, Nat.le_of_ble_eq_true rfl⟩ hP hD hS 0 rfl rfl rfl [0] rfl rfl rfl rfl rfl hl.1 rfl (Nat.le_of_ble_eq_true rfl) ⟨Nat.zero_le _, Nat.zero_le _⟩ dX12_minutes_66 ?_
      clear hP hD hS; intro H locs hP hD hS
      cases hf
      rw [hQ]
      exact r_iret C hr hP hD hS rfl dX12_minutes_69
    · replace hf := it_t c_48 hf
      refine lv_aload_n hx hb dX12_minutes_51 rfl (lv_at hl 0 rfl) ?_
      refine lv_bipush (v := 6) hx hb dX12_minutes_52 (by decide) ?_
      obtain ⟨r_54, v_trouble_54, v_where_54, hc_54, hf⟩ := bd3 hf
      refine r_callVi (ws' := (wX12_minutes E h h_inn h_tape h_far h_from h_real h_other h_kept h_set h_w h_book h_noteSort h_whose h_what h_noteIs h_fitting h_dawn h_likes h_walked h_came h_inn_creak h_inn_doorA h_inn_doorB h_inn_how h_inn_lies h_inn_isCold h_inn_falls h_inn_isFull h_inn_isTold h_inn_act h_inn_what h_inn_then h_inn_met h_inn_bed h_inn_dream h_inn_listens h_inn_name h_inn_nameSort h_inn_nameNumber 0 v_trouble_54 v_where_54 v_read v_taped v_size v_at v_sort v_place v_sign v_number v_fault v_wrongAt v_word v_marks v_notes v_w v_inn_minutes v_inn_rooms v_inn_doors v_inn_things v_inn_dreams v_inn_sleepers v_inn_listeners v_inn_names v_inn_isTold v_inn_act v_inn_then v_inn_what v_inn_doorA v_inn_doorB v_from v_inn_falls v_inn_creak v_inn_listens v_far v_inn_isCold v_inn_met)) (As := [.int 6]) (rest := []) C (ctX12_refused l E h h_tape h_far h_from h_real h_other h_kept h_set h_w h_book h_noteSort h_whose h_what h_noteIs h_fitting h_dawn h_likes h_walked h_came 0 v_trouble v_where (some h_inn) v_read v_taped v_size v_at v_sort v_place v_sign v_number v_fault v_wrongAt v_word v_marks v_notes N 6 r_54 v_trouble_54 v_where_54 hc_54) ml_X12_77 ⟨Nat.le_of_ble_eq_true rfl, Nat.le_of_ble_eq_true rfl⟩ hP hD hS 0 rfl rfl rfl [0] rfl rfl rfl rfl rfl hl.1 rfl (Nat.le_of_ble_eq_true rfl) ⟨Nat.zero_le _, Nat.zero_le _⟩ dX12_minutes_54 ?_
      clear hP hD hS; intro H locs hP hD hS
      refine lv_goto (tgt := 69) hx hb dX12_minutes_57 (by decide) ?_
      cases hf
      rw [hQ]
      exact r_iret C hr hP hD hS rfl dX12_minutes_69
  · replace hf := it_t c_25 hf
    refine lv_aload_n hx hb dX12_minutes_28 rfl (lv_at hl 0 rfl) ?_
    refine lv_iconst (v := 2) hx hb dX12_minutes_29 (by decide) ?_
    obtain ⟨r_30, v_trouble_30, v_where_30, hc_30, hf⟩ := bd3 hf
    refine r_callVi (ws' := (wX12_minutes E h h_inn h_tape h_far h_from h_real h_other h_kept h_set h_w h_book h_noteSort h_whose h_what h_noteIs h_fitting h_dawn h_likes h_walked h_came h_inn_creak h_inn_doorA h_inn_doorB h_inn_how h_inn_lies h_inn_isCold h_inn_falls h_inn_isFull h_inn_isTold h_inn_act h_inn_what h_inn_then h_inn_met h_inn_bed h_inn_dream h_inn_listens h_inn_name h_inn_nameSort h_inn_nameNumber 0 v_trouble_30 v_where_30 v_read v_taped v_size v_at v_sort v_place v_sign v_number v_fault v_wrongAt v_word v_marks v_notes v_w v_inn_minutes v_inn_rooms v_inn_doors v_inn_things v_inn_dreams v_inn_sleepers v_inn_listeners v_inn_names v_inn_isTold v_inn_act v_inn_then v_inn_what v_inn_doorA v_inn_doorB v_from v_inn_falls v_inn_creak v_inn_listens v_far v_inn_isCold v_inn_met)) (As := [.int 2]) (rest := []) C (ctX12_refused l E h h_tape h_far h_from h_real h_other h_kept h_set h_w h_book h_noteSort h_whose h_what h_noteIs h_fitting h_dawn h_likes h_walked h_came 0 v_trouble v_where (some h_inn) v_read v_taped v_size v_at v_sort v_place v_sign v_number v_fault v_wrongAt v_word v_marks v_notes N 2 r_30 v_trouble_30 v_where_30 hc_30) ml_X12_77 ⟨Nat.le_of_ble_eq_true rfl, Nat.le_of_ble_eq_true rfl⟩ hP hD hS 0 rfl rfl rfl [0] rfl rfl rfl rfl rfl hl.1 rfl (Nat.le_of_ble_eq_true rfl) ⟨Nat.zero_le _, Nat.zero_le _⟩ dX12_minutes_30 ?_
    clear hP hD hS; intro H locs hP hD hS
    cases hf
    rw [hQ]
    exact r_iret C hr hP hD hS rfl dX12_minutes_33
def wX12_minutes0 (E : EN) (h h_tape h_far h_from h_real h_other h_kept h_set h_w h_book h_noteSort h_whose h_what h_noteIs h_fitting h_dawn h_likes h_walked h_came : Nat) (v_thrown : Int32) (v_trouble : Int32) (v_where : Int32) (v_read : Option Nat) (v_taped : Int32) (v_size : Int32) (v_at : Int32) (v_sort : Int32) (v_place : Int32) (v_sign : Int32) (v_number : Int32) (v_fault : Int32) (v_wrongAt : Int32) (v_word : Int64) (v_marks : Int32) (v_notes : Int32) : va_W := [(h, .inr (11, [.int v_thrown, .int v_trouble, .int v_where, .null, va_rf v_read, .ref h_tape, .int v_taped, .int v_size, .int v_at, .int v_sort, .int v_place, .int v_sign, .int v_number, .int v_fault, .int v_wrongAt, .long v_word, .ref h_far, .ref h_from, .ref h_real, .ref h_other, .ref h_kept, .ref h_set, .ref h_w, .int v_marks, .int v_notes, .ref h_book, .ref h_noteSort, .ref h_whose, .ref h_what, .ref h_noteIs, .ref h_fitting, .ref h_dawn, .ref h_likes, .ref h_walked, .ref h_came]))]
def fX12_minutes0 (N : Nat) : Option (Int32 × Int32 × Int32 × Int32) := (fX12_refused N 1).bind (un3 fun (r_14 : Int32) (v_trouble_14 : Int32) (v_where_14 : Int32) => some (r_14, 0, v_trouble_14, v_where_14))
set_option maxHeartbeats 4000000 in
set_option maxRecDepth 100000 in
theorem ctX12_minutes0 (l : Launch) (E : EN) (h h_tape h_far h_from h_real h_other h_kept h_set h_w h_book h_noteSort h_whose h_what h_noteIs h_fitting h_dawn h_likes h_walked h_came : Nat) (v_thrown : Int32) (v_trouble : Int32) (v_where : Int32) (v_read : Option Nat) (v_taped : Int32) (v_size : Int32) (v_at : Int32) (v_sort : Int32) (v_place : Int32) (v_sign : Int32) (v_number : Int32) (v_fault : Int32) (v_wrongAt : Int32) (v_word : Int64) (v_marks : Int32) (v_notes : Int32) (N : Nat) (p0 : Int32) (z0 : Int32) (z1 : Int32) (z2 : Int32) (z3 : Int32) (hf : fX12_minutes0 N  = some (z0, z1, z2, z3)) : CTi l E yX12_minutes cX12_minutes 2 .int 1 21 [.ref h, .int p0] (wX12_minutes0 E h h_tape h_far h_from h_real h_other h_kept h_set h_w h_book h_noteSort h_whose h_what h_noteIs h_fitting h_dawn h_likes h_walked h_came v_thrown v_trouble v_where v_read v_taped v_size v_at v_sort v_place v_sign v_number v_fault v_wrongAt v_word v_marks v_notes) z0 (wX12_minutes0 E h h_tape h_far h_from h_real h_other h_kept h_set h_w h_book h_noteSort h_whose h_what h_noteIs h_fitting h_dawn h_likes h_walked h_came z1 z2 z3 v_read v_taped v_size v_at v_sort v_place v_sign v_number v_fault v_wrongAt v_word v_marks v_notes) := by
  intro sz
  refine ct_body (by decide) (Nat.le_of_ble_eq_true rfl) ?_
  intro p e s m args below meth c A ls hAe C hr hin hP hD hS hl
  have C : CX p s m args meth c cX12_minutes RX12 2 E A := C
  have hl : lv_has ls 2 [(0, .ref h), (1, .int p0)] := hl
  have hx := C.1
  have hb := C.2.1
  rw [hAe]
  clear hAe
  obtain ⟨Q, hQ⟩ : ∃ Q, Q = MQ below (Qi E A z0 (wX12_minutes0 E h h_tape h_far h_from h_real h_other h_kept h_set h_w h_book h_noteSort h_whose h_what h_noteIs h_fitting h_dawn h_likes h_walked h_came z1 z2 z3 v_read v_taped v_size v_at v_sort v_place v_sign v_number v_fault v_wrongAt v_word v_marks v_notes)) args s 0 0 A := ⟨_, rfl⟩
  rw [← hQ]
  unfold fX12_minutes0 at hf
  refine lv_aload_n hx hb dX12_minutes_0 rfl (lv_at hl 0 rfl) ?_
  refine lv_iconst (v := 0) hx hb dX12_minutes_1 (by decide) ?_
  refine r_put (ws' := (wX12_minutes0 E h h_tape h_far h_from h_real h_other h_kept h_set h_w h_book h_noteSort h_whose h_what h_noteIs h_fitting h_dawn h_likes h_walked h_came 0 v_trouble v_where v_read v_taped v_size v_at v_sort v_place v_sign v_number v_fault v_wrongAt v_word v_marks v_notes)) C hP hD hS 0 rfl fl_X12_71 rfl rfl (by decide) rfl dX12_minutes_2 ?_
  clear hP hD hS; intro H locs hP hD hS
  refine lv_aload_n hx hb dX12_minutes_5 rfl (lv_at hl 0 rfl) ?_
  refine r_get C hP 0 rfl fl_X12_358 rfl dX12_minutes_6 ?_
  refine lv_ifnonnullN hx hb dX12_minutes_9 ?_
  refine lv_aload_n hx hb dX12_minutes_12 rfl (lv_at hl 0 rfl) ?_
  refine lv_iconst (v := 1) hx hb dX12_minutes_13 (by decide) ?_
  obtain ⟨r_14, v_trouble_14, v_where_14, hc_14, hf⟩ := bd3 hf
  refine r_callVi (ws' := (wX12_minutes0 E h h_tape h_far h_from h_real h_other h_kept h_set h_w h_book h_noteSort h_whose h_what h_noteIs h_fitting h_dawn h_likes h_walked h_came 0 v_trouble_14 v_where_14 v_read v_taped v_size v_at v_sort v_place v_sign v_number v_fault v_wrongAt v_word v_marks v_notes)) (As := [.int 1]) (rest := []) C (ctX12_refused l E h h_tape h_far h_from h_real h_other h_kept h_set h_w h_book h_noteSort h_whose h_what h_noteIs h_fitting h_dawn h_likes h_walked h_came 0 v_trouble v_where none v_read v_taped v_size v_at v_sort v_place v_sign v_number v_fault v_wrongAt v_word v_marks v_notes N 1 r_14 v_trouble_14 v_where_14 hc_14) ml_X12_77 ⟨Nat.le_of_ble_eq_true rfl, Nat.le_of_ble_eq_true rfl⟩ hP hD hS 0 rfl rfl rfl [0] rfl rfl rfl rfl rfl hl.1 rfl (Nat.le_of_ble_eq_true rfl) ⟨Nat.zero_le _, Nat.zero_le _⟩ dX12_minutes_14 ?_
  clear hP hD hS; intro H locs hP hD hS
  cases hf
  rw [hQ]
  exact r_iret C hr hP hD hS rfl dX12_minutes_17
def wX12_morning (E : EN) (h h_inn h_tape h_far h_from h_real h_other h_kept h_set h_w h_book h_noteSort h_whose h_what h_noteIs h_fitting h_dawn h_likes h_walked h_came h_inn_creak h_inn_doorA h_inn_doorB h_inn_how h_inn_lies h_inn_isCold h_inn_falls h_inn_isFull h_inn_isTold h_inn_act h_inn_what h_inn_then h_inn_met h_inn_bed h_inn_dream h_inn_listens h_inn_name h_inn_nameSort h_inn_nameNumber : Nat) (v_thrown : Int32) (v_trouble : Int32) (v_where : Int32) (v_read : Option Nat) (v_taped : Int32) (v_size : Int32) (v_at : Int32) (v_sort : Int32) (v_place : Int32) (v_sign : Int32) (v_number : Int32) (v_fault : Int32) (v_wrongAt : Int32) (v_word : Int64) (v_marks : Int32) (v_notes : Int32) (v_w : Nat → Int32) (v_inn_minutes : Int32) (v_inn_rooms : Int32) (v_inn_doors : Int32) (v_inn_things : Int32) (v_inn_dreams : Int32) (v_inn_sleepers : Int32) (v_inn_listeners : Int32) (v_inn_names : Int32) (v_inn_isTold : Nat → Int32) (v_inn_act : Nat → Int32) (v_inn_then : Nat → Int32) (v_inn_what : Nat → Int32) (v_inn_doorA : Nat → Int32) (v_inn_doorB : Nat → Int32) (v_from : Nat → Int32) (v_inn_falls : Nat → Int32) (v_inn_creak : Nat → Int32) (v_inn_listens : Nat → Int32) (v_far : Nat → Int32) (v_inn_isCold : Nat → Int32) (v_inn_met : Nat → Int32) : va_W := [(h, .inr (11, [.int v_thrown, .int v_trouble, .int v_where, .ref h_inn, va_rf v_read, .ref h_tape, .int v_taped, .int v_size, .int v_at, .int v_sort, .int v_place, .int v_sign, .int v_number, .int v_fault, .int v_wrongAt, .long v_word, .ref h_far, .ref h_from, .ref h_real, .ref h_other, .ref h_kept, .ref h_set, .ref h_w, .int v_marks, .int v_notes, .ref h_book, .ref h_noteSort, .ref h_whose, .ref h_what, .ref h_noteIs, .ref h_fitting, .ref h_dawn, .ref h_likes, .ref h_walked, .ref h_came])), (h_w, aI E 51 v_w), (h_inn, .inr (10, [.int v_inn_minutes, .int v_inn_rooms, .int v_inn_doors, .int v_inn_things, .int v_inn_dreams, .int v_inn_sleepers, .int v_inn_listeners, .int v_inn_names, .ref h_inn_creak, .ref h_inn_doorA, .ref h_inn_doorB, .ref h_inn_how, .ref h_inn_lies, .ref h_inn_isCold, .ref h_inn_falls, .ref h_inn_isFull, .ref h_inn_isTold, .ref h_inn_act, .ref h_inn_what, .ref h_inn_then, .ref h_inn_met, .ref h_inn_bed, .ref h_inn_dream, .ref h_inn_listens, .ref h_inn_name, .ref h_inn_nameSort, .ref h_inn_nameNumber])), (h_inn_isTold, aZ E 16 v_inn_isTold), (h_inn_act, aI E 16 v_inn_act), (h_inn_then, aI E 16 v_inn_then), (h_inn_what, aI E 16 v_inn_what), (h_inn_doorA, aI E 10 v_inn_doorA), (h_inn_doorB, aI E 10 v_inn_doorB), (h_from, aI E 8 v_from), (h_inn_falls, aZ E 10 v_inn_falls), (h_inn_creak, aI E 8 v_inn_creak), (h_inn_listens, aI E 3 v_inn_listens), (h_far, aI E 64 v_far), (h_inn_isCold, aZ E 8 v_inn_isCold), (h_inn_met, aI E 16 v_inn_met)]
def fX12_morning (N : Nat) (v_w : Nat → Int32) (v_inn_minutes : Int32) (v_inn_rooms : Int32) (v_inn_doors : Int32) (v_inn_sleepers : Int32) (v_inn_listeners : Int32) (v_inn_isTold : Nat → Int32) (v_inn_act : Nat → Int32) (v_inn_then : Nat → Int32) (v_inn_what : Nat → Int32) (v_inn_doorA : Nat → Int32) (v_inn_doorB : Nat → Int32) (v_from : Nat → Int32) (v_inn_falls : Nat → Int32) (v_inn_creak : Nat → Int32) (v_inn_listens : Nat → Int32) (v_far : Nat → Int32) (v_inn_isCold : Nat → Int32) (v_inn_met : Nat → Int32) : Option (Int32 × Int32 × Int32 × Int32 × (Nat → Int32) × (Nat → Int32)) := (fX12_passAll N 40 v_w v_inn_minutes v_inn_rooms v_inn_doors v_inn_sleepers v_inn_listeners v_inn_isTold v_inn_act v_inn_then v_inn_what v_inn_doorA v_inn_doorB v_from v_inn_falls v_inn_creak v_inn_listens v_far v_inn_isCold v_inn_met).bind (un3 fun (r_24 : Int32) (v_w_24 : Nat → Int32) (v_from_24 : Nat → Int32) => (fX12_good N r_24).bind (un3 fun (r_27 : Int32) (v_trouble_27 : Int32) (v_where_27 : Int32) => some (r_27, 0, v_trouble_27, v_where_27, v_w_24, v_from_24)))
set_option maxHeartbeats 4000000 in
set_option maxRecDepth 100000 in
theorem ctX12_morning (l : Launch) (E : EN) (h h_inn h_tape h_far h_from h_real h_other h_kept h_set h_w h_book h_noteSort h_whose h_what h_noteIs h_fitting h_dawn h_likes h_walked h_came h_inn_creak h_inn_doorA h_inn_doorB h_inn_how h_inn_lies h_inn_isCold h_inn_falls h_inn_isFull h_inn_isTold h_inn_act h_inn_what h_inn_then h_inn_met h_inn_bed h_inn_dream h_inn_listens h_inn_name h_inn_nameSort h_inn_nameNumber : Nat) (v_thrown : Int32) (v_trouble : Int32) (v_where : Int32) (v_read : Option Nat) (v_taped : Int32) (v_size : Int32) (v_at : Int32) (v_sort : Int32) (v_place : Int32) (v_sign : Int32) (v_number : Int32) (v_fault : Int32) (v_wrongAt : Int32) (v_word : Int64) (v_marks : Int32) (v_notes : Int32) (v_w : Nat → Int32) (v_inn_minutes : Int32) (v_inn_rooms : Int32) (v_inn_doors : Int32) (v_inn_things : Int32) (v_inn_dreams : Int32) (v_inn_sleepers : Int32) (v_inn_listeners : Int32) (v_inn_names : Int32) (v_inn_isTold : Nat → Int32) (v_inn_act : Nat → Int32) (v_inn_then : Nat → Int32) (v_inn_what : Nat → Int32) (v_inn_doorA : Nat → Int32) (v_inn_doorB : Nat → Int32) (v_from : Nat → Int32) (v_inn_falls : Nat → Int32) (v_inn_creak : Nat → Int32) (v_inn_listens : Nat → Int32) (v_far : Nat → Int32) (v_inn_isCold : Nat → Int32) (v_inn_met : Nat → Int32) (N : Nat) (z0 : Int32) (z1 : Int32) (z2 : Int32) (z3 : Int32) (z4 : Nat → Int32) (z5 : Nat → Int32) (hf : fX12_morning N v_w v_inn_minutes v_inn_rooms v_inn_doors v_inn_sleepers v_inn_listeners v_inn_isTold v_inn_act v_inn_then v_inn_what v_inn_doorA v_inn_doorB v_from v_inn_falls v_inn_creak v_inn_listens v_far v_inn_isCold v_inn_met = some (z0, z1, z2, z3, z4, z5)) : CTi l E yX12_morning cX12_morning 1 .int 6 138 [.ref h] (wX12_morning E h h_inn h_tape h_far h_from h_real h_other h_kept h_set h_w h_book h_noteSort h_whose h_what h_noteIs h_fitting h_dawn h_likes h_walked h_came h_inn_creak h_inn_doorA h_inn_doorB h_inn_how h_inn_lies h_inn_isCold h_inn_falls h_inn_isFull h_inn_isTold h_inn_act h_inn_what h_inn_then h_inn_met h_inn_bed h_inn_dream h_inn_listens h_inn_name h_inn_nameSort h_inn_nameNumber v_thrown v_trouble v_where v_read v_taped v_size v_at v_sort v_place v_sign v_number v_fault v_wrongAt v_word v_marks v_notes v_w v_inn_minutes v_inn_rooms v_inn_doors v_inn_things v_inn_dreams v_inn_sleepers v_inn_listeners v_inn_names v_inn_isTold v_inn_act v_inn_then v_inn_what v_inn_doorA v_inn_doorB v_from v_inn_falls v_inn_creak v_inn_listens v_far v_inn_isCold v_inn_met) z0 (wX12_morning E h h_inn h_tape h_far h_from h_real h_other h_kept h_set h_w h_book h_noteSort h_whose h_what h_noteIs h_fitting h_dawn h_likes h_walked h_came h_inn_creak h_inn_doorA h_inn_doorB h_inn_how h_inn_lies h_inn_isCold h_inn_falls h_inn_isFull h_inn_isTold h_inn_act h_inn_what h_inn_then h_inn_met h_inn_bed h_inn_dream h_inn_listens h_inn_name h_inn_nameSort h_inn_nameNumber z1 z2 z3 v_read v_taped v_size v_at v_sort v_place v_sign v_number v_fault v_wrongAt v_word v_marks v_notes z4 v_inn_minutes v_inn_rooms v_inn_doors v_inn_things v_inn_dreams v_inn_sleepers v_inn_listeners v_inn_names v_inn_isTold v_inn_act v_inn_then v_inn_what v_inn_doorA v_inn_doorB z5 v_inn_falls v_inn_creak v_inn_listens v_far v_inn_isCold v_inn_met) := by
  intro sz
  refine ct_body (by decide) (Nat.le_of_ble_eq_true rfl) ?_
  intro p e s m args below meth c A ls hAe C hr hin hP hD hS hl
  have C : CX p s m args meth c cX12_morning RX12 1 E A := C
  have hl : lv_has ls 1 [(0, .ref h)] := hl
  have hx := C.1
  have hb := C.2.1
  rw [hAe]
  clear hAe
  obtain ⟨Q, hQ⟩ : ∃ Q, Q = MQ below (Qi E A z0 (wX12_morning E h h_inn h_tape h_far h_from h_real h_other h_kept h_set h_w h_book h_noteSort h_whose h_what h_noteIs h_fitting h_dawn h_likes h_walked h_came h_inn_creak h_inn_doorA h_inn_doorB h_inn_how h_inn_lies h_inn_isCold h_inn_falls h_inn_isFull h_inn_isTold h_inn_act h_inn_what h_inn_then h_inn_met h_inn_bed h_inn_dream h_inn_listens h_inn_name h_inn_nameSort h_inn_nameNumber z1 z2 z3 v_read v_taped v_size v_at v_sort v_place v_sign v_number v_fault v_wrongAt v_word v_marks v_notes z4 v_inn_minutes v_inn_rooms v_inn_doors v_inn_things v_inn_dreams v_inn_sleepers v_inn_listeners v_inn_names v_inn_isTold v_inn_act v_inn_then v_inn_what v_inn_doorA v_inn_doorB z5 v_inn_falls v_inn_creak v_inn_listens v_far v_inn_isCold v_inn_met)) args s 0 0 A := ⟨_, rfl⟩
  rw [← hQ]
  unfold fX12_morning at hf
  refine lv_aload_n hx hb dX12_morning_0 rfl (lv_at hl 0 rfl) ?_
  refine lv_iconst (v := 0) hx hb dX12_morning_1 (by decide) ?_
  refine r_put (ws' := (wX12_morning E h h_inn h_tape h_far h_from h_real h_other h_kept h_set h_w h_book h_noteSort h_whose h_what h_noteIs h_fitting h_dawn h_likes h_walked h_came h_inn_creak h_inn_doorA h_inn_doorB h_inn_how h_inn_lies h_inn_isCold h_inn_falls h_inn_isFull h_inn_isTold h_inn_act h_inn_what h_inn_then h_inn_met h_inn_bed h_inn_dream h_inn_listens h_inn_name h_inn_nameSort h_inn_nameNumber 0 v_trouble v_where v_read v_taped v_size v_at v_sort v_place v_sign v_number v_fault v_wrongAt v_word v_marks v_notes v_w v_inn_minutes v_inn_rooms v_inn_doors v_inn_things v_inn_dreams v_inn_sleepers v_inn_listeners v_inn_names v_inn_isTold v_inn_act v_inn_then v_inn_what v_inn_doorA v_inn_doorB v_from v_inn_falls v_inn_creak v_inn_listens v_far v_inn_isCold v_inn_met)) C hP hD hS 0 rfl fl_X12_71 rfl rfl (by decide) rfl dX12_morning_2 ?_
  clear hP hD hS; intro H locs hP hD hS
  refine lv_aload_n hx hb dX12_morning_5 rfl (lv_at hl 0 rfl) ?_
  refine r_get C hP 0 rfl fl_X12_358 rfl dX12_morning_6 ?_
  refine lv_ifnonnull (tgt := 20) hx hb dX12_morning_9 (by decide) ?_
  refine lv_aload_n hx hb dX12_morning_20 rfl (lv_at hl 0 rfl) ?_
  refine lv_aload_n hx hb dX12_morning_21 rfl (lv_at hl 0 rfl) ?_
  refine lv_bipush (v := 40) hx hb dX12_morning_22 (by decide) ?_
  obtain ⟨r_24, v_w_24, v_from_24, hc_24, hf⟩ := bd3 hf
  refine r_callVi (ws' := (wX12_morning E h h_inn h_tape h_far h_from h_real h_other h_kept h_set h_w h_book h_noteSort h_whose h_what h_noteIs h_fitting h_dawn h_likes h_walked h_came h_inn_creak h_inn_doorA h_inn_doorB h_inn_how h_inn_lies h_inn_isCold h_inn_falls h_inn_isFull h_inn_isTold h_inn_act h_inn_what h_inn_then h_inn_met h_inn_bed h_inn_dream h_inn_listens h_inn_name h_inn_nameSort h_inn_nameNumber 0 v_trouble v_where v_read v_taped v_size v_at v_sort v_place v_sign v_number v_fault v_wrongAt v_word v_marks v_notes v_w_24 v_inn_minutes v_inn_rooms v_inn_doors v_inn_things v_inn_dreams v_inn_sleepers v_inn_listeners v_inn_names v_inn_isTold v_inn_act v_inn_then v_inn_what v_inn_doorA v_inn_doorB v_from_24 v_inn_falls v_inn_creak v_inn_listens v_far v_inn_isCold v_inn_met)) (As := [.int 40]) (rest := [.ref h]) C (ctX12_passAll l E h h_inn h_tape h_far h_from h_real h_other h_kept h_set h_w h_book h_noteSort h_whose h_what h_noteIs h_fitting h_dawn h_likes h_walked h_came h_inn_creak h_inn_doorA h_inn_doorB h_inn_how h_inn_lies h_inn_isCold h_inn_falls h_inn_isFull h_inn_isTold h_inn_act h_inn_what h_inn_then h_inn_met h_inn_bed h_inn_dream h_inn_listens h_inn_name h_inn_nameSort h_inn_nameNumber 0 v_trouble v_where v_read v_taped v_size v_at v_sort v_place v_sign v_number v_fault v_wrongAt v_word v_marks v_notes v_w v_inn_minutes v_inn_rooms v_inn_doors v_inn_things v_inn_dreams v_inn_sleepers v_inn_listeners v_inn_names v_inn_isTold v_inn_act v_inn_then v_inn_what v_inn_doorA v_inn_doorB v_from v_inn_falls v_inn_creak v_inn_listens v_far v_inn_isCold v_inn_met N 40 r_24 v_w_24 v_from_24 hc_24) ml_X12_427 ⟨Nat.le_of_ble_eq_true rfl, Nat.le_of_ble_eq_true rfl⟩ hP hD hS 0 rfl rfl rfl [0, 1, 2, 3, 4, 5, 6, 7, 8, 9, 10, 11, 12, 13, 14, 15] rfl rfl rfl rfl rfl hl.1 rfl (Nat.le_of_ble_eq_true rfl) ⟨Nat.zero_le _, Nat.zero_le _⟩ dX12_morning_24 ?_
  clear hP hD hS; intro H locs hP hD hS
  obtain ⟨r_27, v_trouble_27, v_where_27, hc_27, hf⟩ := bd3 hf
  refine r_callVi (ws' := (wX12_morning E h h_inn h_tape h_far h_from h_real h_other h_kept h_set h_w h_book h_noteSort h_whose h_what h_noteIs h_fitting h_dawn h_likes h_walked h_came h_inn_creak h_inn_doorA h_inn_doorB h_inn_how h_inn_lies h_inn_isCold h_inn_falls h_inn_isFull h_inn_isTold h_inn_act h_inn_what h_inn_then h_inn_met h_inn_bed h_inn_dream h_inn_listens h_inn_name h_inn_nameSort h_inn_nameNumber 0 v_trouble_27 v_where_27 v_read v_taped v_size v_at v_sort v_place v_sign v_number v_fault v_wrongAt v_word v_marks v_notes v_w_24 v_inn_minutes v_inn_rooms v_inn_doors v_inn_things v_inn_dreams v_inn_sleepers v_inn_listeners v_inn_names v_inn_isTold v_inn_act v_inn_then v_inn_what v_inn_doorA v_inn_doorB v_from_24 v_inn_falls v_inn_creak v_inn_listens v_far v_inn_isCold v_inn_met)) (As := [.int r_24]) (rest := []) C (ctX12_good l E h h_tape h_far h_from h_real h_other h_kept h_set h_w h_book h_noteSort h_whose h_what h_noteIs h_fitting h_dawn h_likes h_walked h_came 0 v_trouble v_where (some h_inn) v_read v_taped v_size v_at v_sort v_place v_sign v_number v_fault v_wrongAt v_word v_marks v_notes N r_24 r_27 v_trouble_27 v_where_27 hc_27) ml_X12_81 ⟨Nat.le_of_ble_eq_true rfl, Nat.le_of_ble_eq_true rfl⟩ hP hD hS 0 rfl rfl rfl [0] rfl rfl rfl rfl rfl hl.1 rfl (Nat.le_of_ble_eq_true rfl) ⟨Nat.zero_le _, Nat.zero_le _⟩ dX12_morning_27 ?_
  clear hP hD hS; intro H locs hP hD hS
  cases hf
  rw [hQ]
  exact r_iret C hr hP hD hS rfl dX12_morning_30
def wX12_morning0 (E : EN) (h h_tape h_far h_from h_real h_other h_kept h_set h_w h_book h_noteSort h_whose h_what h_noteIs h_fitting h_dawn h_likes h_walked h_came : Nat) (v_thrown : Int32) (v_trouble : Int32) (v_where : Int32) (v_read : Option Nat) (v_taped : Int32) (v_size : Int32) (v_at : Int32) (v_sort : Int32) (v_place : Int32) (v_sign : Int32) (v_number : Int32) (v_fault : Int32) (v_wrongAt : Int32) (v_word : Int64) (v_marks : Int32) (v_notes : Int32) : va_W := [(h, .inr (11, [.int v_thrown, .int v_trouble, .int v_where, .null, va_rf v_read, .ref h_tape, .int v_taped, .int v_size, .int v_at, .int v_sort, .int v_place, .int v_sign, .int v_number, .int v_fault, .int v_wrongAt, .long v_word, .ref h_far, .ref h_from, .ref h_real, .ref h_other, .ref h_kept, .ref h_set, .ref h_w, .int v_marks, .int v_notes, .ref h_book, .ref h_noteSort, .ref h_whose, .ref h_what, .ref h_noteIs, .ref h_fitting, .ref h_dawn, .ref h_likes, .ref h_walked, .ref h_came]))]
def fX12_morning0 (N : Nat) : Option (Int32 × Int32 × Int32 × Int32) := (fX12_refused N 1).bind (un3 fun (r_14 : Int32) (v_trouble_14 : Int32) (v_where_14 : Int32) => some (r_14, 0, v_trouble_14, v_where_14))
set_option maxHeartbeats 4000000 in
set_option maxRecDepth 100000 in
theorem ctX12_morning0 (l : Launch) (E : EN) (h h_tape h_far h_from h_real h_other h_kept h_set h_w h_book h_noteSort h_whose h_what h_noteIs h_fitting h_dawn h_likes h_walked h_came : Nat) (v_thrown : Int32) (v_trouble : Int32) (v_where : Int32) (v_read : Option Nat) (v_taped : Int32) (v_size : Int32) (v_at : Int32) (v_sort : Int32) (v_place : Int32) (v_sign : Int32) (v_number : Int32) (v_fault : Int32) (v_wrongAt : Int32) (v_word : Int64) (v_marks : Int32) (v_notes : Int32) (N : Nat) (z0 : Int32) (z1 : Int32) (z2 : Int32) (z3 : Int32) (hf : fX12_morning0 N  = some (z0, z1, z2, z3)) : CTi l E yX12_morning cX12_morning 1 .int 1 21 [.ref h] (wX12_morning0 E h h_tape h_far h_from h_real h_other h_kept h_set h_w h_book h_noteSort h_whose h_what h_noteIs h_fitting h_dawn h_likes h_walked h_came v_thrown v_trouble v_where v_read v_taped v_size v_at v_sort v_place v_sign v_number v_fault v_wrongAt v_word v_marks v_notes) z0 (wX12_morning0 E h h_tape h_far h_from h_real h_other h_kept h_set h_w h_book h_noteSort h_whose h_what h_noteIs h_fitting h_dawn h_likes h_walked h_came z1 z2 z3 v_read v_taped v_size v_at v_sort v_place v_sign v_number v_fault v_wrongAt v_word v_marks v_notes) := by
  intro sz
  refine ct_body (by decide) (Nat.le_of_ble_eq_true rfl) ?_
  intro p e s m args below meth c A ls hAe C hr hin hP hD hS hl
  have C : CX p s m args meth c cX12_morning RX12 1 E A := C
  have hl : lv_has ls 1 [(0, .ref h)] := hl
  have hx := C.1
  have hb := C.2.1
  rw [hAe]
  clear hAe
  obtain ⟨Q, hQ⟩ : ∃ Q, Q = MQ below (Qi E A z0 (wX12_morning0 E h h_tape h_far h_from h_real h_other h_kept h_set h_w h_book h_noteSort h_whose h_what h_noteIs h_fitting h_dawn h_likes h_walked h_came z1 z2 z3 v_read v_taped v_size v_at v_sort v_place v_sign v_number v_fault v_wrongAt v_word v_marks v_notes)) args s 0 0 A := ⟨_, rfl⟩
  rw [← hQ]
  unfold fX12_morning0 at hf
  refine lv_aload_n hx hb dX12_morning_0 rfl (lv_at hl 0 rfl) ?_
  refine lv_iconst (v := 0) hx hb dX12_morning_1 (by decide) ?_
  refine r_put (ws' := (wX12_morning0 E h h_tape h_far h_from h_real h_other h_kept h_set h_w h_book h_noteSort h_whose h_what h_noteIs h_fitting h_dawn h_likes h_walked h_came 0 v_trouble v_where v_read v_taped v_size v_at v_sort v_place v_sign v_number v_fault v_wrongAt v_word v_marks v_notes)) C hP hD hS 0 rfl fl_X12_71 rfl rfl (by decide) rfl dX12_morning_2 ?_
  clear hP hD hS; intro H locs hP hD hS
  refine lv_aload_n hx hb dX12_morning_5 rfl (lv_at hl 0 rfl) ?_
  refine r_get C hP 0 rfl fl_X12_358 rfl dX12_morning_6 ?_
  refine lv_ifnonnullN hx hb dX12_morning_9 ?_
  refine lv_aload_n hx hb dX12_morning_12 rfl (lv_at hl 0 rfl) ?_
  refine lv_iconst (v := 1) hx hb dX12_morning_13 (by decide) ?_
  obtain ⟨r_14, v_trouble_14, v_where_14, hc_14, hf⟩ := bd3 hf
  refine r_callVi (ws' := (wX12_morning0 E h h_tape h_far h_from h_real h_other h_kept h_set h_w h_book h_noteSort h_whose h_what h_noteIs h_fitting h_dawn h_likes h_walked h_came 0 v_trouble_14 v_where_14 v_read v_taped v_size v_at v_sort v_place v_sign v_number v_fault v_wrongAt v_word v_marks v_notes)) (As := [.int 1]) (rest := []) C (ctX12_refused l E h h_tape h_far h_from h_real h_other h_kept h_set h_w h_book h_noteSort h_whose h_what h_noteIs h_fitting h_dawn h_likes h_walked h_came 0 v_trouble v_where none v_read v_taped v_size v_at v_sort v_place v_sign v_number v_fault v_wrongAt v_word v_marks v_notes N 1 r_14 v_trouble_14 v_where_14 hc_14) ml_X12_77 ⟨Nat.le_of_ble_eq_true rfl, Nat.le_of_ble_eq_true rfl⟩ hP hD hS 0 rfl rfl rfl [0] rfl rfl rfl rfl rfl hl.1 rfl (Nat.le_of_ble_eq_true rfl) ⟨Nat.zero_le _, Nat.zero_le _⟩ dX12_morning_14 ?_
  clear hP hD hS; intro H locs hP hD hS
  refine lv_goto (tgt := 30) hx hb dX12_morning_17 (by decide) ?_
  cases hf
  rw [hQ]
  exact r_iret C hr hP hD hS rfl dX12_morning_30
def wX12_sleeper (E : EN) (h h_inn h_tape h_far h_from h_real h_other h_kept h_set h_w h_book h_noteSort h_whose h_what h_noteIs h_fitting h_dawn h_likes h_walked h_came h_inn_creak h_inn_doorA h_inn_doorB h_inn_how h_inn_lies h_inn_isCold h_inn_falls h_inn_isFull h_inn_isTold h_inn_act h_inn_what h_inn_then h_inn_met h_inn_bed h_inn_dream h_inn_listens h_inn_name h_inn_nameSort h_inn_nameNumber : Nat) (v_thrown : Int32) (v_trouble : Int32) (v_where : Int32) (v_read : Option Nat) (v_taped : Int32) (v_size : Int32) (v_at : Int32) (v_sort : Int32) (v_place : Int32) (v_sign : Int32) (v_number : Int32) (v_fault : Int32) (v_wrongAt : Int32) (v_word : Int64) (v_marks : Int32) (v_notes : Int32) (v_inn_minutes : Int32) (v_inn_rooms : Int32) (v_inn_doors : Int32) (v_inn_things : Int32) (v_inn_dreams : Int32) (v_inn_sleepers : Int32) (v_inn_listeners : Int32) (v_inn_names : Int32) (v_w : Nat → Int32) : va_W := [(h, .inr (11, [.int v_thrown, .int v_trouble, .int v_where, .ref h_inn, va_rf v_read, .ref h_tape, .int v_taped, .int v_size, .int v_at, .int v_sort, .int v_place, .int v_sign, .int v_number, .int v_fault, .int v_wrongAt, .long v_word, .ref h_far, .ref h_from, .ref h_real, .ref h_other, .ref h_kept, .ref h_set, .ref h_w, .int v_marks, .int v_notes, .ref h_book, .ref h_noteSort, .ref h_whose, .ref h_what, .ref h_noteIs, .ref h_fitting, .ref h_dawn, .ref h_likes, .ref h_walked, .ref h_came])), (h_inn, .inr (10, [.int v_inn_minutes, .int v_inn_rooms, .int v_inn_doors, .int v_inn_things, .int v_inn_dreams, .int v_inn_sleepers, .int v_inn_listeners, .int v_inn_names, .ref h_inn_creak, .ref h_inn_doorA, .ref h_inn_doorB, .ref h_inn_how, .ref h_inn_lies, .ref h_inn_isCold, .ref h_inn_falls, .ref h_inn_isFull, .ref h_inn_isTold, .ref h_inn_act, .ref h_inn_what, .ref h_inn_then, .ref h_inn_met, .ref h_inn_bed, .ref h_inn_dream, .ref h_inn_listens, .ref h_inn_name, .ref h_inn_nameSort, .ref h_inn_nameNumber])), (h_w, aI E 51 v_w)]
def fX12_sleeper (N : Nat) (p0 : Int32) (p1 : Int32) (v_inn_sleepers : Int32) (v_w : Nat → Int32) : Option (Int32 × Int32 × Int32 × Int32) := (fX12_isSleeper N p0 v_inn_sleepers).bind (un1 fun (r_7 : Int32) => if r_7 = 0 then ((fX12_refused N 1).bind (un3 fun (r_24 : Int32) (v_trouble_24 : Int32) (v_where_24 : Int32) => some (r_24, 0, v_trouble_24, v_where_24))) else ((fX12_in N p1 0 4).bind (un1 fun (r_16 : Int32) => if r_16 = 0 then ((fX12_refused N 1).bind (un3 fun (r_24 : Int32) (v_trouble_24 : Int32) (v_where_24 : Int32) => some (r_24, 0, v_trouble_24, v_where_24))) else (jn (un1 fun (x72_s2 : Int32) => gd (x72_s2 + p0) 51 ((fX12_good N (v_w (x72_s2 + p0).toNatClampNeg)).bind (un3 fun (r_75 : Int32) (v_trouble_75 : Int32) (v_where_75 : Int32) => some (r_75, 0, v_trouble_75, v_where_75)))) (fun j72 => if p1 = 0 then (j72 0) else (if p1 = 1 then (j72 3) else (if p1 = 2 then (j72 6) else (if p1 = 3 then (j72 9) else (j72 12)))))))))
set_option maxHeartbeats 4000000 in
set_option maxRecDepth 100000 in
theorem ctX12_sleeper (l : Launch) (E : EN) (h h_inn h_tape h_far h_from h_real h_other h_kept h_set h_w h_book h_noteSort h_whose h_what h_noteIs h_fitting h_dawn h_likes h_walked h_came h_inn_creak h_inn_doorA h_inn_doorB h_inn_how h_inn_lies h_inn_isCold h_inn_falls h_inn_isFull h_inn_isTold h_inn_act h_inn_what h_inn_then h_inn_met h_inn_bed h_inn_dream h_inn_listens h_inn_name h_inn_nameSort h_inn_nameNumber : Nat) (v_thrown : Int32) (v_trouble : Int32) (v_where : Int32) (v_read : Option Nat) (v_taped : Int32) (v_size : Int32) (v_at : Int32) (v_sort : Int32) (v_place : Int32) (v_sign : Int32) (v_number : Int32) (v_fault : Int32) (v_wrongAt : Int32) (v_word : Int64) (v_marks : Int32) (v_notes : Int32) (v_inn_minutes : Int32) (v_inn_rooms : Int32) (v_inn_doors : Int32) (v_inn_things : Int32) (v_inn_dreams : Int32) (v_inn_sleepers : Int32) (v_inn_listeners : Int32) (v_inn_names : Int32) (v_w : Nat → Int32) (N : Nat) (p0 : Int32) (p1 : Int32) (z0 : Int32) (z1 : Int32) (z2 : Int32) (z3 : Int32) (hf : fX12_sleeper N p0 p1 v_inn_sleepers v_w = some (z0, z1, z2, z3)) : CTi l E yX12_sleeper cX12_sleeper 3 .int 1 22 [.ref h, .int p0, .int p1] (wX12_sleeper E h h_inn h_tape h_far h_from h_real h_other h_kept h_set h_w h_book h_noteSort h_whose h_what h_noteIs h_fitting h_dawn h_likes h_walked h_came h_inn_creak h_inn_doorA h_inn_doorB h_inn_how h_inn_lies h_inn_isCold h_inn_falls h_inn_isFull h_inn_isTold h_inn_act h_inn_what h_inn_then h_inn_met h_inn_bed h_inn_dream h_inn_listens h_inn_name h_inn_nameSort h_inn_nameNumber v_thrown v_trouble v_where v_read v_taped v_size v_at v_sort v_place v_sign v_number v_fault v_wrongAt v_word v_marks v_notes v_inn_minutes v_inn_rooms v_inn_doors v_inn_things v_inn_dreams v_inn_sleepers v_inn_listeners v_inn_names v_w) z0 (wX12_sleeper E h h_inn h_tape h_far h_from h_real h_other h_kept h_set h_w h_book h_noteSort h_whose h_what h_noteIs h_fitting h_dawn h_likes h_walked h_came h_inn_creak h_inn_doorA h_inn_doorB h_inn_how h_inn_lies h_inn_isCold h_inn_falls h_inn_isFull h_inn_isTold h_inn_act h_inn_what h_inn_then h_inn_met h_inn_bed h_inn_dream h_inn_listens h_inn_name h_inn_nameSort h_inn_nameNumber z1 z2 z3 v_read v_taped v_size v_at v_sort v_place v_sign v_number v_fault v_wrongAt v_word v_marks v_notes v_inn_minutes v_inn_rooms v_inn_doors v_inn_things v_inn_dreams v_inn_sleepers v_inn_listeners v_inn_names v_w) := by
  intro sz
  refine ct_body (by decide) (Nat.le_of_ble_eq_true rfl) ?_
  intro p e s m args below meth c A ls hAe C hr hin hP hD hS hl
  have C : CX p s m args meth c cX12_sleeper RX12 3 E A := C
  have hl : lv_has ls 3 [(0, .ref h), (1, .int p0), (2, .int p1)] := hl
  have hx := C.1
  have hb := C.2.1
  rw [hAe]
  clear hAe
  obtain ⟨Q, hQ⟩ : ∃ Q, Q = MQ below (Qi E A z0 (wX12_sleeper E h h_inn h_tape h_far h_from h_real h_other h_kept h_set h_w h_book h_noteSort h_whose h_what h_noteIs h_fitting h_dawn h_likes h_walked h_came h_inn_creak h_inn_doorA h_inn_doorB h_inn_how h_inn_lies h_inn_isCold h_inn_falls h_inn_isFull h_inn_isTold h_inn_act h_inn_what h_inn_then h_inn_met h_inn_bed h_inn_dream h_inn_listens h_inn_name h_inn_nameSort h_inn_nameNumber z1 z2 z3 v_read v_taped v_size v_at v_sort v_place v_sign v_number v_fault v_wrongAt v_word v_marks v_notes v_inn_minutes v_inn_rooms v_inn_doors v_inn_things v_inn_dreams v_inn_sleepers v_inn_listeners v_inn_names v_w)) args s 0 0 A := ⟨_, rfl⟩
  rw [← hQ]
  unfold fX12_sleeper at hf
  refine lv_aload_n hx hb dX12_sleeper_0 rfl (lv_at hl 0 rfl) ?_
  refine lv_iconst (v := 0) hx hb dX12_sleeper_1 (by decide) ?_
  refine r_put (ws' := (wX12_sleeper E h h_inn h_tape h_far h_from h_real h_other h_kept h_set h_w h_book h_noteSort h_whose h_what h_noteIs h_fitting h_dawn h_likes h_walked h_came h_inn_creak h_inn_doorA h_inn_doorB h_inn_how h_inn_lies h_inn_isCold h_inn_falls h_inn_isFull h_inn_isTold h_inn_act h_inn_what h_inn_then h_inn_met h_inn_bed h_inn_dream h_inn_listens h_inn_name h_inn_nameSort h_inn_nameNumber 0 v_trouble v_where v_read v_taped v_size v_at v_sort v_place v_sign v_number v_fault v_wrongAt v_word v_marks v_notes v_inn_minutes v_inn_rooms v_inn_doors v_inn_things v_inn_dreams v_inn_sleepers v_inn_listeners v_inn_names v_w)) C hP hD hS 0 rfl fl_X12_71 rfl rfl (by decide) rfl dX12_sleeper_2 ?_
  clear hP hD hS; intro H locs hP hD hS
  refine lv_aload_n hx hb dX12_sleeper_5 rfl (lv_at hl 0 rfl) ?_
  refine lv_iload_n hx hb dX12_sleeper_6 rfl (lv_at hl 1 rfl) ?_
  obtain ⟨r_7, hc_7, hf⟩ := bd1 hf
  refine r_callVi (ws' := (wX12_sleeper E h h_inn h_tape h_far h_from h_real h_other h_kept h_set h_w h_book h_noteSort h_whose h_what h_noteIs h_fitting h_dawn h_likes h_walked h_came h_inn_creak h_inn_doorA h_inn_doorB h_inn_how h_inn_lies h_inn_isCold h_inn_falls h_inn_isFull h_inn_isTold h_inn_act h_inn_what h_inn_then h_inn_met h_inn_bed h_inn_dream h_inn_listens h_inn_name h_inn_nameSort h_inn_nameNumber 0 v_trouble v_where v_read v_taped v_size v_at v_sort v_place v_sign v_number v_fault v_wrongAt v_word v_marks v_notes v_inn_minutes v_inn_rooms v_inn_doors v_inn_things v_inn_dreams v_inn_sleepers v_inn_listeners v_inn_names v_w)) (As := [.int p0]) (rest := []) C (ctX12_isSleeper l E h h_inn h_tape h_far h_from h_real h_other h_kept h_set h_w h_book h_noteSort h_whose h_what h_noteIs h_fitting h_dawn h_likes h_walked h_came h_inn_creak h_inn_doorA h_inn_doorB h_inn_how h_inn_lies h_inn_isCold h_inn_falls h_inn_isFull h_inn_isTold h_inn_act h_inn_what h_inn_then h_inn_met h_inn_bed h_inn_dream h_inn_listens h_inn_name h_inn_nameSort h_inn_nameNumber 0 v_trouble v_where v_read v_taped v_size v_at v_sort v_place v_sign v_number v_fault v_wrongAt v_word v_marks v_notes v_inn_minutes v_inn_rooms v_inn_doors v_inn_things v_inn_dreams v_inn_sleepers v_inn_listeners v_inn_names N p0 r_7 hc_7) ml_X12_421 ⟨Nat.le_of_ble_eq_true rfl, Nat.le_of_ble_eq_true rfl⟩ hP hD hS 0 rfl rfl rfl [0, 1] rfl rfl rfl rfl rfl hl.1 rfl (Nat.le_of_ble_eq_true rfl) ⟨Nat.zero_le _, Nat.zero_le _⟩ dX12_sleeper_7 ?_
  clear hP hD hS; intro H locs hP hD hS
  refine lv_if_eq (tgt := 22) hx hb dX12_sleeper_10 (by decide) (fun c_10 => ?_) (fun c_10 => ?_)
  · replace hf := it_t c_10 hf
    refine lv_aload_n hx hb dX12_sleeper_22 rfl (lv_at hl 0 rfl) ?_
    refine lv_iconst (v := 1) hx hb dX12_sleeper_23 (by decide) ?_
    obtain ⟨r_24, v_trouble_24, v_where_24, hc_24, hf⟩ := bd3 hf
    refine r_callVi (ws' := (wX12_sleeper E h h_inn h_tape h_far h_from h_real h_other h_kept h_set h_w h_book h_noteSort h_whose h_what h_noteIs h_fitting h_dawn h_likes h_walked h_came h_inn_creak h_inn_doorA h_inn_doorB h_inn_how h_inn_lies h_inn_isCold h_inn_falls h_inn_isFull h_inn_isTold h_inn_act h_inn_what h_inn_then h_inn_met h_inn_bed h_inn_dream h_inn_listens h_inn_name h_inn_nameSort h_inn_nameNumber 0 v_trouble_24 v_where_24 v_read v_taped v_size v_at v_sort v_place v_sign v_number v_fault v_wrongAt v_word v_marks v_notes v_inn_minutes v_inn_rooms v_inn_doors v_inn_things v_inn_dreams v_inn_sleepers v_inn_listeners v_inn_names v_w)) (As := [.int 1]) (rest := []) C (ctX12_refused l E h h_tape h_far h_from h_real h_other h_kept h_set h_w h_book h_noteSort h_whose h_what h_noteIs h_fitting h_dawn h_likes h_walked h_came 0 v_trouble v_where (some h_inn) v_read v_taped v_size v_at v_sort v_place v_sign v_number v_fault v_wrongAt v_word v_marks v_notes N 1 r_24 v_trouble_24 v_where_24 hc_24) ml_X12_77 ⟨Nat.le_of_ble_eq_true rfl, Nat.le_of_ble_eq_true rfl⟩ hP hD hS 0 rfl rfl rfl [0] rfl rfl rfl rfl rfl hl.1 rfl (Nat.le_of_ble_eq_true rfl) ⟨Nat.zero_le _, Nat.zero_le _⟩ dX12_sleeper_24 ?_
    clear hP hD hS; intro H locs hP hD hS
    cases hf
    rw [hQ]
    exact r_iret C hr hP hD hS rfl dX12_sleeper_27
  · replace hf := it_f c_10 hf
    refine lv_iload_n hx hb dX12_sleeper_13 rfl (lv_at hl 2 rfl) ?_
    refine lv_iconst (v := 0) hx hb dX12_sleeper_14 (by decide) ?_
    refine lv_iconst (v := 4) hx hb dX12_sleeper_15 (by decide) ?_
    obtain ⟨r_16, hc_16, hf⟩ := bd1 hf
    refine r_callSi (ws' := (wX12_sleeper E h h_inn h_tape h_far h_from h_real h_other h_kept h_set h_w h_book h_noteSort h_whose h_what h_noteIs h_fitting h_dawn h_likes h_walked h_came h_inn_creak h_inn_doorA h_inn_doorB h_inn_how h_inn_lies h_inn_isCold h_inn_falls h_inn_isFull h_inn_isTold h_inn_act h_inn_what h_inn_then h_inn_met h_inn_bed h_inn_dream h_inn_listens h_inn_name h_inn_nameSort h_inn_nameNumber 0 v_trouble v_where v_read v_taped v_size v_at v_sort v_place v_sign v_number v_fault v_wrongAt v_word v_marks v_notes v_inn_minutes v_inn_rooms v_inn_doors v_inn_things v_inn_dreams v_inn_sleepers v_inn_listeners v_inn_names v_w)) (As := [.int p1, .int 0, .int 4]) (rest := []) C (ctX12_in l E N p1 0 4 r_16 hc_16) ml_X12_149 ⟨Nat.le_of_ble_eq_true rfl, Nat.le_of_ble_eq_true rfl⟩ hP hD hS [] rfl rfl rfl rfl rfl hl.1 rfl (Nat.le_of_ble_eq_true rfl) ⟨Nat.zero_le _, Nat.zero_le _⟩ dX12_sleeper_16 ?_
    clear hP hD hS; intro H locs hP hD hS
    refine lv_if_ne (tgt := 28) hx hb dX12_sleeper_19 (by decide) (fun c_19 => ?_) (fun c_19 => ?_)
    · replace hf := it_f c_19 hf
      refine lv_aload_n hx hb dX12_sleeper_28 rfl (lv_at hl 0 rfl) ?_
      refine lv_aload_n hx hb dX12_sleeper_29 rfl (lv_at hl 0 rfl) ?_
      refine r_get C hP 0 rfl fl_X12_36 rfl dX12_sleeper_30 ?_
      refine lv_iload_n hx hb dX12_sleeper_33 rfl (lv_at hl 2 rfl) ?_
      refine jnK hf (fun j72 ej72 hf => ?_)
      have hj72 : ∀ (x72_s2 : Int32) , j72 x72_s2 = some (z0, z1, z2, z3) → AT p l e (rmOf 1 22) s m args below meth c E A Q 0 0 3 [(1, .int p0)] (wX12_sleeper E h h_inn h_tape h_far h_from h_real h_other h_kept h_set h_w h_book h_noteSort h_whose h_what h_noteIs h_fitting h_dawn h_likes h_walked h_came h_inn_creak h_inn_doorA h_inn_doorB h_inn_how h_inn_lies h_inn_isCold h_inn_falls h_inn_isFull h_inn_isTold h_inn_act h_inn_what h_inn_then h_inn_met h_inn_bed h_inn_dream h_inn_listens h_inn_name h_inn_nameSort h_inn_nameNumber 0 v_trouble v_where v_read v_taped v_size v_at v_sort v_place v_sign v_number v_fault v_wrongAt v_word v_marks v_notes v_inn_minutes v_inn_rooms v_inn_doors v_inn_things v_inn_dreams v_inn_sleepers v_inn_listeners v_inn_names v_w) 72 [.int x72_s2, .ref h_w, .ref h] := by
        intro x72_s2 hf H locs ls hl hP hD hS
        rw [ej72] at hf
        replace hf := un1_s hf
        refine lv_iload_n hx hb dX12_sleeper_72 rfl (lv_at hl 0 rfl) ?_
        refine lv_iadd hx hb dX12_sleeper_73 ?_
        obtain ⟨hi_74, hf⟩ := gd_s hf
        refine r_iald C hP 2 rfl hi_74 dX12_sleeper_74 ?_
        obtain ⟨r_75, v_trouble_75, v_where_75, hc_75, hf⟩ := bd3 hf
        refine r_callVi (ws' := (wX12_sleeper E h h_inn h_tape h_far h_from h_real h_other h_kept h_set h_w h_book h_noteSort h_whose h_what h_noteIs h_fitting h_dawn h_likes h_walked h_came h_inn_creak h_inn_doorA h_inn_doorB h_inn_how h_inn_lies h_inn_isCold h_inn_falls h_inn_isFull h_inn_isTold h_inn_act h_inn_what h_inn_then h_inn_met h_inn_bed h_inn_dream h_inn_listens h_inn_name h_inn_nameSort h_inn_nameNumber 0 v_trouble_75 v_where_75 v_read v_taped v_size v_at v_sort v_place v_sign v_number v_fault v_wrongAt v_word v_marks v_notes v_inn_minutes v_inn_rooms v_inn_doors v_inn_things v_inn_dreams v_inn_sleepers v_inn_listeners v_inn_names v_w)) (As := [.int (v_w (x72_s2 + p0).toNatClampNeg)]) (rest := []) C (ctX12_good l E h h_tape h_far h_from h_real h_other h_kept h_set h_w h_book h_noteSort h_whose h_what h_noteIs h_fitting h_dawn h_likes h_walked h_came 0 v_trouble v_where (some h_inn) v_read v_taped v_size v_at v_sort v_place v_sign v_number v_fault v_wrongAt v_word v_marks v_notes N (v_w (x72_s2 + p0).toNatClampNeg) r_75 v_trouble_75 v_where_75 hc_75) ml_X12_81 ⟨Nat.le_of_ble_eq_true rfl, Nat.le_of_ble_eq_true rfl⟩ hP hD hS 0 rfl rfl rfl [0] rfl rfl rfl rfl rfl hl.1 rfl (Nat.le_of_ble_eq_true rfl) ⟨Nat.zero_le _, Nat.zero_le _⟩ dX12_sleeper_75 ?_
        clear hP hD hS; intro H locs hP hD hS
        cases hf
        rw [hQ]
        exact r_iret C hr hP hD hS rfl dX12_sleeper_78
      clear ej72
      refine lv_if_ne (tgt := 41) hx hb dX12_sleeper_34 (by decide) (fun c_34 => ?_) (fun c_34 => ?_)
      · replace hf := it_f c_34 hf
        refine lv_iload_n hx hb dX12_sleeper_41 rfl (lv_at hl 2 rfl) ?_
        refine lv_iconst (v := 1) hx hb dX12_sleeper_42 (by decide) ?_
        refine lv_icmp_ne (tgt := 50) hx hb dX12_sleeper_43 (by decide) (fun c_43 => ?_) (fun c_43 => ?_)
        · replace hf := it_f c_43 hf
          refine lv_iload_n hx hb dX12_sleeper_50 rfl (lv_at hl 2 rfl) ?_
          refine lv_iconst (v := 2) hx hb dX12_sleeper_51 (by decide) ?_
          refine lv_icmp_ne (tgt := 60) hx hb dX12_sleeper_52 (by decide) (fun c_52 => ?_) (fun c_52 => ?_)
          · replace hf := it_f c_52 hf
            refine lv_iload_n hx hb dX12_sleeper_60 rfl (lv_at hl 2 rfl) ?_
            refine lv_iconst (v := 3) hx hb dX12_sleeper_61 (by decide) ?_
            refine lv_icmp_ne (tgt := 70) hx hb dX12_sleeper_62 (by decide) (fun c_62 => ?_) (fun c_62 => ?_)
            · replace hf := it_f c_62 hf
              refine lv_bipush (v := 12) hx hb dX12_sleeper_70 (by decide) ?_
              exact hj72 12 hf _ _ _ (lv_sub hl [1] rfl) hP hD hS
            · replace hf := it_t c_62 hf
              refine lv_bipush (v := 9) hx hb dX12_sleeper_65 (by decide) ?_
              refine lv_goto (tgt := 72) hx hb dX12_sleeper_67 (by decide) ?_
              exact hj72 9 hf _ _ _ (lv_sub hl [1] rfl) hP hD hS
          · replace hf := it_t c_52 hf
            refine lv_bipush (v := 6) hx hb dX12_sleeper_55 (by decide) ?_
            refine lv_goto (tgt := 72) hx hb dX12_sleeper_57 (by decide) ?_
            exact hj72 6 hf _ _ _ (lv_sub hl [1] rfl) hP hD hS
        · replace hf := it_t c_43 hf
          refine lv_iconst (v := 3) hx hb dX12_sleeper_46 (by decide) ?_
          refine lv_goto (tgt := 72) hx hb dX12_sleeper_47 (by decide) ?_
          exact hj72 3 hf _ _ _ (lv_sub hl [1] rfl) hP hD hS
      · replace hf := it_t c_34 hf
        refine lv_iconst (v := 0) hx hb dX12_sleeper_37 (by decide) ?_
        refine lv_goto (tgt := 72) hx hb dX12_sleeper_38 (by decide) ?_
        exact hj72 0 hf _ _ _ (lv_sub hl [1] rfl) hP hD hS
    · replace hf := it_t c_19 hf
      refine lv_aload_n hx hb dX12_sleeper_22 rfl (lv_at hl 0 rfl) ?_
      refine lv_iconst (v := 1) hx hb dX12_sleeper_23 (by decide) ?_
      obtain ⟨r_24, v_trouble_24, v_where_24, hc_24, hf⟩ := bd3 hf
      refine r_callVi (ws' := (wX12_sleeper E h h_inn h_tape h_far h_from h_real h_other h_kept h_set h_w h_book h_noteSort h_whose h_what h_noteIs h_fitting h_dawn h_likes h_walked h_came h_inn_creak h_inn_doorA h_inn_doorB h_inn_how h_inn_lies h_inn_isCold h_inn_falls h_inn_isFull h_inn_isTold h_inn_act h_inn_what h_inn_then h_inn_met h_inn_bed h_inn_dream h_inn_listens h_inn_name h_inn_nameSort h_inn_nameNumber 0 v_trouble_24 v_where_24 v_read v_taped v_size v_at v_sort v_place v_sign v_number v_fault v_wrongAt v_word v_marks v_notes v_inn_minutes v_inn_rooms v_inn_doors v_inn_things v_inn_dreams v_inn_sleepers v_inn_listeners v_inn_names v_w)) (As := [.int 1]) (rest := []) C (ctX12_refused l E h h_tape h_far h_from h_real h_other h_kept h_set h_w h_book h_noteSort h_whose h_what h_noteIs h_fitting h_dawn h_likes h_walked h_came 0 v_trouble v_where (some h_inn) v_read v_taped v_size v_at v_sort v_place v_sign v_number v_fault v_wrongAt v_word v_marks v_notes N 1 r_24 v_trouble_24 v_where_24 hc_24) ml_X12_77 ⟨Nat.le_of_ble_eq_true rfl, Nat.le_of_ble_eq_true rfl⟩ hP hD hS 0 rfl rfl rfl [0] rfl rfl rfl rfl rfl hl.1 rfl (Nat.le_of_ble_eq_true rfl) ⟨Nat.zero_le _, Nat.zero_le _⟩ dX12_sleeper_24 ?_
      clear hP hD hS; intro H locs hP hD hS
      cases hf
      rw [hQ]
      exact r_iret C hr hP hD hS rfl dX12_sleeper_27
def wX12_sleeper0 (E : EN) (h h_tape h_far h_from h_real h_other h_kept h_set h_w h_book h_noteSort h_whose h_what h_noteIs h_fitting h_dawn h_likes h_walked h_came : Nat) (v_thrown : Int32) (v_trouble : Int32) (v_where : Int32) (v_read : Option Nat) (v_taped : Int32) (v_size : Int32) (v_at : Int32) (v_sort : Int32) (v_place : Int32) (v_sign : Int32) (v_number : Int32) (v_fault : Int32) (v_wrongAt : Int32) (v_word : Int64) (v_marks : Int32) (v_notes : Int32) (v_w : Nat → Int32) : va_W := [(h, .inr (11, [.int v_thrown, .int v_trouble, .int v_where, .null, va_rf v_read, .ref h_tape, .int v_taped, .int v_size, .int v_at, .int v_sort, .int v_place, .int v_sign, .int v_number, .int v_fault, .int v_wrongAt, .long v_word, .ref h_far, .ref h_from, .ref h_real, .ref h_other, .ref h_kept, .ref h_set, .ref h_w, .int v_marks, .int v_notes, .ref h_book, .ref h_noteSort, .ref h_whose, .ref h_what, .ref h_noteIs, .ref h_fitting, .ref h_dawn, .ref h_likes, .ref h_walked, .ref h_came])), (h_w, aI E 51 v_w)]
def fX12_sleeper0 (N : Nat) (p0 : Int32) (p1 : Int32) (v_w : Nat → Int32) : Option (Int32 × Int32 × Int32 × Int32) := (fX12_isSleeper0 N).bind (un1 fun (r_7 : Int32) => if r_7 = 0 then ((fX12_refused N 1).bind (un3 fun (r_24 : Int32) (v_trouble_24 : Int32) (v_where_24 : Int32) => some (r_24, 0, v_trouble_24, v_where_24))) else ((fX12_in N p1 0 4).bind (un1 fun (r_16 : Int32) => if r_16 = 0 then ((fX12_refused N 1).bind (un3 fun (r_24 : Int32) (v_trouble_24 : Int32) (v_where_24 : Int32) => some (r_24, 0, v_trouble_24, v_where_24))) else (jn (un1 fun (x72_s2 : Int32) => gd (x72_s2 + p0) 51 ((fX12_good N (v_w (x72_s2 + p0).toNatClampNeg)).bind (un3 fun (r_75 : Int32) (v_trouble_75 : Int32) (v_where_75 : Int32) => some (r_75, 0, v_trouble_75, v_where_75)))) (fun j72 => if p1 = 0 then (j72 0) else (if p1 = 1 then (j72 3) else (if p1 = 2 then (j72 6) else (if p1 = 3 then (j72 9) else (j72 12)))))))))
set_option maxHeartbeats 4000000 in
set_option maxRecDepth 100000 in
theorem ctX12_sleeper0 (l : Launch) (E : EN) (h h_tape h_far h_from h_real h_other h_kept h_set h_w h_book h_noteSort h_whose h_what h_noteIs h_fitting h_dawn h_likes h_walked h_came : Nat) (v_thrown : Int32) (v_trouble : Int32) (v_where : Int32) (v_read : Option Nat) (v_taped : Int32) (v_size : Int32) (v_at : Int32) (v_sort : Int32) (v_place : Int32) (v_sign : Int32) (v_number : Int32) (v_fault : Int32) (v_wrongAt : Int32) (v_word : Int64) (v_marks : Int32) (v_notes : Int32) (v_w : Nat → Int32) (N : Nat) (p0 : Int32) (p1 : Int32) (z0 : Int32) (z1 : Int32) (z2 : Int32) (z3 : Int32) (hf : fX12_sleeper0 N p0 p1 v_w = some (z0, z1, z2, z3)) : CTi l E yX12_sleeper cX12_sleeper 3 .int 1 22 [.ref h, .int p0, .int p1] (wX12_sleeper0 E h h_tape h_far h_from h_real h_other h_kept h_set h_w h_book h_noteSort h_whose h_what h_noteIs h_fitting h_dawn h_likes h_walked h_came v_thrown v_trouble v_where v_read v_taped v_size v_at v_sort v_place v_sign v_number v_fault v_wrongAt v_word v_marks v_notes v_w) z0 (wX12_sleeper0 E h h_tape h_far h_from h_real h_other h_kept h_set h_w h_book h_noteSort h_whose h_what h_noteIs h_fitting h_dawn h_likes h_walked h_came z1 z2 z3 v_read v_taped v_size v_at v_sort v_place v_sign v_number v_fault v_wrongAt v_word v_marks v_notes v_w) := by
  intro sz
  refine ct_body (by decide) (Nat.le_of_ble_eq_true rfl) ?_
  intro p e s m args below meth c A ls hAe C hr hin hP hD hS hl
  have C : CX p s m args meth c cX12_sleeper RX12 3 E A := C
  have hl : lv_has ls 3 [(0, .ref h), (1, .int p0), (2, .int p1)] := hl
  have hx := C.1
  have hb := C.2.1
  rw [hAe]
  clear hAe
  obtain ⟨Q, hQ⟩ : ∃ Q, Q = MQ below (Qi E A z0 (wX12_sleeper0 E h h_tape h_far h_from h_real h_other h_kept h_set h_w h_book h_noteSort h_whose h_what h_noteIs h_fitting h_dawn h_likes h_walked h_came z1 z2 z3 v_read v_taped v_size v_at v_sort v_place v_sign v_number v_fault v_wrongAt v_word v_marks v_notes v_w)) args s 0 0 A := ⟨_, rfl⟩
  rw [← hQ]
  unfold fX12_sleeper0 at hf
  refine lv_aload_n hx hb dX12_sleeper_0 rfl (lv_at hl 0 rfl) ?_
  refine lv_iconst (v := 0) hx hb dX12_sleeper_1 (by decide) ?_
  refine r_put (ws' := (wX12_sleeper0 E h h_tape h_far h_from h_real h_other h_kept h_set h_w h_book h_noteSort h_whose h_what h_noteIs h_fitting h_dawn h_likes h_walked h_came 0 v_trouble v_where v_read v_taped v_size v_at v_sort v_place v_sign v_number v_fault v_wrongAt v_word v_marks v_notes v_w)) C hP hD hS 0 rfl fl_X12_71 rfl rfl (by decide) rfl dX12_sleeper_2 ?_
  clear hP hD hS; intro H locs hP hD hS
  refine lv_aload_n hx hb dX12_sleeper_5 rfl (lv_at hl 0 rfl) ?_
  refine lv_iload_n hx hb dX12_sleeper_6 rfl (lv_at hl 1 rfl) ?_
  obtain ⟨r_7, hc_7, hf⟩ := bd1 hf
  refine r_callVi (ws' := (wX12_sleeper0 E h h_tape h_far h_from h_real h_other h_kept h_set h_w h_book h_noteSort h_whose h_what h_noteIs h_fitting h_dawn h_likes h_walked h_came 0 v_trouble v_where v_read v_taped v_size v_at v_sort v_place v_sign v_number v_fault v_wrongAt v_word v_marks v_notes v_w)) (As := [.int p0]) (rest := []) C (ctX12_isSleeper0 l E h h_tape h_far h_from h_real h_other h_kept h_set h_w h_book h_noteSort h_whose h_what h_noteIs h_fitting h_dawn h_likes h_walked h_came 0 v_trouble v_where v_read v_taped v_size v_at v_sort v_place v_sign v_number v_fault v_wrongAt v_word v_marks v_notes N p0 r_7 hc_7) ml_X12_421 ⟨Nat.le_of_ble_eq_true rfl, Nat.le_of_ble_eq_true rfl⟩ hP hD hS 0 rfl rfl rfl [0] rfl rfl rfl rfl rfl hl.1 rfl (Nat.le_of_ble_eq_true rfl) ⟨Nat.zero_le _, Nat.zero_le _⟩ dX12_sleeper_7 ?_
  clear hP hD hS; intro H locs hP hD hS
  refine lv_if_eq (tgt := 22) hx hb dX12_sleeper_10 (by decide) (fun c_10 => ?_) (fun c_10 => ?_)
  · replace hf := it_t c_10 hf
    refine lv_aload_n hx hb dX12_sleeper_22 rfl (lv_at hl 0 rfl) ?_
    refine lv_iconst (v := 1) hx hb dX12_sleeper_23 (by decide) ?_
    obtain ⟨r_24, v_trouble_24, v_where_24, hc_24, hf⟩ := bd3 hf
    refine r_callVi (ws' := (wX12_sleeper0 E h h_tape h_far h_from h_real h_other h_kept h_set h_w h_book h_noteSort h_whose h_what h_noteIs h_fitting h_dawn h_likes h_walked h_came 0 v_trouble_24 v_where_24 v_read v_taped v_size v_at v_sort v_place v_sign v_number v_fault v_wrongAt v_word v_marks v_notes v_w)) (As := [.int 1]) (rest := []) C (ctX12_refused l E h h_tape h_far h_from h_real h_other h_kept h_set h_w h_book h_noteSort h_whose h_what h_noteIs h_fitting h_dawn h_likes h_walked h_came 0 v_trouble v_where none v_read v_taped v_size v_at v_sort v_place v_sign v_number v_fault v_wrongAt v_word v_marks v_notes N 1 r_24 v_trouble_24 v_where_24 hc_24) ml_X12_77 ⟨Nat.le_of_ble_eq_true rfl, Nat.le_of_ble_eq_true rfl⟩ hP hD hS 0 rfl rfl rfl [0] rfl rfl rfl rfl rfl hl.1 rfl (Nat.le_of_ble_eq_true rfl) ⟨Nat.zero_le _, Nat.zero_le _⟩ dX12_sleeper_24 ?_
    clear hP hD hS; intro H locs hP hD hS
    cases hf
    rw [hQ]
    exact r_iret C hr hP hD hS rfl dX12_sleeper_27
  · replace hf := it_f c_10 hf
    refine lv_iload_n hx hb dX12_sleeper_13 rfl (lv_at hl 2 rfl) ?_
    refine lv_iconst (v := 0) hx hb dX12_sleeper_14 (by decide) ?_
    refine lv_iconst (v := 4) hx hb dX12_sleeper_15 (by decide) ?_
    obtain ⟨r_16, hc_16, hf⟩ := bd1 hf
    refine r_callSi (ws' := (wX12_sleeper0 E h h_tape h_far h_from h_real h_other h_kept h_set h_w h_book h_noteSort h_whose h_what h_noteIs h_fitting h_dawn h_likes h_walked h_came 0 v_trouble v_where v_read v_taped v_size v_at v_sort v_place v_sign v_number v_fault v_wrongAt v_word v_marks v_notes v_w)) (As := [.int p1, .int 0, .int 4]) (rest := []) C (ctX12_in l E N p1 0 4 r_16 hc_16) ml_X12_149 ⟨Nat.le_of_ble_eq_true rfl, Nat.le_of_ble_eq_true rfl⟩ hP hD hS [] rfl rfl rfl rfl rfl hl.1 rfl (Nat.le_of_ble_eq_true rfl) ⟨Nat.zero_le _, Nat.zero_le _⟩ dX12_sleeper_16 ?_
    clear hP hD hS; intro H locs hP hD hS
    refine lv_if_ne (tgt := 28) hx hb dX12_sleeper_19 (by decide) (fun c_19 => ?_) (fun c_19 => ?_)
    · replace hf := it_f c_19 hf
      refine lv_aload_n hx hb dX12_sleeper_28 rfl (lv_at hl 0 rfl) ?_
      refine lv_aload_n hx hb dX12_sleeper_29 rfl (lv_at hl 0 rfl) ?_
      refine r_get C hP 0 rfl fl_X12_36 rfl dX12_sleeper_30 ?_
      refine lv_iload_n hx hb dX12_sleeper_33 rfl (lv_at hl 2 rfl) ?_
      refine jnK hf (fun j72 ej72 hf => ?_)
      have hj72 : ∀ (x72_s2 : Int32) , j72 x72_s2 = some (z0, z1, z2, z3) → AT p l e (rmOf 1 22) s m args below meth c E A Q 0 0 3 [(1, .int p0)] (wX12_sleeper0 E h h_tape h_far h_from h_real h_other h_kept h_set h_w h_book h_noteSort h_whose h_what h_noteIs h_fitting h_dawn h_likes h_walked h_came 0 v_trouble v_where v_read v_taped v_size v_at v_sort v_place v_sign v_number v_fault v_wrongAt v_word v_marks v_notes v_w) 72 [.int x72_s2, .ref h_w, .ref h] := by
        intro x72_s2 hf H locs ls hl hP hD hS
        rw [ej72] at hf
        replace hf := un1_s hf
        refine lv_iload_n hx hb dX12_sleeper_72 rfl (lv_at hl 0 rfl) ?_
        refine lv_iadd hx hb dX12_sleeper_73 ?_
        obtain ⟨hi_74, hf⟩ := gd_s hf
        refine r_iald C hP 1 rfl hi_74 dX12_sleeper_74 ?_
        obtain ⟨r_75, v_trouble_75, v_where_75, hc_75, hf⟩ := bd3 hf
        refine r_callVi (ws' := (wX12_sleeper0 E h h_tape h_far h_from h_real h_other h_kept h_set h_w h_book h_noteSort h_whose h_what h_noteIs h_fitting h_dawn h_likes h_walked h_came 0 v_trouble_75 v_where_75 v_read v_taped v_size v_at v_sort v_place v_sign v_number v_fault v_wrongAt v_word v_marks v_notes v_w)) (As := [.int (v_w (x72_s2 + p0).toNatClampNeg)]) (rest := []) C (ctX12_good l E h h_tape h_far h_from h_real h_other h_kept h_set h_w h_book h_noteSort h_whose h_what h_noteIs h_fitting h_dawn h_likes h_walked h_came 0 v_trouble v_where none v_read v_taped v_size v_at v_sort v_place v_sign v_number v_fault v_wrongAt v_word v_marks v_notes N (v_w (x72_s2 + p0).toNatClampNeg) r_75 v_trouble_75 v_where_75 hc_75) ml_X12_81 ⟨Nat.le_of_ble_eq_true rfl, Nat.le_of_ble_eq_true rfl⟩ hP hD hS 0 rfl rfl rfl [0] rfl rfl rfl rfl rfl hl.1 rfl (Nat.le_of_ble_eq_true rfl) ⟨Nat.zero_le _, Nat.zero_le _⟩ dX12_sleeper_75 ?_
        clear hP hD hS; intro H locs hP hD hS
        cases hf
        rw [hQ]
        exact r_iret C hr hP hD hS rfl dX12_sleeper_78
      clear ej72
      refine lv_if_ne (tgt := 41) hx hb dX12_sleeper_34 (by decide) (fun c_34 => ?_) (fun c_34 => ?_)
      · replace hf := it_f c_34 hf
        refine lv_iload_n hx hb dX12_sleeper_41 rfl (lv_at hl 2 rfl) ?_
        refine lv_iconst (v := 1) hx hb dX12_sleeper_42 (by decide) ?_
        refine lv_icmp_ne (tgt := 50) hx hb dX12_sleeper_43 (by decide) (fun c_43 => ?_) (fun c_43 => ?_)
        · replace hf := it_f c_43 hf
          refine lv_iload_n hx hb dX12_sleeper_50 rfl (lv_at hl 2 rfl) ?_
          refine lv_iconst (v := 2) hx hb dX12_sleeper_51 (by decide) ?_
          refine lv_icmp_ne (tgt := 60) hx hb dX12_sleeper_52 (by decide) (fun c_52 => ?_) (fun c_52 => ?_)
          · replace hf := it_f c_52 hf
            refine lv_iload_n hx hb dX12_sleeper_60 rfl (lv_at hl 2 rfl) ?_
            refine lv_iconst (v := 3) hx hb dX12_sleeper_61 (by decide) ?_
            refine lv_icmp_ne (tgt := 70) hx hb dX12_sleeper_62 (by decide) (fun c_62 => ?_) (fun c_62 => ?_)
            · replace hf := it_f c_62 hf
              refine lv_bipush (v := 12) hx hb dX12_sleeper_70 (by decide) ?_
              exact hj72 12 hf _ _ _ (lv_sub hl [1] rfl) hP hD hS
            · replace hf := it_t c_62 hf
              refine lv_bipush (v := 9) hx hb dX12_sleeper_65 (by decide) ?_
              refine lv_goto (tgt := 72) hx hb dX12_sleeper_67 (by decide) ?_
              exact hj72 9 hf _ _ _ (lv_sub hl [1] rfl) hP hD hS
          · replace hf := it_t c_52 hf
            refine lv_bipush (v := 6) hx hb dX12_sleeper_55 (by decide) ?_
            refine lv_goto (tgt := 72) hx hb dX12_sleeper_57 (by decide) ?_
            exact hj72 6 hf _ _ _ (lv_sub hl [1] rfl) hP hD hS
        · replace hf := it_t c_43 hf
          refine lv_iconst (v := 3) hx hb dX12_sleeper_46 (by decide) ?_
          refine lv_goto (tgt := 72) hx hb dX12_sleeper_47 (by decide) ?_
          exact hj72 3 hf _ _ _ (lv_sub hl [1] rfl) hP hD hS
      · replace hf := it_t c_34 hf
        refine lv_iconst (v := 0) hx hb dX12_sleeper_37 (by decide) ?_
        refine lv_goto (tgt := 72) hx hb dX12_sleeper_38 (by decide) ?_
        exact hj72 0 hf _ _ _ (lv_sub hl [1] rfl) hP hD hS
    · replace hf := it_t c_19 hf
      refine lv_aload_n hx hb dX12_sleeper_22 rfl (lv_at hl 0 rfl) ?_
      refine lv_iconst (v := 1) hx hb dX12_sleeper_23 (by decide) ?_
      obtain ⟨r_24, v_trouble_24, v_where_24, hc_24, hf⟩ := bd3 hf
      refine r_callVi (ws' := (wX12_sleeper0 E h h_tape h_far h_from h_real h_other h_kept h_set h_w h_book h_noteSort h_whose h_what h_noteIs h_fitting h_dawn h_likes h_walked h_came 0 v_trouble_24 v_where_24 v_read v_taped v_size v_at v_sort v_place v_sign v_number v_fault v_wrongAt v_word v_marks v_notes v_w)) (As := [.int 1]) (rest := []) C (ctX12_refused l E h h_tape h_far h_from h_real h_other h_kept h_set h_w h_book h_noteSort h_whose h_what h_noteIs h_fitting h_dawn h_likes h_walked h_came 0 v_trouble v_where none v_read v_taped v_size v_at v_sort v_place v_sign v_number v_fault v_wrongAt v_word v_marks v_notes N 1 r_24 v_trouble_24 v_where_24 hc_24) ml_X12_77 ⟨Nat.le_of_ble_eq_true rfl, Nat.le_of_ble_eq_true rfl⟩ hP hD hS 0 rfl rfl rfl [0] rfl rfl rfl rfl rfl hl.1 rfl (Nat.le_of_ble_eq_true rfl) ⟨Nat.zero_le _, Nat.zero_le _⟩ dX12_sleeper_24 ?_
      clear hP hD hS; intro H locs hP hD hS
      cases hf
      rw [hQ]
      exact r_iret C hr hP hD hS rfl dX12_sleeper_27
def wX12_isThing (E : EN) (h h_inn h_tape h_far h_from h_real h_other h_kept h_set h_w h_book h_noteSort h_whose h_what h_noteIs h_fitting h_dawn h_likes h_walked h_came h_inn_creak h_inn_doorA h_inn_doorB h_inn_how h_inn_lies h_inn_isCold h_inn_falls h_inn_isFull h_inn_isTold h_inn_act h_inn_what h_inn_then h_inn_met h_inn_bed h_inn_dream h_inn_listens h_inn_name h_inn_nameSort h_inn_nameNumber : Nat) (v_thrown : Int32) (v_trouble : Int32) (v_where : Int32) (v_read : Option Nat) (v_taped : Int32) (v_size : Int32) (v_at : Int32) (v_sort : Int32) (v_place : Int32) (v_sign : Int32) (v_number : Int32) (v_fault : Int32) (v_wrongAt : Int32) (v_word : Int64) (v_marks : Int32) (v_notes : Int32) (v_inn_minutes : Int32) (v_inn_rooms : Int32) (v_inn_doors : Int32) (v_inn_things : Int32) (v_inn_dreams : Int32) (v_inn_sleepers : Int32) (v_inn_listeners : Int32) (v_inn_names : Int32) : va_W := [(h, .inr (11, [.int v_thrown, .int v_trouble, .int v_where, .ref h_inn, va_rf v_read, .ref h_tape, .int v_taped, .int v_size, .int v_at, .int v_sort, .int v_place, .int v_sign, .int v_number, .int v_fault, .int v_wrongAt, .long v_word, .ref h_far, .ref h_from, .ref h_real, .ref h_other, .ref h_kept, .ref h_set, .ref h_w, .int v_marks, .int v_notes, .ref h_book, .ref h_noteSort, .ref h_whose, .ref h_what, .ref h_noteIs, .ref h_fitting, .ref h_dawn, .ref h_likes, .ref h_walked, .ref h_came])), (h_inn, .inr (10, [.int v_inn_minutes, .int v_inn_rooms, .int v_inn_doors, .int v_inn_things, .int v_inn_dreams, .int v_inn_sleepers, .int v_inn_listeners, .int v_inn_names, .ref h_inn_creak, .ref h_inn_doorA, .ref h_inn_doorB, .ref h_inn_how, .ref h_inn_lies, .ref h_inn_isCold, .ref h_inn_falls, .ref h_inn_isFull, .ref h_inn_isTold, .ref h_inn_act, .ref h_inn_what, .ref h_inn_then, .ref h_inn_met, .ref h_inn_bed, .ref h_inn_dream, .ref h_inn_listens, .ref h_inn_name, .ref h_inn_nameSort, .ref h_inn_nameNumber]))]
def fX12_isThing (N : Nat) (p0 : Int32) (v_inn_things : Int32) : Option Int32 := jn (un0 (some 0)) (fun j26 => if p0 < 0 then (j26 ()) else (if v_inn_things ≤ p0 then (j26 ()) else (some 1)))
set_option maxHeartbeats 4000000 in
set_option maxRecDepth 100000 in
theorem ctX12_isThing (l : Launch) (E : EN) (h h_inn h_tape h_far h_from h_real h_other h_kept h_set h_w h_book h_noteSort h_whose h_what h_noteIs h_fitting h_dawn h_likes h_walked h_came h_inn_creak h_inn_doorA h_inn_doorB h_inn_how h_inn_lies h_inn_isCold h_inn_falls h_inn_isFull h_inn_isTold h_inn_act h_inn_what h_inn_then h_inn_met h_inn_bed h_inn_dream h_inn_listens h_inn_name h_inn_nameSort h_inn_nameNumber : Nat) (v_thrown : Int32) (v_trouble : Int32) (v_where : Int32) (v_read : Option Nat) (v_taped : Int32) (v_size : Int32) (v_at : Int32) (v_sort : Int32) (v_place : Int32) (v_sign : Int32) (v_number : Int32) (v_fault : Int32) (v_wrongAt : Int32) (v_word : Int64) (v_marks : Int32) (v_notes : Int32) (v_inn_minutes : Int32) (v_inn_rooms : Int32) (v_inn_doors : Int32) (v_inn_things : Int32) (v_inn_dreams : Int32) (v_inn_sleepers : Int32) (v_inn_listeners : Int32) (v_inn_names : Int32) (N : Nat) (p0 : Int32) (z0 : Int32) (hf : fX12_isThing N p0 v_inn_things = some z0) : CTi l E yX12_isThing cX12_isThing 2 .boolean 0 0 [.ref h, .int p0] (wX12_isThing E h h_inn h_tape h_far h_from h_real h_other h_kept h_set h_w h_book h_noteSort h_whose h_what h_noteIs h_fitting h_dawn h_likes h_walked h_came h_inn_creak h_inn_doorA h_inn_doorB h_inn_how h_inn_lies h_inn_isCold h_inn_falls h_inn_isFull h_inn_isTold h_inn_act h_inn_what h_inn_then h_inn_met h_inn_bed h_inn_dream h_inn_listens h_inn_name h_inn_nameSort h_inn_nameNumber v_thrown v_trouble v_where v_read v_taped v_size v_at v_sort v_place v_sign v_number v_fault v_wrongAt v_word v_marks v_notes v_inn_minutes v_inn_rooms v_inn_doors v_inn_things v_inn_dreams v_inn_sleepers v_inn_listeners v_inn_names) z0 (wX12_isThing E h h_inn h_tape h_far h_from h_real h_other h_kept h_set h_w h_book h_noteSort h_whose h_what h_noteIs h_fitting h_dawn h_likes h_walked h_came h_inn_creak h_inn_doorA h_inn_doorB h_inn_how h_inn_lies h_inn_isCold h_inn_falls h_inn_isFull h_inn_isTold h_inn_act h_inn_what h_inn_then h_inn_met h_inn_bed h_inn_dream h_inn_listens h_inn_name h_inn_nameSort h_inn_nameNumber v_thrown v_trouble v_where v_read v_taped v_size v_at v_sort v_place v_sign v_number v_fault v_wrongAt v_word v_marks v_notes v_inn_minutes v_inn_rooms v_inn_doors v_inn_things v_inn_dreams v_inn_sleepers v_inn_listeners v_inn_names) := by
  intro sz
  refine ct_body (by decide) (Nat.le_of_ble_eq_true rfl) ?_
  intro p e s m args below meth c A ls hAe C hr hin hP hD hS hl
  have C : CX p s m args meth c cX12_isThing RX12 2 E A := C
  have hl : lv_has ls 2 [(0, .ref h), (1, .int p0)] := hl
  have hx := C.1
  have hb := C.2.1
  rw [hAe]
  clear hAe
  obtain ⟨Q, hQ⟩ : ∃ Q, Q = MQ below (Qi E A z0 (wX12_isThing E h h_inn h_tape h_far h_from h_real h_other h_kept h_set h_w h_book h_noteSort h_whose h_what h_noteIs h_fitting h_dawn h_likes h_walked h_came h_inn_creak h_inn_doorA h_inn_doorB h_inn_how h_inn_lies h_inn_isCold h_inn_falls h_inn_isFull h_inn_isTold h_inn_act h_inn_what h_inn_then h_inn_met h_inn_bed h_inn_dream h_inn_listens h_inn_name h_inn_nameSort h_inn_nameNumber v_thrown v_trouble v_where v_read v_taped v_size v_at v_sort v_place v_sign v_number v_fault v_wrongAt v_word v_marks v_notes v_inn_minutes v_inn_rooms v_inn_doors v_inn_things v_inn_dreams v_inn_sleepers v_inn_listeners v_inn_names)) args s 0 0 A := ⟨_, rfl⟩
  rw [← hQ]
  unfold fX12_isThing at hf
  refine lv_aload_n hx hb dX12_isThing_0 rfl (lv_at hl 0 rfl) ?_
  refine r_get C hP 0 rfl fl_X12_358 rfl dX12_isThing_1 ?_
  refine jnK hf (fun j26 ej26 hf => ?_)
  have hj26 : j26 () = some z0 → AT p l e (rmOf 0 0) s m args below meth c E A Q 0 0 2 [] (wX12_isThing E h h_inn h_tape h_far h_from h_real h_other h_kept h_set h_w h_book h_noteSort h_whose h_what h_noteIs h_fitting h_dawn h_likes h_walked h_came h_inn_creak h_inn_doorA h_inn_doorB h_inn_how h_inn_lies h_inn_isCold h_inn_falls h_inn_isFull h_inn_isTold h_inn_act h_inn_what h_inn_then h_inn_met h_inn_bed h_inn_dream h_inn_listens h_inn_name h_inn_nameSort h_inn_nameNumber v_thrown v_trouble v_where v_read v_taped v_size v_at v_sort v_place v_sign v_number v_fault v_wrongAt v_word v_marks v_notes v_inn_minutes v_inn_rooms v_inn_doors v_inn_things v_inn_dreams v_inn_sleepers v_inn_listeners v_inn_names) 26 [] := by
    intro  hf H locs ls hl hP hD hS
    rw [ej26] at hf
    replace hf := un0_s hf
    refine lv_iconst (v := 0) hx hb dX12_isThing_26 (by decide) ?_
    cases hf
    rw [hQ]
    exact r_zret C hr hP hD hS (Or.inl rfl) rfl dX12_isThing_27
  clear ej26
  refine lv_ifnull hx hb dX12_isThing_4 ?_
  refine lv_iload_n hx hb dX12_isThing_7 rfl (lv_at hl 1 rfl) ?_
  refine lv_if_lt (tgt := 26) hx hb dX12_isThing_8 (by decide) (fun c_8 => ?_) (fun c_8 => ?_)
  · replace hf := it_t c_8 hf
    exact hj26  hf _ _ _ (lv_sub hl [] rfl) hP hD hS
  · replace hf := it_f c_8 hf
    refine lv_iload_n hx hb dX12_isThing_11 rfl (lv_at hl 1 rfl) ?_
    refine lv_aload_n hx hb dX12_isThing_12 rfl (lv_at hl 0 rfl) ?_
    refine r_get C hP 0 rfl fl_X12_358 rfl dX12_isThing_13 ?_
    refine r_get C hP 1 rfl fl_X12_315 rfl dX12_isThing_16 ?_
    refine lv_icmp_ge (tgt := 26) hx hb dX12_isThing_19 (by decide) (fun c_19 => ?_) (fun c_19 => ?_)
    · replace hf := it_t c_19 hf
      exact hj26  hf _ _ _ (lv_sub hl [] rfl) hP hD hS
    · replace hf := it_f c_19 hf
      refine lv_iconst (v := 1) hx hb dX12_isThing_22 (by decide) ?_
      refine lv_goto (tgt := 27) hx hb dX12_isThing_23 (by decide) ?_
      cases hf
      rw [hQ]
      exact r_zret C hr hP hD hS (Or.inr rfl) rfl dX12_isThing_27
def wX12_isThing0 (E : EN) (h h_tape h_far h_from h_real h_other h_kept h_set h_w h_book h_noteSort h_whose h_what h_noteIs h_fitting h_dawn h_likes h_walked h_came : Nat) (v_thrown : Int32) (v_trouble : Int32) (v_where : Int32) (v_read : Option Nat) (v_taped : Int32) (v_size : Int32) (v_at : Int32) (v_sort : Int32) (v_place : Int32) (v_sign : Int32) (v_number : Int32) (v_fault : Int32) (v_wrongAt : Int32) (v_word : Int64) (v_marks : Int32) (v_notes : Int32) : va_W := [(h, .inr (11, [.int v_thrown, .int v_trouble, .int v_where, .null, va_rf v_read, .ref h_tape, .int v_taped, .int v_size, .int v_at, .int v_sort, .int v_place, .int v_sign, .int v_number, .int v_fault, .int v_wrongAt, .long v_word, .ref h_far, .ref h_from, .ref h_real, .ref h_other, .ref h_kept, .ref h_set, .ref h_w, .int v_marks, .int v_notes, .ref h_book, .ref h_noteSort, .ref h_whose, .ref h_what, .ref h_noteIs, .ref h_fitting, .ref h_dawn, .ref h_likes, .ref h_walked, .ref h_came]))]
def fX12_isThing0 (N : Nat) : Option Int32 := jn (un0 (some 0)) (fun j26 => j26 ())
set_option maxHeartbeats 4000000 in
set_option maxRecDepth 100000 in
theorem ctX12_isThing0 (l : Launch) (E : EN) (h h_tape h_far h_from h_real h_other h_kept h_set h_w h_book h_noteSort h_whose h_what h_noteIs h_fitting h_dawn h_likes h_walked h_came : Nat) (v_thrown : Int32) (v_trouble : Int32) (v_where : Int32) (v_read : Option Nat) (v_taped : Int32) (v_size : Int32) (v_at : Int32) (v_sort : Int32) (v_place : Int32) (v_sign : Int32) (v_number : Int32) (v_fault : Int32) (v_wrongAt : Int32) (v_word : Int64) (v_marks : Int32) (v_notes : Int32) (N : Nat) (p0 : Int32) (z0 : Int32) (hf : fX12_isThing0 N  = some z0) : CTi l E yX12_isThing cX12_isThing 2 .boolean 0 0 [.ref h, .int p0] (wX12_isThing0 E h h_tape h_far h_from h_real h_other h_kept h_set h_w h_book h_noteSort h_whose h_what h_noteIs h_fitting h_dawn h_likes h_walked h_came v_thrown v_trouble v_where v_read v_taped v_size v_at v_sort v_place v_sign v_number v_fault v_wrongAt v_word v_marks v_notes) z0 (wX12_isThing0 E h h_tape h_far h_from h_real h_other h_kept h_set h_w h_book h_noteSort h_whose h_what h_noteIs h_fitting h_dawn h_likes h_walked h_came v_thrown v_trouble v_where v_read v_taped v_size v_at v_sort v_place v_sign v_number v_fault v_wrongAt v_word v_marks v_notes) := by
  intro sz
  refine ct_body (by decide) (Nat.le_of_ble_eq_true rfl) ?_
  intro p e s m args below meth c A ls hAe C hr hin hP hD hS hl
  have C : CX p s m args meth c cX12_isThing RX12 2 E A := C
  have hl : lv_has ls 2 [(0, .ref h), (1, .int p0)] := hl
  have hx := C.1
  have hb := C.2.1
  rw [hAe]
  clear hAe
  obtain ⟨Q, hQ⟩ : ∃ Q, Q = MQ below (Qi E A z0 (wX12_isThing0 E h h_tape h_far h_from h_real h_other h_kept h_set h_w h_book h_noteSort h_whose h_what h_noteIs h_fitting h_dawn h_likes h_walked h_came v_thrown v_trouble v_where v_read v_taped v_size v_at v_sort v_place v_sign v_number v_fault v_wrongAt v_word v_marks v_notes)) args s 0 0 A := ⟨_, rfl⟩
  rw [← hQ]
  unfold fX12_isThing0 at hf
  refine lv_aload_n hx hb dX12_isThing_0 rfl (lv_at hl 0 rfl) ?_
  refine r_get C hP 0 rfl fl_X12_358 rfl dX12_isThing_1 ?_
  refine jnK hf (fun j26 ej26 hf => ?_)
  have hj26 : j26 () = some z0 → AT p l e (rmOf 0 0) s m args below meth c E A Q 0 0 2 [] (wX12_isThing0 E h h_tape h_far h_from h_real h_other h_kept h_set h_w h_book h_noteSort h_whose h_what h_noteIs h_fitting h_dawn h_likes h_walked h_came v_thrown v_trouble v_where v_read v_taped v_size v_at v_sort v_place v_sign v_number v_fault v_wrongAt v_word v_marks v_notes) 26 [] := by
    intro  hf H locs ls hl hP hD hS
    rw [ej26] at hf
    replace hf := un0_s hf
    refine lv_iconst (v := 0) hx hb dX12_isThing_26 (by decide) ?_
    cases hf
    rw [hQ]
    exact r_zret C hr hP hD hS (Or.inl rfl) rfl dX12_isThing_27
  clear ej26
  refine lv_ifnullN (tgt := 26) hx hb dX12_isThing_4 (by decide) ?_
  exact hj26  hf _ _ _ (lv_sub hl [] rfl) hP hD hS
def wX12_thing (E : EN) (h h_inn h_tape h_far h_from h_real h_other h_kept h_set h_w h_book h_noteSort h_whose h_what h_noteIs h_fitting h_dawn h_likes h_walked h_came h_inn_creak h_inn_doorA h_inn_doorB h_inn_how h_inn_lies h_inn_isCold h_inn_falls h_inn_isFull h_inn_isTold h_inn_act h_inn_what h_inn_then h_inn_met h_inn_bed h_inn_dream h_inn_listens h_inn_name h_inn_nameSort h_inn_nameNumber : Nat) (v_thrown : Int32) (v_trouble : Int32) (v_where : Int32) (v_read : Option Nat) (v_taped : Int32) (v_size : Int32) (v_at : Int32) (v_sort : Int32) (v_place : Int32) (v_sign : Int32) (v_number : Int32) (v_fault : Int32) (v_wrongAt : Int32) (v_word : Int64) (v_marks : Int32) (v_notes : Int32) (v_inn_minutes : Int32) (v_inn_rooms : Int32) (v_inn_doors : Int32) (v_inn_things : Int32) (v_inn_dreams : Int32) (v_inn_sleepers : Int32) (v_inn_listeners : Int32) (v_inn_names : Int32) (v_w : Nat → Int32) : va_W := [(h, .inr (11, [.int v_thrown, .int v_trouble, .int v_where, .ref h_inn, va_rf v_read, .ref h_tape, .int v_taped, .int v_size, .int v_at, .int v_sort, .int v_place, .int v_sign, .int v_number, .int v_fault, .int v_wrongAt, .long v_word, .ref h_far, .ref h_from, .ref h_real, .ref h_other, .ref h_kept, .ref h_set, .ref h_w, .int v_marks, .int v_notes, .ref h_book, .ref h_noteSort, .ref h_whose, .ref h_what, .ref h_noteIs, .ref h_fitting, .ref h_dawn, .ref h_likes, .ref h_walked, .ref h_came])), (h_inn, .inr (10, [.int v_inn_minutes, .int v_inn_rooms, .int v_inn_doors, .int v_inn_things, .int v_inn_dreams, .int v_inn_sleepers, .int v_inn_listeners, .int v_inn_names, .ref h_inn_creak, .ref h_inn_doorA, .ref h_inn_doorB, .ref h_inn_how, .ref h_inn_lies, .ref h_inn_isCold, .ref h_inn_falls, .ref h_inn_isFull, .ref h_inn_isTold, .ref h_inn_act, .ref h_inn_what, .ref h_inn_then, .ref h_inn_met, .ref h_inn_bed, .ref h_inn_dream, .ref h_inn_listens, .ref h_inn_name, .ref h_inn_nameSort, .ref h_inn_nameNumber])), (h_w, aI E 51 v_w)]
def fX12_thing (N : Nat) (p0 : Int32) (p1 : Int32) (v_inn_things : Int32) (v_inn_sleepers : Int32) (v_w : Nat → Int32) : Option (Int32 × Int32 × Int32 × Int32) := (fX12_isThing N p0 v_inn_things).bind (un1 fun (r_7 : Int32) => if r_7 = 0 then ((fX12_refused N 1).bind (un3 fun (r_24 : Int32) (v_trouble_24 : Int32) (v_where_24 : Int32) => some (r_24, 0, v_trouble_24, v_where_24))) else ((fX12_in N p1 0 2).bind (un1 fun (r_16 : Int32) => if r_16 = 0 then ((fX12_refused N 1).bind (un3 fun (r_24 : Int32) (v_trouble_24 : Int32) (v_where_24 : Int32) => some (r_24, 0, v_trouble_24, v_where_24))) else (if p1 = 0 then (gd (15 + p0) 51 ((fX12_good N (v_w (15 + p0).toNatClampNeg)).bind (un3 fun (r_67 : Int32) (v_trouble_67 : Int32) (v_where_67 : Int32) => some (r_67, 0, v_trouble_67, v_where_67)))) else (if p1 = 1 then (gd (19 + p0) 51 ((fX12_good N (v_w (19 + p0).toNatClampNeg)).bind (un3 fun (r_67 : Int32) (v_trouble_67 : Int32) (v_where_67 : Int32) => some (r_67, 0, v_trouble_67, v_where_67)))) else ((fX12_holder N p0 v_inn_sleepers v_w).bind (un1 fun (r_64 : Int32) => (fX12_good N r_64).bind (un3 fun (r_67 : Int32) (v_trouble_67 : Int32) (v_where_67 : Int32) => some (r_67, 0, v_trouble_67, v_where_67)))))))))
set_option maxHeartbeats 4000000 in
set_option maxRecDepth 100000 in
theorem ctX12_thing (l : Launch) (E : EN) (h h_inn h_tape h_far h_from h_real h_other h_kept h_set h_w h_book h_noteSort h_whose h_what h_noteIs h_fitting h_dawn h_likes h_walked h_came h_inn_creak h_inn_doorA h_inn_doorB h_inn_how h_inn_lies h_inn_isCold h_inn_falls h_inn_isFull h_inn_isTold h_inn_act h_inn_what h_inn_then h_inn_met h_inn_bed h_inn_dream h_inn_listens h_inn_name h_inn_nameSort h_inn_nameNumber : Nat) (v_thrown : Int32) (v_trouble : Int32) (v_where : Int32) (v_read : Option Nat) (v_taped : Int32) (v_size : Int32) (v_at : Int32) (v_sort : Int32) (v_place : Int32) (v_sign : Int32) (v_number : Int32) (v_fault : Int32) (v_wrongAt : Int32) (v_word : Int64) (v_marks : Int32) (v_notes : Int32) (v_inn_minutes : Int32) (v_inn_rooms : Int32) (v_inn_doors : Int32) (v_inn_things : Int32) (v_inn_dreams : Int32) (v_inn_sleepers : Int32) (v_inn_listeners : Int32) (v_inn_names : Int32) (v_w : Nat → Int32) (N : Nat) (p0 : Int32) (p1 : Int32) (z0 : Int32) (z1 : Int32) (z2 : Int32) (z3 : Int32) (hf : fX12_thing N p0 p1 v_inn_things v_inn_sleepers v_w = some (z0, z1, z2, z3)) : CTi l E yX12_thing cX12_thing 3 .int 1 22 [.ref h, .int p0, .int p1] (wX12_thing E h h_inn h_tape h_far h_from h_real h_other h_kept h_set h_w h_book h_noteSort h_whose h_what h_noteIs h_fitting h_dawn h_likes h_walked h_came h_inn_creak h_inn_doorA h_inn_doorB h_inn_how h_inn_lies h_inn_isCold h_inn_falls h_inn_isFull h_inn_isTold h_inn_act h_inn_what h_inn_then h_inn_met h_inn_bed h_inn_dream h_inn_listens h_inn_name h_inn_nameSort h_inn_nameNumber v_thrown v_trouble v_where v_read v_taped v_size v_at v_sort v_place v_sign v_number v_fault v_wrongAt v_word v_marks v_notes v_inn_minutes v_inn_rooms v_inn_doors v_inn_things v_inn_dreams v_inn_sleepers v_inn_listeners v_inn_names v_w) z0 (wX12_thing E h h_inn h_tape h_far h_from h_real h_other h_kept h_set h_w h_book h_noteSort h_whose h_what h_noteIs h_fitting h_dawn h_likes h_walked h_came h_inn_creak h_inn_doorA h_inn_doorB h_inn_how h_inn_lies h_inn_isCold h_inn_falls h_inn_isFull h_inn_isTold h_inn_act h_inn_what h_inn_then h_inn_met h_inn_bed h_inn_dream h_inn_listens h_inn_name h_inn_nameSort h_inn_nameNumber z1 z2 z3 v_read v_taped v_size v_at v_sort v_place v_sign v_number v_fault v_wrongAt v_word v_marks v_notes v_inn_minutes v_inn_rooms v_inn_doors v_inn_things v_inn_dreams v_inn_sleepers v_inn_listeners v_inn_names v_w) := by
  intro sz
  refine ct_body (by decide) (Nat.le_of_ble_eq_true rfl) ?_
  intro p e s m args below meth c A ls hAe C hr hin hP hD hS hl
  have C : CX p s m args meth c cX12_thing RX12 3 E A := C
  have hl : lv_has ls 3 [(0, .ref h), (1, .int p0), (2, .int p1)] := hl
  have hx := C.1
  have hb := C.2.1
  rw [hAe]
  clear hAe
  obtain ⟨Q, hQ⟩ : ∃ Q, Q = MQ below (Qi E A z0 (wX12_thing E h h_inn h_tape h_far h_from h_real h_other h_kept h_set h_w h_book h_noteSort h_whose h_what h_noteIs h_fitting h_dawn h_likes h_walked h_came h_inn_creak h_inn_doorA h_inn_doorB h_inn_how h_inn_lies h_inn_isCold h_inn_falls h_inn_isFull h_inn_isTold h_inn_act h_inn_what h_inn_then h_inn_met h_inn_bed h_inn_dream h_inn_listens h_inn_name h_inn_nameSort h_inn_nameNumber z1 z2 z3 v_read v_taped v_size v_at v_sort v_place v_sign v_number v_fault v_wrongAt v_word v_marks v_notes v_inn_minutes v_inn_rooms v_inn_doors v_inn_things v_inn_dreams v_inn_sleepers v_inn_listeners v_inn_names v_w)) args s 0 0 A := ⟨_, rfl⟩
  rw [← hQ]
  unfold fX12_thing at hf
  refine lv_aload_n hx hb dX12_thing_0 rfl (lv_at hl 0 rfl) ?_
  refine lv_iconst (v := 0) hx hb dX12_thing_1 (by decide) ?_
  refine r_put (ws' := (wX12_thing E h h_inn h_tape h_far h_from h_real h_other h_kept h_set h_w h_book h_noteSort h_whose h_what h_noteIs h_fitting h_dawn h_likes h_walked h_came h_inn_creak h_inn_doorA h_inn_doorB h_inn_how h_inn_lies h_inn_isCold h_inn_falls h_inn_isFull h_inn_isTold h_inn_act h_inn_what h_inn_then h_inn_met h_inn_bed h_inn_dream h_inn_listens h_inn_name h_inn_nameSort h_inn_nameNumber 0 v_trouble v_where v_read v_taped v_size v_at v_sort v_place v_sign v_number v_fault v_wrongAt v_word v_marks v_notes v_inn_minutes v_inn_rooms v_inn_doors v_inn_things v_inn_dreams v_inn_sleepers v_inn_listeners v_inn_names v_w)) C hP hD hS 0 rfl fl_X12_71 rfl rfl (by decide) rfl dX12_thing_2 ?_
  clear hP hD hS; intro H locs hP hD hS
  refine lv_aload_n hx hb dX12_thing_5 rfl (lv_at hl 0 rfl) ?_
  refine lv_iload_n hx hb dX12_thing_6 rfl (lv_at hl 1 rfl) ?_
  obtain ⟨r_7, hc_7, hf⟩ := bd1 hf
  refine r_callVi (ws' := (wX12_thing E h h_inn h_tape h_far h_from h_real h_other h_kept h_set h_w h_book h_noteSort h_whose h_what h_noteIs h_fitting h_dawn h_likes h_walked h_came h_inn_creak h_inn_doorA h_inn_doorB h_inn_how h_inn_lies h_inn_isCold h_inn_falls h_inn_isFull h_inn_isTold h_inn_act h_inn_what h_inn_then h_inn_met h_inn_bed h_inn_dream h_inn_listens h_inn_name h_inn_nameSort h_inn_nameNumber 0 v_trouble v_where v_read v_taped v_size v_at v_sort v_place v_sign v_number v_fault v_wrongAt v_word v_marks v_notes v_inn_minutes v_inn_rooms v_inn_doors v_inn_things v_inn_dreams v_inn_sleepers v_inn_listeners v_inn_names v_w)) (As := [.int p0]) (rest := []) C (ctX12_isThing l E h h_inn h_tape h_far h_from h_real h_other h_kept h_set h_w h_book h_noteSort h_whose h_what h_noteIs h_fitting h_dawn h_likes h_walked h_came h_inn_creak h_inn_doorA h_inn_doorB h_inn_how h_inn_lies h_inn_isCold h_inn_falls h_inn_isFull h_inn_isTold h_inn_act h_inn_what h_inn_then h_inn_met h_inn_bed h_inn_dream h_inn_listens h_inn_name h_inn_nameSort h_inn_nameNumber 0 v_trouble v_where v_read v_taped v_size v_at v_sort v_place v_sign v_number v_fault v_wrongAt v_word v_marks v_notes v_inn_minutes v_inn_rooms v_inn_doors v_inn_things v_inn_dreams v_inn_sleepers v_inn_listeners v_inn_names N p0 r_7 hc_7) ml_X12_430 ⟨Nat.le_of_ble_eq_true rfl, Nat.le_of_ble_eq_true rfl⟩ hP hD hS 0 rfl rfl rfl [0, 1] rfl rfl rfl rfl rfl hl.1 rfl (Nat.le_of_ble_eq_true rfl) ⟨Nat.zero_le _, Nat.zero_le _⟩ dX12_thing_7 ?_
  clear hP hD hS; intro H locs hP hD hS
  refine lv_if_eq (tgt := 22) hx hb dX12_thing_10 (by decide) (fun c_10 => ?_) (fun c_10 => ?_)
  · replace hf := it_t c_10 hf
    refine lv_aload_n hx hb dX12_thing_22 rfl (lv_at hl 0 rfl) ?_
    refine lv_iconst (v := 1) hx hb dX12_thing_23 (by decide) ?_
    obtain ⟨r_24, v_trouble_24, v_where_24, hc_24, hf⟩ := bd3 hf
    refine r_callVi (ws' := (wX12_thing E h h_inn h_tape h_far h_from h_real h_other h_kept h_set h_w h_book h_noteSort h_whose h_what h_noteIs h_fitting h_dawn h_likes h_walked h_came h_inn_creak h_inn_doorA h_inn_doorB h_inn_how h_inn_lies h_inn_isCold h_inn_falls h_inn_isFull h_inn_isTold h_inn_act h_inn_what h_inn_then h_inn_met h_inn_bed h_inn_dream h_inn_listens h_inn_name h_inn_nameSort h_inn_nameNumber 0 v_trouble_24 v_where_24 v_read v_taped v_size v_at v_sort v_place v_sign v_number v_fault v_wrongAt v_word v_marks v_notes v_inn_minutes v_inn_rooms v_inn_doors v_inn_things v_inn_dreams v_inn_sleepers v_inn_listeners v_inn_names v_w)) (As := [.int 1]) (rest := []) C (ctX12_refused l E h h_tape h_far h_from h_real h_other h_kept h_set h_w h_book h_noteSort h_whose h_what h_noteIs h_fitting h_dawn h_likes h_walked h_came 0 v_trouble v_where (some h_inn) v_read v_taped v_size v_at v_sort v_place v_sign v_number v_fault v_wrongAt v_word v_marks v_notes N 1 r_24 v_trouble_24 v_where_24 hc_24) ml_X12_77 ⟨Nat.le_of_ble_eq_true rfl, Nat.le_of_ble_eq_true rfl⟩ hP hD hS 0 rfl rfl rfl [0] rfl rfl rfl rfl rfl hl.1 rfl (Nat.le_of_ble_eq_true rfl) ⟨Nat.zero_le _, Nat.zero_le _⟩ dX12_thing_24 ?_
    clear hP hD hS; intro H locs hP hD hS
    cases hf
    rw [hQ]
    exact r_iret C hr hP hD hS rfl dX12_thing_27
  · replace hf := it_f c_10 hf
    refine lv_iload_n hx hb dX12_thing_13 rfl (lv_at hl 2 rfl) ?_
    refine lv_iconst (v := 0) hx hb dX12_thing_14 (by decide) ?_
    refine lv_iconst (v := 2) hx hb dX12_thing_15 (by decide) ?_
    obtain ⟨r_16, hc_16, hf⟩ := bd1 hf
    refine r_callSi (ws' := (wX12_thing E h h_inn h_tape h_far h_from h_real h_other h_kept h_set h_w h_book h_noteSort h_whose h_what h_noteIs h_fitting h_dawn h_likes h_walked h_came h_inn_creak h_inn_doorA h_inn_doorB h_inn_how h_inn_lies h_inn_isCold h_inn_falls h_inn_isFull h_inn_isTold h_inn_act h_inn_what h_inn_then h_inn_met h_inn_bed h_inn_dream h_inn_listens h_inn_name h_inn_nameSort h_inn_nameNumber 0 v_trouble v_where v_read v_taped v_size v_at v_sort v_place v_sign v_number v_fault v_wrongAt v_word v_marks v_notes v_inn_minutes v_inn_rooms v_inn_doors v_inn_things v_inn_dreams v_inn_sleepers v_inn_listeners v_inn_names v_w)) (As := [.int p1, .int 0, .int 2]) (rest := []) C (ctX12_in l E N p1 0 2 r_16 hc_16) ml_X12_149 ⟨Nat.le_of_ble_eq_true rfl, Nat.le_of_ble_eq_true rfl⟩ hP hD hS [] rfl rfl rfl rfl rfl hl.1 rfl (Nat.le_of_ble_eq_true rfl) ⟨Nat.zero_le _, Nat.zero_le _⟩ dX12_thing_16 ?_
    clear hP hD hS; intro H locs hP hD hS
    refine lv_if_ne (tgt := 28) hx hb dX12_thing_19 (by decide) (fun c_19 => ?_) (fun c_19 => ?_)
    · replace hf := it_f c_19 hf
      refine lv_aload_n hx hb dX12_thing_28 rfl (lv_at hl 0 rfl) ?_
      refine lv_iload_n hx hb dX12_thing_29 rfl (lv_at hl 2 rfl) ?_
      refine lv_if_ne (tgt := 45) hx hb dX12_thing_30 (by decide) (fun c_30 => ?_) (fun c_30 => ?_)
      · replace hf := it_f c_30 hf
        refine lv_iload_n hx hb dX12_thing_45 rfl (lv_at hl 2 rfl) ?_
        refine lv_iconst (v := 1) hx hb dX12_thing_46 (by decide) ?_
        refine lv_icmp_ne (tgt := 62) hx hb dX12_thing_47 (by decide) (fun c_47 => ?_) (fun c_47 => ?_)
        · replace hf := it_f c_47 hf
          refine lv_aload_n hx hb dX12_thing_62 rfl (lv_at hl 0 rfl) ?_
          refine lv_iload_n hx hb dX12_thing_63 rfl (lv_at hl 1 rfl) ?_
          obtain ⟨r_64, hc_64, hf⟩ := bd1 hf
          refine r_callVi (ws' := (wX12_thing E h h_inn h_tape h_far h_from h_real h_other h_kept h_set h_w h_book h_noteSort h_whose h_what h_noteIs h_fitting h_dawn h_likes h_walked h_came h_inn_creak h_inn_doorA h_inn_doorB h_inn_how h_inn_lies h_inn_isCold h_inn_falls h_inn_isFull h_inn_isTold h_inn_act h_inn_what h_inn_then h_inn_met h_inn_bed h_inn_dream h_inn_listens h_inn_name h_inn_nameSort h_inn_nameNumber 0 v_trouble v_where v_read v_taped v_size v_at v_sort v_place v_sign v_number v_fault v_wrongAt v_word v_marks v_notes v_inn_minutes v_inn_rooms v_inn_doors v_inn_things v_inn_dreams v_inn_sleepers v_inn_listeners v_inn_names v_w)) (As := [.int p0]) (rest := [.ref h]) C (ctX12_holder l E h h_inn h_tape h_far h_from h_real h_other h_kept h_set h_w h_book h_noteSort h_whose h_what h_noteIs h_fitting h_dawn h_likes h_walked h_came h_inn_creak h_inn_doorA h_inn_doorB h_inn_how h_inn_lies h_inn_isCold h_inn_falls h_inn_isFull h_inn_isTold h_inn_act h_inn_what h_inn_then h_inn_met h_inn_bed h_inn_dream h_inn_listens h_inn_name h_inn_nameSort h_inn_nameNumber 0 v_trouble v_where v_read v_taped v_size v_at v_sort v_place v_sign v_number v_fault v_wrongAt v_word v_marks v_notes v_inn_minutes v_inn_rooms v_inn_doors v_inn_things v_inn_dreams v_inn_sleepers v_inn_listeners v_inn_names v_w N p0 r_64 hc_64) ml_X12_400 ⟨Nat.le_of_ble_eq_true rfl, Nat.le_of_ble_eq_true rfl⟩ hP hD hS 0 rfl rfl rfl [0, 1, 2] rfl rfl rfl rfl rfl hl.1 rfl (Nat.le_of_ble_eq_true rfl) ⟨Nat.zero_le _, Nat.zero_le _⟩ dX12_thing_64 ?_
          clear hP hD hS; intro H locs hP hD hS
          obtain ⟨r_67, v_trouble_67, v_where_67, hc_67, hf⟩ := bd3 hf
          refine r_callVi (ws' := (wX12_thing E h h_inn h_tape h_far h_from h_real h_other h_kept h_set h_w h_book h_noteSort h_whose h_what h_noteIs h_fitting h_dawn h_likes h_walked h_came h_inn_creak h_inn_doorA h_inn_doorB h_inn_how h_inn_lies h_inn_isCold h_inn_falls h_inn_isFull h_inn_isTold h_inn_act h_inn_what h_inn_then h_inn_met h_inn_bed h_inn_dream h_inn_listens h_inn_name h_inn_nameSort h_inn_nameNumber 0 v_trouble_67 v_where_67 v_read v_taped v_size v_at v_sort v_place v_sign v_number v_fault v_wrongAt v_word v_marks v_notes v_inn_minutes v_inn_rooms v_inn_doors v_inn_things v_inn_dreams v_inn_sleepers v_inn_listeners v_inn_names v_w)) (As := [.int r_64]) (rest := []) C (ctX12_good l E h h_tape h_far h_from h_real h_other h_kept h_set h_w h_book h_noteSort h_whose h_what h_noteIs h_fitting h_dawn h_likes h_walked h_came 0 v_trouble v_where (some h_inn) v_read v_taped v_size v_at v_sort v_place v_sign v_number v_fault v_wrongAt v_word v_marks v_notes N r_64 r_67 v_trouble_67 v_where_67 hc_67) ml_X12_81 ⟨Nat.le_of_ble_eq_true rfl, Nat.le_of_ble_eq_true rfl⟩ hP hD hS 0 rfl rfl rfl [0] rfl rfl rfl rfl rfl hl.1 rfl (Nat.le_of_ble_eq_true rfl) ⟨Nat.zero_le _, Nat.zero_le _⟩ dX12_thing_67 ?_
          clear hP hD hS; intro H locs hP hD hS
          cases hf
          rw [hQ]
          exact r_iret C hr hP hD hS rfl dX12_thing_70
        · replace hf := it_t c_47 hf
          refine lv_aload_n hx hb dX12_thing_50 rfl (lv_at hl 0 rfl) ?_
          refine r_get C hP 0 rfl fl_X12_36 rfl dX12_thing_51 ?_
          refine lv_bipush (v := 19) hx hb dX12_thing_54 (by decide) ?_
          refine lv_iload_n hx hb dX12_thing_56 rfl (lv_at hl 1 rfl) ?_
          refine lv_iadd hx hb dX12_thing_57 ?_
          obtain ⟨hi_58, hf⟩ := gd_s hf
          refine r_iald C hP 2 rfl hi_58 dX12_thing_58 ?_
          refine lv_goto (tgt := 67) hx hb dX12_thing_59 (by decide) ?_
          obtain ⟨r_67, v_trouble_67, v_where_67, hc_67, hf⟩ := bd3 hf
          refine r_callVi (ws' := (wX12_thing E h h_inn h_tape h_far h_from h_real h_other h_kept h_set h_w h_book h_noteSort h_whose h_what h_noteIs h_fitting h_dawn h_likes h_walked h_came h_inn_creak h_inn_doorA h_inn_doorB h_inn_how h_inn_lies h_inn_isCold h_inn_falls h_inn_isFull h_inn_isTold h_inn_act h_inn_what h_inn_then h_inn_met h_inn_bed h_inn_dream h_inn_listens h_inn_name h_inn_nameSort h_inn_nameNumber 0 v_trouble_67 v_where_67 v_read v_taped v_size v_at v_sort v_place v_sign v_number v_fault v_wrongAt v_word v_marks v_notes v_inn_minutes v_inn_rooms v_inn_doors v_inn_things v_inn_dreams v_inn_sleepers v_inn_listeners v_inn_names v_w)) (As := [.int (v_w (19 + p0).toNatClampNeg)]) (rest := []) C (ctX12_good l E h h_tape h_far h_from h_real h_other h_kept h_set h_w h_book h_noteSort h_whose h_what h_noteIs h_fitting h_dawn h_likes h_walked h_came 0 v_trouble v_where (some h_inn) v_read v_taped v_size v_at v_sort v_place v_sign v_number v_fault v_wrongAt v_word v_marks v_notes N (v_w (19 + p0).toNatClampNeg) r_67 v_trouble_67 v_where_67 hc_67) ml_X12_81 ⟨Nat.le_of_ble_eq_true rfl, Nat.le_of_ble_eq_true rfl⟩ hP hD hS 0 rfl rfl rfl [0] rfl rfl rfl rfl rfl hl.1 rfl (Nat.le_of_ble_eq_true rfl) ⟨Nat.zero_le _, Nat.zero_le _⟩ dX12_thing_67 ?_
          clear hP hD hS; intro H locs hP hD hS
          cases hf
          rw [hQ]
          exact r_iret C hr hP hD hS rfl dX12_thing_70
      · replace hf := it_t c_30 hf
        refine lv_aload_n hx hb dX12_thing_33 rfl (lv_at hl 0 rfl) ?_
        refine r_get C hP 0 rfl fl_X12_36 rfl dX12_thing_34 ?_
        refine lv_bipush (v := 15) hx hb dX12_thing_37 (by decide) ?_
        refine lv_iload_n hx hb dX12_thing_39 rfl (lv_at hl 1 rfl) ?_
        refine lv_iadd hx hb dX12_thing_40 ?_
        obtain ⟨hi_41, hf⟩ := gd_s hf
        refine r_iald C hP 2 rfl hi_41 dX12_thing_41 ?_
        refine lv_goto (tgt := 67) hx hb dX12_thing_42 (by decide) ?_
        obtain ⟨r_67, v_trouble_67, v_where_67, hc_67, hf⟩ := bd3 hf
        refine r_callVi (ws' := (wX12_thing E h h_inn h_tape h_far h_from h_real h_other h_kept h_set h_w h_book h_noteSort h_whose h_what h_noteIs h_fitting h_dawn h_likes h_walked h_came h_inn_creak h_inn_doorA h_inn_doorB h_inn_how h_inn_lies h_inn_isCold h_inn_falls h_inn_isFull h_inn_isTold h_inn_act h_inn_what h_inn_then h_inn_met h_inn_bed h_inn_dream h_inn_listens h_inn_name h_inn_nameSort h_inn_nameNumber 0 v_trouble_67 v_where_67 v_read v_taped v_size v_at v_sort v_place v_sign v_number v_fault v_wrongAt v_word v_marks v_notes v_inn_minutes v_inn_rooms v_inn_doors v_inn_things v_inn_dreams v_inn_sleepers v_inn_listeners v_inn_names v_w)) (As := [.int (v_w (15 + p0).toNatClampNeg)]) (rest := []) C (ctX12_good l E h h_tape h_far h_from h_real h_other h_kept h_set h_w h_book h_noteSort h_whose h_what h_noteIs h_fitting h_dawn h_likes h_walked h_came 0 v_trouble v_where (some h_inn) v_read v_taped v_size v_at v_sort v_place v_sign v_number v_fault v_wrongAt v_word v_marks v_notes N (v_w (15 + p0).toNatClampNeg) r_67 v_trouble_67 v_where_67 hc_67) ml_X12_81 ⟨Nat.le_of_ble_eq_true rfl, Nat.le_of_ble_eq_true rfl⟩ hP hD hS 0 rfl rfl rfl [0] rfl rfl rfl rfl rfl hl.1 rfl (Nat.le_of_ble_eq_true rfl) ⟨Nat.zero_le _, Nat.zero_le _⟩ dX12_thing_67 ?_
        clear hP hD hS; intro H locs hP hD hS
        cases hf
        rw [hQ]
        exact r_iret C hr hP hD hS rfl dX12_thing_70
    · replace hf := it_t c_19 hf
      refine lv_aload_n hx hb dX12_thing_22 rfl (lv_at hl 0 rfl) ?_
      refine lv_iconst (v := 1) hx hb dX12_thing_23 (by decide) ?_
      obtain ⟨r_24, v_trouble_24, v_where_24, hc_24, hf⟩ := bd3 hf
      refine r_callVi (ws' := (wX12_thing E h h_inn h_tape h_far h_from h_real h_other h_kept h_set h_w h_book h_noteSort h_whose h_what h_noteIs h_fitting h_dawn h_likes h_walked h_came h_inn_creak h_inn_doorA h_inn_doorB h_inn_how h_inn_lies h_inn_isCold h_inn_falls h_inn_isFull h_inn_isTold h_inn_act h_inn_what h_inn_then h_inn_met h_inn_bed h_inn_dream h_inn_listens h_inn_name h_inn_nameSort h_inn_nameNumber 0 v_trouble_24 v_where_24 v_read v_taped v_size v_at v_sort v_place v_sign v_number v_fault v_wrongAt v_word v_marks v_notes v_inn_minutes v_inn_rooms v_inn_doors v_inn_things v_inn_dreams v_inn_sleepers v_inn_listeners v_inn_names v_w)) (As := [.int 1]) (rest := []) C (ctX12_refused l E h h_tape h_far h_from h_real h_other h_kept h_set h_w h_book h_noteSort h_whose h_what h_noteIs h_fitting h_dawn h_likes h_walked h_came 0 v_trouble v_where (some h_inn) v_read v_taped v_size v_at v_sort v_place v_sign v_number v_fault v_wrongAt v_word v_marks v_notes N 1 r_24 v_trouble_24 v_where_24 hc_24) ml_X12_77 ⟨Nat.le_of_ble_eq_true rfl, Nat.le_of_ble_eq_true rfl⟩ hP hD hS 0 rfl rfl rfl [0] rfl rfl rfl rfl rfl hl.1 rfl (Nat.le_of_ble_eq_true rfl) ⟨Nat.zero_le _, Nat.zero_le _⟩ dX12_thing_24 ?_
      clear hP hD hS; intro H locs hP hD hS
      cases hf
      rw [hQ]
      exact r_iret C hr hP hD hS rfl dX12_thing_27
def wX12_isDoor (E : EN) (h h_inn h_tape h_far h_from h_real h_other h_kept h_set h_w h_book h_noteSort h_whose h_what h_noteIs h_fitting h_dawn h_likes h_walked h_came h_inn_creak h_inn_doorA h_inn_doorB h_inn_how h_inn_lies h_inn_isCold h_inn_falls h_inn_isFull h_inn_isTold h_inn_act h_inn_what h_inn_then h_inn_met h_inn_bed h_inn_dream h_inn_listens h_inn_name h_inn_nameSort h_inn_nameNumber : Nat) (v_thrown : Int32) (v_trouble : Int32) (v_where : Int32) (v_read : Option Nat) (v_taped : Int32) (v_size : Int32) (v_at : Int32) (v_sort : Int32) (v_place : Int32) (v_sign : Int32) (v_number : Int32) (v_fault : Int32) (v_wrongAt : Int32) (v_word : Int64) (v_marks : Int32) (v_notes : Int32) (v_inn_minutes : Int32) (v_inn_rooms : Int32) (v_inn_doors : Int32) (v_inn_things : Int32) (v_inn_dreams : Int32) (v_inn_sleepers : Int32) (v_inn_listeners : Int32) (v_inn_names : Int32) : va_W := [(h, .inr (11, [.int v_thrown, .int v_trouble, .int v_where, .ref h_inn, va_rf v_read, .ref h_tape, .int v_taped, .int v_size, .int v_at, .int v_sort, .int v_place, .int v_sign, .int v_number, .int v_fault, .int v_wrongAt, .long v_word, .ref h_far, .ref h_from, .ref h_real, .ref h_other, .ref h_kept, .ref h_set, .ref h_w, .int v_marks, .int v_notes, .ref h_book, .ref h_noteSort, .ref h_whose, .ref h_what, .ref h_noteIs, .ref h_fitting, .ref h_dawn, .ref h_likes, .ref h_walked, .ref h_came])), (h_inn, .inr (10, [.int v_inn_minutes, .int v_inn_rooms, .int v_inn_doors, .int v_inn_things, .int v_inn_dreams, .int v_inn_sleepers, .int v_inn_listeners, .int v_inn_names, .ref h_inn_creak, .ref h_inn_doorA, .ref h_inn_doorB, .ref h_inn_how, .ref h_inn_lies, .ref h_inn_isCold, .ref h_inn_falls, .ref h_inn_isFull, .ref h_inn_isTold, .ref h_inn_act, .ref h_inn_what, .ref h_inn_then, .ref h_inn_met, .ref h_inn_bed, .ref h_inn_dream, .ref h_inn_listens, .ref h_inn_name, .ref h_inn_nameSort, .ref h_inn_nameNumber]))]
def fX12_isDoor (N : Nat) (p0 : Int32) (v_inn_doors : Int32) : Option Int32 := jn (un0 (some 0)) (fun j26 => if p0 < 0 then (j26 ()) else (if v_inn_doors ≤ p0 then (j26 ()) else (some 1)))
set_option maxHeartbeats 4000000 in
set_option maxRecDepth 100000 in
theorem ctX12_isDoor (l : Launch) (E : EN) (h h_inn h_tape h_far h_from h_real h_other h_kept h_set h_w h_book h_noteSort h_whose h_what h_noteIs h_fitting h_dawn h_likes h_walked h_came h_inn_creak h_inn_doorA h_inn_doorB h_inn_how h_inn_lies h_inn_isCold h_inn_falls h_inn_isFull h_inn_isTold h_inn_act h_inn_what h_inn_then h_inn_met h_inn_bed h_inn_dream h_inn_listens h_inn_name h_inn_nameSort h_inn_nameNumber : Nat) (v_thrown : Int32) (v_trouble : Int32) (v_where : Int32) (v_read : Option Nat) (v_taped : Int32) (v_size : Int32) (v_at : Int32) (v_sort : Int32) (v_place : Int32) (v_sign : Int32) (v_number : Int32) (v_fault : Int32) (v_wrongAt : Int32) (v_word : Int64) (v_marks : Int32) (v_notes : Int32) (v_inn_minutes : Int32) (v_inn_rooms : Int32) (v_inn_doors : Int32) (v_inn_things : Int32) (v_inn_dreams : Int32) (v_inn_sleepers : Int32) (v_inn_listeners : Int32) (v_inn_names : Int32) (N : Nat) (p0 : Int32) (z0 : Int32) (hf : fX12_isDoor N p0 v_inn_doors = some z0) : CTi l E yX12_isDoor cX12_isDoor 2 .boolean 0 0 [.ref h, .int p0] (wX12_isDoor E h h_inn h_tape h_far h_from h_real h_other h_kept h_set h_w h_book h_noteSort h_whose h_what h_noteIs h_fitting h_dawn h_likes h_walked h_came h_inn_creak h_inn_doorA h_inn_doorB h_inn_how h_inn_lies h_inn_isCold h_inn_falls h_inn_isFull h_inn_isTold h_inn_act h_inn_what h_inn_then h_inn_met h_inn_bed h_inn_dream h_inn_listens h_inn_name h_inn_nameSort h_inn_nameNumber v_thrown v_trouble v_where v_read v_taped v_size v_at v_sort v_place v_sign v_number v_fault v_wrongAt v_word v_marks v_notes v_inn_minutes v_inn_rooms v_inn_doors v_inn_things v_inn_dreams v_inn_sleepers v_inn_listeners v_inn_names) z0 (wX12_isDoor E h h_inn h_tape h_far h_from h_real h_other h_kept h_set h_w h_book h_noteSort h_whose h_what h_noteIs h_fitting h_dawn h_likes h_walked h_came h_inn_creak h_inn_doorA h_inn_doorB h_inn_how h_inn_lies h_inn_isCold h_inn_falls h_inn_isFull h_inn_isTold h_inn_act h_inn_what h_inn_then h_inn_met h_inn_bed h_inn_dream h_inn_listens h_inn_name h_inn_nameSort h_inn_nameNumber v_thrown v_trouble v_where v_read v_taped v_size v_at v_sort v_place v_sign v_number v_fault v_wrongAt v_word v_marks v_notes v_inn_minutes v_inn_rooms v_inn_doors v_inn_things v_inn_dreams v_inn_sleepers v_inn_listeners v_inn_names) := by
  intro sz
  refine ct_body (by decide) (Nat.le_of_ble_eq_true rfl) ?_
  intro p e s m args below meth c A ls hAe C hr hin hP hD hS hl
  have C : CX p s m args meth c cX12_isDoor RX12 2 E A := C
  have hl : lv_has ls 2 [(0, .ref h), (1, .int p0)] := hl
  have hx := C.1
  have hb := C.2.1
  rw [hAe]
  clear hAe
  obtain ⟨Q, hQ⟩ : ∃ Q, Q = MQ below (Qi E A z0 (wX12_isDoor E h h_inn h_tape h_far h_from h_real h_other h_kept h_set h_w h_book h_noteSort h_whose h_what h_noteIs h_fitting h_dawn h_likes h_walked h_came h_inn_creak h_inn_doorA h_inn_doorB h_inn_how h_inn_lies h_inn_isCold h_inn_falls h_inn_isFull h_inn_isTold h_inn_act h_inn_what h_inn_then h_inn_met h_inn_bed h_inn_dream h_inn_listens h_inn_name h_inn_nameSort h_inn_nameNumber v_thrown v_trouble v_where v_read v_taped v_size v_at v_sort v_place v_sign v_number v_fault v_wrongAt v_word v_marks v_notes v_inn_minutes v_inn_rooms v_inn_doors v_inn_things v_inn_dreams v_inn_sleepers v_inn_listeners v_inn_names)) args s 0 0 A := ⟨_, rfl⟩
  rw [← hQ]
  unfold fX12_isDoor at hf
  refine lv_aload_n hx hb dX12_isDoor_0 rfl (lv_at hl 0 rfl) ?_
  refine r_get C hP 0 rfl fl_X12_358 rfl dX12_isDoor_1 ?_
  refine jnK hf (fun j26 ej26 hf => ?_)
  have hj26 : j26 () = some z0 → AT p l e (rmOf 0 0) s m args below meth c E A Q 0 0 2 [] (wX12_isDoor E h h_inn h_tape h_far h_from h_real h_other h_kept h_set h_w h_book h_noteSort h_whose h_what h_noteIs h_fitting h_dawn h_likes h_walked h_came h_inn_creak h_inn_doorA h_inn_doorB h_inn_how h_inn_lies h_inn_isCold h_inn_falls h_inn_isFull h_inn_isTold h_inn_act h_inn_what h_inn_then h_inn_met h_inn_bed h_inn_dream h_inn_listens h_inn_name h_inn_nameSort h_inn_nameNumber v_thrown v_trouble v_where v_read v_taped v_size v_at v_sort v_place v_sign v_number v_fault v_wrongAt v_word v_marks v_notes v_inn_minutes v_inn_rooms v_inn_doors v_inn_things v_inn_dreams v_inn_sleepers v_inn_listeners v_inn_names) 26 [] := by
    intro  hf H locs ls hl hP hD hS
    rw [ej26] at hf
    replace hf := un0_s hf
    refine lv_iconst (v := 0) hx hb dX12_isDoor_26 (by decide) ?_
    cases hf
    rw [hQ]
    exact r_zret C hr hP hD hS (Or.inl rfl) rfl dX12_isDoor_27
  clear ej26
  refine lv_ifnull hx hb dX12_isDoor_4 ?_
  refine lv_iload_n hx hb dX12_isDoor_7 rfl (lv_at hl 1 rfl) ?_
  refine lv_if_lt (tgt := 26) hx hb dX12_isDoor_8 (by decide) (fun c_8 => ?_) (fun c_8 => ?_)
  · replace hf := it_t c_8 hf
    exact hj26  hf _ _ _ (lv_sub hl [] rfl) hP hD hS
  · replace hf := it_f c_8 hf
    refine lv_iload_n hx hb dX12_isDoor_11 rfl (lv_at hl 1 rfl) ?_
    refine lv_aload_n hx hb dX12_isDoor_12 rfl (lv_at hl 0 rfl) ?_
    refine r_get C hP 0 rfl fl_X12_358 rfl dX12_isDoor_13 ?_
    refine r_get C hP 1 rfl fl_X12_292 rfl dX12_isDoor_16 ?_
    refine lv_icmp_ge (tgt := 26) hx hb dX12_isDoor_19 (by decide) (fun c_19 => ?_) (fun c_19 => ?_)
    · replace hf := it_t c_19 hf
      exact hj26  hf _ _ _ (lv_sub hl [] rfl) hP hD hS
    · replace hf := it_f c_19 hf
      refine lv_iconst (v := 1) hx hb dX12_isDoor_22 (by decide) ?_
      refine lv_goto (tgt := 27) hx hb dX12_isDoor_23 (by decide) ?_
      cases hf
      rw [hQ]
      exact r_zret C hr hP hD hS (Or.inr rfl) rfl dX12_isDoor_27
def wX12_isDoor0 (E : EN) (h h_tape h_far h_from h_real h_other h_kept h_set h_w h_book h_noteSort h_whose h_what h_noteIs h_fitting h_dawn h_likes h_walked h_came : Nat) (v_thrown : Int32) (v_trouble : Int32) (v_where : Int32) (v_read : Option Nat) (v_taped : Int32) (v_size : Int32) (v_at : Int32) (v_sort : Int32) (v_place : Int32) (v_sign : Int32) (v_number : Int32) (v_fault : Int32) (v_wrongAt : Int32) (v_word : Int64) (v_marks : Int32) (v_notes : Int32) : va_W := [(h, .inr (11, [.int v_thrown, .int v_trouble, .int v_where, .null, va_rf v_read, .ref h_tape, .int v_taped, .int v_size, .int v_at, .int v_sort, .int v_place, .int v_sign, .int v_number, .int v_fault, .int v_wrongAt, .long v_word, .ref h_far, .ref h_from, .ref h_real, .ref h_other, .ref h_kept, .ref h_set, .ref h_w, .int v_marks, .int v_notes, .ref h_book, .ref h_noteSort, .ref h_whose, .ref h_what, .ref h_noteIs, .ref h_fitting, .ref h_dawn, .ref h_likes, .ref h_walked, .ref h_came]))]
def fX12_isDoor0 (N : Nat) : Option Int32 := jn (un0 (some 0)) (fun j26 => j26 ())
set_option maxHeartbeats 4000000 in
set_option maxRecDepth 100000 in
theorem ctX12_isDoor0 (l : Launch) (E : EN) (h h_tape h_far h_from h_real h_other h_kept h_set h_w h_book h_noteSort h_whose h_what h_noteIs h_fitting h_dawn h_likes h_walked h_came : Nat) (v_thrown : Int32) (v_trouble : Int32) (v_where : Int32) (v_read : Option Nat) (v_taped : Int32) (v_size : Int32) (v_at : Int32) (v_sort : Int32) (v_place : Int32) (v_sign : Int32) (v_number : Int32) (v_fault : Int32) (v_wrongAt : Int32) (v_word : Int64) (v_marks : Int32) (v_notes : Int32) (N : Nat) (p0 : Int32) (z0 : Int32) (hf : fX12_isDoor0 N  = some z0) : CTi l E yX12_isDoor cX12_isDoor 2 .boolean 0 0 [.ref h, .int p0] (wX12_isDoor0 E h h_tape h_far h_from h_real h_other h_kept h_set h_w h_book h_noteSort h_whose h_what h_noteIs h_fitting h_dawn h_likes h_walked h_came v_thrown v_trouble v_where v_read v_taped v_size v_at v_sort v_place v_sign v_number v_fault v_wrongAt v_word v_marks v_notes) z0 (wX12_isDoor0 E h h_tape h_far h_from h_real h_other h_kept h_set h_w h_book h_noteSort h_whose h_what h_noteIs h_fitting h_dawn h_likes h_walked h_came v_thrown v_trouble v_where v_read v_taped v_size v_at v_sort v_place v_sign v_number v_fault v_wrongAt v_word v_marks v_notes) := by
  intro sz
  refine ct_body (by decide) (Nat.le_of_ble_eq_true rfl) ?_
  intro p e s m args below meth c A ls hAe C hr hin hP hD hS hl
  have C : CX p s m args meth c cX12_isDoor RX12 2 E A := C
  have hl : lv_has ls 2 [(0, .ref h), (1, .int p0)] := hl
  have hx := C.1
  have hb := C.2.1
  rw [hAe]
  clear hAe
  obtain ⟨Q, hQ⟩ : ∃ Q, Q = MQ below (Qi E A z0 (wX12_isDoor0 E h h_tape h_far h_from h_real h_other h_kept h_set h_w h_book h_noteSort h_whose h_what h_noteIs h_fitting h_dawn h_likes h_walked h_came v_thrown v_trouble v_where v_read v_taped v_size v_at v_sort v_place v_sign v_number v_fault v_wrongAt v_word v_marks v_notes)) args s 0 0 A := ⟨_, rfl⟩
  rw [← hQ]
  unfold fX12_isDoor0 at hf
  refine lv_aload_n hx hb dX12_isDoor_0 rfl (lv_at hl 0 rfl) ?_
  refine r_get C hP 0 rfl fl_X12_358 rfl dX12_isDoor_1 ?_
  refine jnK hf (fun j26 ej26 hf => ?_)
  have hj26 : j26 () = some z0 → AT p l e (rmOf 0 0) s m args below meth c E A Q 0 0 2 [] (wX12_isDoor0 E h h_tape h_far h_from h_real h_other h_kept h_set h_w h_book h_noteSort h_whose h_what h_noteIs h_fitting h_dawn h_likes h_walked h_came v_thrown v_trouble v_where v_read v_taped v_size v_at v_sort v_place v_sign v_number v_fault v_wrongAt v_word v_marks v_notes) 26 [] := by
    intro  hf H locs ls hl hP hD hS
    rw [ej26] at hf
    replace hf := un0_s hf
    refine lv_iconst (v := 0) hx hb dX12_isDoor_26 (by decide) ?_
    cases hf
    rw [hQ]
    exact r_zret C hr hP hD hS (Or.inl rfl) rfl dX12_isDoor_27
  clear ej26
  refine lv_ifnullN (tgt := 26) hx hb dX12_isDoor_4 (by decide) ?_
  exact hj26  hf _ _ _ (lv_sub hl [] rfl) hP hD hS
def wX12_doorway (E : EN) (h h_inn h_tape h_far h_from h_real h_other h_kept h_set h_w h_book h_noteSort h_whose h_what h_noteIs h_fitting h_dawn h_likes h_walked h_came h_inn_creak h_inn_doorA h_inn_doorB h_inn_how h_inn_lies h_inn_isCold h_inn_falls h_inn_isFull h_inn_isTold h_inn_act h_inn_what h_inn_then h_inn_met h_inn_bed h_inn_dream h_inn_listens h_inn_name h_inn_nameSort h_inn_nameNumber : Nat) (v_thrown : Int32) (v_trouble : Int32) (v_where : Int32) (v_read : Option Nat) (v_taped : Int32) (v_size : Int32) (v_at : Int32) (v_sort : Int32) (v_place : Int32) (v_sign : Int32) (v_number : Int32) (v_fault : Int32) (v_wrongAt : Int32) (v_word : Int64) (v_marks : Int32) (v_notes : Int32) (v_inn_minutes : Int32) (v_inn_rooms : Int32) (v_inn_doors : Int32) (v_inn_things : Int32) (v_inn_dreams : Int32) (v_inn_sleepers : Int32) (v_inn_listeners : Int32) (v_inn_names : Int32) (v_w : Nat → Int32) : va_W := [(h, .inr (11, [.int v_thrown, .int v_trouble, .int v_where, .ref h_inn, va_rf v_read, .ref h_tape, .int v_taped, .int v_size, .int v_at, .int v_sort, .int v_place, .int v_sign, .int v_number, .int v_fault, .int v_wrongAt, .long v_word, .ref h_far, .ref h_from, .ref h_real, .ref h_other, .ref h_kept, .ref h_set, .ref h_w, .int v_marks, .int v_notes, .ref h_book, .ref h_noteSort, .ref h_whose, .ref h_what, .ref h_noteIs, .ref h_fitting, .ref h_dawn, .ref h_likes, .ref h_walked, .ref h_came])), (h_inn, .inr (10, [.int v_inn_minutes, .int v_inn_rooms, .int v_inn_doors, .int v_inn_things, .int v_inn_dreams, .int v_inn_sleepers, .int v_inn_listeners, .int v_inn_names, .ref h_inn_creak, .ref h_inn_doorA, .ref h_inn_doorB, .ref h_inn_how, .ref h_inn_lies, .ref h_inn_isCold, .ref h_inn_falls, .ref h_inn_isFull, .ref h_inn_isTold, .ref h_inn_act, .ref h_inn_what, .ref h_inn_then, .ref h_inn_met, .ref h_inn_bed, .ref h_inn_dream, .ref h_inn_listens, .ref h_inn_name, .ref h_inn_nameSort, .ref h_inn_nameNumber])), (h_w, aI E 51 v_w)]
def fX12_doorway (N : Nat) (p0 : Int32) (p1 : Int32) (v_inn_doors : Int32) (v_w : Nat → Int32) : Option (Int32 × Int32 × Int32 × Int32) := (fX12_isDoor N p0 v_inn_doors).bind (un1 fun (r_7 : Int32) => if r_7 = 0 then ((fX12_refused N 1).bind (un3 fun (r_24 : Int32) (v_trouble_24 : Int32) (v_where_24 : Int32) => some (r_24, 0, v_trouble_24, v_where_24))) else ((fX12_in N p1 0 1).bind (un1 fun (r_16 : Int32) => if r_16 = 0 then ((fX12_refused N 1).bind (un3 fun (r_24 : Int32) (v_trouble_24 : Int32) (v_where_24 : Int32) => some (r_24, 0, v_trouble_24, v_where_24))) else (jn (un1 fun (x44_s2 : Int32) => gd (x44_s2 + p0) 51 ((fX12_good N (v_w (x44_s2 + p0).toNatClampNeg)).bind (un3 fun (r_47 : Int32) (v_trouble_47 : Int32) (v_where_47 : Int32) => some (r_47, 0, v_trouble_47, v_where_47)))) (fun j44 => if p1 = 0 then (j44 23) else (j44 33))))))
set_option maxHeartbeats 4000000 in
set_option maxRecDepth 100000 in
theorem ctX12_doorway (l : Launch) (E : EN) (h h_inn h_tape h_far h_from h_real h_other h_kept h_set h_w h_book h_noteSort h_whose h_what h_noteIs h_fitting h_dawn h_likes h_walked h_came h_inn_creak h_inn_doorA h_inn_doorB h_inn_how h_inn_lies h_inn_isCold h_inn_falls h_inn_isFull h_inn_isTold h_inn_act h_inn_what h_inn_then h_inn_met h_inn_bed h_inn_dream h_inn_listens h_inn_name h_inn_nameSort h_inn_nameNumber : Nat) (v_thrown : Int32) (v_trouble : Int32) (v_where : Int32) (v_read : Option Nat) (v_taped : Int32) (v_size : Int32) (v_at : Int32) (v_sort : Int32) (v_place : Int32) (v_sign : Int32) (v_number : Int32) (v_fault : Int32) (v_wrongAt : Int32) (v_word : Int64) (v_marks : Int32) (v_notes : Int32) (v_inn_minutes : Int32) (v_inn_rooms : Int32) (v_inn_doors : Int32) (v_inn_things : Int32) (v_inn_dreams : Int32) (v_inn_sleepers : Int32) (v_inn_listeners : Int32) (v_inn_names : Int32) (v_w : Nat → Int32) (N : Nat) (p0 : Int32) (p1 : Int32) (z0 : Int32) (z1 : Int32) (z2 : Int32) (z3 : Int32) (hf : fX12_doorway N p0 p1 v_inn_doors v_w = some (z0, z1, z2, z3)) : CTi l E yX12_doorway cX12_doorway 3 .int 1 22 [.ref h, .int p0, .int p1] (wX12_doorway E h h_inn h_tape h_far h_from h_real h_other h_kept h_set h_w h_book h_noteSort h_whose h_what h_noteIs h_fitting h_dawn h_likes h_walked h_came h_inn_creak h_inn_doorA h_inn_doorB h_inn_how h_inn_lies h_inn_isCold h_inn_falls h_inn_isFull h_inn_isTold h_inn_act h_inn_what h_inn_then h_inn_met h_inn_bed h_inn_dream h_inn_listens h_inn_name h_inn_nameSort h_inn_nameNumber v_thrown v_trouble v_where v_read v_taped v_size v_at v_sort v_place v_sign v_number v_fault v_wrongAt v_word v_marks v_notes v_inn_minutes v_inn_rooms v_inn_doors v_inn_things v_inn_dreams v_inn_sleepers v_inn_listeners v_inn_names v_w) z0 (wX12_doorway E h h_inn h_tape h_far h_from h_real h_other h_kept h_set h_w h_book h_noteSort h_whose h_what h_noteIs h_fitting h_dawn h_likes h_walked h_came h_inn_creak h_inn_doorA h_inn_doorB h_inn_how h_inn_lies h_inn_isCold h_inn_falls h_inn_isFull h_inn_isTold h_inn_act h_inn_what h_inn_then h_inn_met h_inn_bed h_inn_dream h_inn_listens h_inn_name h_inn_nameSort h_inn_nameNumber z1 z2 z3 v_read v_taped v_size v_at v_sort v_place v_sign v_number v_fault v_wrongAt v_word v_marks v_notes v_inn_minutes v_inn_rooms v_inn_doors v_inn_things v_inn_dreams v_inn_sleepers v_inn_listeners v_inn_names v_w) := by
  intro sz
  refine ct_body (by decide) (Nat.le_of_ble_eq_true rfl) ?_
  intro p e s m args below meth c A ls hAe C hr hin hP hD hS hl
  have C : CX p s m args meth c cX12_doorway RX12 3 E A := C
  have hl : lv_has ls 3 [(0, .ref h), (1, .int p0), (2, .int p1)] := hl
  have hx := C.1
  have hb := C.2.1
  rw [hAe]
  clear hAe
  obtain ⟨Q, hQ⟩ : ∃ Q, Q = MQ below (Qi E A z0 (wX12_doorway E h h_inn h_tape h_far h_from h_real h_other h_kept h_set h_w h_book h_noteSort h_whose h_what h_noteIs h_fitting h_dawn h_likes h_walked h_came h_inn_creak h_inn_doorA h_inn_doorB h_inn_how h_inn_lies h_inn_isCold h_inn_falls h_inn_isFull h_inn_isTold h_inn_act h_inn_what h_inn_then h_inn_met h_inn_bed h_inn_dream h_inn_listens h_inn_name h_inn_nameSort h_inn_nameNumber z1 z2 z3 v_read v_taped v_size v_at v_sort v_place v_sign v_number v_fault v_wrongAt v_word v_marks v_notes v_inn_minutes v_inn_rooms v_inn_doors v_inn_things v_inn_dreams v_inn_sleepers v_inn_listeners v_inn_names v_w)) args s 0 0 A := ⟨_, rfl⟩
  rw [← hQ]
  unfold fX12_doorway at hf
  refine lv_aload_n hx hb dX12_doorway_0 rfl (lv_at hl 0 rfl) ?_
  refine lv_iconst (v := 0) hx hb dX12_doorway_1 (by decide) ?_
  refine r_put (ws' := (wX12_doorway E h h_inn h_tape h_far h_from h_real h_other h_kept h_set h_w h_book h_noteSort h_whose h_what h_noteIs h_fitting h_dawn h_likes h_walked h_came h_inn_creak h_inn_doorA h_inn_doorB h_inn_how h_inn_lies h_inn_isCold h_inn_falls h_inn_isFull h_inn_isTold h_inn_act h_inn_what h_inn_then h_inn_met h_inn_bed h_inn_dream h_inn_listens h_inn_name h_inn_nameSort h_inn_nameNumber 0 v_trouble v_where v_read v_taped v_size v_at v_sort v_place v_sign v_number v_fault v_wrongAt v_word v_marks v_notes v_inn_minutes v_inn_rooms v_inn_doors v_inn_things v_inn_dreams v_inn_sleepers v_inn_listeners v_inn_names v_w)) C hP hD hS 0 rfl fl_X12_71 rfl rfl (by decide) rfl dX12_doorway_2 ?_
  clear hP hD hS; intro H locs hP hD hS
  refine lv_aload_n hx hb dX12_doorway_5 rfl (lv_at hl 0 rfl) ?_
  refine lv_iload_n hx hb dX12_doorway_6 rfl (lv_at hl 1 rfl) ?_
  obtain ⟨r_7, hc_7, hf⟩ := bd1 hf
  refine r_callVi (ws' := (wX12_doorway E h h_inn h_tape h_far h_from h_real h_other h_kept h_set h_w h_book h_noteSort h_whose h_what h_noteIs h_fitting h_dawn h_likes h_walked h_came h_inn_creak h_inn_doorA h_inn_doorB h_inn_how h_inn_lies h_inn_isCold h_inn_falls h_inn_isFull h_inn_isTold h_inn_act h_inn_what h_inn_then h_inn_met h_inn_bed h_inn_dream h_inn_listens h_inn_name h_inn_nameSort h_inn_nameNumber 0 v_trouble v_where v_read v_taped v_size v_at v_sort v_place v_sign v_number v_fault v_wrongAt v_word v_marks v_notes v_inn_minutes v_inn_rooms v_inn_doors v_inn_things v_inn_dreams v_inn_sleepers v_inn_listeners v_inn_names v_w)) (As := [.int p0]) (rest := []) C (ctX12_isDoor l E h h_inn h_tape h_far h_from h_real h_other h_kept h_set h_w h_book h_noteSort h_whose h_what h_noteIs h_fitting h_dawn h_likes h_walked h_came h_inn_creak h_inn_doorA h_inn_doorB h_inn_how h_inn_lies h_inn_isCold h_inn_falls h_inn_isFull h_inn_isTold h_inn_act h_inn_what h_inn_then h_inn_met h_inn_bed h_inn_dream h_inn_listens h_inn_name h_inn_nameSort h_inn_nameNumber 0 v_trouble v_where v_read v_taped v_size v_at v_sort v_place v_sign v_number v_fault v_wrongAt v_word v_marks v_notes v_inn_minutes v_inn_rooms v_inn_doors v_inn_things v_inn_dreams v_inn_sleepers v_inn_listeners v_inn_names N p0 r_7 hc_7) ml_X12_433 ⟨Nat.le_of_ble_eq_true rfl, Nat.le_of_ble_eq_true rfl⟩ hP hD hS 0 rfl rfl rfl [0, 1] rfl rfl rfl rfl rfl hl.1 rfl (Nat.le_of_ble_eq_true rfl) ⟨Nat.zero_le _, Nat.zero_le _⟩ dX12_doorway_7 ?_
  clear hP hD hS; intro H locs hP hD hS
  refine lv_if_eq (tgt := 22) hx hb dX12_doorway_10 (by decide) (fun c_10 => ?_) (fun c_10 => ?_)
  · replace hf := it_t c_10 hf
    refine lv_aload_n hx hb dX12_doorway_22 rfl (lv_at hl 0 rfl) ?_
    refine lv_iconst (v := 1) hx hb dX12_doorway_23 (by decide) ?_
    obtain ⟨r_24, v_trouble_24, v_where_24, hc_24, hf⟩ := bd3 hf
    refine r_callVi (ws' := (wX12_doorway E h h_inn h_tape h_far h_from h_real h_other h_kept h_set h_w h_book h_noteSort h_whose h_what h_noteIs h_fitting h_dawn h_likes h_walked h_came h_inn_creak h_inn_doorA h_inn_doorB h_inn_how h_inn_lies h_inn_isCold h_inn_falls h_inn_isFull h_inn_isTold h_inn_act h_inn_what h_inn_then h_inn_met h_inn_bed h_inn_dream h_inn_listens h_inn_name h_inn_nameSort h_inn_nameNumber 0 v_trouble_24 v_where_24 v_read v_taped v_size v_at v_sort v_place v_sign v_number v_fault v_wrongAt v_word v_marks v_notes v_inn_minutes v_inn_rooms v_inn_doors v_inn_things v_inn_dreams v_inn_sleepers v_inn_listeners v_inn_names v_w)) (As := [.int 1]) (rest := []) C (ctX12_refused l E h h_tape h_far h_from h_real h_other h_kept h_set h_w h_book h_noteSort h_whose h_what h_noteIs h_fitting h_dawn h_likes h_walked h_came 0 v_trouble v_where (some h_inn) v_read v_taped v_size v_at v_sort v_place v_sign v_number v_fault v_wrongAt v_word v_marks v_notes N 1 r_24 v_trouble_24 v_where_24 hc_24) ml_X12_77 ⟨Nat.le_of_ble_eq_true rfl, Nat.le_of_ble_eq_true rfl⟩ hP hD hS 0 rfl rfl rfl [0] rfl rfl rfl rfl rfl hl.1 rfl (Nat.le_of_ble_eq_true rfl) ⟨Nat.zero_le _, Nat.zero_le _⟩ dX12_doorway_24 ?_
    clear hP hD hS; intro H locs hP hD hS
    cases hf
    rw [hQ]
    exact r_iret C hr hP hD hS rfl dX12_doorway_27
  · replace hf := it_f c_10 hf
    refine lv_iload_n hx hb dX12_doorway_13 rfl (lv_at hl 2 rfl) ?_
    refine lv_iconst (v := 0) hx hb dX12_doorway_14 (by decide) ?_
    refine lv_iconst (v := 1) hx hb dX12_doorway_15 (by decide) ?_
    obtain ⟨r_16, hc_16, hf⟩ := bd1 hf
    refine r_callSi (ws' := (wX12_doorway E h h_inn h_tape h_far h_from h_real h_other h_kept h_set h_w h_book h_noteSort h_whose h_what h_noteIs h_fitting h_dawn h_likes h_walked h_came h_inn_creak h_inn_doorA h_inn_doorB h_inn_how h_inn_lies h_inn_isCold h_inn_falls h_inn_isFull h_inn_isTold h_inn_act h_inn_what h_inn_then h_inn_met h_inn_bed h_inn_dream h_inn_listens h_inn_name h_inn_nameSort h_inn_nameNumber 0 v_trouble v_where v_read v_taped v_size v_at v_sort v_place v_sign v_number v_fault v_wrongAt v_word v_marks v_notes v_inn_minutes v_inn_rooms v_inn_doors v_inn_things v_inn_dreams v_inn_sleepers v_inn_listeners v_inn_names v_w)) (As := [.int p1, .int 0, .int 1]) (rest := []) C (ctX12_in l E N p1 0 1 r_16 hc_16) ml_X12_149 ⟨Nat.le_of_ble_eq_true rfl, Nat.le_of_ble_eq_true rfl⟩ hP hD hS [] rfl rfl rfl rfl rfl hl.1 rfl (Nat.le_of_ble_eq_true rfl) ⟨Nat.zero_le _, Nat.zero_le _⟩ dX12_doorway_16 ?_
    clear hP hD hS; intro H locs hP hD hS
    refine lv_if_ne (tgt := 28) hx hb dX12_doorway_19 (by decide) (fun c_19 => ?_) (fun c_19 => ?_)
    · replace hf := it_f c_19 hf
      refine lv_aload_n hx hb dX12_doorway_28 rfl (lv_at hl 0 rfl) ?_
      refine lv_aload_n hx hb dX12_doorway_29 rfl (lv_at hl 0 rfl) ?_
      refine r_get C hP 0 rfl fl_X12_36 rfl dX12_doorway_30 ?_
      refine lv_iload_n hx hb dX12_doorway_33 rfl (lv_at hl 2 rfl) ?_
      refine jnK hf (fun j44 ej44 hf => ?_)
      have hj44 : ∀ (x44_s2 : Int32) , j44 x44_s2 = some (z0, z1, z2, z3) → AT p l e (rmOf 1 22) s m args below meth c E A Q 0 0 3 [(1, .int p0)] (wX12_doorway E h h_inn h_tape h_far h_from h_real h_other h_kept h_set h_w h_book h_noteSort h_whose h_what h_noteIs h_fitting h_dawn h_likes h_walked h_came h_inn_creak h_inn_doorA h_inn_doorB h_inn_how h_inn_lies h_inn_isCold h_inn_falls h_inn_isFull h_inn_isTold h_inn_act h_inn_what h_inn_then h_inn_met h_inn_bed h_inn_dream h_inn_listens h_inn_name h_inn_nameSort h_inn_nameNumber 0 v_trouble v_where v_read v_taped v_size v_at v_sort v_place v_sign v_number v_fault v_wrongAt v_word v_marks v_notes v_inn_minutes v_inn_rooms v_inn_doors v_inn_things v_inn_dreams v_inn_sleepers v_inn_listeners v_inn_names v_w) 44 [.int x44_s2, .ref h_w, .ref h] := by
        intro x44_s2 hf H locs ls hl hP hD hS
        rw [ej44] at hf
        replace hf := un1_s hf
        refine lv_iload_n hx hb dX12_doorway_44 rfl (lv_at hl 0 rfl) ?_
        refine lv_iadd hx hb dX12_doorway_45 ?_
        obtain ⟨hi_46, hf⟩ := gd_s hf
        refine r_iald C hP 2 rfl hi_46 dX12_doorway_46 ?_
        obtain ⟨r_47, v_trouble_47, v_where_47, hc_47, hf⟩ := bd3 hf
        refine r_callVi (ws' := (wX12_doorway E h h_inn h_tape h_far h_from h_real h_other h_kept h_set h_w h_book h_noteSort h_whose h_what h_noteIs h_fitting h_dawn h_likes h_walked h_came h_inn_creak h_inn_doorA h_inn_doorB h_inn_how h_inn_lies h_inn_isCold h_inn_falls h_inn_isFull h_inn_isTold h_inn_act h_inn_what h_inn_then h_inn_met h_inn_bed h_inn_dream h_inn_listens h_inn_name h_inn_nameSort h_inn_nameNumber 0 v_trouble_47 v_where_47 v_read v_taped v_size v_at v_sort v_place v_sign v_number v_fault v_wrongAt v_word v_marks v_notes v_inn_minutes v_inn_rooms v_inn_doors v_inn_things v_inn_dreams v_inn_sleepers v_inn_listeners v_inn_names v_w)) (As := [.int (v_w (x44_s2 + p0).toNatClampNeg)]) (rest := []) C (ctX12_good l E h h_tape h_far h_from h_real h_other h_kept h_set h_w h_book h_noteSort h_whose h_what h_noteIs h_fitting h_dawn h_likes h_walked h_came 0 v_trouble v_where (some h_inn) v_read v_taped v_size v_at v_sort v_place v_sign v_number v_fault v_wrongAt v_word v_marks v_notes N (v_w (x44_s2 + p0).toNatClampNeg) r_47 v_trouble_47 v_where_47 hc_47) ml_X12_81 ⟨Nat.le_of_ble_eq_true rfl, Nat.le_of_ble_eq_true rfl⟩ hP hD hS 0 rfl rfl rfl [0] rfl rfl rfl rfl rfl hl.1 rfl (Nat.le_of_ble_eq_true rfl) ⟨Nat.zero_le _, Nat.zero_le _⟩ dX12_doorway_47 ?_
        clear hP hD hS; intro H locs hP hD hS
        cases hf
        rw [hQ]
        exact r_iret C hr hP hD hS rfl dX12_doorway_50
      clear ej44
      refine lv_if_ne (tgt := 42) hx hb dX12_doorway_34 (by decide) (fun c_34 => ?_) (fun c_34 => ?_)
      · replace hf := it_f c_34 hf
        refine lv_bipush (v := 33) hx hb dX12_doorway_42 (by decide) ?_
        exact hj44 33 hf _ _ _ (lv_sub hl [1] rfl) hP hD hS
      · replace hf := it_t c_34 hf
        refine lv_bipush (v := 23) hx hb dX12_doorway_37 (by decide) ?_
        refine lv_goto (tgt := 44) hx hb dX12_doorway_39 (by decide) ?_
        exact hj44 23 hf _ _ _ (lv_sub hl [1] rfl) hP hD hS
    · replace hf := it_t c_19 hf
      refine lv_aload_n hx hb dX12_doorway_22 rfl (lv_at hl 0 rfl) ?_
      refine lv_iconst (v := 1) hx hb dX12_doorway_23 (by decide) ?_
      obtain ⟨r_24, v_trouble_24, v_where_24, hc_24, hf⟩ := bd3 hf
      refine r_callVi (ws' := (wX12_doorway E h h_inn h_tape h_far h_from h_real h_other h_kept h_set h_w h_book h_noteSort h_whose h_what h_noteIs h_fitting h_dawn h_likes h_walked h_came h_inn_creak h_inn_doorA h_inn_doorB h_inn_how h_inn_lies h_inn_isCold h_inn_falls h_inn_isFull h_inn_isTold h_inn_act h_inn_what h_inn_then h_inn_met h_inn_bed h_inn_dream h_inn_listens h_inn_name h_inn_nameSort h_inn_nameNumber 0 v_trouble_24 v_where_24 v_read v_taped v_size v_at v_sort v_place v_sign v_number v_fault v_wrongAt v_word v_marks v_notes v_inn_minutes v_inn_rooms v_inn_doors v_inn_things v_inn_dreams v_inn_sleepers v_inn_listeners v_inn_names v_w)) (As := [.int 1]) (rest := []) C (ctX12_refused l E h h_tape h_far h_from h_real h_other h_kept h_set h_w h_book h_noteSort h_whose h_what h_noteIs h_fitting h_dawn h_likes h_walked h_came 0 v_trouble v_where (some h_inn) v_read v_taped v_size v_at v_sort v_place v_sign v_number v_fault v_wrongAt v_word v_marks v_notes N 1 r_24 v_trouble_24 v_where_24 hc_24) ml_X12_77 ⟨Nat.le_of_ble_eq_true rfl, Nat.le_of_ble_eq_true rfl⟩ hP hD hS 0 rfl rfl rfl [0] rfl rfl rfl rfl rfl hl.1 rfl (Nat.le_of_ble_eq_true rfl) ⟨Nat.zero_le _, Nat.zero_le _⟩ dX12_doorway_24 ?_
      clear hP hD hS; intro H locs hP hD hS
      cases hf
      rw [hQ]
      exact r_iret C hr hP hD hS rfl dX12_doorway_27
def wX12_doorway0 (E : EN) (h h_tape h_far h_from h_real h_other h_kept h_set h_w h_book h_noteSort h_whose h_what h_noteIs h_fitting h_dawn h_likes h_walked h_came : Nat) (v_thrown : Int32) (v_trouble : Int32) (v_where : Int32) (v_read : Option Nat) (v_taped : Int32) (v_size : Int32) (v_at : Int32) (v_sort : Int32) (v_place : Int32) (v_sign : Int32) (v_number : Int32) (v_fault : Int32) (v_wrongAt : Int32) (v_word : Int64) (v_marks : Int32) (v_notes : Int32) (v_w : Nat → Int32) : va_W := [(h, .inr (11, [.int v_thrown, .int v_trouble, .int v_where, .null, va_rf v_read, .ref h_tape, .int v_taped, .int v_size, .int v_at, .int v_sort, .int v_place, .int v_sign, .int v_number, .int v_fault, .int v_wrongAt, .long v_word, .ref h_far, .ref h_from, .ref h_real, .ref h_other, .ref h_kept, .ref h_set, .ref h_w, .int v_marks, .int v_notes, .ref h_book, .ref h_noteSort, .ref h_whose, .ref h_what, .ref h_noteIs, .ref h_fitting, .ref h_dawn, .ref h_likes, .ref h_walked, .ref h_came])), (h_w, aI E 51 v_w)]
def fX12_doorway0 (N : Nat) (p0 : Int32) (p1 : Int32) (v_w : Nat → Int32) : Option (Int32 × Int32 × Int32 × Int32) := (fX12_isDoor0 N).bind (un1 fun (r_7 : Int32) => if r_7 = 0 then ((fX12_refused N 1).bind (un3 fun (r_24 : Int32) (v_trouble_24 : Int32) (v_where_24 : Int32) => some (r_24, 0, v_trouble_24, v_where_24))) else ((fX12_in N p1 0 1).bind (un1 fun (r_16 : Int32) => if r_16 = 0 then ((fX12_refused N 1).bind (un3 fun (r_24 : Int32) (v_trouble_24 : Int32) (v_where_24 : Int32) => some (r_24, 0, v_trouble_24, v_where_24))) else (jn (un1 fun (x44_s2 : Int32) => gd (x44_s2 + p0) 51 ((fX12_good N (v_w (x44_s2 + p0).toNatClampNeg)).bind (un3 fun (r_47 : Int32) (v_trouble_47 : Int32) (v_where_47 : Int32) => some (r_47, 0, v_trouble_47, v_where_47)))) (fun j44 => if p1 = 0 then (j44 23) else (j44 33))))))
set_option maxHeartbeats 4000000 in
set_option maxRecDepth 100000 in
theorem ctX12_doorway0 (l : Launch) (E : EN) (h h_tape h_far h_from h_real h_other h_kept h_set h_w h_book h_noteSort h_whose h_what h_noteIs h_fitting h_dawn h_likes h_walked h_came : Nat) (v_thrown : Int32) (v_trouble : Int32) (v_where : Int32) (v_read : Option Nat) (v_taped : Int32) (v_size : Int32) (v_at : Int32) (v_sort : Int32) (v_place : Int32) (v_sign : Int32) (v_number : Int32) (v_fault : Int32) (v_wrongAt : Int32) (v_word : Int64) (v_marks : Int32) (v_notes : Int32) (v_w : Nat → Int32) (N : Nat) (p0 : Int32) (p1 : Int32) (z0 : Int32) (z1 : Int32) (z2 : Int32) (z3 : Int32) (hf : fX12_doorway0 N p0 p1 v_w = some (z0, z1, z2, z3)) : CTi l E yX12_doorway cX12_doorway 3 .int 1 22 [.ref h, .int p0, .int p1] (wX12_doorway0 E h h_tape h_far h_from h_real h_other h_kept h_set h_w h_book h_noteSort h_whose h_what h_noteIs h_fitting h_dawn h_likes h_walked h_came v_thrown v_trouble v_where v_read v_taped v_size v_at v_sort v_place v_sign v_number v_fault v_wrongAt v_word v_marks v_notes v_w) z0 (wX12_doorway0 E h h_tape h_far h_from h_real h_other h_kept h_set h_w h_book h_noteSort h_whose h_what h_noteIs h_fitting h_dawn h_likes h_walked h_came z1 z2 z3 v_read v_taped v_size v_at v_sort v_place v_sign v_number v_fault v_wrongAt v_word v_marks v_notes v_w) := by
  intro sz
  refine ct_body (by decide) (Nat.le_of_ble_eq_true rfl) ?_
  intro p e s m args below meth c A ls hAe C hr hin hP hD hS hl
  have C : CX p s m args meth c cX12_doorway RX12 3 E A := C
  have hl : lv_has ls 3 [(0, .ref h), (1, .int p0), (2, .int p1)] := hl
  have hx := C.1
  have hb := C.2.1
  rw [hAe]
  clear hAe
  obtain ⟨Q, hQ⟩ : ∃ Q, Q = MQ below (Qi E A z0 (wX12_doorway0 E h h_tape h_far h_from h_real h_other h_kept h_set h_w h_book h_noteSort h_whose h_what h_noteIs h_fitting h_dawn h_likes h_walked h_came z1 z2 z3 v_read v_taped v_size v_at v_sort v_place v_sign v_number v_fault v_wrongAt v_word v_marks v_notes v_w)) args s 0 0 A := ⟨_, rfl⟩
  rw [← hQ]
  unfold fX12_doorway0 at hf
  refine lv_aload_n hx hb dX12_doorway_0 rfl (lv_at hl 0 rfl) ?_
  refine lv_iconst (v := 0) hx hb dX12_doorway_1 (by decide) ?_
  refine r_put (ws' := (wX12_doorway0 E h h_tape h_far h_from h_real h_other h_kept h_set h_w h_book h_noteSort h_whose h_what h_noteIs h_fitting h_dawn h_likes h_walked h_came 0 v_trouble v_where v_read v_taped v_size v_at v_sort v_place v_sign v_number v_fault v_wrongAt v_word v_marks v_notes v_w)) C hP hD hS 0 rfl fl_X12_71 rfl rfl (by decide) rfl dX12_doorway_2 ?_
  clear hP hD hS; intro H locs hP hD hS
  refine lv_aload_n hx hb dX12_doorway_5 rfl (lv_at hl 0 rfl) ?_
  refine lv_iload_n hx hb dX12_doorway_6 rfl (lv_at hl 1 rfl) ?_
  obtain ⟨r_7, hc_7, hf⟩ := bd1 hf
  refine r_callVi (ws' := (wX12_doorway0 E h h_tape h_far h_from h_real h_other h_kept h_set h_w h_book h_noteSort h_whose h_what h_noteIs h_fitting h_dawn h_likes h_walked h_came 0 v_trouble v_where v_read v_taped v_size v_at v_sort v_place v_sign v_number v_fault v_wrongAt v_word v_marks v_notes v_w)) (As := [.int p0]) (rest := []) C (ctX12_isDoor0 l E h h_tape h_far h_from h_real h_other h_kept h_set h_w h_book h_noteSort h_whose h_what h_noteIs h_fitting h_dawn h_likes h_walked h_came 0 v_trouble v_where v_read v_taped v_size v_at v_sort v_place v_sign v_number v_fault v_wrongAt v_word v_marks v_notes N p0 r_7 hc_7) ml_X12_433 ⟨Nat.le_of_ble_eq_true rfl, Nat.le_of_ble_eq_true rfl⟩ hP hD hS 0 rfl rfl rfl [0] rfl rfl rfl rfl rfl hl.1 rfl (Nat.le_of_ble_eq_true rfl) ⟨Nat.zero_le _, Nat.zero_le _⟩ dX12_doorway_7 ?_
  clear hP hD hS; intro H locs hP hD hS
  refine lv_if_eq (tgt := 22) hx hb dX12_doorway_10 (by decide) (fun c_10 => ?_) (fun c_10 => ?_)
  · replace hf := it_t c_10 hf
    refine lv_aload_n hx hb dX12_doorway_22 rfl (lv_at hl 0 rfl) ?_
    refine lv_iconst (v := 1) hx hb dX12_doorway_23 (by decide) ?_
    obtain ⟨r_24, v_trouble_24, v_where_24, hc_24, hf⟩ := bd3 hf
    refine r_callVi (ws' := (wX12_doorway0 E h h_tape h_far h_from h_real h_other h_kept h_set h_w h_book h_noteSort h_whose h_what h_noteIs h_fitting h_dawn h_likes h_walked h_came 0 v_trouble_24 v_where_24 v_read v_taped v_size v_at v_sort v_place v_sign v_number v_fault v_wrongAt v_word v_marks v_notes v_w)) (As := [.int 1]) (rest := []) C (ctX12_refused l E h h_tape h_far h_from h_real h_other h_kept h_set h_w h_book h_noteSort h_whose h_what h_noteIs h_fitting h_dawn h_likes h_walked h_came 0 v_trouble v_where none v_read v_taped v_size v_at v_sort v_place v_sign v_number v_fault v_wrongAt v_word v_marks v_notes N 1 r_24 v_trouble_24 v_where_24 hc_24) ml_X12_77 ⟨Nat.le_of_ble_eq_true rfl, Nat.le_of_ble_eq_true rfl⟩ hP hD hS 0 rfl rfl rfl [0] rfl rfl rfl rfl rfl hl.1 rfl (Nat.le_of_ble_eq_true rfl) ⟨Nat.zero_le _, Nat.zero_le _⟩ dX12_doorway_24 ?_
    clear hP hD hS; intro H locs hP hD hS
    cases hf
    rw [hQ]
    exact r_iret C hr hP hD hS rfl dX12_doorway_27
  · replace hf := it_f c_10 hf
    refine lv_iload_n hx hb dX12_doorway_13 rfl (lv_at hl 2 rfl) ?_
    refine lv_iconst (v := 0) hx hb dX12_doorway_14 (by decide) ?_
    refine lv_iconst (v := 1) hx hb dX12_doorway_15 (by decide) ?_
    obtain ⟨r_16, hc_16, hf⟩ := bd1 hf
    refine r_callSi (ws' := (wX12_doorway0 E h h_tape h_far h_from h_real h_other h_kept h_set h_w h_book h_noteSort h_whose h_what h_noteIs h_fitting h_dawn h_likes h_walked h_came 0 v_trouble v_where v_read v_taped v_size v_at v_sort v_place v_sign v_number v_fault v_wrongAt v_word v_marks v_notes v_w)) (As := [.int p1, .int 0, .int 1]) (rest := []) C (ctX12_in l E N p1 0 1 r_16 hc_16) ml_X12_149 ⟨Nat.le_of_ble_eq_true rfl, Nat.le_of_ble_eq_true rfl⟩ hP hD hS [] rfl rfl rfl rfl rfl hl.1 rfl (Nat.le_of_ble_eq_true rfl) ⟨Nat.zero_le _, Nat.zero_le _⟩ dX12_doorway_16 ?_
    clear hP hD hS; intro H locs hP hD hS
    refine lv_if_ne (tgt := 28) hx hb dX12_doorway_19 (by decide) (fun c_19 => ?_) (fun c_19 => ?_)
    · replace hf := it_f c_19 hf
      refine lv_aload_n hx hb dX12_doorway_28 rfl (lv_at hl 0 rfl) ?_
      refine lv_aload_n hx hb dX12_doorway_29 rfl (lv_at hl 0 rfl) ?_
      refine r_get C hP 0 rfl fl_X12_36 rfl dX12_doorway_30 ?_
      refine lv_iload_n hx hb dX12_doorway_33 rfl (lv_at hl 2 rfl) ?_
      refine jnK hf (fun j44 ej44 hf => ?_)
      have hj44 : ∀ (x44_s2 : Int32) , j44 x44_s2 = some (z0, z1, z2, z3) → AT p l e (rmOf 1 22) s m args below meth c E A Q 0 0 3 [(1, .int p0)] (wX12_doorway0 E h h_tape h_far h_from h_real h_other h_kept h_set h_w h_book h_noteSort h_whose h_what h_noteIs h_fitting h_dawn h_likes h_walked h_came 0 v_trouble v_where v_read v_taped v_size v_at v_sort v_place v_sign v_number v_fault v_wrongAt v_word v_marks v_notes v_w) 44 [.int x44_s2, .ref h_w, .ref h] := by
        intro x44_s2 hf H locs ls hl hP hD hS
        rw [ej44] at hf
        replace hf := un1_s hf
        refine lv_iload_n hx hb dX12_doorway_44 rfl (lv_at hl 0 rfl) ?_
        refine lv_iadd hx hb dX12_doorway_45 ?_
        obtain ⟨hi_46, hf⟩ := gd_s hf
        refine r_iald C hP 1 rfl hi_46 dX12_doorway_46 ?_
        obtain ⟨r_47, v_trouble_47, v_where_47, hc_47, hf⟩ := bd3 hf
        refine r_callVi (ws' := (wX12_doorway0 E h h_tape h_far h_from h_real h_other h_kept h_set h_w h_book h_noteSort h_whose h_what h_noteIs h_fitting h_dawn h_likes h_walked h_came 0 v_trouble_47 v_where_47 v_read v_taped v_size v_at v_sort v_place v_sign v_number v_fault v_wrongAt v_word v_marks v_notes v_w)) (As := [.int (v_w (x44_s2 + p0).toNatClampNeg)]) (rest := []) C (ctX12_good l E h h_tape h_far h_from h_real h_other h_kept h_set h_w h_book h_noteSort h_whose h_what h_noteIs h_fitting h_dawn h_likes h_walked h_came 0 v_trouble v_where none v_read v_taped v_size v_at v_sort v_place v_sign v_number v_fault v_wrongAt v_word v_marks v_notes N (v_w (x44_s2 + p0).toNatClampNeg) r_47 v_trouble_47 v_where_47 hc_47) ml_X12_81 ⟨Nat.le_of_ble_eq_true rfl, Nat.le_of_ble_eq_true rfl⟩ hP hD hS 0 rfl rfl rfl [0] rfl rfl rfl rfl rfl hl.1 rfl (Nat.le_of_ble_eq_true rfl) ⟨Nat.zero_le _, Nat.zero_le _⟩ dX12_doorway_47 ?_
        clear hP hD hS; intro H locs hP hD hS
        cases hf
        rw [hQ]
        exact r_iret C hr hP hD hS rfl dX12_doorway_50
      clear ej44
      refine lv_if_ne (tgt := 42) hx hb dX12_doorway_34 (by decide) (fun c_34 => ?_) (fun c_34 => ?_)
      · replace hf := it_f c_34 hf
        refine lv_bipush (v := 33) hx hb dX12_doorway_42 (by decide) ?_
        exact hj44 33 hf _ _ _ (lv_sub hl [1] rfl) hP hD hS
      · replace hf := it_t c_34 hf
        refine lv_bipush (v := 23) hx hb dX12_doorway_37 (by decide) ?_
        refine lv_goto (tgt := 44) hx hb dX12_doorway_39 (by decide) ?_
        exact hj44 23 hf _ _ _ (lv_sub hl [1] rfl) hP hD hS
    · replace hf := it_t c_19 hf
      refine lv_aload_n hx hb dX12_doorway_22 rfl (lv_at hl 0 rfl) ?_
      refine lv_iconst (v := 1) hx hb dX12_doorway_23 (by decide) ?_
      obtain ⟨r_24, v_trouble_24, v_where_24, hc_24, hf⟩ := bd3 hf
      refine r_callVi (ws' := (wX12_doorway0 E h h_tape h_far h_from h_real h_other h_kept h_set h_w h_book h_noteSort h_whose h_what h_noteIs h_fitting h_dawn h_likes h_walked h_came 0 v_trouble_24 v_where_24 v_read v_taped v_size v_at v_sort v_place v_sign v_number v_fault v_wrongAt v_word v_marks v_notes v_w)) (As := [.int 1]) (rest := []) C (ctX12_refused l E h h_tape h_far h_from h_real h_other h_kept h_set h_w h_book h_noteSort h_whose h_what h_noteIs h_fitting h_dawn h_likes h_walked h_came 0 v_trouble v_where none v_read v_taped v_size v_at v_sort v_place v_sign v_number v_fault v_wrongAt v_word v_marks v_notes N 1 r_24 v_trouble_24 v_where_24 hc_24) ml_X12_77 ⟨Nat.le_of_ble_eq_true rfl, Nat.le_of_ble_eq_true rfl⟩ hP hD hS 0 rfl rfl rfl [0] rfl rfl rfl rfl rfl hl.1 rfl (Nat.le_of_ble_eq_true rfl) ⟨Nat.zero_le _, Nat.zero_le _⟩ dX12_doorway_24 ?_
      clear hP hD hS; intro H locs hP hD hS
      cases hf
      rw [hQ]
      exact r_iret C hr hP hD hS rfl dX12_doorway_27
