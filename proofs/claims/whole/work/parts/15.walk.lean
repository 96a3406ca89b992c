theorem dX12_safe_0 : decode cX12_safe 0 = .ok (.aload_n 0, 1) := by decide +kernel
theorem dX12_safe_1 : decode cX12_safe 1 = .ok (.iconst 0, 1) := by decide +kernel
theorem dX12_safe_2 : decode cX12_safe 2 = .ok (.putfield 71, 3) := by decide +kernel
theorem dX12_safe_5 : decode cX12_safe 5 = .ok (.aload_n 0, 1) := by decide +kernel
theorem dX12_safe_6 : decode cX12_safe 6 = .ok (.iload_n 1, 1) := by decide +kernel
theorem dX12_safe_7 : decode cX12_safe 7 = .ok (.invokevirtual 379, 3) := by decide +kernel
theorem dX12_safe_10 : decode cX12_safe 10 = .ok (.ifCond .ne 9, 3) := by decide +kernel
theorem dX12_safe_13 : decode cX12_safe 13 = .ok (.aload_n 0, 1) := by decide +kernel
theorem dX12_safe_14 : decode cX12_safe 14 = .ok (.iconst 1, 1) := by decide +kernel
theorem dX12_safe_15 : decode cX12_safe 15 = .ok (.invokevirtual 77, 3) := by decide +kernel
theorem dX12_safe_18 : decode cX12_safe 18 = .ok (.ireturn, 1) := by decide +kernel
theorem dX12_safe_19 : decode cX12_safe 19 = .ok (.aload_n 0, 1) := by decide +kernel
theorem dX12_safe_20 : decode cX12_safe 20 = .ok (.iload_n 1, 1) := by decide +kernel
theorem dX12_safe_21 : decode cX12_safe 21 = .ok (.invokevirtual 495, 3) := by decide +kernel
theorem dX12_safe_24 : decode cX12_safe 24 = .ok (.istore_n 2, 1) := by decide +kernel
theorem dX12_safe_25 : decode cX12_safe 25 = .ok (.aload_n 0, 1) := by decide +kernel
theorem dX12_safe_26 : decode cX12_safe 26 = .ok (.iload_n 2, 1) := by decide +kernel
theorem dX12_safe_27 : decode cX12_safe 27 = .ok (.bipush (-2), 2) := by decide +kernel
theorem dX12_safe_29 : decode cX12_safe 29 = .ok (.if_icmp .ne 8, 3) := by decide +kernel
theorem dX12_safe_32 : decode cX12_safe 32 = .ok (.bipush (-2), 2) := by decide +kernel
theorem dX12_safe_34 : decode cX12_safe 34 = .ok (.goto 7, 3) := by decide +kernel
theorem dX12_safe_37 : decode cX12_safe 37 = .ok (.iload_n 2, 1) := by decide +kernel
theorem dX12_safe_38 : decode cX12_safe 38 = .ok (.invokestatic 492, 3) := by decide +kernel
theorem dX12_safe_41 : decode cX12_safe 41 = .ok (.invokevirtual 81, 3) := by decide +kernel
theorem dX12_safe_44 : decode cX12_safe 44 = .ok (.ireturn, 1) := by decide +kernel
theorem dX12_safely_0 : decode cX12_safely 0 = .ok (.aload_n 0, 1) := by decide +kernel
theorem dX12_safely_1 : decode cX12_safely 1 = .ok (.iconst 0, 1) := by decide +kernel
theorem dX12_safely_2 : decode cX12_safely 2 = .ok (.putfield 71, 3) := by decide +kernel
theorem dX12_safely_5 : decode cX12_safely 5 = .ok (.aload_n 0, 1) := by decide +kernel
theorem dX12_safely_6 : decode cX12_safely 6 = .ok (.iload_n 1, 1) := by decide +kernel
theorem dX12_safely_7 : decode cX12_safely 7 = .ok (.invokevirtual 379, 3) := by decide +kernel
theorem dX12_safely_10 : decode cX12_safely 10 = .ok (.ifCond .eq 15, 3) := by decide +kernel
theorem dX12_safely_13 : decode cX12_safely 13 = .ok (.aload_n 0, 1) := by decide +kernel
theorem dX12_safely_14 : decode cX12_safely 14 = .ok (.aload_n 0, 1) := by decide +kernel
theorem dX12_safely_15 : decode cX12_safely 15 = .ok (.iload_n 1, 1) := by decide +kernel
theorem dX12_safely_16 : decode cX12_safely 16 = .ok (.invokevirtual 495, 3) := by decide +kernel
theorem dX12_safely_19 : decode cX12_safely 19 = .ok (.invokevirtual 81, 3) := by decide +kernel
theorem dX12_safely_22 : decode cX12_safely 22 = .ok (.goto 8, 3) := by decide +kernel
theorem dX12_safely_25 : decode cX12_safely 25 = .ok (.aload_n 0, 1) := by decide +kernel
theorem dX12_safely_26 : decode cX12_safely 26 = .ok (.iconst 1, 1) := by decide +kernel
theorem dX12_safely_27 : decode cX12_safely 27 = .ok (.invokevirtual 77, 3) := by decide +kernel
theorem dX12_safely_30 : decode cX12_safely 30 = .ok (.ireturn, 1) := by decide +kernel
theorem dX12_walksMore_0 : decode cX12_walksMore 0 = .ok (.iconst 0, 1) := by decide +kernel
theorem dX12_walksMore_1 : decode cX12_walksMore 1 = .ok (.istore_n 2, 1) := by decide +kernel
theorem dX12_walksMore_2 : decode cX12_walksMore 2 = .ok (.iload_n 2, 1) := by decide +kernel
theorem dX12_walksMore_3 : decode cX12_walksMore 3 = .ok (.bipush 8, 2) := by decide +kernel
theorem dX12_walksMore_5 : decode cX12_walksMore 5 = .ok (.if_icmp .ge 16, 3) := by decide +kernel
theorem dX12_walksMore_8 : decode cX12_walksMore 8 = .ok (.aload_n 0, 1) := by decide +kernel
theorem dX12_walksMore_9 : decode cX12_walksMore 9 = .ok (.getfield 68, 3) := by decide +kernel
theorem dX12_walksMore_12 : decode cX12_walksMore 12 = .ok (.iload_n 2, 1) := by decide +kernel
theorem dX12_walksMore_13 : decode cX12_walksMore 13 = .ok (.iconst (-1), 1) := by decide +kernel
theorem dX12_walksMore_14 : decode cX12_walksMore 14 = .ok (.iastore, 1) := by decide +kernel
theorem dX12_walksMore_15 : decode cX12_walksMore 15 = .ok (.iinc 2 1, 3) := by decide +kernel
theorem dX12_walksMore_18 : decode cX12_walksMore 18 = .ok (.goto (-16), 3) := by decide +kernel
theorem dX12_walksMore_21 : decode cX12_walksMore 21 = .ok (.iconst 0, 1) := by decide +kernel
theorem dX12_walksMore_22 : decode cX12_walksMore 22 = .ok (.istore_n 2, 1) := by decide +kernel
theorem dX12_walksMore_23 : decode cX12_walksMore 23 = .ok (.iload_n 2, 1) := by decide +kernel
theorem dX12_walksMore_24 : decode cX12_walksMore 24 = .ok (.aload_n 0, 1) := by decide +kernel
theorem dX12_walksMore_25 : decode cX12_walksMore 25 = .ok (.getfield 358, 3) := by decide +kernel
theorem dX12_walksMore_28 : decode cX12_walksMore 28 = .ok (.getfield 247, 3) := by decide +kernel
theorem dX12_walksMore_31 : decode cX12_walksMore 31 = .ok (.if_icmp .ge 25, 3) := by decide +kernel
theorem dX12_walksMore_34 : decode cX12_walksMore 34 = .ok (.aload_n 0, 1) := by decide +kernel
theorem dX12_walksMore_35 : decode cX12_walksMore 35 = .ok (.getfield 68, 3) := by decide +kernel
theorem dX12_walksMore_38 : decode cX12_walksMore 38 = .ok (.aload_n 0, 1) := by decide +kernel
theorem dX12_walksMore_39 : decode cX12_walksMore 39 = .ok (.getfield 358, 3) := by decide +kernel
theorem dX12_walksMore_42 : decode cX12_walksMore 42 = .ok (.getfield 342, 3) := by decide +kernel
theorem dX12_walksMore_45 : decode cX12_walksMore 45 = .ok (.iload_n 2, 1) := by decide +kernel
theorem dX12_walksMore_46 : decode cX12_walksMore 46 = .ok (.iaload, 1) := by decide +kernel
theorem dX12_walksMore_47 : decode cX12_walksMore 47 = .ok (.bipush 10, 2) := by decide +kernel
theorem dX12_walksMore_49 : decode cX12_walksMore 49 = .ok (.iastore, 1) := by decide +kernel
theorem dX12_walksMore_50 : decode cX12_walksMore 50 = .ok (.iinc 2 1, 3) := by decide +kernel
theorem dX12_walksMore_53 : decode cX12_walksMore 53 = .ok (.goto (-30), 3) := by decide +kernel
theorem dX12_walksMore_56 : decode cX12_walksMore 56 = .ok (.iconst 1, 1) := by decide +kernel
theorem dX12_walksMore_57 : decode cX12_walksMore 57 = .ok (.istore_n 2, 1) := by decide +kernel
theorem dX12_walksMore_58 : decode cX12_walksMore 58 = .ok (.iload_n 2, 1) := by decide +kernel
theorem dX12_walksMore_59 : decode cX12_walksMore 59 = .ok (.ifCond .eq 172, 3) := by decide +kernel
theorem dX12_walksMore_62 : decode cX12_walksMore 62 = .ok (.aload_n 0, 1) := by decide +kernel
theorem dX12_walksMore_63 : decode cX12_walksMore 63 = .ok (.getfield 68, 3) := by decide +kernel
theorem dX12_walksMore_66 : decode cX12_walksMore 66 = .ok (.iload_n 1, 1) := by decide +kernel
theorem dX12_walksMore_67 : decode cX12_walksMore 67 = .ok (.iaload, 1) := by decide +kernel
theorem dX12_walksMore_68 : decode cX12_walksMore 68 = .ok (.iconst (-1), 1) := by decide +kernel
theorem dX12_walksMore_69 : decode cX12_walksMore 69 = .ok (.if_icmp .ne 162, 3) := by decide +kernel
theorem dX12_walksMore_72 : decode cX12_walksMore 72 = .ok (.iconst 0, 1) := by decide +kernel
theorem dX12_walksMore_73 : decode cX12_walksMore 73 = .ok (.istore_n 2, 1) := by decide +kernel
theorem dX12_walksMore_74 : decode cX12_walksMore 74 = .ok (.iconst 0, 1) := by decide +kernel
theorem dX12_walksMore_75 : decode cX12_walksMore 75 = .ok (.istore_n 3, 1) := by decide +kernel
theorem dX12_walksMore_76 : decode cX12_walksMore 76 = .ok (.iload_n 3, 1) := by decide +kernel
theorem dX12_walksMore_77 : decode cX12_walksMore 77 = .ok (.aload_n 0, 1) := by decide +kernel
theorem dX12_walksMore_78 : decode cX12_walksMore 78 = .ok (.getfield 358, 3) := by decide +kernel
theorem dX12_walksMore_81 : decode cX12_walksMore 81 = .ok (.getfield 292, 3) := by decide +kernel
theorem dX12_walksMore_84 : decode cX12_walksMore 84 = .ok (.if_icmp .ge 144, 3) := by decide +kernel
theorem dX12_walksMore_87 : decode cX12_walksMore 87 = .ok (.aload_n 0, 1) := by decide +kernel
theorem dX12_walksMore_88 : decode cX12_walksMore 88 = .ok (.getfield 358, 3) := by decide +kernel
theorem dX12_walksMore_91 : decode cX12_walksMore 91 = .ok (.getfield 310, 3) := by decide +kernel
theorem dX12_walksMore_94 : decode cX12_walksMore 94 = .ok (.iload_n 3, 1) := by decide +kernel
theorem dX12_walksMore_95 : decode cX12_walksMore 95 = .ok (.iaload, 1) := by decide +kernel
theorem dX12_walksMore_96 : decode cX12_walksMore 96 = .ok (.iconst 2, 1) := by decide +kernel
theorem dX12_walksMore_97 : decode cX12_walksMore 97 = .ok (.if_icmp .ne 6, 3) := by decide +kernel
theorem dX12_walksMore_100 : decode cX12_walksMore 100 = .ok (.goto 122, 3) := by decide +kernel
theorem dX12_walksMore_103 : decode cX12_walksMore 103 = .ok (.iconst 1, 1) := by decide +kernel
theorem dX12_walksMore_104 : decode cX12_walksMore 104 = .ok (.istore 4, 2) := by decide +kernel
theorem dX12_walksMore_106 : decode cX12_walksMore 106 = .ok (.iload 4, 2) := by decide +kernel
theorem dX12_walksMore_108 : decode cX12_walksMore 108 = .ok (.iconst 3, 1) := by decide +kernel
theorem dX12_walksMore_109 : decode cX12_walksMore 109 = .ok (.if_icmp .ge 113, 3) := by decide +kernel
theorem dX12_walksMore_112 : decode cX12_walksMore 112 = .ok (.iload 4, 2) := by decide +kernel
theorem dX12_walksMore_114 : decode cX12_walksMore 114 = .ok (.iconst 1, 1) := by decide +kernel
theorem dX12_walksMore_115 : decode cX12_walksMore 115 = .ok (.if_icmp .ne 15, 3) := by decide +kernel
theorem dX12_walksMore_118 : decode cX12_walksMore 118 = .ok (.aload_n 0, 1) := by decide +kernel
theorem dX12_walksMore_119 : decode cX12_walksMore 119 = .ok (.getfield 358, 3) := by decide +kernel
theorem dX12_walksMore_122 : decode cX12_walksMore 122 = .ok (.getfield 304, 3) := by decide +kernel
theorem dX12_walksMore_125 : decode cX12_walksMore 125 = .ok (.iload_n 3, 1) := by decide +kernel
theorem dX12_walksMore_126 : decode cX12_walksMore 126 = .ok (.iaload, 1) := by decide +kernel
theorem dX12_walksMore_127 : decode cX12_walksMore 127 = .ok (.goto 12, 3) := by decide +kernel
theorem dX12_walksMore_130 : decode cX12_walksMore 130 = .ok (.aload_n 0, 1) := by decide +kernel
theorem dX12_walksMore_131 : decode cX12_walksMore 131 = .ok (.getfield 358, 3) := by decide +kernel
theorem dX12_walksMore_134 : decode cX12_walksMore 134 = .ok (.getfield 307, 3) := by decide +kernel
theorem dX12_walksMore_137 : decode cX12_walksMore 137 = .ok (.iload_n 3, 1) := by decide +kernel
theorem dX12_walksMore_138 : decode cX12_walksMore 138 = .ok (.iaload, 1) := by decide +kernel
theorem dX12_walksMore_139 : decode cX12_walksMore 139 = .ok (.istore 5, 2) := by decide +kernel
theorem dX12_walksMore_141 : decode cX12_walksMore 141 = .ok (.iload 4, 2) := by decide +kernel
theorem dX12_walksMore_143 : decode cX12_walksMore 143 = .ok (.iconst 1, 1) := by decide +kernel
theorem dX12_walksMore_144 : decode cX12_walksMore 144 = .ok (.if_icmp .ne 15, 3) := by decide +kernel
theorem dX12_walksMore_147 : decode cX12_walksMore 147 = .ok (.aload_n 0, 1) := by decide +kernel
theorem dX12_walksMore_148 : decode cX12_walksMore 148 = .ok (.getfield 358, 3) := by decide +kernel
theorem dX12_walksMore_151 : decode cX12_walksMore 151 = .ok (.getfield 307, 3) := by decide +kernel
theorem dX12_walksMore_154 : decode cX12_walksMore 154 = .ok (.iload_n 3, 1) := by decide +kernel
theorem dX12_walksMore_155 : decode cX12_walksMore 155 = .ok (.iaload, 1) := by decide +kernel
theorem dX12_walksMore_156 : decode cX12_walksMore 156 = .ok (.goto 12, 3) := by decide +kernel
theorem dX12_walksMore_159 : decode cX12_walksMore 159 = .ok (.aload_n 0, 1) := by decide +kernel
theorem dX12_walksMore_160 : decode cX12_walksMore 160 = .ok (.getfield 358, 3) := by decide +kernel
theorem dX12_walksMore_163 : decode cX12_walksMore 163 = .ok (.getfield 304, 3) := by decide +kernel
theorem dX12_walksMore_166 : decode cX12_walksMore 166 = .ok (.iload_n 3, 1) := by decide +kernel
theorem dX12_walksMore_167 : decode cX12_walksMore 167 = .ok (.iaload, 1) := by decide +kernel
theorem dX12_walksMore_168 : decode cX12_walksMore 168 = .ok (.istore 6, 2) := by decide +kernel
theorem dX12_walksMore_170 : decode cX12_walksMore 170 = .ok (.aload_n 0, 1) := by decide +kernel
theorem dX12_walksMore_171 : decode cX12_walksMore 171 = .ok (.getfield 68, 3) := by decide +kernel
theorem dX12_walksMore_174 : decode cX12_walksMore 174 = .ok (.iload 5, 2) := by decide +kernel
theorem dX12_walksMore_176 : decode cX12_walksMore 176 = .ok (.iaload, 1) := by decide +kernel
theorem dX12_walksMore_177 : decode cX12_walksMore 177 = .ok (.iconst (-1), 1) := by decide +kernel
theorem dX12_walksMore_178 : decode cX12_walksMore 178 = .ok (.if_icmp .eq 38, 3) := by decide +kernel
theorem dX12_walksMore_181 : decode cX12_walksMore 181 = .ok (.aload_n 0, 1) := by decide +kernel
theorem dX12_walksMore_182 : decode cX12_walksMore 182 = .ok (.getfield 68, 3) := by decide +kernel
theorem dX12_walksMore_185 : decode cX12_walksMore 185 = .ok (.iload 6, 2) := by decide +kernel
theorem dX12_walksMore_187 : decode cX12_walksMore 187 = .ok (.iaload, 1) := by decide +kernel
theorem dX12_walksMore_188 : decode cX12_walksMore 188 = .ok (.iconst (-1), 1) := by decide +kernel
theorem dX12_walksMore_189 : decode cX12_walksMore 189 = .ok (.if_icmp .ne 27, 3) := by decide +kernel
theorem dX12_walksMore_192 : decode cX12_walksMore 192 = .ok (.aload_n 0, 1) := by decide +kernel
theorem dX12_walksMore_193 : decode cX12_walksMore 193 = .ok (.getfield 65, 3) := by decide +kernel
theorem dX12_walksMore_196 : decode cX12_walksMore 196 = .ok (.iload_n 3, 1) := by decide +kernel
theorem dX12_walksMore_197 : decode cX12_walksMore 197 = .ok (.iaload, 1) := by decide +kernel
theorem dX12_walksMore_198 : decode cX12_walksMore 198 = .ok (.iload 4, 2) := by decide +kernel
theorem dX12_walksMore_200 : decode cX12_walksMore 200 = .ok (.if_icmp .ne 6, 3) := by decide +kernel
theorem dX12_walksMore_203 : decode cX12_walksMore 203 = .ok (.goto 13, 3) := by decide +kernel
theorem dX12_walksMore_206 : decode cX12_walksMore 206 = .ok (.aload_n 0, 1) := by decide +kernel
theorem dX12_walksMore_207 : decode cX12_walksMore 207 = .ok (.getfield 68, 3) := by decide +kernel
theorem dX12_walksMore_210 : decode cX12_walksMore 210 = .ok (.iload 6, 2) := by decide +kernel
theorem dX12_walksMore_212 : decode cX12_walksMore 212 = .ok (.iload_n 3, 1) := by decide +kernel
theorem dX12_walksMore_213 : decode cX12_walksMore 213 = .ok (.iastore, 1) := by decide +kernel
theorem dX12_walksMore_214 : decode cX12_walksMore 214 = .ok (.iconst 1, 1) := by decide +kernel
theorem dX12_walksMore_215 : decode cX12_walksMore 215 = .ok (.istore_n 2, 1) := by decide +kernel
theorem dX12_walksMore_216 : decode cX12_walksMore 216 = .ok (.iinc 4 1, 3) := by decide +kernel
theorem dX12_walksMore_219 : decode cX12_walksMore 219 = .ok (.goto (-113), 3) := by decide +kernel
theorem dX12_walksMore_222 : decode cX12_walksMore 222 = .ok (.iinc 3 1, 3) := by decide +kernel
theorem dX12_walksMore_225 : decode cX12_walksMore 225 = .ok (.goto (-149), 3) := by decide +kernel
theorem dX12_walksMore_228 : decode cX12_walksMore 228 = .ok (.goto (-170), 3) := by decide +kernel
theorem dX12_walksMore_231 : decode cX12_walksMore 231 = .ok (.aload_n 0, 1) := by decide +kernel
theorem dX12_walksMore_232 : decode cX12_walksMore 232 = .ok (.getfield 68, 3) := by decide +kernel
theorem dX12_walksMore_235 : decode cX12_walksMore 235 = .ok (.iload_n 1, 1) := by decide +kernel
theorem dX12_walksMore_236 : decode cX12_walksMore 236 = .ok (.iaload, 1) := by decide +kernel
theorem dX12_walksMore_237 : decode cX12_walksMore 237 = .ok (.iconst (-1), 1) := by decide +kernel
theorem dX12_walksMore_238 : decode cX12_walksMore 238 = .ok (.if_icmp .ne 5, 3) := by decide +kernel
theorem dX12_walksMore_241 : decode cX12_walksMore 241 = .ok (.iconst 0, 1) := by decide +kernel
theorem dX12_walksMore_242 : decode cX12_walksMore 242 = .ok (.ireturn, 1) := by decide +kernel
theorem dX12_walksMore_243 : decode cX12_walksMore 243 = .ok (.iload_n 1, 1) := by decide +kernel
theorem dX12_walksMore_244 : decode cX12_walksMore 244 = .ok (.istore_n 3, 1) := by decide +kernel
theorem dX12_walksMore_245 : decode cX12_walksMore 245 = .ok (.aload_n 0, 1) := by decide +kernel
theorem dX12_walksMore_246 : decode cX12_walksMore 246 = .ok (.getfield 68, 3) := by decide +kernel
theorem dX12_walksMore_249 : decode cX12_walksMore 249 = .ok (.iload_n 3, 1) := by decide +kernel
theorem dX12_walksMore_250 : decode cX12_walksMore 250 = .ok (.iaload, 1) := by decide +kernel
theorem dX12_walksMore_251 : decode cX12_walksMore 251 = .ok (.bipush 10, 2) := by decide +kernel
theorem dX12_walksMore_253 : decode cX12_walksMore 253 = .ok (.if_icmp .eq 95, 3) := by decide +kernel
theorem dX12_walksMore_256 : decode cX12_walksMore 256 = .ok (.aload_n 0, 1) := by decide +kernel
theorem dX12_walksMore_257 : decode cX12_walksMore 257 = .ok (.getfield 68, 3) := by decide +kernel
theorem dX12_walksMore_260 : decode cX12_walksMore 260 = .ok (.iload_n 3, 1) := by decide +kernel
theorem dX12_walksMore_261 : decode cX12_walksMore 261 = .ok (.iaload, 1) := by decide +kernel
theorem dX12_walksMore_262 : decode cX12_walksMore 262 = .ok (.istore 4, 2) := by decide +kernel
theorem dX12_walksMore_264 : decode cX12_walksMore 264 = .ok (.aload_n 0, 1) := by decide +kernel
theorem dX12_walksMore_265 : decode cX12_walksMore 265 = .ok (.getfield 358, 3) := by decide +kernel
theorem dX12_walksMore_268 : decode cX12_walksMore 268 = .ok (.getfield 307, 3) := by decide +kernel
theorem dX12_walksMore_271 : decode cX12_walksMore 271 = .ok (.iload 4, 2) := by decide +kernel
theorem dX12_walksMore_273 : decode cX12_walksMore 273 = .ok (.iaload, 1) := by decide +kernel
theorem dX12_walksMore_274 : decode cX12_walksMore 274 = .ok (.iload_n 3, 1) := by decide +kernel
theorem dX12_walksMore_275 : decode cX12_walksMore 275 = .ok (.if_icmp .ne 7, 3) := by decide +kernel
theorem dX12_walksMore_278 : decode cX12_walksMore 278 = .ok (.iconst 1, 1) := by decide +kernel
theorem dX12_walksMore_279 : decode cX12_walksMore 279 = .ok (.goto 4, 3) := by decide +kernel
theorem dX12_walksMore_282 : decode cX12_walksMore 282 = .ok (.iconst 0, 1) := by decide +kernel
theorem dX12_walksMore_283 : decode cX12_walksMore 283 = .ok (.istore 5, 2) := by decide +kernel
theorem dX12_walksMore_285 : decode cX12_walksMore 285 = .ok (.aload_n 0, 1) := by decide +kernel
theorem dX12_walksMore_286 : decode cX12_walksMore 286 = .ok (.getfield 65, 3) := by decide +kernel
theorem dX12_walksMore_289 : decode cX12_walksMore 289 = .ok (.iload 4, 2) := by decide +kernel
theorem dX12_walksMore_291 : decode cX12_walksMore 291 = .ok (.aload_n 0, 1) := by decide +kernel
theorem dX12_walksMore_292 : decode cX12_walksMore 292 = .ok (.getfield 65, 3) := by decide +kernel
theorem dX12_walksMore_295 : decode cX12_walksMore 295 = .ok (.iload 4, 2) := by decide +kernel
theorem dX12_walksMore_297 : decode cX12_walksMore 297 = .ok (.iaload, 1) := by decide +kernel
theorem dX12_walksMore_298 : decode cX12_walksMore 298 = .ok (.ifCond .eq 7, 3) := by decide +kernel
theorem dX12_walksMore_301 : decode cX12_walksMore 301 = .ok (.iconst 0, 1) := by decide +kernel
theorem dX12_walksMore_302 : decode cX12_walksMore 302 = .ok (.goto 13, 3) := by decide +kernel
theorem dX12_walksMore_305 : decode cX12_walksMore 305 = .ok (.iload 5, 2) := by decide +kernel
theorem dX12_walksMore_307 : decode cX12_walksMore 307 = .ok (.ifCond .eq 7, 3) := by decide +kernel
theorem dX12_walksMore_310 : decode cX12_walksMore 310 = .ok (.iconst 1, 1) := by decide +kernel
theorem dX12_walksMore_311 : decode cX12_walksMore 311 = .ok (.goto 4, 3) := by decide +kernel
theorem dX12_walksMore_314 : decode cX12_walksMore 314 = .ok (.iconst 2, 1) := by decide +kernel
theorem dX12_walksMore_315 : decode cX12_walksMore 315 = .ok (.iastore, 1) := by decide +kernel
theorem dX12_walksMore_316 : decode cX12_walksMore 316 = .ok (.iload 5, 2) := by decide +kernel
theorem dX12_walksMore_318 : decode cX12_walksMore 318 = .ok (.ifCond .eq 16, 3) := by decide +kernel
theorem dX12_walksMore_321 : decode cX12_walksMore 321 = .ok (.aload_n 0, 1) := by decide +kernel
theorem dX12_walksMore_322 : decode cX12_walksMore 322 = .ok (.getfield 358, 3) := by decide +kernel
theorem dX12_walksMore_325 : decode cX12_walksMore 325 = .ok (.getfield 304, 3) := by decide +kernel
theorem dX12_walksMore_328 : decode cX12_walksMore 328 = .ok (.iload 4, 2) := by decide +kernel
theorem dX12_walksMore_330 : decode cX12_walksMore 330 = .ok (.iaload, 1) := by decide +kernel
theorem dX12_walksMore_331 : decode cX12_walksMore 331 = .ok (.goto 13, 3) := by decide +kernel
theorem dX12_walksMore_334 : decode cX12_walksMore 334 = .ok (.aload_n 0, 1) := by decide +kernel
theorem dX12_walksMore_335 : decode cX12_walksMore 335 = .ok (.getfield 358, 3) := by decide +kernel
theorem dX12_walksMore_338 : decode cX12_walksMore 338 = .ok (.getfield 307, 3) := by decide +kernel
theorem dX12_walksMore_341 : decode cX12_walksMore 341 = .ok (.iload 4, 2) := by decide +kernel
theorem dX12_walksMore_343 : decode cX12_walksMore 343 = .ok (.iaload, 1) := by decide +kernel
theorem dX12_walksMore_344 : decode cX12_walksMore 344 = .ok (.istore_n 3, 1) := by decide +kernel
theorem dX12_walksMore_345 : decode cX12_walksMore 345 = .ok (.goto (-100), 3) := by decide +kernel
theorem dX12_walksMore_348 : decode cX12_walksMore 348 = .ok (.iconst 1, 1) := by decide +kernel
theorem dX12_walksMore_349 : decode cX12_walksMore 349 = .ok (.ireturn, 1) := by decide +kernel
theorem dX12_walks_0 : decode cX12_walks 0 = .ok (.aload_n 0, 1) := by decide +kernel
theorem dX12_walks_1 : decode cX12_walks 1 = .ok (.iconst 0, 1) := by decide +kernel
theorem dX12_walks_2 : decode cX12_walks 2 = .ok (.putfield 71, 3) := by decide +kernel
theorem dX12_walks_5 : decode cX12_walks 5 = .ok (.aload_n 0, 1) := by decide +kernel
theorem dX12_walks_6 : decode cX12_walks 6 = .ok (.iload_n 1, 1) := by decide +kernel
theorem dX12_walks_7 : decode cX12_walks 7 = .ok (.invokevirtual 379, 3) := by decide +kernel
theorem dX12_walks_10 : decode cX12_walks 10 = .ok (.ifCond .ne 9, 3) := by decide +kernel
theorem dX12_walks_13 : decode cX12_walks 13 = .ok (.aload_n 0, 1) := by decide +kernel
theorem dX12_walks_14 : decode cX12_walks 14 = .ok (.iconst 1, 1) := by decide +kernel
theorem dX12_walks_15 : decode cX12_walks 15 = .ok (.invokevirtual 77, 3) := by decide +kernel
theorem dX12_walks_18 : decode cX12_walks 18 = .ok (.ireturn, 1) := by decide +kernel
theorem dX12_walks_19 : decode cX12_walks 19 = .ok (.aload_n 0, 1) := by decide +kernel
theorem dX12_walks_20 : decode cX12_walks 20 = .ok (.iload_n 1, 1) := by decide +kernel
theorem dX12_walks_21 : decode cX12_walks 21 = .ok (.invokevirtual 486, 3) := by decide +kernel
theorem dX12_walks_24 : decode cX12_walks 24 = .ok (.ifCond .eq 10, 3) := by decide +kernel
theorem dX12_walks_27 : decode cX12_walks 27 = .ok (.aload_n 0, 1) := by decide +kernel
theorem dX12_walks_28 : decode cX12_walks 28 = .ok (.bipush (-2), 2) := by decide +kernel
theorem dX12_walks_30 : decode cX12_walks 30 = .ok (.invokevirtual 81, 3) := by decide +kernel
theorem dX12_walks_33 : decode cX12_walks 33 = .ok (.ireturn, 1) := by decide +kernel
theorem dX12_walks_34 : decode cX12_walks 34 = .ok (.iconst 0, 1) := by decide +kernel
theorem dX12_walks_35 : decode cX12_walks 35 = .ok (.istore_n 2, 1) := by decide +kernel
theorem dX12_walks_36 : decode cX12_walks 36 = .ok (.iload_n 2, 1) := by decide +kernel
theorem dX12_walks_37 : decode cX12_walks 37 = .ok (.bipush 10, 2) := by decide +kernel
theorem dX12_walks_39 : decode cX12_walks 39 = .ok (.if_icmp .ge 16, 3) := by decide +kernel
theorem dX12_walks_42 : decode cX12_walks 42 = .ok (.aload_n 0, 1) := by decide +kernel
theorem dX12_walks_43 : decode cX12_walks 43 = .ok (.getfield 65, 3) := by decide +kernel
theorem dX12_walks_46 : decode cX12_walks 46 = .ok (.iload_n 2, 1) := by decide +kernel
theorem dX12_walks_47 : decode cX12_walks 47 = .ok (.iconst 0, 1) := by decide +kernel
theorem dX12_walks_48 : decode cX12_walks 48 = .ok (.iastore, 1) := by decide +kernel
theorem dX12_walks_49 : decode cX12_walks 49 = .ok (.iinc 2 1, 3) := by decide +kernel
theorem dX12_walks_52 : decode cX12_walks 52 = .ok (.goto (-16), 3) := by decide +kernel
theorem dX12_walks_55 : decode cX12_walks 55 = .ok (.iconst 0, 1) := by decide +kernel
theorem dX12_walks_56 : decode cX12_walks 56 = .ok (.istore_n 2, 1) := by decide +kernel
theorem dX12_walks_57 : decode cX12_walks 57 = .ok (.aload_n 0, 1) := by decide +kernel
theorem dX12_walks_58 : decode cX12_walks 58 = .ok (.iload_n 1, 1) := by decide +kernel
theorem dX12_walks_59 : decode cX12_walks 59 = .ok (.invokevirtual 498, 3) := by decide +kernel
theorem dX12_walks_62 : decode cX12_walks 62 = .ok (.ifCond .eq 9, 3) := by decide +kernel
theorem dX12_walks_65 : decode cX12_walks 65 = .ok (.iinc 2 1, 3) := by decide +kernel
theorem dX12_walks_68 : decode cX12_walks 68 = .ok (.goto (-11), 3) := by decide +kernel
theorem dX12_walks_71 : decode cX12_walks 71 = .ok (.aload_n 0, 1) := by decide +kernel
theorem dX12_walks_72 : decode cX12_walks 72 = .ok (.iload_n 2, 1) := by decide +kernel
theorem dX12_walks_73 : decode cX12_walks 73 = .ok (.invokevirtual 81, 3) := by decide +kernel
theorem dX12_walks_76 : decode cX12_walks 76 = .ok (.ireturn, 1) := by decide +kernel
theorem dX12_led_0 : decode cX12_led 0 = .ok (.aload_n 0, 1) := by decide +kernel
theorem dX12_led_1 : decode cX12_led 1 = .ok (.iconst 0, 1) := by decide +kernel
theorem dX12_led_2 : decode cX12_led 2 = .ok (.putfield 71, 3) := by decide +kernel
theorem dX12_led_5 : decode cX12_led 5 = .ok (.iconst 0, 1) := by decide +kernel
theorem dX12_led_6 : decode cX12_led 6 = .ok (.istore_n 2, 1) := by decide +kernel
theorem dX12_led_7 : decode cX12_led 7 = .ok (.iconst 0, 1) := by decide +kernel
theorem dX12_led_8 : decode cX12_led 8 = .ok (.istore_n 3, 1) := by decide +kernel
theorem dX12_led_9 : decode cX12_led 9 = .ok (.aload_n 0, 1) := by decide +kernel
theorem dX12_led_10 : decode cX12_led 10 = .ok (.getfield 358, 3) := by decide +kernel
theorem dX12_led_13 : decode cX12_led 13 = .ok (.ifnull 53, 3) := by decide +kernel
theorem dX12_led_16 : decode cX12_led 16 = .ok (.iload_n 3, 1) := by decide +kernel
theorem dX12_led_17 : decode cX12_led 17 = .ok (.aload_n 0, 1) := by decide +kernel
theorem dX12_led_18 : decode cX12_led 18 = .ok (.getfield 358, 3) := by decide +kernel
theorem dX12_led_21 : decode cX12_led 21 = .ok (.getfield 247, 3) := by decide +kernel
theorem dX12_led_24 : decode cX12_led 24 = .ok (.if_icmp .ge 42, 3) := by decide +kernel
theorem dX12_led_27 : decode cX12_led 27 = .ok (.aload_n 0, 1) := by decide +kernel
theorem dX12_led_28 : decode cX12_led 28 = .ok (.getfield 36, 3) := by decide +kernel
theorem dX12_led_31 : decode cX12_led 31 = .ok (.iconst 0, 1) := by decide +kernel
theorem dX12_led_32 : decode cX12_led 32 = .ok (.iload_n 3, 1) := by decide +kernel
theorem dX12_led_33 : decode cX12_led 33 = .ok (.iadd, 1) := by decide +kernel
theorem dX12_led_34 : decode cX12_led 34 = .ok (.iaload, 1) := by decide +kernel
theorem dX12_led_35 : decode cX12_led 35 = .ok (.aload_n 0, 1) := by decide +kernel
theorem dX12_led_36 : decode cX12_led 36 = .ok (.getfield 358, 3) := by decide +kernel
theorem dX12_led_39 : decode cX12_led 39 = .ok (.getfield 342, 3) := by decide +kernel
theorem dX12_led_42 : decode cX12_led 42 = .ok (.iload_n 3, 1) := by decide +kernel
theorem dX12_led_43 : decode cX12_led 43 = .ok (.iaload, 1) := by decide +kernel
theorem dX12_led_44 : decode cX12_led 44 = .ok (.if_icmp .ne 6, 3) := by decide +kernel
theorem dX12_led_47 : decode cX12_led 47 = .ok (.goto 13, 3) := by decide +kernel
theorem dX12_led_50 : decode cX12_led 50 = .ok (.iload_n 2, 1) := by decide +kernel
theorem dX12_led_51 : decode cX12_led 51 = .ok (.iload_n 1, 1) := by decide +kernel
theorem dX12_led_52 : decode cX12_led 52 = .ok (.if_icmp .ne 5, 3) := by decide +kernel
theorem dX12_led_55 : decode cX12_led 55 = .ok (.iload_n 3, 1) := by decide +kernel
theorem dX12_led_56 : decode cX12_led 56 = .ok (.ireturn, 1) := by decide +kernel
theorem dX12_led_57 : decode cX12_led 57 = .ok (.iinc 2 1, 3) := by decide +kernel
theorem dX12_led_60 : decode cX12_led 60 = .ok (.iinc 3 1, 3) := by decide +kernel
theorem dX12_led_63 : decode cX12_led 63 = .ok (.goto (-54), 3) := by decide +kernel
theorem dX12_led_66 : decode cX12_led 66 = .ok (.aload_n 0, 1) := by decide +kernel
theorem dX12_led_67 : decode cX12_led 67 = .ok (.iconst 1, 1) := by decide +kernel
theorem dX12_led_68 : decode cX12_led 68 = .ok (.putfield 71, 3) := by decide +kernel
theorem dX12_led_71 : decode cX12_led 71 = .ok (.iconst 0, 1) := by decide +kernel
theorem dX12_led_72 : decode cX12_led 72 = .ok (.ireturn, 1) := by decide +kernel
theorem dX12_size_0 : decode cX12_size 0 = .ok (.aload_n 0, 1) := by decide +kernel
theorem dX12_size_1 : decode cX12_size 1 = .ok (.iconst 0, 1) := by decide +kernel
theorem dX12_size_2 : decode cX12_size 2 = .ok (.putfield 71, 3) := by decide +kernel
theorem dX12_size_5 : decode cX12_size 5 = .ok (.iload_n 1, 1) := by decide +kernel
theorem dX12_size_6 : decode cX12_size 6 = .ok (.bipush 11, 2) := by decide +kernel
theorem dX12_size_8 : decode cX12_size 8 = .ok (.if_icmp .ne 8, 3) := by decide +kernel
theorem dX12_size_11 : decode cX12_size 11 = .ok (.aload_n 0, 1) := by decide +kernel
theorem dX12_size_12 : decode cX12_size 12 = .ok (.getfield 351, 3) := by decide +kernel
theorem dX12_size_15 : decode cX12_size 15 = .ok (.ireturn, 1) := by decide +kernel
theorem dX12_size_16 : decode cX12_size 16 = .ok (.iload_n 1, 1) := by decide +kernel
theorem dX12_size_17 : decode cX12_size 17 = .ok (.iconst 0, 1) := by decide +kernel
theorem dX12_size_18 : decode cX12_size 18 = .ok (.bipush 10, 2) := by decide +kernel
theorem dX12_size_20 : decode cX12_size 20 = .ok (.invokestatic 149, 3) := by decide +kernel
theorem dX12_size_23 : decode cX12_size 23 = .ok (.ifCond .ne 5, 3) := by decide +kernel
theorem dX12_size_26 : decode cX12_size 26 = .ok (.iconst (-1), 1) := by decide +kernel
theorem dX12_size_27 : decode cX12_size 27 = .ok (.ireturn, 1) := by decide +kernel
theorem dX12_size_28 : decode cX12_size 28 = .ok (.aload_n 0, 1) := by decide +kernel
theorem dX12_size_29 : decode cX12_size 29 = .ok (.getfield 358, 3) := by decide +kernel
theorem dX12_size_32 : decode cX12_size 32 = .ok (.ifnonnull 5, 3) := by decide +kernel
theorem dX12_size_37 : decode cX12_size 37 = .ok (.iload_n 1, 1) := by decide +kernel
theorem dX12_size_38 : decode cX12_size 38 = .ok (.tableswitch 128 0 9 #[54, 62, 70, 78, 86, 94, 102, 110, 118, 123], 54) := by decide +kernel
theorem dX12_size_92 : decode cX12_size 92 = .ok (.aload_n 0, 1) := by decide +kernel
theorem dX12_size_93 : decode cX12_size 93 = .ok (.getfield 358, 3) := by decide +kernel
theorem dX12_size_96 : decode cX12_size 96 = .ok (.getfield 244, 3) := by decide +kernel
theorem dX12_size_99 : decode cX12_size 99 = .ok (.ireturn, 1) := by decide +kernel
theorem dX12_size_100 : decode cX12_size 100 = .ok (.aload_n 0, 1) := by decide +kernel
theorem dX12_size_101 : decode cX12_size 101 = .ok (.getfield 358, 3) := by decide +kernel
theorem dX12_size_104 : decode cX12_size 104 = .ok (.getfield 292, 3) := by decide +kernel
theorem dX12_size_107 : decode cX12_size 107 = .ok (.ireturn, 1) := by decide +kernel
theorem dX12_size_108 : decode cX12_size 108 = .ok (.aload_n 0, 1) := by decide +kernel
theorem dX12_size_109 : decode cX12_size 109 = .ok (.getfield 358, 3) := by decide +kernel
theorem dX12_size_112 : decode cX12_size 112 = .ok (.getfield 315, 3) := by decide +kernel
theorem dX12_size_115 : decode cX12_size 115 = .ok (.ireturn, 1) := by decide +kernel
theorem dX12_size_116 : decode cX12_size 116 = .ok (.aload_n 0, 1) := by decide +kernel
theorem dX12_size_117 : decode cX12_size 117 = .ok (.getfield 358, 3) := by decide +kernel
theorem dX12_size_120 : decode cX12_size 120 = .ok (.getfield 325, 3) := by decide +kernel
theorem dX12_size_123 : decode cX12_size 123 = .ok (.ireturn, 1) := by decide +kernel
theorem dX12_size_124 : decode cX12_size 124 = .ok (.aload_n 0, 1) := by decide +kernel
theorem dX12_size_125 : decode cX12_size 125 = .ok (.getfield 358, 3) := by decide +kernel
theorem dX12_size_128 : decode cX12_size 128 = .ok (.getfield 247, 3) := by decide +kernel
theorem dX12_size_131 : decode cX12_size 131 = .ok (.ireturn, 1) := by decide +kernel
theorem dX12_size_132 : decode cX12_size 132 = .ok (.aload_n 0, 1) := by decide +kernel
theorem dX12_size_133 : decode cX12_size 133 = .ok (.getfield 358, 3) := by decide +kernel
theorem dX12_size_136 : decode cX12_size 136 = .ok (.getfield 346, 3) := by decide +kernel
theorem dX12_size_139 : decode cX12_size 139 = .ok (.ireturn, 1) := by decide +kernel
theorem dX12_size_140 : decode cX12_size 140 = .ok (.aload_n 0, 1) := by decide +kernel
theorem dX12_size_141 : decode cX12_size 141 = .ok (.getfield 358, 3) := by decide +kernel
theorem dX12_size_144 : decode cX12_size 144 = .ok (.getfield 241, 3) := by decide +kernel
theorem dX12_size_147 : decode cX12_size 147 = .ok (.ireturn, 1) := by decide +kernel
theorem dX12_size_148 : decode cX12_size 148 = .ok (.aload_n 0, 1) := by decide +kernel
theorem dX12_size_149 : decode cX12_size 149 = .ok (.getfield 36, 3) := by decide +kernel
theorem dX12_size_152 : decode cX12_size 152 = .ok (.bipush 49, 2) := by decide +kernel
theorem dX12_size_154 : decode cX12_size 154 = .ok (.iaload, 1) := by decide +kernel
theorem dX12_size_155 : decode cX12_size 155 = .ok (.ireturn, 1) := by decide +kernel
theorem dX12_size_156 : decode cX12_size 156 = .ok (.aload_n 0, 1) := by decide +kernel
theorem dX12_size_157 : decode cX12_size 157 = .ok (.getfield 360, 3) := by decide +kernel
theorem dX12_size_160 : decode cX12_size 160 = .ok (.ireturn, 1) := by decide +kernel
theorem dX12_size_161 : decode cX12_size 161 = .ok (.aload_n 0, 1) := by decide +kernel
theorem dX12_size_162 : decode cX12_size 162 = .ok (.getfield 363, 3) := by decide +kernel
theorem dX12_size_165 : decode cX12_size 165 = .ok (.ireturn, 1) := by decide +kernel
theorem dX12_size_166 : decode cX12_size 166 = .ok (.aload_n 0, 1) := by decide +kernel
theorem dX12_size_167 : decode cX12_size 167 = .ok (.getfield 36, 3) := by decide +kernel
theorem dX12_size_170 : decode cX12_size 170 = .ok (.bipush 50, 2) := by decide +kernel
theorem dX12_size_172 : decode cX12_size 172 = .ok (.iaload, 1) := by decide +kernel
theorem dX12_size_173 : decode cX12_size 173 = .ok (.ireturn, 1) := by decide +kernel
theorem dX12_size_35 : decode cX12_size 35 = .ok (.iconst 0, 1) := by decide +kernel
theorem dX12_size_36 : decode cX12_size 36 = .ok (.ireturn, 1) := by decide +kernel
theorem dX12_trouble_0 : decode cX12_trouble 0 = .ok (.aload_n 0, 1) := by decide +kernel
theorem dX12_trouble_1 : decode cX12_trouble 1 = .ok (.iconst 0, 1) := by decide +kernel
theorem dX12_trouble_2 : decode cX12_trouble 2 = .ok (.putfield 71, 3) := by decide +kernel
theorem dX12_trouble_5 : decode cX12_trouble 5 = .ok (.aload_n 0, 1) := by decide +kernel
theorem dX12_trouble_6 : decode cX12_trouble 6 = .ok (.getfield 74, 3) := by decide +kernel
theorem dX12_trouble_9 : decode cX12_trouble 9 = .ok (.ireturn, 1) := by decide +kernel
def wX12_safe (E : EN) (h h_inn h_tape h_far h_from h_real h_other h_kept h_set h_w h_book h_noteSort h_whose h_what h_noteIs h_fitting h_dawn h_likes h_walked h_came h_inn_creak h_inn_doorA h_inn_doorB h_inn_how h_inn_lies h_inn_isCold h_inn_falls h_inn_isFull h_inn_isTold h_inn_act h_inn_what h_inn_then h_inn_met h_inn_bed h_inn_dream h_inn_listens h_inn_name h_inn_nameSort h_inn_nameNumber : Nat) (v_thrown : Int32) (v_trouble : Int32) (v_where : Int32) (v_read : Option Nat) (v_taped : Int32) (v_size : Int32) (v_at : Int32) (v_sort : Int32) (v_place : Int32) (v_sign : Int32) (v_number : Int32) (v_fault : Int32) (v_wrongAt : Int32) (v_word : Int64) (v_marks : Int32) (v_notes : Int32) (v_inn_minutes : Int32) (v_inn_rooms : Int32) (v_inn_doors : Int32) (v_inn_things : Int32) (v_inn_dreams : Int32) (v_inn_sleepers : Int32) (v_inn_listeners : Int32) (v_inn_names : Int32) (v_inn_bed : Nat → Int32) (v_inn_how : Nat → Int32) (v_inn_doorA : Nat → Int32) (v_from : Nat → Int32) (v_inn_doorB : Nat → Int32) : va_W := [(h, .inr (11, [.int v_thrown, .int v_trouble, .int v_where, .ref h_inn, va_rf v_read, .ref h_tape, .int v_taped, .int v_size, .int v_at, .int v_sort, .int v_place, .int v_sign, .int v_number, .int v_fault, .int v_wrongAt, .long v_word, .ref h_far, .ref h_from, .ref h_real, .ref h_other, .ref h_kept, .ref h_set, .ref h_w, .int v_marks, .int v_notes, .ref h_book, .ref h_noteSort, .ref h_whose, .ref h_what, .ref h_noteIs, .ref h_fitting, .ref h_dawn, .ref h_likes, .ref h_walked, .ref h_came])), (h_inn, .inr (10, [.int v_inn_minutes, .int v_inn_rooms, .int v_inn_doors, .int v_inn_things, .int v_inn_dreams, .int v_inn_sleepers, .int v_inn_listeners, .int v_inn_names, .ref h_inn_creak, .ref h_inn_doorA, .ref h_inn_doorB, .ref h_inn_how, .ref h_inn_lies, .ref h_inn_isCold, .ref h_inn_falls, .ref h_inn_isFull, .ref h_inn_isTold, .ref h_inn_act, .ref h_inn_what, .ref h_inn_then, .ref h_inn_met, .ref h_inn_bed, .ref h_inn_dream, .ref h_inn_listens, .ref h_inn_name, .ref h_inn_nameSort, .ref h_inn_nameNumber])), (h_inn_bed, aI E 3 v_inn_bed), (h_inn_how, aI E 10 v_inn_how), (h_inn_doorA, aI E 10 v_inn_doorA), (h_from, aI E 8 v_from), (h_inn_doorB, aI E 10 v_inn_doorB)]
def fX12_safe (N : Nat) (p0 : Int32) (v_inn_rooms : Int32) (v_inn_doors : Int32) (v_inn_sleepers : Int32) (v_inn_bed : Nat → Int32) (v_inn_how : Nat → Int32) (v_inn_doorA : Nat → Int32) (v_from : Nat → Int32) (v_inn_doorB : Nat → Int32) : Option (Int32 × Int32 × Int32 × Int32 × (Nat → Int32)) := (fX12_isRoom N p0 v_inn_rooms).bind (un1 fun (r_7 : Int32) => if r_7 = 0 then ((fX12_refused N 1).bind (un3 fun (r_15 : Int32) (v_trouble_15 : Int32) (v_where_15 : Int32) => some (r_15, 0, v_trouble_15, v_where_15, v_from))) else ((fX12_safest N p0 v_inn_rooms v_inn_doors v_inn_sleepers v_inn_bed v_inn_how v_inn_doorA v_from v_inn_doorB).bind (un2 fun (r_21 : Int32) (v_from_21 : Nat → Int32) => if r_21 = (-2) then ((fX12_good N (-2)).bind (un3 fun (r_41 : Int32) (v_trouble_41 : Int32) (v_where_41 : Int32) => some (r_41, 0, v_trouble_41, v_where_41, v_from_21))) else ((fX12_bits N r_21).bind (un1 fun (r_38 : Int32) => (fX12_good N r_38).bind (un3 fun (r_41 : Int32) (v_trouble_41 : Int32) (v_where_41 : Int32) => some (r_41, 0, v_trouble_41, v_where_41, v_from_21)))))))
set_option maxHeartbeats 4000000 in
set_option maxRecDepth 100000 in
theorem ctX12_safe (l : Launch) (E : EN) (h h_inn h_tape h_far h_from h_real h_other h_kept h_set h_w h_book h_noteSort h_whose h_what h_noteIs h_fitting h_dawn h_likes h_walked h_came h_inn_creak h_inn_doorA h_inn_doorB h_inn_how h_inn_lies h_inn_isCold h_inn_falls h_inn_isFull h_inn_isTold h_inn_act h_inn_what h_inn_then h_inn_met h_inn_bed h_inn_dream h_inn_listens h_inn_name h_inn_nameSort h_inn_nameNumber : Nat) (v_thrown : Int32) (v_trouble : Int32) (v_where : Int32) (v_read : Option Nat) (v_taped : Int32) (v_size : Int32) (v_at : Int32) (v_sort : Int32) (v_place : Int32) (v_sign : Int32) (v_number : Int32) (v_fault : Int32) (v_wrongAt : Int32) (v_word : Int64) (v_marks : Int32) (v_notes : Int32) (v_inn_minutes : Int32) (v_inn_rooms : Int32) (v_inn_doors : Int32) (v_inn_things : Int32) (v_inn_dreams : Int32) (v_inn_sleepers : Int32) (v_inn_listeners : Int32) (v_inn_names : Int32) (v_inn_bed : Nat → Int32) (v_inn_how : Nat → Int32) (v_inn_doorA : Nat → Int32) (v_from : Nat → Int32) (v_inn_doorB : Nat → Int32) (N : Nat) (p0 : Int32) (z0 : Int32) (z1 : Int32) (z2 : Int32) (z3 : Int32) (z4 : Nat → Int32) (hf : fX12_safe N p0 v_inn_rooms v_inn_doors v_inn_sleepers v_inn_bed v_inn_how v_inn_doorA v_from v_inn_doorB = some (z0, z1, z2, z3, z4)) : CTi l E yX12_safe cX12_safe 3 .int 3 71 [.ref h, .int p0] (wX12_safe E h h_inn h_tape h_far h_from h_real h_other h_kept h_set h_w h_book h_noteSort h_whose h_what h_noteIs h_fitting h_dawn h_likes h_walked h_came h_inn_creak h_inn_doorA h_inn_doorB h_inn_how h_inn_lies h_inn_isCold h_inn_falls h_inn_isFull h_inn_isTold h_inn_act h_inn_what h_inn_then h_inn_met h_inn_bed h_inn_dream h_inn_listens h_inn_name h_inn_nameSort h_inn_nameNumber v_thrown v_trouble v_where v_read v_taped v_size v_at v_sort v_place v_sign v_number v_fault v_wrongAt v_word v_marks v_notes v_inn_minutes v_inn_rooms v_inn_doors v_inn_things v_inn_dreams v_inn_sleepers v_inn_listeners v_inn_names v_inn_bed v_inn_how v_inn_doorA v_from v_inn_doorB) z0 (wX12_safe E h h_inn h_tape h_far h_from h_real h_other h_kept h_set h_w h_book h_noteSort h_whose h_what h_noteIs h_fitting h_dawn h_likes h_walked h_came h_inn_creak h_inn_doorA h_inn_doorB h_inn_how h_inn_lies h_inn_isCold h_inn_falls h_inn_isFull h_inn_isTold h_inn_act h_inn_what h_inn_then h_inn_met h_inn_bed h_inn_dream h_inn_listens h_inn_name h_inn_nameSort h_inn_nameNumber z1 z2 z3 v_read v_taped v_size v_at v_sort v_place v_sign v_number v_fault v_wrongAt v_word v_marks v_notes v_inn_minutes v_inn_rooms v_inn_doors v_inn_things v_inn_dreams v_inn_sleepers v_inn_listeners v_inn_names v_inn_bed v_inn_how v_inn_doorA z4 v_inn_doorB) := by
  intro sz
  refine ct_body (by decide) (Nat.le_of_ble_eq_true rfl) ?_
  intro p e s m args below meth c A ls hAe C hr hin hP hD hS hl
  have C : CX p s m args meth c cX12_safe RX12 3 E A := C
  have hl : lv_has ls 3 [(0, .ref h), (1, .int p0)] := hl
  have hx := C.1
  have hb := C.2.1
  rw [hAe]
  clear hAe
  obtain ⟨Q, hQ⟩ : ∃ Q, Q = MQ below (Qi E A z0 (wX12_safe E h h_inn h_tape h_far h_from h_real h_other h_kept h_set h_w h_book h_noteSort h_whose h_what h_noteIs h_fitting h_dawn h_likes h_walked h_came h_inn_creak h_inn_doorA h_inn_doorB h_inn_how h_inn_lies h_inn_isCold h_inn_falls h_inn_isFull h_inn_isTold h_inn_act h_inn_what h_inn_then h_inn_met h_inn_bed h_inn_dream h_inn_listens h_inn_name h_inn_nameSort h_inn_nameNumber z1 z2 z3 v_read v_taped v_size v_at v_sort v_place v_sign v_number v_fault v_wrongAt v_word v_marks v_notes v_inn_minutes v_inn_rooms v_inn_doors v_inn_things v_inn_dreams v_inn_sleepers v_inn_listeners v_inn_names v_inn_bed v_inn_how v_inn_doorA z4 v_inn_doorB)) args s 0 0 A := ⟨_, rfl⟩
  rw [← hQ]
  unfold fX12_safe at hf
  refine lv_aload_n hx hb dX12_safe_0 rfl (lv_at hl 0 rfl) ?_
  refine lv_iconst (v := 0) hx hb dX12_safe_1 (by decide) ?_
  refine r_put (ws' := (wX12_safe E h h_inn h_tape h_far h_from h_real h_other h_kept h_set h_w h_book h_noteSort h_whose h_what h_noteIs h_fitting h_dawn h_likes h_walked h_came h_inn_creak h_inn_doorA h_inn_doorB h_inn_how h_inn_lies h_inn_isCold h_inn_falls h_inn_isFull h_inn_isTold h_inn_act h_inn_what h_inn_then h_inn_met h_inn_bed h_inn_dream h_inn_listens h_inn_name h_inn_nameSort h_inn_nameNumber 0 v_trouble v_where v_read v_taped v_size v_at v_sort v_place v_sign v_number v_fault v_wrongAt v_word v_marks v_notes v_inn_minutes v_inn_rooms v_inn_doors v_inn_things v_inn_dreams v_inn_sleepers v_inn_listeners v_inn_names v_inn_bed v_inn_how v_inn_doorA v_from v_inn_doorB)) C hP hD hS 0 rfl fl_X12_71 rfl rfl (by decide) rfl dX12_safe_2 ?_
  clear hP hD hS; intro H locs hP hD hS
  refine lv_aload_n hx hb dX12_safe_5 rfl (lv_at hl 0 rfl) ?_
  refine lv_iload_n hx hb dX12_safe_6 rfl (lv_at hl 1 rfl) ?_
  obtain ⟨r_7, hc_7, hf⟩ := bd1 hf
  refine r_callVi (ws' := (wX12_safe E h h_inn h_tape h_far h_from h_real h_other h_kept h_set h_w h_book h_noteSort h_whose h_what h_noteIs h_fitting h_dawn h_likes h_walked h_came h_inn_creak h_inn_doorA h_inn_doorB h_inn_how h_inn_lies h_inn_isCold h_inn_falls h_inn_isFull h_inn_isTold h_inn_act h_inn_what h_inn_then h_inn_met h_inn_bed h_inn_dream h_inn_listens h_inn_name h_inn_nameSort h_inn_nameNumber 0 v_trouble v_where v_read v_taped v_size v_at v_sort v_place v_sign v_number v_fault v_wrongAt v_word v_marks v_notes v_inn_minutes v_inn_rooms v_inn_doors v_inn_things v_inn_dreams v_inn_sleepers v_inn_listeners v_inn_names v_inn_bed v_inn_how v_inn_doorA v_from v_inn_doorB)) (As := [.int p0]) (rest := []) C (ctX12_isRoom l E h h_inn h_tape h_far h_from h_real h_other h_kept h_set h_w h_book h_noteSort h_whose h_what h_noteIs h_fitting h_dawn h_likes h_walked h_came h_inn_creak h_inn_doorA h_inn_doorB h_inn_how h_inn_lies h_inn_isCold h_inn_falls h_inn_isFull h_inn_isTold h_inn_act h_inn_what h_inn_then h_inn_met h_inn_bed h_inn_dream h_inn_listens h_inn_name h_inn_nameSort h_inn_nameNumber 0 v_trouble v_where v_read v_taped v_size v_at v_sort v_place v_sign v_number v_fault v_wrongAt v_word v_marks v_notes v_inn_minutes v_inn_rooms v_inn_doors v_inn_things v_inn_dreams v_inn_sleepers v_inn_listeners v_inn_names N p0 r_7 hc_7) ml_X12_379 ⟨Nat.le_of_ble_eq_true rfl, Nat.le_of_ble_eq_true rfl⟩ hP hD hS 0 rfl rfl rfl [0, 1] rfl rfl rfl rfl rfl hl.1 rfl (Nat.le_of_ble_eq_true rfl) ⟨Nat.zero_le _, Nat.zero_le _⟩ dX12_safe_7 ?_
  clear hP hD hS; intro H locs hP hD hS
  refine lv_if_ne (tgt := 19) hx hb dX12_safe_10 (by decide) (fun c_10 => ?_) (fun c_10 => ?_)
  · replace hf := it_f c_10 hf
    refine lv_aload_n hx hb dX12_safe_19 rfl (lv_at hl 0 rfl) ?_
    refine lv_iload_n hx hb dX12_safe_20 rfl (lv_at hl 1 rfl) ?_
    obtain ⟨r_21, v_from_21, hc_21, hf⟩ := bd2 hf
    refine r_callVi (ws' := (wX12_safe E h h_inn h_tape h_far h_from h_real h_other h_kept h_set h_w h_book h_noteSort h_whose h_what h_noteIs h_fitting h_dawn h_likes h_walked h_came h_inn_creak h_inn_doorA h_inn_doorB h_inn_how h_inn_lies h_inn_isCold h_inn_falls h_inn_isFull h_inn_isTold h_inn_act h_inn_what h_inn_then h_inn_met h_inn_bed h_inn_dream h_inn_listens h_inn_name h_inn_nameSort h_inn_nameNumber 0 v_trouble v_where v_read v_taped v_size v_at v_sort v_place v_sign v_number v_fault v_wrongAt v_word v_marks v_notes v_inn_minutes v_inn_rooms v_inn_doors v_inn_things v_inn_dreams v_inn_sleepers v_inn_listeners v_inn_names v_inn_bed v_inn_how v_inn_doorA v_from_21 v_inn_doorB)) (As := [.int p0]) (rest := []) C (ctX12_safest l E h h_inn h_tape h_far h_from h_real h_other h_kept h_set h_w h_book h_noteSort h_whose h_what h_noteIs h_fitting h_dawn h_likes h_walked h_came h_inn_creak h_inn_doorA h_inn_doorB h_inn_how h_inn_lies h_inn_isCold h_inn_falls h_inn_isFull h_inn_isTold h_inn_act h_inn_what h_inn_then h_inn_met h_inn_bed h_inn_dream h_inn_listens h_inn_name h_inn_nameSort h_inn_nameNumber 0 v_trouble v_where v_read v_taped v_size v_at v_sort v_place v_sign v_number v_fault v_wrongAt v_word v_marks v_notes v_inn_minutes v_inn_rooms v_inn_doors v_inn_things v_inn_dreams v_inn_sleepers v_inn_listeners v_inn_names v_inn_bed v_inn_how v_inn_doorA v_from v_inn_doorB N p0 r_21 v_from_21 hc_21) ml_X12_495 ⟨Nat.le_of_ble_eq_true rfl, Nat.le_of_ble_eq_true rfl⟩ hP hD hS 0 rfl rfl rfl [0, 1, 2, 3, 4, 5, 6] rfl rfl rfl rfl rfl hl.1 rfl (Nat.le_of_ble_eq_true rfl) ⟨Nat.zero_le _, Nat.zero_le _⟩ dX12_safe_21 ?_
    clear hP hD hS; intro H locs hP hD hS
    refine lv_istore_n (lv' := [(2, .int r_21), (0, .ref h), (1, .int p0)]) hx hb dX12_safe_24 rfl hl (by decide) rfl (fun ls hl => ?_)
    refine lv_aload_n hx hb dX12_safe_25 rfl (lv_at hl 1 rfl) ?_
    refine lv_iload_n hx hb dX12_safe_26 rfl (lv_at hl 0 rfl) ?_
    refine lv_bipush (v := (-2)) hx hb dX12_safe_27 (by decide) ?_
    refine lv_icmp_ne (tgt := 37) hx hb dX12_safe_29 (by decide) (fun c_29 => ?_) (fun c_29 => ?_)
    · replace hf := it_f c_29 hf
      refine lv_iload_n hx hb dX12_safe_37 rfl (lv_at hl 0 rfl) ?_
      obtain ⟨r_38, hc_38, hf⟩ := bd1 hf
      refine r_callSi (ws' := (wX12_safe E h h_inn h_tape h_far h_from h_real h_other h_kept h_set h_w h_book h_noteSort h_whose h_what h_noteIs h_fitting h_dawn h_likes h_walked h_came h_inn_creak h_inn_doorA h_inn_doorB h_inn_how h_inn_lies h_inn_isCold h_inn_falls h_inn_isFull h_inn_isTold h_inn_act h_inn_what h_inn_then h_inn_met h_inn_bed h_inn_dream h_inn_listens h_inn_name h_inn_nameSort h_inn_nameNumber 0 v_trouble v_where v_read v_taped v_size v_at v_sort v_place v_sign v_number v_fault v_wrongAt v_word v_marks v_notes v_inn_minutes v_inn_rooms v_inn_doors v_inn_things v_inn_dreams v_inn_sleepers v_inn_listeners v_inn_names v_inn_bed v_inn_how v_inn_doorA v_from_21 v_inn_doorB)) (As := [.int r_21]) (rest := [.ref h]) C (ctX12_bits l E N r_21 r_38 hc_38) ml_X12_492 ⟨Nat.le_of_ble_eq_true rfl, Nat.le_of_ble_eq_true rfl⟩ hP hD hS [] rfl rfl rfl rfl rfl hl.1 rfl (Nat.le_of_ble_eq_true rfl) ⟨Nat.zero_le _, Nat.zero_le _⟩ dX12_safe_38 ?_
      clear hP hD hS; intro H locs hP hD hS
      obtain ⟨r_41, v_trouble_41, v_where_41, hc_41, hf⟩ := bd3 hf
      refine r_callVi (ws' := (wX12_safe E h h_inn h_tape h_far h_from h_real h_other h_kept h_set h_w h_book h_noteSort h_whose h_what h_noteIs h_fitting h_dawn h_likes h_walked h_came h_inn_creak h_inn_doorA h_inn_doorB h_inn_how h_inn_lies h_inn_isCold h_inn_falls h_inn_isFull h_inn_isTold h_inn_act h_inn_what h_inn_then h_inn_met h_inn_bed h_inn_dream h_inn_listens h_inn_name h_inn_nameSort h_inn_nameNumber 0 v_trouble_41 v_where_41 v_read v_taped v_size v_at v_sort v_place v_sign v_number v_fault v_wrongAt v_word v_marks v_notes v_inn_minutes v_inn_rooms v_inn_doors v_inn_things v_inn_dreams v_inn_sleepers v_inn_listeners v_inn_names v_inn_bed v_inn_how v_inn_doorA v_from_21 v_inn_doorB)) (As := [.int r_38]) (rest := []) C (ctX12_good l E h h_tape h_far h_from h_real h_other h_kept h_set h_w h_book h_noteSort h_whose h_what h_noteIs h_fitting h_dawn h_likes h_walked h_came 0 v_trouble v_where (some h_inn) v_read v_taped v_size v_at v_sort v_place v_sign v_number v_fault v_wrongAt v_word v_marks v_notes N r_38 r_41 v_trouble_41 v_where_41 hc_41) ml_X12_81 ⟨Nat.le_of_ble_eq_true rfl, Nat.le_of_ble_eq_true rfl⟩ hP hD hS 0 rfl rfl rfl [0] rfl rfl rfl rfl rfl hl.1 rfl (Nat.le_of_ble_eq_true rfl) ⟨Nat.zero_le _, Nat.zero_le _⟩ dX12_safe_41 ?_
      clear hP hD hS; intro H locs hP hD hS
      cases hf
      rw [hQ]
      exact r_iret C hr hP hD hS rfl dX12_safe_44
    · replace hf := it_t c_29 hf
      refine lv_bipush (v := (-2)) hx hb dX12_safe_32 (by decide) ?_
      refine lv_goto (tgt := 41) hx hb dX12_safe_34 (by decide) ?_
      obtain ⟨r_41, v_trouble_41, v_where_41, hc_41, hf⟩ := bd3 hf
      refine r_callVi (ws' := (wX12_safe E h h_inn h_tape h_far h_from h_real h_other h_kept h_set h_w h_book h_noteSort h_whose h_what h_noteIs h_fitting h_dawn h_likes h_walked h_came h_inn_creak h_inn_doorA h_inn_doorB h_inn_how h_inn_lies h_inn_isCold h_inn_falls h_inn_isFull h_inn_isTold h_inn_act h_inn_what h_inn_then h_inn_met h_inn_bed h_inn_dream h_inn_listens h_inn_name h_inn_nameSort h_inn_nameNumber 0 v_trouble_41 v_where_41 v_read v_taped v_size v_at v_sort v_place v_sign v_number v_fault v_wrongAt v_word v_marks v_notes v_inn_minutes v_inn_rooms v_inn_doors v_inn_things v_inn_dreams v_inn_sleepers v_inn_listeners v_inn_names v_inn_bed v_inn_how v_inn_doorA v_from_21 v_inn_doorB)) (As := [.int (-2)]) (rest := []) C (ctX12_good l E h h_tape h_far h_from h_real h_other h_kept h_set h_w h_book h_noteSort h_whose h_what h_noteIs h_fitting h_dawn h_likes h_walked h_came 0 v_trouble v_where (some h_inn) v_read v_taped v_size v_at v_sort v_place v_sign v_number v_fault v_wrongAt v_word v_marks v_notes N (-2) r_41 v_trouble_41 v_where_41 hc_41) ml_X12_81 ⟨Nat.le_of_ble_eq_true rfl, Nat.le_of_ble_eq_true rfl⟩ hP hD hS 0 rfl rfl rfl [0] rfl rfl rfl rfl rfl hl.1 rfl (Nat.le_of_ble_eq_true rfl) ⟨Nat.zero_le _, Nat.zero_le _⟩ dX12_safe_41 ?_
      clear hP hD hS; intro H locs hP hD hS
      cases hf
      rw [hQ]
      exact r_iret C hr hP hD hS rfl dX12_safe_44
  · replace hf := it_t c_10 hf
    refine lv_aload_n hx hb dX12_safe_13 rfl (lv_at hl 0 rfl) ?_
    refine lv_iconst (v := 1) hx hb dX12_safe_14 (by decide) ?_
    obtain ⟨r_15, v_trouble_15, v_where_15, hc_15, hf⟩ := bd3 hf
    refine r_callVi (ws' := (wX12_safe E h h_inn h_tape h_far h_from h_real h_other h_kept h_set h_w h_book h_noteSort h_whose h_what h_noteIs h_fitting h_dawn h_likes h_walked h_came h_inn_creak h_inn_doorA h_inn_doorB h_inn_how h_inn_lies h_inn_isCold h_inn_falls h_inn_isFull h_inn_isTold h_inn_act h_inn_what h_inn_then h_inn_met h_inn_bed h_inn_dream h_inn_listens h_inn_name h_inn_nameSort h_inn_nameNumber 0 v_trouble_15 v_where_15 v_read v_taped v_size v_at v_sort v_place v_sign v_number v_fault v_wrongAt v_word v_marks v_notes v_inn_minutes v_inn_rooms v_inn_doors v_inn_things v_inn_dreams v_inn_sleepers v_inn_listeners v_inn_names v_inn_bed v_inn_how v_inn_doorA v_from v_inn_doorB)) (As := [.int 1]) (rest := []) C (ctX12_refused l E h h_tape h_far h_from h_real h_other h_kept h_set h_w h_book h_noteSort h_whose h_what h_noteIs h_fitting h_dawn h_likes h_walked h_came 0 v_trouble v_where (some h_inn) v_read v_taped v_size v_at v_sort v_place v_sign v_number v_fault v_wrongAt v_word v_marks v_notes N 1 r_15 v_trouble_15 v_where_15 hc_15) ml_X12_77 ⟨Nat.le_of_ble_eq_true rfl, Nat.le_of_ble_eq_true rfl⟩ hP hD hS 0 rfl rfl rfl [0] rfl rfl rfl rfl rfl hl.1 rfl (Nat.le_of_ble_eq_true rfl) ⟨Nat.zero_le _, Nat.zero_le _⟩ dX12_safe_15 ?_
    clear hP hD hS; intro H locs hP hD hS
    cases hf
    rw [hQ]
    exact r_iret C hr hP hD hS rfl dX12_safe_18
def wX12_safely (E : EN) (h h_inn h_tape h_far h_from h_real h_other h_kept h_set h_w h_book h_noteSort h_whose h_what h_noteIs h_fitting h_dawn h_likes h_walked h_came h_inn_creak h_inn_doorA h_inn_doorB h_inn_how h_inn_lies h_inn_isCold h_inn_falls h_inn_isFull h_inn_isTold h_inn_act h_inn_what h_inn_then h_inn_met h_inn_bed h_inn_dream h_inn_listens h_inn_name h_inn_nameSort h_inn_nameNumber : Nat) (v_thrown : Int32) (v_trouble : Int32) (v_where : Int32) (v_read : Option Nat) (v_taped : Int32) (v_size : Int32) (v_at : Int32) (v_sort : Int32) (v_place : Int32) (v_sign : Int32) (v_number : Int32) (v_fault : Int32) (v_wrongAt : Int32) (v_word : Int64) (v_marks : Int32) (v_notes : Int32) (v_inn_minutes : Int32) (v_inn_rooms : Int32) (v_inn_doors : Int32) (v_inn_things : Int32) (v_inn_dreams : Int32) (v_inn_sleepers : Int32) (v_inn_listeners : Int32) (v_inn_names : Int32) (v_inn_bed : Nat → Int32) (v_inn_how : Nat → Int32) (v_inn_doorA : Nat → Int32) (v_from : Nat → Int32) (v_inn_doorB : Nat → Int32) : va_W := [(h, .inr (11, [.int v_thrown, .int v_trouble, .int v_where, .ref h_inn, va_rf v_read, .ref h_tape, .int v_taped, .int v_size, .int v_at, .int v_sort, .int v_place, .int v_sign, .int v_number, .int v_fault, .int v_wrongAt, .long v_word, .ref h_far, .ref h_from, .ref h_real, .ref h_other, .ref h_kept, .ref h_set, .ref h_w, .int v_marks, .int v_notes, .ref h_book, .ref h_noteSort, .ref h_whose, .ref h_what, .ref h_noteIs, .ref h_fitting, .ref h_dawn, .ref h_likes, .ref h_walked, .ref h_came])), (h_inn, .inr (10, [.int v_inn_minutes, .int v_inn_rooms, .int v_inn_doors, .int v_inn_things, .int v_inn_dreams, .int v_inn_sleepers, .int v_inn_listeners, .int v_inn_names, .ref h_inn_creak, .ref h_inn_doorA, .ref h_inn_doorB, .ref h_inn_how, .ref h_inn_lies, .ref h_inn_isCold, .ref h_inn_falls, .ref h_inn_isFull, .ref h_inn_isTold, .ref h_inn_act, .ref h_inn_what, .ref h_inn_then, .ref h_inn_met, .ref h_inn_bed, .ref h_inn_dream, .ref h_inn_listens, .ref h_inn_name, .ref h_inn_nameSort, .ref h_inn_nameNumber])), (h_inn_bed, aI E 3 v_inn_bed), (h_inn_how, aI E 10 v_inn_how), (h_inn_doorA, aI E 10 v_inn_doorA), (h_from, aI E 8 v_from), (h_inn_doorB, aI E 10 v_inn_doorB)]
def fX12_safely (N : Nat) (p0 : Int32) (v_inn_rooms : Int32) (v_inn_doors : Int32) (v_inn_sleepers : Int32) (v_inn_bed : Nat → Int32) (v_inn_how : Nat → Int32) (v_inn_doorA : Nat → Int32) (v_from : Nat → Int32) (v_inn_doorB : Nat → Int32) : Option (Int32 × Int32 × Int32 × Int32 × (Nat → Int32)) := (fX12_isRoom N p0 v_inn_rooms).bind (un1 fun (r_7 : Int32) => if r_7 = 0 then ((fX12_refused N 1).bind (un3 fun (r_27 : Int32) (v_trouble_27 : Int32) (v_where_27 : Int32) => some (r_27, 0, v_trouble_27, v_where_27, v_from))) else ((fX12_safest N p0 v_inn_rooms v_inn_doors v_inn_sleepers v_inn_bed v_inn_how v_inn_doorA v_from v_inn_doorB).bind (un2 fun (r_16 : Int32) (v_from_16 : Nat → Int32) => (fX12_good N r_16).bind (un3 fun (r_19 : Int32) (v_trouble_19 : Int32) (v_where_19 : Int32) => some (r_19, 0, v_trouble_19, v_where_19, v_from_16)))))
set_option maxHeartbeats 4000000 in
set_option maxRecDepth 100000 in
theorem ctX12_safely (l : Launch) (E : EN) (h h_inn h_tape h_far h_from h_real h_other h_kept h_set h_w h_book h_noteSort h_whose h_what h_noteIs h_fitting h_dawn h_likes h_walked h_came h_inn_creak h_inn_doorA h_inn_doorB h_inn_how h_inn_lies h_inn_isCold h_inn_falls h_inn_isFull h_inn_isTold h_inn_act h_inn_what h_inn_then h_inn_met h_inn_bed h_inn_dream h_inn_listens h_inn_name h_inn_nameSort h_inn_nameNumber : Nat) (v_thrown : Int32) (v_trouble : Int32) (v_where : Int32) (v_read : Option Nat) (v_taped : Int32) (v_size : Int32) (v_at : Int32) (v_sort : Int32) (v_place : Int32) (v_sign : Int32) (v_number : Int32) (v_fault : Int32) (v_wrongAt : Int32) (v_word : Int64) (v_marks : Int32) (v_notes : Int32) (v_inn_minutes : Int32) (v_inn_rooms : Int32) (v_inn_doors : Int32) (v_inn_things : Int32) (v_inn_dreams : Int32) (v_inn_sleepers : Int32) (v_inn_listeners : Int32) (v_inn_names : Int32) (v_inn_bed : Nat → Int32) (v_inn_how : Nat → Int32) (v_inn_doorA : Nat → Int32) (v_from : Nat → Int32) (v_inn_doorB : Nat → Int32) (N : Nat) (p0 : Int32) (z0 : Int32) (z1 : Int32) (z2 : Int32) (z3 : Int32) (z4 : Nat → Int32) (hf : fX12_safely N p0 v_inn_rooms v_inn_doors v_inn_sleepers v_inn_bed v_inn_how v_inn_doorA v_from v_inn_doorB = some (z0, z1, z2, z3, z4)) : CTi l E yX12_safely cX12_safely 2 .int 3 71 [.ref h, .int p0] (wX12_safely E h h_inn h_tape h_far h_from h_real h_other h_kept h_set h_w h_book h_noteSort h_whose h_what h_noteIs h_fitting h_dawn h_likes h_walked h_came h_inn_creak h_inn_doorA h_inn_doorB h_inn_how h_inn_lies h_inn_isCold h_inn_falls h_inn_isFull h_inn_isTold h_inn_act h_inn_what h_inn_then h_inn_met h_inn_bed h_inn_dream h_inn_listens h_inn_name h_inn_nameSort h_inn_nameNumber v_thrown v_trouble v_where v_read v_taped v_size v_at v_sort v_place v_sign v_number v_fault v_wrongAt v_word v_marks v_notes v_inn_minutes v_inn_rooms v_inn_doors v_inn_things v_inn_dreams v_inn_sleepers v_inn_listeners v_inn_names v_inn_bed v_inn_how v_inn_doorA v_from v_inn_doorB) z0 (wX12_safely E h h_inn h_tape h_far h_from h_real h_other h_kept h_set h_w h_book h_noteSort h_whose h_what h_noteIs h_fitting h_dawn h_likes h_walked h_came h_inn_creak h_inn_doorA h_inn_doorB h_inn_how h_inn_lies h_inn_isCold h_inn_falls h_inn_isFull h_inn_isTold h_inn_act h_inn_what h_inn_then h_inn_met h_inn_bed h_inn_dream h_inn_listens h_inn_name h_inn_nameSort h_inn_nameNumber z1 z2 z3 v_read v_taped v_size v_at v_sort v_place v_sign v_number v_fault v_wrongAt v_word v_marks v_notes v_inn_minutes v_inn_rooms v_inn_doors v_inn_things v_inn_dreams v_inn_sleepers v_inn_listeners v_inn_names v_inn_bed v_inn_how v_inn_doorA z4 v_inn_doorB) := by
  intro sz
  refine ct_body (by decide) (Nat.le_of_ble_eq_true rfl) ?_
  intro p e s m args below meth c A ls hAe C hr hin hP hD hS hl
  have C : CX p s m args meth c cX12_safely RX12 2 E A := C
  have hl : lv_has ls 2 [(0, .ref h), (1, .int p0)] := hl
  have hx := C.1
  have hb := C.2.1
  rw [hAe]
  clear hAe
  obtain ⟨Q, hQ⟩ : ∃ Q, Q = MQ below (Qi E A z0 (wX12_safely E h h_inn h_tape h_far h_from h_real h_other h_kept h_set h_w h_book h_noteSort h_whose h_what h_noteIs h_fitting h_dawn h_likes h_walked h_came h_inn_creak h_inn_doorA h_inn_doorB h_inn_how h_inn_lies h_inn_isCold h_inn_falls h_inn_isFull h_inn_isTold h_inn_act h_inn_what h_inn_then h_inn_met h_inn_bed h_inn_dream h_inn_listens h_inn_name h_inn_nameSort h_inn_nameNumber z1 z2 z3 v_read v_taped v_size v_at v_sort v_place v_sign v_number v_fault v_wrongAt v_word v_marks v_notes v_inn_minutes v_inn_rooms v_inn_doors v_inn_things v_inn_dreams v_inn_sleepers v_inn_listeners v_inn_names v_inn_bed v_inn_how v_inn_doorA z4 v_inn_doorB)) args s 0 0 A := ⟨_, rfl⟩
  rw [← hQ]
  unfold fX12_safely at hf
  refine lv_aload_n hx hb dX12_safely_0 rfl (lv_at hl 0 rfl) ?_
  refine lv_iconst (v := 0) hx hb dX12_safely_1 (by decide) ?_
  refine r_put (ws' := (wX12_safely E h h_inn h_tape h_far h_from h_real h_other h_kept h_set h_w h_book h_noteSort h_whose h_what h_noteIs h_fitting h_dawn h_likes h_walked h_came h_inn_creak h_inn_doorA h_inn_doorB h_inn_how h_inn_lies h_inn_isCold h_inn_falls h_inn_isFull h_inn_isTold h_inn_act h_inn_what h_inn_then h_inn_met h_inn_bed h_inn_dream h_inn_listens h_inn_name h_inn_nameSort h_inn_nameNumber 0 v_trouble v_where v_read v_taped v_size v_at v_sort v_place v_sign v_number v_fault v_wrongAt v_word v_marks v_notes v_inn_minutes v_inn_rooms v_inn_doors v_inn_things v_inn_dreams v_inn_sleepers v_inn_listeners v_inn_names v_inn_bed v_inn_how v_inn_doorA v_from v_inn_doorB)) C hP hD hS 0 rfl fl_X12_71 rfl rfl (by decide) rfl dX12_safely_2 ?_
  clear hP hD hS; intro H locs hP hD hS
  refine lv_aload_n hx hb dX12_safely_5 rfl (lv_at hl 0 rfl) ?_
  refine lv_iload_n hx hb dX12_safely_6 rfl (lv_at hl 1 rfl) ?_
  obtain ⟨r_7, hc_7, hf⟩ := bd1 hf
  refine r_callVi (ws' := (wX12_safely E h h_inn h_tape h_far h_from h_real h_other h_kept h_set h_w h_book h_noteSort h_whose h_what h_noteIs h_fitting h_dawn h_likes h_walked h_came h_inn_creak h_inn_doorA h_inn_doorB h_inn_how h_inn_lies h_inn_isCold h_inn_falls h_inn_isFull h_inn_isTold h_inn_act h_inn_what h_inn_then h_inn_met h_inn_bed h_inn_dream h_inn_listens h_inn_name h_inn_nameSort h_inn_nameNumber 0 v_trouble v_where v_read v_taped v_size v_at v_sort v_place v_sign v_number v_fault v_wrongAt v_word v_marks v_notes v_inn_minutes v_inn_rooms v_inn_doors v_inn_things v_inn_dreams v_inn_sleepers v_inn_listeners v_inn_names v_inn_bed v_inn_how v_inn_doorA v_from v_inn_doorB)) (As := [.int p0]) (rest := []) C (ctX12_isRoom l E h h_inn h_tape h_far h_from h_real h_other h_kept h_set h_w h_book h_noteSort h_whose h_what h_noteIs h_fitting h_dawn h_likes h_walked h_came h_inn_creak h_inn_doorA h_inn_doorB h_inn_how h_inn_lies h_inn_isCold h_inn_falls h_inn_isFull h_inn_isTold h_inn_act h_inn_what h_inn_then h_inn_met h_inn_bed h_inn_dream h_inn_listens h_inn_name h_inn_nameSort h_inn_nameNumber 0 v_trouble v_where v_read v_taped v_size v_at v_sort v_place v_sign v_number v_fault v_wrongAt v_word v_marks v_notes v_inn_minutes v_inn_rooms v_inn_doors v_inn_things v_inn_dreams v_inn_sleepers v_inn_listeners v_inn_names N p0 r_7 hc_7) ml_X12_379 ⟨Nat.le_of_ble_eq_true rfl, Nat.le_of_ble_eq_true rfl⟩ hP hD hS 0 rfl rfl rfl [0, 1] rfl rfl rfl rfl rfl hl.1 rfl (Nat.le_of_ble_eq_true rfl) ⟨Nat.zero_le _, Nat.zero_le _⟩ dX12_safely_7 ?_
  clear hP hD hS; intro H locs hP hD hS
  refine lv_if_eq (tgt := 25) hx hb dX12_safely_10 (by decide) (fun c_10 => ?_) (fun c_10 => ?_)
  · replace hf := it_t c_10 hf
    refine lv_aload_n hx hb dX12_safely_25 rfl (lv_at hl 0 rfl) ?_
    refine lv_iconst (v := 1) hx hb dX12_safely_26 (by decide) ?_
    obtain ⟨r_27, v_trouble_27, v_where_27, hc_27, hf⟩ := bd3 hf
    refine r_callVi (ws' := (wX12_safely E h h_inn h_tape h_far h_from h_real h_other h_kept h_set h_w h_book h_noteSort h_whose h_what h_noteIs h_fitting h_dawn h_likes h_walked h_came h_inn_creak h_inn_doorA h_inn_doorB h_inn_how h_inn_lies h_inn_isCold h_inn_falls h_inn_isFull h_inn_isTold h_inn_act h_inn_what h_inn_then h_inn_met h_inn_bed h_inn_dream h_inn_listens h_inn_name h_inn_nameSort h_inn_nameNumber 0 v_trouble_27 v_where_27 v_read v_taped v_size v_at v_sort v_place v_sign v_number v_fault v_wrongAt v_word v_marks v_notes v_inn_minutes v_inn_rooms v_inn_doors v_inn_things v_inn_dreams v_inn_sleepers v_inn_listeners v_inn_names v_inn_bed v_inn_how v_inn_doorA v_from v_inn_doorB)) (As := [.int 1]) (rest := []) C (ctX12_refused l E h h_tape h_far h_from h_real h_other h_kept h_set h_w h_book h_noteSort h_whose h_what h_noteIs h_fitting h_dawn h_likes h_walked h_came 0 v_trouble v_where (some h_inn) v_read v_taped v_size v_at v_sort v_place v_sign v_number v_fault v_wrongAt v_word v_marks v_notes N 1 r_27 v_trouble_27 v_where_27 hc_27) ml_X12_77 ⟨Nat.le_of_ble_eq_true rfl, Nat.le_of_ble_eq_true rfl⟩ hP hD hS 0 rfl rfl rfl [0] rfl rfl rfl rfl rfl hl.1 rfl (Nat.le_of_ble_eq_true rfl) ⟨Nat.zero_le _, Nat.zero_le _⟩ dX12_safely_27 ?_
    clear hP hD hS; intro H locs hP hD hS
    cases hf
    rw [hQ]
    exact r_iret C hr hP hD hS rfl dX12_safely_30
  · replace hf := it_f c_10 hf
    refine lv_aload_n hx hb dX12_safely_13 rfl (lv_at hl 0 rfl) ?_
    refine lv_aload_n hx hb dX12_safely_14 rfl (lv_at hl 0 rfl) ?_
    refine lv_iload_n hx hb dX12_safely_15 rfl (lv_at hl 1 rfl) ?_
    obtain ⟨r_16, v_from_16, hc_16, hf⟩ := bd2 hf
    refine r_callVi (ws' := (wX12_safely E h h_inn h_tape h_far h_from h_real h_other h_kept h_set h_w h_book h_noteSort h_whose h_what h_noteIs h_fitting h_dawn h_likes h_walked h_came h_inn_creak h_inn_doorA h_inn_doorB h_inn_how h_inn_lies h_inn_isCold h_inn_falls h_inn_isFull h_inn_isTold h_inn_act h_inn_what h_inn_then h_inn_met h_inn_bed h_inn_dream h_inn_listens h_inn_name h_inn_nameSort h_inn_nameNumber 0 v_trouble v_where v_read v_taped v_size v_at v_sort v_place v_sign v_number v_fault v_wrongAt v_word v_marks v_notes v_inn_minutes v_inn_rooms v_inn_doors v_inn_things v_inn_dreams v_inn_sleepers v_inn_listeners v_inn_names v_inn_bed v_inn_how v_inn_doorA v_from_16 v_inn_doorB)) (As := [.int p0]) (rest := [.ref h]) C (ctX12_safest l E h h_inn h_tape h_far h_from h_real h_other h_kept h_set h_w h_book h_noteSort h_whose h_what h_noteIs h_fitting h_dawn h_likes h_walked h_came h_inn_creak h_inn_doorA h_inn_doorB h_inn_how h_inn_lies h_inn_isCold h_inn_falls h_inn_isFull h_inn_isTold h_inn_act h_inn_what h_inn_then h_inn_met h_inn_bed h_inn_dream h_inn_listens h_inn_name h_inn_nameSort h_inn_nameNumber 0 v_trouble v_where v_read v_taped v_size v_at v_sort v_place v_sign v_number v_fault v_wrongAt v_word v_marks v_notes v_inn_minutes v_inn_rooms v_inn_doors v_inn_things v_inn_dreams v_inn_sleepers v_inn_listeners v_inn_names v_inn_bed v_inn_how v_inn_doorA v_from v_inn_doorB N p0 r_16 v_from_16 hc_16) ml_X12_495 ⟨Nat.le_of_ble_eq_true rfl, Nat.le_of_ble_eq_true rfl⟩ hP hD hS 0 rfl rfl rfl [0, 1, 2, 3, 4, 5, 6] rfl rfl rfl rfl rfl hl.1 rfl (Nat.le_of_ble_eq_true rfl) ⟨Nat.zero_le _, Nat.zero_le _⟩ dX12_safely_16 ?_
    clear hP hD hS; intro H locs hP hD hS
    obtain ⟨r_19, v_trouble_19, v_where_19, hc_19, hf⟩ := bd3 hf
    refine r_callVi (ws' := (wX12_safely E h h_inn h_tape h_far h_from h_real h_other h_kept h_set h_w h_book h_noteSort h_whose h_what h_noteIs h_fitting h_dawn h_likes h_walked h_came h_inn_creak h_inn_doorA h_inn_doorB h_inn_how h_inn_lies h_inn_isCold h_inn_falls h_inn_isFull h_inn_isTold h_inn_act h_inn_what h_inn_then h_inn_met h_inn_bed h_inn_dream h_inn_listens h_inn_name h_inn_nameSort h_inn_nameNumber 0 v_trouble_19 v_where_19 v_read v_taped v_size v_at v_sort v_place v_sign v_number v_fault v_wrongAt v_word v_marks v_notes v_inn_minutes v_inn_rooms v_inn_doors v_inn_things v_inn_dreams v_inn_sleepers v_inn_listeners v_inn_names v_inn_bed v_inn_how v_inn_doorA v_from_16 v_inn_doorB)) (As := [.int r_16]) (rest := []) C (ctX12_good l E h h_tape h_far h_from h_real h_other h_kept h_set h_w h_book h_noteSort h_whose h_what h_noteIs h_fitting h_dawn h_likes h_walked h_came 0 v_trouble v_where (some h_inn) v_read v_taped v_size v_at v_sort v_place v_sign v_number v_fault v_wrongAt v_word v_marks v_notes N r_16 r_19 v_trouble_19 v_where_19 hc_19) ml_X12_81 ⟨Nat.le_of_ble_eq_true rfl, Nat.le_of_ble_eq_true rfl⟩ hP hD hS 0 rfl rfl rfl [0] rfl rfl rfl rfl rfl hl.1 rfl (Nat.le_of_ble_eq_true rfl) ⟨Nat.zero_le _, Nat.zero_le _⟩ dX12_safely_19 ?_
    clear hP hD hS; intro H locs hP hD hS
    refine lv_goto (tgt := 30) hx hb dX12_safely_22 (by decide) ?_
    cases hf
    rw [hQ]
    exact r_iret C hr hP hD hS rfl dX12_safely_30
def wX12_walksMore (E : EN) (h h_inn h_tape h_far h_from h_real h_other h_kept h_set h_w h_book h_noteSort h_whose h_what h_noteIs h_fitting h_dawn h_likes h_walked h_came h_inn_creak h_inn_doorA h_inn_doorB h_inn_how h_inn_lies h_inn_isCold h_inn_falls h_inn_isFull h_inn_isTold h_inn_act h_inn_what h_inn_then h_inn_met h_inn_bed h_inn_dream h_inn_listens h_inn_name h_inn_nameSort h_inn_nameNumber : Nat) (v_thrown : Int32) (v_trouble : Int32) (v_where : Int32) (v_read : Option Nat) (v_taped : Int32) (v_size : Int32) (v_at : Int32) (v_sort : Int32) (v_place : Int32) (v_sign : Int32) (v_number : Int32) (v_fault : Int32) (v_wrongAt : Int32) (v_word : Int64) (v_marks : Int32) (v_notes : Int32) (v_inn_minutes : Int32) (v_inn_rooms : Int32) (v_inn_doors : Int32) (v_inn_things : Int32) (v_inn_dreams : Int32) (v_inn_sleepers : Int32) (v_inn_listeners : Int32) (v_inn_names : Int32) (v_came : Nat → Int32) (v_inn_doorB : Nat → Int32) (v_walked : Nat → Int32) (v_inn_doorA : Nat → Int32) (v_inn_how : Nat → Int32) (v_inn_bed : Nat → Int32) : va_W := [(h, .inr (11, [.int v_thrown, .int v_trouble, .int v_where, .ref h_inn, va_rf v_read, .ref h_tape, .int v_taped, .int v_size, .int v_at, .int v_sort, .int v_place, .int v_sign, .int v_number, .int v_fault, .int v_wrongAt, .long v_word, .ref h_far, .ref h_from, .ref h_real, .ref h_other, .ref h_kept, .ref h_set, .ref h_w, .int v_marks, .int v_notes, .ref h_book, .ref h_noteSort, .ref h_whose, .ref h_what, .ref h_noteIs, .ref h_fitting, .ref h_dawn, .ref h_likes, .ref h_walked, .ref h_came])), (h_inn, .inr (10, [.int v_inn_minutes, .int v_inn_rooms, .int v_inn_doors, .int v_inn_things, .int v_inn_dreams, .int v_inn_sleepers, .int v_inn_listeners, .int v_inn_names, .ref h_inn_creak, .ref h_inn_doorA, .ref h_inn_doorB, .ref h_inn_how, .ref h_inn_lies, .ref h_inn_isCold, .ref h_inn_falls, .ref h_inn_isFull, .ref h_inn_isTold, .ref h_inn_act, .ref h_inn_what, .ref h_inn_then, .ref h_inn_met, .ref h_inn_bed, .ref h_inn_dream, .ref h_inn_listens, .ref h_inn_name, .ref h_inn_nameSort, .ref h_inn_nameNumber])), (h_came, aI E 8 v_came), (h_inn_doorB, aI E 10 v_inn_doorB), (h_walked, aI E 10 v_walked), (h_inn_doorA, aI E 10 v_inn_doorA), (h_inn_how, aI E 10 v_inn_how), (h_inn_bed, aI E 3 v_inn_bed)]
def BX12_walksMore_245 (x231_came : Nat → Int32) (v_inn_doorB : Nat → Int32) (v_inn_doorA : Nat → Int32) (rec245 : (Int32 × (Nat → Int32)) → Option (Int32 × (Nat → Int32) × (Nat → Int32))) : (Int32 × (Nat → Int32)) → Option (Int32 × (Nat → Int32) × (Nat → Int32)) := un2 fun (x245_3 : Int32) (x245_walked : Nat → Int32) => gd x245_3 8 (if (x231_came x245_3.toNatClampNeg) = 10 then (some (1, x231_came, x245_walked)) else (gd x245_3 8 (gd (x231_came x245_3.toNatClampNeg) 10 (jn (un1 fun (x283_s0 : Int32) => gd (x231_came x245_3.toNatClampNeg) 10 (jn (un2 fun (x315_s1 : Int32) (x315_s2 : Int32) => gd x315_s1 10 (jn (un1 fun (x344_s0 : Int32) => rec245 (x344_s0, upd x245_walked x315_s1.toNatClampNeg x315_s2)) (fun j344 => if x283_s0 = 0 then (gd (x231_came x245_3.toNatClampNeg) 10 (j344 (v_inn_doorB (x231_came x245_3.toNatClampNeg).toNatClampNeg))) else (gd (x231_came x245_3.toNatClampNeg) 10 (j344 (v_inn_doorA (x231_came x245_3.toNatClampNeg).toNatClampNeg)))))) (fun j315 => if (x245_walked (x231_came x245_3.toNatClampNeg).toNatClampNeg) = 0 then (if x283_s0 = 0 then (j315 (x231_came x245_3.toNatClampNeg, 2)) else (j315 (x231_came x245_3.toNatClampNeg, 1))) else (j315 (x231_came x245_3.toNatClampNeg, 0))))) (fun j283 => if (v_inn_doorB (x231_came x245_3.toNatClampNeg).toNatClampNeg) = x245_3 then (j283 1) else (j283 0))))))
def BX12_walksMore_106 (j222 : (Int32 × (Nat → Int32)) → Option (Int32 × (Nat → Int32) × (Nat → Int32))) (x76_3 : Int32) (v_walked : Nat → Int32) (v_inn_doorB : Nat → Int32) (v_inn_doorA : Nat → Int32) (rec106 : (Int32 × Int32 × (Nat → Int32)) → Option (Int32 × (Nat → Int32) × (Nat → Int32))) : (Int32 × Int32 × (Nat → Int32)) → Option (Int32 × (Nat → Int32) × (Nat → Int32)) := un3 fun (x106_2 : Int32) (x106_4 : Int32) (x106_came : Nat → Int32) => if 3 ≤ x106_4 then (j222 (x106_2, x106_came)) else (jn (un1 fun (x139_s0 : Int32) => jn (un1 fun (x168_s0 : Int32) => gd x139_s0 8 (jn (un2 fun (x216_2 : Int32) (x216_came : Nat → Int32) => rec106 (x216_2, x106_4 + 1, x216_came)) (fun j216 => if (x106_came x139_s0.toNatClampNeg) = (-1) then (j216 (x106_2, x106_came)) else (gd x168_s0 8 (if (x106_came x168_s0.toNatClampNeg) = (-1) then (gd x76_3 10 (if (v_walked x76_3.toNatClampNeg) = x106_4 then (j216 (x106_2, x106_came)) else (gd x168_s0 8 (j216 (1, upd x106_came x168_s0.toNatClampNeg x76_3))))) else (j216 (x106_2, x106_came))))))) (fun j168 => if x106_4 = 1 then (gd x76_3 10 (j168 (v_inn_doorB x76_3.toNatClampNeg))) else (gd x76_3 10 (j168 (v_inn_doorA x76_3.toNatClampNeg))))) (fun j139 => if x106_4 = 1 then (gd x76_3 10 (j139 (v_inn_doorA x76_3.toNatClampNeg))) else (gd x76_3 10 (j139 (v_inn_doorB x76_3.toNatClampNeg)))))
def BX12_walksMore_76 (v_inn_doors : Int32) (v_inn_how : Nat → Int32) (v_walked : Nat → Int32) (v_inn_doorB : Nat → Int32) (v_inn_doorA : Nat → Int32) (N : Nat) (K228 : (Int32 × (Nat → Int32)) → Option (Int32 × (Nat → Int32) × (Nat → Int32))) (rec76 : (Int32 × Int32 × (Nat → Int32)) → Option (Int32 × (Nat → Int32) × (Nat → Int32))) : (Int32 × Int32 × (Nat → Int32)) → Option (Int32 × (Nat → Int32) × (Nat → Int32)) := un3 fun (x76_2 : Int32) (x76_3 : Int32) (x76_came : Nat → Int32) => if v_inn_doors ≤ x76_3 then (K228 (x76_2, x76_came)) else (gd x76_3 10 (jn (un2 fun (x222_2 : Int32) (x222_came : Nat → Int32) => rec76 (x222_2, x76_3 + 1, x222_came)) (fun j222 => if (v_inn_how x76_3.toNatClampNeg) = 2 then (j222 (x76_2, x76_came)) else (lp (BX12_walksMore_106 j222 x76_3 v_walked v_inn_doorB v_inn_doorA) N (x76_2, 1, x76_came)))))
def BX12_walksMore_58 (p0 : Int32) (v_inn_doors : Int32) (v_inn_how : Nat → Int32) (v_walked : Nat → Int32) (v_inn_doorB : Nat → Int32) (v_inn_doorA : Nat → Int32) (N : Nat) (K231 : ((Nat → Int32)) → Option (Int32 × (Nat → Int32) × (Nat → Int32))) (rec58 : (Int32 × (Nat → Int32)) → Option (Int32 × (Nat → Int32) × (Nat → Int32))) : (Int32 × (Nat → Int32)) → Option (Int32 × (Nat → Int32) × (Nat → Int32)) := un2 fun (x58_2 : Int32) (x58_came : Nat → Int32) => if x58_2 = 0 then (K231 x58_came) else (gd p0 8 (if (x58_came p0.toNatClampNeg) = (-1) then (lp (BX12_walksMore_76 v_inn_doors v_inn_how v_walked v_inn_doorB v_inn_doorA N (un2 fun (x228_2 : Int32) (x228_came : Nat → Int32) => rec58 (x228_2, x228_came))) N (0, 0, x58_came)) else (K231 x58_came)))
def BX12_walksMore_23 (v_inn_sleepers : Int32) (v_inn_bed : Nat → Int32) (K56 : ((Nat → Int32)) → Option (Int32 × (Nat → Int32) × (Nat → Int32))) (rec23 : (Int32 × (Nat → Int32)) → Option (Int32 × (Nat → Int32) × (Nat → Int32))) : (Int32 × (Nat → Int32)) → Option (Int32 × (Nat → Int32) × (Nat → Int32)) := un2 fun (x23_2 : Int32) (x23_came : Nat → Int32) => if v_inn_sleepers ≤ x23_2 then (K56 x23_came) else (gd x23_2 3 (gd (v_inn_bed x23_2.toNatClampNeg) 8 (rec23 (x23_2 + 1, upd x23_came (v_inn_bed x23_2.toNatClampNeg).toNatClampNeg 10))))
def BX12_walksMore_2 (K21 : ((Nat → Int32)) → Option (Int32 × (Nat → Int32) × (Nat → Int32))) (rec2 : (Int32 × (Nat → Int32)) → Option (Int32 × (Nat → Int32) × (Nat → Int32))) : (Int32 × (Nat → Int32)) → Option (Int32 × (Nat → Int32) × (Nat → Int32)) := un2 fun (x2_2 : Int32) (x2_came : Nat → Int32) => if 8 ≤ x2_2 then (K21 x2_came) else (gd x2_2 8 (rec2 (x2_2 + 1, upd x2_came x2_2.toNatClampNeg (-1))))
def fX12_walksMore (N : Nat) (p0 : Int32) (v_inn_doors : Int32) (v_inn_sleepers : Int32) (v_came : Nat → Int32) (v_inn_doorB : Nat → Int32) (v_walked : Nat → Int32) (v_inn_doorA : Nat → Int32) (v_inn_how : Nat → Int32) (v_inn_bed : Nat → Int32) : Option (Int32 × (Nat → Int32) × (Nat → Int32)) := lp (BX12_walksMore_2 (un1 fun (x21_came : Nat → Int32) => lp (BX12_walksMore_23 v_inn_sleepers v_inn_bed (un1 fun (x56_came : Nat → Int32) => lp (BX12_walksMore_58 p0 v_inn_doors v_inn_how v_walked v_inn_doorB v_inn_doorA N (un1 fun (x231_came : Nat → Int32) => gd p0 8 (if (x231_came p0.toNatClampNeg) = (-1) then (some (0, x231_came, v_walked)) else (lp (BX12_walksMore_245 x231_came v_inn_doorB v_inn_doorA) N (p0, v_walked))))) N (1, x56_came))) N (0, x21_came))) N (0, v_came)
set_option maxHeartbeats 4000000 in
set_option maxRecDepth 100000 in
theorem ctX12_walksMore (l : Launch) (E : EN) (h h_inn h_tape h_far h_from h_real h_other h_kept h_set h_w h_book h_noteSort h_whose h_what h_noteIs h_fitting h_dawn h_likes h_walked h_came h_inn_creak h_inn_doorA h_inn_doorB h_inn_how h_inn_lies h_inn_isCold h_inn_falls h_inn_isFull h_inn_isTold h_inn_act h_inn_what h_inn_then h_inn_met h_inn_bed h_inn_dream h_inn_listens h_inn_name h_inn_nameSort h_inn_nameNumber : Nat) (v_thrown : Int32) (v_trouble : Int32) (v_where : Int32) (v_read : Option Nat) (v_taped : Int32) (v_size : Int32) (v_at : Int32) (v_sort : Int32) (v_place : Int32) (v_sign : Int32) (v_number : Int32) (v_fault : Int32) (v_wrongAt : Int32) (v_word : Int64) (v_marks : Int32) (v_notes : Int32) (v_inn_minutes : Int32) (v_inn_rooms : Int32) (v_inn_doors : Int32) (v_inn_things : Int32) (v_inn_dreams : Int32) (v_inn_sleepers : Int32) (v_inn_listeners : Int32) (v_inn_names : Int32) (v_came : Nat → Int32) (v_inn_doorB : Nat → Int32) (v_walked : Nat → Int32) (v_inn_doorA : Nat → Int32) (v_inn_how : Nat → Int32) (v_inn_bed : Nat → Int32) (N : Nat) (p0 : Int32) (z0 : Int32) (z1 : Nat → Int32) (z2 : Nat → Int32) (hf : fX12_walksMore N p0 v_inn_doors v_inn_sleepers v_came v_inn_doorB v_walked v_inn_doorA v_inn_how v_inn_bed = some (z0, z1, z2)) : CTi l E yX12_walksMore cX12_walksMore 7 .boolean 0 0 [.ref h, .int p0] (wX12_walksMore E h h_inn h_tape h_far h_from h_real h_other h_kept h_set h_w h_book h_noteSort h_whose h_what h_noteIs h_fitting h_dawn h_likes h_walked h_came h_inn_creak h_inn_doorA h_inn_doorB h_inn_how h_inn_lies h_inn_isCold h_inn_falls h_inn_isFull h_inn_isTold h_inn_act h_inn_what h_inn_then h_inn_met h_inn_bed h_inn_dream h_inn_listens h_inn_name h_inn_nameSort h_inn_nameNumber v_thrown v_trouble v_where v_read v_taped v_size v_at v_sort v_place v_sign v_number v_fault v_wrongAt v_word v_marks v_notes v_inn_minutes v_inn_rooms v_inn_doors v_inn_things v_inn_dreams v_inn_sleepers v_inn_listeners v_inn_names v_came v_inn_doorB v_walked v_inn_doorA v_inn_how v_inn_bed) z0 (wX12_walksMore E h h_inn h_tape h_far h_from h_real h_other h_kept h_set h_w h_book h_noteSort h_whose h_what h_noteIs h_fitting h_dawn h_likes h_walked h_came h_inn_creak h_inn_doorA h_inn_doorB h_inn_how h_inn_lies h_inn_isCold h_inn_falls h_inn_isFull h_inn_isTold h_inn_act h_inn_what h_inn_then h_inn_met h_inn_bed h_inn_dream h_inn_listens h_inn_name h_inn_nameSort h_inn_nameNumber v_thrown v_trouble v_where v_read v_taped v_size v_at v_sort v_place v_sign v_number v_fault v_wrongAt v_word v_marks v_notes v_inn_minutes v_inn_rooms v_inn_doors v_inn_things v_inn_dreams v_inn_sleepers v_inn_listeners v_inn_names z1 v_inn_doorB z2 v_inn_doorA v_inn_how v_inn_bed) := by
  intro sz
  refine ct_body (by decide) (Nat.le_of_ble_eq_true rfl) ?_
  intro p e s m args below meth c A ls hAe C hr hin hP hD hS hl
  have C : CX p s m args meth c cX12_walksMore RX12 7 E A := C
  have hl : lv_has ls 7 [(0, .ref h), (1, .int p0)] := hl
  have hx := C.1
  have hb := C.2.1
  rw [hAe]
  clear hAe
  obtain ⟨Q, hQ⟩ : ∃ Q, Q = MQ below (Qi E A z0 (wX12_walksMore E h h_inn h_tape h_far h_from h_real h_other h_kept h_set h_w h_book h_noteSort h_whose h_what h_noteIs h_fitting h_dawn h_likes h_walked h_came h_inn_creak h_inn_doorA h_inn_doorB h_inn_how h_inn_lies h_inn_isCold h_inn_falls h_inn_isFull h_inn_isTold h_inn_act h_inn_what h_inn_then h_inn_met h_inn_bed h_inn_dream h_inn_listens h_inn_name h_inn_nameSort h_inn_nameNumber v_thrown v_trouble v_where v_read v_taped v_size v_at v_sort v_place v_sign v_number v_fault v_wrongAt v_word v_marks v_notes v_inn_minutes v_inn_rooms v_inn_doors v_inn_things v_inn_dreams v_inn_sleepers v_inn_listeners v_inn_names z1 v_inn_doorB z2 v_inn_doorA v_inn_how v_inn_bed)) args s 0 0 A := ⟨_, rfl⟩
  rw [← hQ]
  unfold fX12_walksMore at hf
  refine lv_iconst (v := 0) hx hb dX12_walksMore_0 (by decide) ?_
  refine lv_istore_n (lv' := [(2, .int 0), (0, .ref h), (1, .int p0)]) hx hb dX12_walksMore_1 rfl hl (by decide) rfl (fun ls hl => ?_)
  refine lpK hf (fun K21 eK21 hf => ?_)
  have hK21 : ∀ (x21_came : Nat → Int32) , K21 x21_came = some (z0, z1, z2) → AT p l e (rmOf 0 0) s m args below meth c E A Q 0 0 7 [(0, .ref h), (1, .int p0)] (wX12_walksMore E h h_inn h_tape h_far h_from h_real h_other h_kept h_set h_w h_book h_noteSort h_whose h_what h_noteIs h_fitting h_dawn h_likes h_walked h_came h_inn_creak h_inn_doorA h_inn_doorB h_inn_how h_inn_lies h_inn_isCold h_inn_falls h_inn_isFull h_inn_isTold h_inn_act h_inn_what h_inn_then h_inn_met h_inn_bed h_inn_dream h_inn_listens h_inn_name h_inn_nameSort h_inn_nameNumber v_thrown v_trouble v_where v_read v_taped v_size v_at v_sort v_place v_sign v_number v_fault v_wrongAt v_word v_marks v_notes v_inn_minutes v_inn_rooms v_inn_doors v_inn_things v_inn_dreams v_inn_sleepers v_inn_listeners v_inn_names x21_came v_inn_doorB v_walked v_inn_doorA v_inn_how v_inn_bed) 21 [] := by
    intro x21_came hf H locs ls hl hP hD hS
    rw [eK21] at hf
    replace hf := un1_s hf
    refine lv_iconst (v := 0) hx hb dX12_walksMore_21 (by decide) ?_
    refine lv_istore_n (lv' := [(2, .int 0), (0, .ref h), (1, .int p0)]) hx hb dX12_walksMore_22 rfl hl (by decide) rfl (fun ls hl => ?_)
    refine lpK hf (fun K56 eK56 hf => ?_)
    have hK56 : ∀ (x56_came : Nat → Int32) , K56 x56_came = some (z0, z1, z2) → AT p l e (rmOf 0 0) s m args below meth c E A Q 0 0 7 [(0, .ref h), (1, .int p0)] (wX12_walksMore E h h_inn h_tape h_far h_from h_real h_other h_kept h_set h_w h_book h_noteSort h_whose h_what h_noteIs h_fitting h_dawn h_likes h_walked h_came h_inn_creak h_inn_doorA h_inn_doorB h_inn_how h_inn_lies h_inn_isCold h_inn_falls h_inn_isFull h_inn_isTold h_inn_act h_inn_what h_inn_then h_inn_met h_inn_bed h_inn_dream h_inn_listens h_inn_name h_inn_nameSort h_inn_nameNumber v_thrown v_trouble v_where v_read v_taped v_size v_at v_sort v_place v_sign v_number v_fault v_wrongAt v_word v_marks v_notes v_inn_minutes v_inn_rooms v_inn_doors v_inn_things v_inn_dreams v_inn_sleepers v_inn_listeners v_inn_names x56_came v_inn_doorB v_walked v_inn_doorA v_inn_how v_inn_bed) 56 [] := by
      intro x56_came hf H locs ls hl hP hD hS
      rw [eK56] at hf
      replace hf := un1_s hf
      refine lv_iconst (v := 1) hx hb dX12_walksMore_56 (by decide) ?_
      refine lv_istore_n (lv' := [(2, .int 1), (0, .ref h), (1, .int p0)]) hx hb dX12_walksMore_57 rfl hl (by decide) rfl (fun ls hl => ?_)
      refine lpK hf (fun K231 eK231 hf => ?_)
      have hK231 : ∀ (x231_came : Nat → Int32) , K231 x231_came = some (z0, z1, z2) → AT p l e (rmOf 0 0) s m args below meth c E A Q 0 0 7 [(0, .ref h), (1, .int p0)] (wX12_walksMore E h h_inn h_tape h_far h_from h_real h_other h_kept h_set h_w h_book h_noteSort h_whose h_what h_noteIs h_fitting h_dawn h_likes h_walked h_came h_inn_creak h_inn_doorA h_inn_doorB h_inn_how h_inn_lies h_inn_isCold h_inn_falls h_inn_isFull h_inn_isTold h_inn_act h_inn_what h_inn_then h_inn_met h_inn_bed h_inn_dream h_inn_listens h_inn_name h_inn_nameSort h_inn_nameNumber v_thrown v_trouble v_where v_read v_taped v_size v_at v_sort v_place v_sign v_number v_fault v_wrongAt v_word v_marks v_notes v_inn_minutes v_inn_rooms v_inn_doors v_inn_things v_inn_dreams v_inn_sleepers v_inn_listeners v_inn_names x231_came v_inn_doorB v_walked v_inn_doorA v_inn_how v_inn_bed) 231 [] := by
        intro x231_came hf H locs ls hl hP hD hS
        rw [eK231] at hf
        replace hf := un1_s hf
        refine lv_aload_n hx hb dX12_walksMore_231 rfl (lv_at hl 0 rfl) ?_
        refine r_get C hP 0 rfl fl_X12_68 rfl dX12_walksMore_232 ?_
        refine lv_iload_n hx hb dX12_walksMore_235 rfl (lv_at hl 1 rfl) ?_
        obtain ⟨hi_236, hf⟩ := gd_s hf
        refine r_iald C hP 2 rfl hi_236 dX12_walksMore_236 ?_
        refine lv_iconst (v := (-1)) hx hb dX12_walksMore_237 (by decide) ?_
        refine lv_icmp_ne (tgt := 243) hx hb dX12_walksMore_238 (by decide) (fun c_238 => ?_) (fun c_238 => ?_)
        · replace hf := it_f c_238 hf
          refine lv_iload_n hx hb dX12_walksMore_243 rfl (lv_at hl 1 rfl) ?_
          refine lv_istore_n (lv' := [(3, .int p0), (0, .ref h), (1, .int p0)]) hx hb dX12_walksMore_244 rfl hl (by decide) rfl (fun ls hl => ?_)
          have key245 : ∀ (n : Nat) (x245_3 : Int32) (x245_walked : Nat → Int32) , lp (BX12_walksMore_245 x231_came v_inn_doorB v_inn_doorA) n (x245_3, x245_walked) = some (z0, z1, z2) → AT p l e (rmOf 0 0) s m args below meth c E A Q 0 0 7 [(0, .ref h), (3, .int x245_3)] (wX12_walksMore E h h_inn h_tape h_far h_from h_real h_other h_kept h_set h_w h_book h_noteSort h_whose h_what h_noteIs h_fitting h_dawn h_likes h_walked h_came h_inn_creak h_inn_doorA h_inn_doorB h_inn_how h_inn_lies h_inn_isCold h_inn_falls h_inn_isFull h_inn_isTold h_inn_act h_inn_what h_inn_then h_inn_met h_inn_bed h_inn_dream h_inn_listens h_inn_name h_inn_nameSort h_inn_nameNumber v_thrown v_trouble v_where v_read v_taped v_size v_at v_sort v_place v_sign v_number v_fault v_wrongAt v_word v_marks v_notes v_inn_minutes v_inn_rooms v_inn_doors v_inn_things v_inn_dreams v_inn_sleepers v_inn_listeners v_inn_names x231_came v_inn_doorB x245_walked v_inn_doorA v_inn_how v_inn_bed) 245 [] := by
            intro n
            induction n with
            | zero => intro x245_3 x245_walked hf; exact (lp_0 hf).elim
            | succ n ih245 =>
              intro x245_3 x245_walked hf H locs ls hl hP hD hS
              replace hf := lp_s hf
              generalize lp (BX12_walksMore_245 x231_came v_inn_doorB v_inn_doorA) n = rec245 at ih245 hf
              unfold BX12_walksMore_245 at hf
              replace hf := un2_s hf
              refine lv_aload_n hx hb dX12_walksMore_245 rfl (lv_at hl 0 rfl) ?_
              refine r_get C hP 0 rfl fl_X12_68 rfl dX12_walksMore_246 ?_
              refine lv_iload_n hx hb dX12_walksMore_249 rfl (lv_at hl 1 rfl) ?_
              obtain ⟨hi_250, hf⟩ := gd_s hf
              refine r_iald C hP 2 rfl hi_250 dX12_walksMore_250 ?_
              refine lv_bipush (v := 10) hx hb dX12_walksMore_251 (by decide) ?_
              refine lv_icmp_eq (tgt := 348) hx hb dX12_walksMore_253 (by decide) (fun c_253 => ?_) (fun c_253 => ?_)
              · replace hf := it_t c_253 hf
                refine lv_iconst (v := 1) hx hb dX12_walksMore_348 (by decide) ?_
                cases hf
                rw [hQ]
                exact r_zret C hr hP hD hS (Or.inr rfl) rfl dX12_walksMore_349
              · replace hf := it_f c_253 hf
                refine lv_aload_n hx hb dX12_walksMore_256 rfl (lv_at hl 0 rfl) ?_
                refine r_get C hP 0 rfl fl_X12_68 rfl dX12_walksMore_257 ?_
                refine lv_iload_n hx hb dX12_walksMore_260 rfl (lv_at hl 1 rfl) ?_
                obtain ⟨hi_261, hf⟩ := gd_s hf
                refine r_iald C hP 2 rfl hi_261 dX12_walksMore_261 ?_
                refine lv_istore (lv' := [(4, .int (x231_came x245_3.toNatClampNeg)), (0, .ref h), (3, .int x245_3)]) hx hb dX12_walksMore_262 hl (by decide) rfl (fun ls hl => ?_)
                refine lv_aload_n hx hb dX12_walksMore_264 rfl (lv_at hl 1 rfl) ?_
                refine r_get C hP 0 rfl fl_X12_358 rfl dX12_walksMore_265 ?_
                refine r_get C hP 1 rfl fl_X12_307 rfl dX12_walksMore_268 ?_
                refine lv_iload hx hb dX12_walksMore_271 (lv_at hl 0 rfl) ?_
                obtain ⟨hi_273, hf⟩ := gd_s hf
                refine r_iald C hP 3 rfl hi_273 dX12_walksMore_273 ?_
                refine lv_iload_n hx hb dX12_walksMore_274 rfl (lv_at hl 2 rfl) ?_
                refine jnK hf (fun j283 ej283 hf => ?_)
                have hj283 : ∀ (x283_s0 : Int32) , j283 x283_s0 = some (z0, z1, z2) → AT p l e (rmOf 0 0) s m args below meth c E A Q 0 0 7 [(0, .ref h), (4, .int (x231_came x245_3.toNatClampNeg))] (wX12_walksMore E h h_inn h_tape h_far h_from h_real h_other h_kept h_set h_w h_book h_noteSort h_whose h_what h_noteIs h_fitting h_dawn h_likes h_walked h_came h_inn_creak h_inn_doorA h_inn_doorB h_inn_how h_inn_lies h_inn_isCold h_inn_falls h_inn_isFull h_inn_isTold h_inn_act h_inn_what h_inn_then h_inn_met h_inn_bed h_inn_dream h_inn_listens h_inn_name h_inn_nameSort h_inn_nameNumber v_thrown v_trouble v_where v_read v_taped v_size v_at v_sort v_place v_sign v_number v_fault v_wrongAt v_word v_marks v_notes v_inn_minutes v_inn_rooms v_inn_doors v_inn_things v_inn_dreams v_inn_sleepers v_inn_listeners v_inn_names x231_came v_inn_doorB x245_walked v_inn_doorA v_inn_how v_inn_bed) 283 [.int x283_s0] := by
                  intro x283_s0 hf H locs ls hl hP hD hS
                  rw [ej283] at hf
                  replace hf := un1_s hf
                  refine lv_istore (lv' := [(5, .int x283_s0), (0, .ref h), (4, .int (x231_came x245_3.toNatClampNeg))]) hx hb dX12_walksMore_283 hl (by decide) rfl (fun ls hl => ?_)
                  refine lv_aload_n hx hb dX12_walksMore_285 rfl (lv_at hl 1 rfl) ?_
                  refine r_get C hP 0 rfl fl_X12_65 rfl dX12_walksMore_286 ?_
                  refine lv_iload hx hb dX12_walksMore_289 (lv_at hl 2 rfl) ?_
                  refine lv_aload_n hx hb dX12_walksMore_291 rfl (lv_at hl 1 rfl) ?_
                  refine r_get C hP 0 rfl fl_X12_65 rfl dX12_walksMore_292 ?_
                  refine lv_iload hx hb dX12_walksMore_295 (lv_at hl 2 rfl) ?_
                  obtain ⟨hi_297, hf⟩ := gd_s hf
                  refine r_iald C hP 4 rfl hi_297 dX12_walksMore_297 ?_
                  refine jnK hf (fun j315 ej315 hf => ?_)
                  have hj315 : ∀ (x315_s1 : Int32) (x315_s2 : Int32) , j315 (x315_s1, x315_s2) = some (z0, z1, z2) → AT p l e (rmOf 0 0) s m args below meth c E A Q 0 0 7 [(0, .ref h), (4, .int (x231_came x245_3.toNatClampNeg)), (5, .int x283_s0)] (wX12_walksMore E h h_inn h_tape h_far h_from h_real h_other h_kept h_set h_w h_book h_noteSort h_whose h_what h_noteIs h_fitting h_dawn h_likes h_walked h_came h_inn_creak h_inn_doorA h_inn_doorB h_inn_how h_inn_lies h_inn_isCold h_inn_falls h_inn_isFull h_inn_isTold h_inn_act h_inn_what h_inn_then h_inn_met h_inn_bed h_inn_dream h_inn_listens h_inn_name h_inn_nameSort h_inn_nameNumber v_thrown v_trouble v_where v_read v_taped v_size v_at v_sort v_place v_sign v_number v_fault v_wrongAt v_word v_marks v_notes v_inn_minutes v_inn_rooms v_inn_doors v_inn_things v_inn_dreams v_inn_sleepers v_inn_listeners v_inn_names x231_came v_inn_doorB x245_walked v_inn_doorA v_inn_how v_inn_bed) 315 [.int x315_s2, .int x315_s1, .ref h_walked] := by
                    intro x315_s1 x315_s2 hf H locs ls hl hP hD hS
                    rw [ej315] at hf
                    replace hf := un2_s hf
                    obtain ⟨hi_315, hf⟩ := gd_s hf
                    refine r_iast (ws' := (wX12_walksMore E h h_inn h_tape h_far h_from h_real h_other h_kept h_set h_w h_book h_noteSort h_whose h_what h_noteIs h_fitting h_dawn h_likes h_walked h_came h_inn_creak h_inn_doorA h_inn_doorB h_inn_how h_inn_lies h_inn_isCold h_inn_falls h_inn_isFull h_inn_isTold h_inn_act h_inn_what h_inn_then h_inn_met h_inn_bed h_inn_dream h_inn_listens h_inn_name h_inn_nameSort h_inn_nameNumber v_thrown v_trouble v_where v_read v_taped v_size v_at v_sort v_place v_sign v_number v_fault v_wrongAt v_word v_marks v_notes v_inn_minutes v_inn_rooms v_inn_doors v_inn_things v_inn_dreams v_inn_sleepers v_inn_listeners v_inn_names x231_came v_inn_doorB (upd x245_walked x315_s1.toNatClampNeg x315_s2) v_inn_doorA v_inn_how v_inn_bed)) C hP hD hS 4 rfl hi_315 rfl dX12_walksMore_315 ?_
                    clear hP hD hS; intro H locs hP hD hS
                    refine lv_iload hx hb dX12_walksMore_316 (lv_at hl 2 rfl) ?_
                    refine jnK hf (fun j344 ej344 hf => ?_)
                    have hj344 : ∀ (x344_s0 : Int32) , j344 x344_s0 = some (z0, z1, z2) → AT p l e (rmOf 0 0) s m args below meth c E A Q 0 0 7 [(0, .ref h)] (wX12_walksMore E h h_inn h_tape h_far h_from h_real h_other h_kept h_set h_w h_book h_noteSort h_whose h_what h_noteIs h_fitting h_dawn h_likes h_walked h_came h_inn_creak h_inn_doorA h_inn_doorB h_inn_how h_inn_lies h_inn_isCold h_inn_falls h_inn_isFull h_inn_isTold h_inn_act h_inn_what h_inn_then h_inn_met h_inn_bed h_inn_dream h_inn_listens h_inn_name h_inn_nameSort h_inn_nameNumber v_thrown v_trouble v_where v_read v_taped v_size v_at v_sort v_place v_sign v_number v_fault v_wrongAt v_word v_marks v_notes v_inn_minutes v_inn_rooms v_inn_doors v_inn_things v_inn_dreams v_inn_sleepers v_inn_listeners v_inn_names x231_came v_inn_doorB (upd x245_walked x315_s1.toNatClampNeg x315_s2) v_inn_doorA v_inn_how v_inn_bed) 344 [.int x344_s0] := by
                      intro x344_s0 hf H locs ls hl hP hD hS
                      rw [ej344] at hf
                      replace hf := un1_s hf
                      refine lv_istore_n (lv' := [(3, .int x344_s0), (0, .ref h)]) hx hb dX12_walksMore_344 rfl hl (by decide) rfl (fun ls hl => ?_)
                      refine lv_goto (tgt := 245) hx hb dX12_walksMore_345 (by decide) ?_
                      exact ih245 x344_s0 (upd x245_walked x315_s1.toNatClampNeg x315_s2) hf _ _ _ (lv_sub hl [1, 0] rfl) hP hD hS
                    clear ej344
                    refine lv_if_eq (tgt := 334) hx hb dX12_walksMore_318 (by decide) (fun c_318 => ?_) (fun c_318 => ?_)
                    · replace hf := it_t c_318 hf
                      refine lv_aload_n hx hb dX12_walksMore_334 rfl (lv_at hl 0 rfl) ?_
                      refine r_get C hP 0 rfl fl_X12_358 rfl dX12_walksMore_335 ?_
                      refine r_get C hP 1 rfl fl_X12_307 rfl dX12_walksMore_338 ?_
                      refine lv_iload hx hb dX12_walksMore_341 (lv_at hl 1 rfl) ?_
                      obtain ⟨hi_343, hf⟩ := gd_s hf
                      refine r_iald C hP 3 rfl hi_343 dX12_walksMore_343 ?_
                      exact hj344 (v_inn_doorB (x231_came x245_3.toNatClampNeg).toNatClampNeg) hf _ _ _ (lv_sub hl [0] rfl) hP hD hS
                    · replace hf := it_f c_318 hf
                      refine lv_aload_n hx hb dX12_walksMore_321 rfl (lv_at hl 0 rfl) ?_
                      refine r_get C hP 0 rfl fl_X12_358 rfl dX12_walksMore_322 ?_
                      refine r_get C hP 1 rfl fl_X12_304 rfl dX12_walksMore_325 ?_
                      refine lv_iload hx hb dX12_walksMore_328 (lv_at hl 1 rfl) ?_
                      obtain ⟨hi_330, hf⟩ := gd_s hf
                      refine r_iald C hP 5 rfl hi_330 dX12_walksMore_330 ?_
                      refine lv_goto (tgt := 344) hx hb dX12_walksMore_331 (by decide) ?_
                      exact hj344 (v_inn_doorA (x231_came x245_3.toNatClampNeg).toNatClampNeg) hf _ _ _ (lv_sub hl [0] rfl) hP hD hS
                  clear ej315
                  refine lv_if_eq (tgt := 305) hx hb dX12_walksMore_298 (by decide) (fun c_298 => ?_) (fun c_298 => ?_)
                  · replace hf := it_t c_298 hf
                    refine lv_iload hx hb dX12_walksMore_305 (lv_at hl 0 rfl) ?_
                    refine lv_if_eq (tgt := 314) hx hb dX12_walksMore_307 (by decide) (fun c_307 => ?_) (fun c_307 => ?_)
                    · replace hf := it_t c_307 hf
                      refine lv_iconst (v := 2) hx hb dX12_walksMore_314 (by decide) ?_
                      exact hj315 (x231_came x245_3.toNatClampNeg) 2 hf _ _ _ (lv_sub hl [1, 2, 0] rfl) hP hD hS
                    · replace hf := it_f c_307 hf
                      refine lv_iconst (v := 1) hx hb dX12_walksMore_310 (by decide) ?_
                      refine lv_goto (tgt := 315) hx hb dX12_walksMore_311 (by decide) ?_
                      exact hj315 (x231_came x245_3.toNatClampNeg) 1 hf _ _ _ (lv_sub hl [1, 2, 0] rfl) hP hD hS
                  · replace hf := it_f c_298 hf
                    refine lv_iconst (v := 0) hx hb dX12_walksMore_301 (by decide) ?_
                    refine lv_goto (tgt := 315) hx hb dX12_walksMore_302 (by decide) ?_
                    exact hj315 (x231_came x245_3.toNatClampNeg) 0 hf _ _ _ (lv_sub hl [1, 2, 0] rfl) hP hD hS
                clear ej283
                refine lv_icmp_ne (tgt := 282) hx hb dX12_walksMore_275 (by decide) (fun c_275 => ?_) (fun c_275 => ?_)
                · replace hf := it_f c_275 hf
                  refine lv_iconst (v := 0) hx hb dX12_walksMore_282 (by decide) ?_
                  exact hj283 0 hf _ _ _ (lv_sub hl [1, 0] rfl) hP hD hS
                · replace hf := it_t c_275 hf
                  refine lv_iconst (v := 1) hx hb dX12_walksMore_278 (by decide) ?_
                  refine lv_goto (tgt := 283) hx hb dX12_walksMore_279 (by decide) ?_
                  exact hj283 1 hf _ _ _ (lv_sub hl [1, 0] rfl) hP hD hS
          exact key245 _ p0 v_walked hf _ _ _ (lv_sub hl [1, 0] rfl) hP hD hS
        · replace hf := it_t c_238 hf
          refine lv_iconst (v := 0) hx hb dX12_walksMore_241 (by decide) ?_
          cases hf
          rw [hQ]
          exact r_zret C hr hP hD hS (Or.inl rfl) rfl dX12_walksMore_242
      clear eK231
      have key58 : ∀ (n : Nat) (x58_2 : Int32) (x58_came : Nat → Int32) , lp (BX12_walksMore_58 p0 v_inn_doors v_inn_how v_walked v_inn_doorB v_inn_doorA N K231) n (x58_2, x58_came) = some (z0, z1, z2) → AT p l e (rmOf 0 0) s m args below meth c E A Q 0 0 7 [(0, .ref h), (1, .int p0), (2, .int x58_2)] (wX12_walksMore E h h_inn h_tape h_far h_from h_real h_other h_kept h_set h_w h_book h_noteSort h_whose h_what h_noteIs h_fitting h_dawn h_likes h_walked h_came h_inn_creak h_inn_doorA h_inn_doorB h_inn_how h_inn_lies h_inn_isCold h_inn_falls h_inn_isFull h_inn_isTold h_inn_act h_inn_what h_inn_then h_inn_met h_inn_bed h_inn_dream h_inn_listens h_inn_name h_inn_nameSort h_inn_nameNumber v_thrown v_trouble v_where v_read v_taped v_size v_at v_sort v_place v_sign v_number v_fault v_wrongAt v_word v_marks v_notes v_inn_minutes v_inn_rooms v_inn_doors v_inn_things v_inn_dreams v_inn_sleepers v_inn_listeners v_inn_names x58_came v_inn_doorB v_walked v_inn_doorA v_inn_how v_inn_bed) 58 [] := by
        intro n
        induction n with
        | zero => intro x58_2 x58_came hf; exact (lp_0 hf).elim
        | succ n ih58 =>
          intro x58_2 x58_came hf H locs ls hl hP hD hS
          replace hf := lp_s hf
          generalize lp (BX12_walksMore_58 p0 v_inn_doors v_inn_how v_walked v_inn_doorB v_inn_doorA N K231) n = rec58 at ih58 hf
          unfold BX12_walksMore_58 at hf
          replace hf := un2_s hf
          refine lv_iload_n hx hb dX12_walksMore_58 rfl (lv_at hl 2 rfl) ?_
          refine lv_if_eq (tgt := 231) hx hb dX12_walksMore_59 (by decide) (fun c_59 => ?_) (fun c_59 => ?_)
          · replace hf := it_t c_59 hf
            exact hK231 x58_came hf _ _ _ (lv_sub hl [0, 1] rfl) hP hD hS
          · replace hf := it_f c_59 hf
            refine lv_aload_n hx hb dX12_walksMore_62 rfl (lv_at hl 0 rfl) ?_
            refine r_get C hP 0 rfl fl_X12_68 rfl dX12_walksMore_63 ?_
            refine lv_iload_n hx hb dX12_walksMore_66 rfl (lv_at hl 1 rfl) ?_
            obtain ⟨hi_67, hf⟩ := gd_s hf
            refine r_iald C hP 2 rfl hi_67 dX12_walksMore_67 ?_
            refine lv_iconst (v := (-1)) hx hb dX12_walksMore_68 (by decide) ?_
            refine lv_icmp_ne (tgt := 231) hx hb dX12_walksMore_69 (by decide) (fun c_69 => ?_) (fun c_69 => ?_)
            · replace hf := it_f c_69 hf
              exact hK231 x58_came hf _ _ _ (lv_sub hl [0, 1] rfl) hP hD hS
            · replace hf := it_t c_69 hf
              refine lv_iconst (v := 0) hx hb dX12_walksMore_72 (by decide) ?_
              refine lv_istore_n (lv' := [(2, .int 0), (0, .ref h), (1, .int p0)]) hx hb dX12_walksMore_73 rfl hl (by decide) rfl (fun ls hl => ?_)
              refine lv_iconst (v := 0) hx hb dX12_walksMore_74 (by decide) ?_
              refine lv_istore_n (lv' := [(3, .int 0), (2, .int 0), (0, .ref h), (1, .int p0)]) hx hb dX12_walksMore_75 rfl hl (by decide) rfl (fun ls hl => ?_)
              refine lpK hf (fun K228 eK228 hf => ?_)
              have hK228 : ∀ (x228_2 : Int32) (x228_came : Nat → Int32) , K228 (x228_2, x228_came) = some (z0, z1, z2) → AT p l e (rmOf 0 0) s m args below meth c E A Q 0 0 7 [(0, .ref h), (1, .int p0), (2, .int x228_2)] (wX12_walksMore E h h_inn h_tape h_far h_from h_real h_other h_kept h_set h_w h_book h_noteSort h_whose h_what h_noteIs h_fitting h_dawn h_likes h_walked h_came h_inn_creak h_inn_doorA h_inn_doorB h_inn_how h_inn_lies h_inn_isCold h_inn_falls h_inn_isFull h_inn_isTold h_inn_act h_inn_what h_inn_then h_inn_met h_inn_bed h_inn_dream h_inn_listens h_inn_name h_inn_nameSort h_inn_nameNumber v_thrown v_trouble v_where v_read v_taped v_size v_at v_sort v_place v_sign v_number v_fault v_wrongAt v_word v_marks v_notes v_inn_minutes v_inn_rooms v_inn_doors v_inn_things v_inn_dreams v_inn_sleepers v_inn_listeners v_inn_names x228_came v_inn_doorB v_walked v_inn_doorA v_inn_how v_inn_bed) 228 [] := by
                intro x228_2 x228_came hf H locs ls hl hP hD hS
                rw [eK228] at hf
                replace hf := un2_s hf
                refine lv_goto (tgt := 58) hx hb dX12_walksMore_228 (by decide) ?_
                exact ih58 x228_2 x228_came hf _ _ _ (lv_sub hl [0, 1, 2] rfl) hP hD hS
              clear eK228
              have key76 : ∀ (n : Nat) (x76_2 : Int32) (x76_3 : Int32) (x76_came : Nat → Int32) , lp (BX12_walksMore_76 v_inn_doors v_inn_how v_walked v_inn_doorB v_inn_doorA N K228) n (x76_2, x76_3, x76_came) = some (z0, z1, z2) → AT p l e (rmOf 0 0) s m args below meth c E A Q 0 0 7 [(0, .ref h), (1, .int p0), (2, .int x76_2), (3, .int x76_3)] (wX12_walksMore E h h_inn h_tape h_far h_from h_real h_other h_kept h_set h_w h_book h_noteSort h_whose h_what h_noteIs h_fitting h_dawn h_likes h_walked h_came h_inn_creak h_inn_doorA h_inn_doorB h_inn_how h_inn_lies h_inn_isCold h_inn_falls h_inn_isFull h_inn_isTold h_inn_act h_inn_what h_inn_then h_inn_met h_inn_bed h_inn_dream h_inn_listens h_inn_name h_inn_nameSort h_inn_nameNumber v_thrown v_trouble v_where v_read v_taped v_size v_at v_sort v_place v_sign v_number v_fault v_wrongAt v_word v_marks v_notes v_inn_minutes v_inn_rooms v_inn_doors v_inn_things v_inn_dreams v_inn_sleepers v_inn_listeners v_inn_names x76_came v_inn_doorB v_walked v_inn_doorA v_inn_how v_inn_bed) 76 [] := by
                intro n
                induction n with
                | zero => intro x76_2 x76_3 x76_came hf; exact (lp_0 hf).elim
                | succ n ih76 =>
                  intro x76_2 x76_3 x76_came hf H locs ls hl hP hD hS
                  replace hf := lp_s hf
                  generalize lp (BX12_walksMore_76 v_inn_doors v_inn_how v_walked v_inn_doorB v_inn_doorA N K228) n = rec76 at ih76 hf
                  unfold BX12_walksMore_76 at hf
                  replace hf := un3_s hf
                  refine lv_iload_n hx hb dX12_walksMore_76 rfl (lv_at hl 3 rfl) ?_
                  refine lv_aload_n hx hb dX12_walksMore_77 rfl (lv_at hl 0 rfl) ?_
                  refine r_get C hP 0 rfl fl_X12_358 rfl dX12_walksMore_78 ?_
                  refine r_get C hP 1 rfl fl_X12_292 rfl dX12_walksMore_81 ?_
                  refine lv_icmp_ge (tgt := 228) hx hb dX12_walksMore_84 (by decide) (fun c_84 => ?_) (fun c_84 => ?_)
                  · replace hf := it_t c_84 hf
                    exact hK228 x76_2 x76_came hf _ _ _ (lv_sub hl [0, 1, 2] rfl) hP hD hS
                  · replace hf := it_f c_84 hf
                    refine lv_aload_n hx hb dX12_walksMore_87 rfl (lv_at hl 0 rfl) ?_
                    refine r_get C hP 0 rfl fl_X12_358 rfl dX12_walksMore_88 ?_
                    refine r_get C hP 1 rfl fl_X12_310 rfl dX12_walksMore_91 ?_
                    refine lv_iload_n hx hb dX12_walksMore_94 rfl (lv_at hl 3 rfl) ?_
                    obtain ⟨hi_95, hf⟩ := gd_s hf
                    refine r_iald C hP 6 rfl hi_95 dX12_walksMore_95 ?_
                    refine lv_iconst (v := 2) hx hb dX12_walksMore_96 (by decide) ?_
                    refine jnK hf (fun j222 ej222 hf => ?_)
                    have hj222 : ∀ (x222_2 : Int32) (x222_came : Nat → Int32) , j222 (x222_2, x222_came) = some (z0, z1, z2) → AT p l e (rmOf 0 0) s m args below meth c E A Q 0 0 7 [(0, .ref h), (1, .int p0), (2, .int x222_2), (3, .int x76_3)] (wX12_walksMore E h h_inn h_tape h_far h_from h_real h_other h_kept h_set h_w h_book h_noteSort h_whose h_what h_noteIs h_fitting h_dawn h_likes h_walked h_came h_inn_creak h_inn_doorA h_inn_doorB h_inn_how h_inn_lies h_inn_isCold h_inn_falls h_inn_isFull h_inn_isTold h_inn_act h_inn_what h_inn_then h_inn_met h_inn_bed h_inn_dream h_inn_listens h_inn_name h_inn_nameSort h_inn_nameNumber v_thrown v_trouble v_where v_read v_taped v_size v_at v_sort v_place v_sign v_number v_fault v_wrongAt v_word v_marks v_notes v_inn_minutes v_inn_rooms v_inn_doors v_inn_things v_inn_dreams v_inn_sleepers v_inn_listeners v_inn_names x222_came v_inn_doorB v_walked v_inn_doorA v_inn_how v_inn_bed) 222 [] := by
                      intro x222_2 x222_came hf H locs ls hl hP hD hS
                      rw [ej222] at hf
                      replace hf := un2_s hf
                      refine lv_iinc (v := x76_3 + 1) (lv' := [(3, .int (x76_3 + 1)), (0, .ref h), (1, .int p0), (2, .int x222_2)]) hx hb dX12_walksMore_222 hl (k := 3) rfl rfl (by decide) rfl (fun ls hl => ?_)
                      refine lv_goto (tgt := 76) hx hb dX12_walksMore_225 (by decide) ?_
                      exact ih76 x222_2 (x76_3 + 1) x222_came hf _ _ _ (lv_sub hl [1, 2, 3, 0] rfl) hP hD hS
                    clear ej222
                    refine lv_icmp_ne (tgt := 103) hx hb dX12_walksMore_97 (by decide) (fun c_97 => ?_) (fun c_97 => ?_)
                    · replace hf := it_f c_97 hf
                      refine lv_iconst (v := 1) hx hb dX12_walksMore_103 (by decide) ?_
                      refine lv_istore (lv' := [(4, .int 1), (0, .ref h), (1, .int p0), (2, .int x76_2), (3, .int x76_3)]) hx hb dX12_walksMore_104 hl (by decide) rfl (fun ls hl => ?_)
                      have key106 : ∀ (n : Nat) (x106_2 : Int32) (x106_4 : Int32) (x106_came : Nat → Int32) , lp (BX12_walksMore_106 j222 x76_3 v_walked v_inn_doorB v_inn_doorA) n (x106_2, x106_4, x106_came) = some (z0, z1, z2) → AT p l e (rmOf 0 0) s m args below meth c E A Q 0 0 7 [(0, .ref h), (1, .int p0), (2, .int x106_2), (3, .int x76_3), (4, .int x106_4)] (wX12_walksMore E h h_inn h_tape h_far h_from h_real h_other h_kept h_set h_w h_book h_noteSort h_whose h_what h_noteIs h_fitting h_dawn h_likes h_walked h_came h_inn_creak h_inn_doorA h_inn_doorB h_inn_how h_inn_lies h_inn_isCold h_inn_falls h_inn_isFull h_inn_isTold h_inn_act h_inn_what h_inn_then h_inn_met h_inn_bed h_inn_dream h_inn_listens h_inn_name h_inn_nameSort h_inn_nameNumber v_thrown v_trouble v_where v_read v_taped v_size v_at v_sort v_place v_sign v_number v_fault v_wrongAt v_word v_marks v_notes v_inn_minutes v_inn_rooms v_inn_doors v_inn_things v_inn_dreams v_inn_sleepers v_inn_listeners v_inn_names x106_came v_inn_doorB v_walked v_inn_doorA v_inn_how v_inn_bed) 106 [] := by
                        intro n
                        induction n with
                        | zero => intro x106_2 x106_4 x106_came hf; exact (lp_0 hf).elim
                        | succ n ih106 =>
                          intro x106_2 x106_4 x106_came hf H locs ls hl hP hD hS
                          replace hf := lp_s hf
                          generalize lp (BX12_walksMore_106 j222 x76_3 v_walked v_inn_doorB v_inn_doorA) n = rec106 at ih106 hf
                          unfold BX12_walksMore_106 at hf
                          replace hf := un3_s hf
                          refine lv_iload hx hb dX12_walksMore_106 (lv_at hl 4 rfl) ?_
                          refine lv_iconst (v := 3) hx hb dX12_walksMore_108 (by decide) ?_
                          refine lv_icmp_ge (tgt := 222) hx hb dX12_walksMore_109 (by decide) (fun c_109 => ?_) (fun c_109 => ?_)
                          · replace hf := it_t c_109 hf
                            exact hj222 x106_2 x106_came hf _ _ _ (lv_sub hl [0, 1, 2, 3] rfl) hP hD hS
                          · replace hf := it_f c_109 hf
                            refine lv_iload hx hb dX12_walksMore_112 (lv_at hl 4 rfl) ?_
                            refine lv_iconst (v := 1) hx hb dX12_walksMore_114 (by decide) ?_
                            refine jnK hf (fun j139 ej139 hf => ?_)
                            have hj139 : ∀ (x139_s0 : Int32) , j139 x139_s0 = some (z0, z1, z2) → AT p l e (rmOf 0 0) s m args below meth c E A Q 0 0 7 [(0, .ref h), (1, .int p0), (2, .int x106_2), (3, .int x76_3), (4, .int x106_4)] (wX12_walksMore E h h_inn h_tape h_far h_from h_real h_other h_kept h_set h_w h_book h_noteSort h_whose h_what h_noteIs h_fitting h_dawn h_likes h_walked h_came h_inn_creak h_inn_doorA h_inn_doorB h_inn_how h_inn_lies h_inn_isCold h_inn_falls h_inn_isFull h_inn_isTold h_inn_act h_inn_what h_inn_then h_inn_met h_inn_bed h_inn_dream h_inn_listens h_inn_name h_inn_nameSort h_inn_nameNumber v_thrown v_trouble v_where v_read v_taped v_size v_at v_sort v_place v_sign v_number v_fault v_wrongAt v_word v_marks v_notes v_inn_minutes v_inn_rooms v_inn_doors v_inn_things v_inn_dreams v_inn_sleepers v_inn_listeners v_inn_names x106_came v_inn_doorB v_walked v_inn_doorA v_inn_how v_inn_bed) 139 [.int x139_s0] := by
                              intro x139_s0 hf H locs ls hl hP hD hS
                              rw [ej139] at hf
                              replace hf := un1_s hf
                              refine lv_istore (lv' := [(5, .int x139_s0), (0, .ref h), (1, .int p0), (2, .int x106_2), (3, .int x76_3), (4, .int x106_4)]) hx hb dX12_walksMore_139 hl (by decide) rfl (fun ls hl => ?_)
                              refine lv_iload hx hb dX12_walksMore_141 (lv_at hl 5 rfl) ?_
                              refine lv_iconst (v := 1) hx hb dX12_walksMore_143 (by decide) ?_
                              refine jnK hf (fun j168 ej168 hf => ?_)
                              have hj168 : ∀ (x168_s0 : Int32) , j168 x168_s0 = some (z0, z1, z2) → AT p l e (rmOf 0 0) s m args below meth c E A Q 0 0 7 [(0, .ref h), (1, .int p0), (2, .int x106_2), (3, .int x76_3), (4, .int x106_4), (5, .int x139_s0)] (wX12_walksMore E h h_inn h_tape h_far h_from h_real h_other h_kept h_set h_w h_book h_noteSort h_whose h_what h_noteIs h_fitting h_dawn h_likes h_walked h_came h_inn_creak h_inn_doorA h_inn_doorB h_inn_how h_inn_lies h_inn_isCold h_inn_falls h_inn_isFull h_inn_isTold h_inn_act h_inn_what h_inn_then h_inn_met h_inn_bed h_inn_dream h_inn_listens h_inn_name h_inn_nameSort h_inn_nameNumber v_thrown v_trouble v_where v_read v_taped v_size v_at v_sort v_place v_sign v_number v_fault v_wrongAt v_word v_marks v_notes v_inn_minutes v_inn_rooms v_inn_doors v_inn_things v_inn_dreams v_inn_sleepers v_inn_listeners v_inn_names x106_came v_inn_doorB v_walked v_inn_doorA v_inn_how v_inn_bed) 168 [.int x168_s0] := by
                                intro x168_s0 hf H locs ls hl hP hD hS
                                rw [ej168] at hf
                                replace hf := un1_s hf
                                refine lv_istore (lv' := [(6, .int x168_s0), (0, .ref h), (1, .int p0), (2, .int x106_2), (3, .int x76_3), (4, .int x106_4), (5, .int x139_s0)]) hx hb dX12_walksMore_168 hl (by decide) rfl (fun ls hl => ?_)
                                refine lv_aload_n hx hb dX12_walksMore_170 rfl (lv_at hl 1 rfl) ?_
                                refine r_get C hP 0 rfl fl_X12_68 rfl dX12_walksMore_171 ?_
                                refine lv_iload hx hb dX12_walksMore_174 (lv_at hl 6 rfl) ?_
                                obtain ⟨hi_176, hf⟩ := gd_s hf
                                refine r_iald C hP 2 rfl hi_176 dX12_walksMore_176 ?_
                                refine lv_iconst (v := (-1)) hx hb dX12_walksMore_177 (by decide) ?_
                                refine jnK hf (fun j216 ej216 hf => ?_)
                                have hj216 : ∀ (x216_2 : Int32) (x216_came : Nat → Int32) , j216 (x216_2, x216_came) = some (z0, z1, z2) → AT p l e (rmOf 0 0) s m args below meth c E A Q 0 0 7 [(0, .ref h), (1, .int p0), (2, .int x216_2), (3, .int x76_3), (4, .int x106_4)] (wX12_walksMore E h h_inn h_tape h_far h_from h_real h_other h_kept h_set h_w h_book h_noteSort h_whose h_what h_noteIs h_fitting h_dawn h_likes h_walked h_came h_inn_creak h_inn_doorA h_inn_doorB h_inn_how h_inn_lies h_inn_isCold h_inn_falls h_inn_isFull h_inn_isTold h_inn_act h_inn_what h_inn_then h_inn_met h_inn_bed h_inn_dream h_inn_listens h_inn_name h_inn_nameSort h_inn_nameNumber v_thrown v_trouble v_where v_read v_taped v_size v_at v_sort v_place v_sign v_number v_fault v_wrongAt v_word v_marks v_notes v_inn_minutes v_inn_rooms v_inn_doors v_inn_things v_inn_dreams v_inn_sleepers v_inn_listeners v_inn_names x216_came v_inn_doorB v_walked v_inn_doorA v_inn_how v_inn_bed) 216 [] := by
                                  intro x216_2 x216_came hf H locs ls hl hP hD hS
                                  rw [ej216] at hf
                                  replace hf := un2_s hf
                                  refine lv_iinc (v := x106_4 + 1) (lv' := [(4, .int (x106_4 + 1)), (0, .ref h), (1, .int p0), (2, .int x216_2), (3, .int x76_3)]) hx hb dX12_walksMore_216 hl (k := 4) rfl rfl (by decide) rfl (fun ls hl => ?_)
                                  refine lv_goto (tgt := 106) hx hb dX12_walksMore_219 (by decide) ?_
                                  exact ih106 x216_2 (x106_4 + 1) x216_came hf _ _ _ (lv_sub hl [1, 2, 3, 4, 0] rfl) hP hD hS
                                clear ej216
                                refine lv_icmp_eq (tgt := 216) hx hb dX12_walksMore_178 (by decide) (fun c_178 => ?_) (fun c_178 => ?_)
                                · replace hf := it_t c_178 hf
                                  exact hj216 x106_2 x106_came hf _ _ _ (lv_sub hl [1, 2, 3, 4, 5] rfl) hP hD hS
                                · replace hf := it_f c_178 hf
                                  refine lv_aload_n hx hb dX12_walksMore_181 rfl (lv_at hl 1 rfl) ?_
                                  refine r_get C hP 0 rfl fl_X12_68 rfl dX12_walksMore_182 ?_
                                  refine lv_iload hx hb dX12_walksMore_185 (lv_at hl 0 rfl) ?_
                                  obtain ⟨hi_187, hf⟩ := gd_s hf
                                  refine r_iald C hP 2 rfl hi_187 dX12_walksMore_187 ?_
                                  refine lv_iconst (v := (-1)) hx hb dX12_walksMore_188 (by decide) ?_
                                  refine lv_icmp_ne (tgt := 216) hx hb dX12_walksMore_189 (by decide) (fun c_189 => ?_) (fun c_189 => ?_)
                                  · replace hf := it_f c_189 hf
                                    exact hj216 x106_2 x106_came hf _ _ _ (lv_sub hl [1, 2, 3, 4, 5] rfl) hP hD hS
                                  · replace hf := it_t c_189 hf
                                    refine lv_aload_n hx hb dX12_walksMore_192 rfl (lv_at hl 1 rfl) ?_
                                    refine r_get C hP 0 rfl fl_X12_65 rfl dX12_walksMore_193 ?_
                                    refine lv_iload_n hx hb dX12_walksMore_196 rfl (lv_at hl 4 rfl) ?_
                                    obtain ⟨hi_197, hf⟩ := gd_s hf
                                    refine r_iald C hP 4 rfl hi_197 dX12_walksMore_197 ?_
                                    refine lv_iload hx hb dX12_walksMore_198 (lv_at hl 5 rfl) ?_
                                    refine lv_icmp_ne (tgt := 206) hx hb dX12_walksMore_200 (by decide) (fun c_200 => ?_) (fun c_200 => ?_)
                                    · replace hf := it_f c_200 hf
                                      refine lv_aload_n hx hb dX12_walksMore_206 rfl (lv_at hl 1 rfl) ?_
                                      refine r_get C hP 0 rfl fl_X12_68 rfl dX12_walksMore_207 ?_
                                      refine lv_iload hx hb dX12_walksMore_210 (lv_at hl 0 rfl) ?_
                                      refine lv_iload_n hx hb dX12_walksMore_212 rfl (lv_at hl 4 rfl) ?_
                                      obtain ⟨hi_213, hf⟩ := gd_s hf
                                      refine r_iast (ws' := (wX12_walksMore E h h_inn h_tape h_far h_from h_real h_other h_kept h_set h_w h_book h_noteSort h_whose h_what h_noteIs h_fitting h_dawn h_likes h_walked h_came h_inn_creak h_inn_doorA h_inn_doorB h_inn_how h_inn_lies h_inn_isCold h_inn_falls h_inn_isFull h_inn_isTold h_inn_act h_inn_what h_inn_then h_inn_met h_inn_bed h_inn_dream h_inn_listens h_inn_name h_inn_nameSort h_inn_nameNumber v_thrown v_trouble v_where v_read v_taped v_size v_at v_sort v_place v_sign v_number v_fault v_wrongAt v_word v_marks v_notes v_inn_minutes v_inn_rooms v_inn_doors v_inn_things v_inn_dreams v_inn_sleepers v_inn_listeners v_inn_names (upd x106_came x168_s0.toNatClampNeg x76_3) v_inn_doorB v_walked v_inn_doorA v_inn_how v_inn_bed)) C hP hD hS 2 rfl hi_213 rfl dX12_walksMore_213 ?_
                                      clear hP hD hS; intro H locs hP hD hS
                                      refine lv_iconst (v := 1) hx hb dX12_walksMore_214 (by decide) ?_
                                      refine lv_istore_n (lv' := [(2, .int 1), (6, .int x168_s0), (0, .ref h), (1, .int p0), (3, .int x76_3), (4, .int x106_4), (5, .int x139_s0)]) hx hb dX12_walksMore_215 rfl hl (by decide) rfl (fun ls hl => ?_)
                                      exact hj216 1 (upd x106_came x168_s0.toNatClampNeg x76_3) hf _ _ _ (lv_sub hl [2, 3, 0, 4, 5] rfl) hP hD hS
                                    · replace hf := it_t c_200 hf
                                      refine lv_goto (tgt := 216) hx hb dX12_walksMore_203 (by decide) ?_
                                      exact hj216 x106_2 x106_came hf _ _ _ (lv_sub hl [1, 2, 3, 4, 5] rfl) hP hD hS
                              clear ej168
                              refine lv_icmp_ne (tgt := 159) hx hb dX12_walksMore_144 (by decide) (fun c_144 => ?_) (fun c_144 => ?_)
                              · replace hf := it_f c_144 hf
                                refine lv_aload_n hx hb dX12_walksMore_159 rfl (lv_at hl 1 rfl) ?_
                                refine r_get C hP 0 rfl fl_X12_358 rfl dX12_walksMore_160 ?_
                                refine r_get C hP 1 rfl fl_X12_304 rfl dX12_walksMore_163 ?_
                                refine lv_iload_n hx hb dX12_walksMore_166 rfl (lv_at hl 4 rfl) ?_
                                obtain ⟨hi_167, hf⟩ := gd_s hf
                                refine r_iald C hP 5 rfl hi_167 dX12_walksMore_167 ?_
                                exact hj168 (v_inn_doorA x76_3.toNatClampNeg) hf _ _ _ (lv_sub hl [1, 2, 3, 4, 5, 0] rfl) hP hD hS
                              · replace hf := it_t c_144 hf
                                refine lv_aload_n hx hb dX12_walksMore_147 rfl (lv_at hl 1 rfl) ?_
                                refine r_get C hP 0 rfl fl_X12_358 rfl dX12_walksMore_148 ?_
                                refine r_get C hP 1 rfl fl_X12_307 rfl dX12_walksMore_151 ?_
                                refine lv_iload_n hx hb dX12_walksMore_154 rfl (lv_at hl 4 rfl) ?_
                                obtain ⟨hi_155, hf⟩ := gd_s hf
                                refine r_iald C hP 3 rfl hi_155 dX12_walksMore_155 ?_
                                refine lv_goto (tgt := 168) hx hb dX12_walksMore_156 (by decide) ?_
                                exact hj168 (v_inn_doorB x76_3.toNatClampNeg) hf _ _ _ (lv_sub hl [1, 2, 3, 4, 5, 0] rfl) hP hD hS
                            clear ej139
                            refine lv_icmp_ne (tgt := 130) hx hb dX12_walksMore_115 (by decide) (fun c_115 => ?_) (fun c_115 => ?_)
                            · replace hf := it_f c_115 hf
                              refine lv_aload_n hx hb dX12_walksMore_130 rfl (lv_at hl 0 rfl) ?_
                              refine r_get C hP 0 rfl fl_X12_358 rfl dX12_walksMore_131 ?_
                              refine r_get C hP 1 rfl fl_X12_307 rfl dX12_walksMore_134 ?_
                              refine lv_iload_n hx hb dX12_walksMore_137 rfl (lv_at hl 3 rfl) ?_
                              obtain ⟨hi_138, hf⟩ := gd_s hf
                              refine r_iald C hP 3 rfl hi_138 dX12_walksMore_138 ?_
                              exact hj139 (v_inn_doorB x76_3.toNatClampNeg) hf _ _ _ (lv_sub hl [0, 1, 2, 3, 4] rfl) hP hD hS
                            · replace hf := it_t c_115 hf
                              refine lv_aload_n hx hb dX12_walksMore_118 rfl (lv_at hl 0 rfl) ?_
                              refine r_get C hP 0 rfl fl_X12_358 rfl dX12_walksMore_119 ?_
                              refine r_get C hP 1 rfl fl_X12_304 rfl dX12_walksMore_122 ?_
                              refine lv_iload_n hx hb dX12_walksMore_125 rfl (lv_at hl 3 rfl) ?_
                              obtain ⟨hi_126, hf⟩ := gd_s hf
                              refine r_iald C hP 5 rfl hi_126 dX12_walksMore_126 ?_
                              refine lv_goto (tgt := 139) hx hb dX12_walksMore_127 (by decide) ?_
                              exact hj139 (v_inn_doorA x76_3.toNatClampNeg) hf _ _ _ (lv_sub hl [0, 1, 2, 3, 4] rfl) hP hD hS
                      exact key106 _ x76_2 1 x76_came hf _ _ _ (lv_sub hl [1, 2, 3, 4, 0] rfl) hP hD hS
                    · replace hf := it_t c_97 hf
                      refine lv_goto (tgt := 222) hx hb dX12_walksMore_100 (by decide) ?_
                      exact hj222 x76_2 x76_came hf _ _ _ (lv_sub hl [0, 1, 2, 3] rfl) hP hD hS
              exact key76 _ 0 0 x58_came hf _ _ _ (lv_sub hl [2, 3, 1, 0] rfl) hP hD hS
      exact key58 _ 1 x56_came hf _ _ _ (lv_sub hl [1, 2, 0] rfl) hP hD hS
    clear eK56
    have key23 : ∀ (n : Nat) (x23_2 : Int32) (x23_came : Nat → Int32) , lp (BX12_walksMore_23 v_inn_sleepers v_inn_bed K56) n (x23_2, x23_came) = some (z0, z1, z2) → AT p l e (rmOf 0 0) s m args below meth c E A Q 0 0 7 [(0, .ref h), (1, .int p0), (2, .int x23_2)] (wX12_walksMore E h h_inn h_tape h_far h_from h_real h_other h_kept h_set h_w h_book h_noteSort h_whose h_what h_noteIs h_fitting h_dawn h_likes h_walked h_came h_inn_creak h_inn_doorA h_inn_doorB h_inn_how h_inn_lies h_inn_isCold h_inn_falls h_inn_isFull h_inn_isTold h_inn_act h_inn_what h_inn_then h_inn_met h_inn_bed h_inn_dream h_inn_listens h_inn_name h_inn_nameSort h_inn_nameNumber v_thrown v_trouble v_where v_read v_taped v_size v_at v_sort v_place v_sign v_number v_fault v_wrongAt v_word v_marks v_notes v_inn_minutes v_inn_rooms v_inn_doors v_inn_things v_inn_dreams v_inn_sleepers v_inn_listeners v_inn_names x23_came v_inn_doorB v_walked v_inn_doorA v_inn_how v_inn_bed) 23 [] := by
      intro n
      induction n with
      | zero => intro x23_2 x23_came hf; exact (lp_0 hf).elim
      | succ n ih23 =>
        intro x23_2 x23_came hf H locs ls hl hP hD hS
        replace hf := lp_s hf
        generalize lp (BX12_walksMore_23 v_inn_sleepers v_inn_bed K56) n = rec23 at ih23 hf
        unfold BX12_walksMore_23 at hf
        replace hf := un2_s hf
        refine lv_iload_n hx hb dX12_walksMore_23 rfl (lv_at hl 2 rfl) ?_
        refine lv_aload_n hx hb dX12_walksMore_24 rfl (lv_at hl 0 rfl) ?_
        refine r_get C hP 0 rfl fl_X12_358 rfl dX12_walksMore_25 ?_
        refine r_get C hP 1 rfl fl_X12_247 rfl dX12_walksMore_28 ?_
        refine lv_icmp_ge (tgt := 56) hx hb dX12_walksMore_31 (by decide) (fun c_31 => ?_) (fun c_31 => ?_)
        · replace hf := it_t c_31 hf
          exact hK56 x23_came hf _ _ _ (lv_sub hl [0, 1] rfl) hP hD hS
        · replace hf := it_f c_31 hf
          refine lv_aload_n hx hb dX12_walksMore_34 rfl (lv_at hl 0 rfl) ?_
          refine r_get C hP 0 rfl fl_X12_68 rfl dX12_walksMore_35 ?_
          refine lv_aload_n hx hb dX12_walksMore_38 rfl (lv_at hl 0 rfl) ?_
          refine r_get C hP 0 rfl fl_X12_358 rfl dX12_walksMore_39 ?_
          refine r_get C hP 1 rfl fl_X12_342 rfl dX12_walksMore_42 ?_
          refine lv_iload_n hx hb dX12_walksMore_45 rfl (lv_at hl 2 rfl) ?_
          obtain ⟨hi_46, hf⟩ := gd_s hf
          refine r_iald C hP 7 rfl hi_46 dX12_walksMore_46 ?_
          refine lv_bipush (v := 10) hx hb dX12_walksMore_47 (by decide) ?_
          obtain ⟨hi_49, hf⟩ := gd_s hf
          refine r_iast (ws' := (wX12_walksMore E h h_inn h_tape h_far h_from h_real h_other h_kept h_set h_w h_book h_noteSort h_whose h_what h_noteIs h_fitting h_dawn h_likes h_walked h_came h_inn_creak h_inn_doorA h_inn_doorB h_inn_how h_inn_lies h_inn_isCold h_inn_falls h_inn_isFull h_inn_isTold h_inn_act h_inn_what h_inn_then h_inn_met h_inn_bed h_inn_dream h_inn_listens h_inn_name h_inn_nameSort h_inn_nameNumber v_thrown v_trouble v_where v_read v_taped v_size v_at v_sort v_place v_sign v_number v_fault v_wrongAt v_word v_marks v_notes v_inn_minutes v_inn_rooms v_inn_doors v_inn_things v_inn_dreams v_inn_sleepers v_inn_listeners v_inn_names (upd x23_came (v_inn_bed x23_2.toNatClampNeg).toNatClampNeg 10) v_inn_doorB v_walked v_inn_doorA v_inn_how v_inn_bed)) C hP hD hS 2 rfl hi_49 rfl dX12_walksMore_49 ?_
          clear hP hD hS; intro H locs hP hD hS
          refine lv_iinc (v := x23_2 + 1) (lv' := [(2, .int (x23_2 + 1)), (0, .ref h), (1, .int p0)]) hx hb dX12_walksMore_50 hl (k := 2) rfl rfl (by decide) rfl (fun ls hl => ?_)
          refine lv_goto (tgt := 23) hx hb dX12_walksMore_53 (by decide) ?_
          exact ih23 (x23_2 + 1) (upd x23_came (v_inn_bed x23_2.toNatClampNeg).toNatClampNeg 10) hf _ _ _ (lv_sub hl [1, 2, 0] rfl) hP hD hS
    exact key23 _ 0 x21_came hf _ _ _ (lv_sub hl [1, 2, 0] rfl) hP hD hS
  clear eK21
  have key2 : ∀ (n : Nat) (x2_2 : Int32) (x2_came : Nat → Int32) , lp (BX12_walksMore_2 K21) n (x2_2, x2_came) = some (z0, z1, z2) → AT p l e (rmOf 0 0) s m args below meth c E A Q 0 0 7 [(0, .ref h), (1, .int p0), (2, .int x2_2)] (wX12_walksMore E h h_inn h_tape h_far h_from h_real h_other h_kept h_set h_w h_book h_noteSort h_whose h_what h_noteIs h_fitting h_dawn h_likes h_walked h_came h_inn_creak h_inn_doorA h_inn_doorB h_inn_how h_inn_lies h_inn_isCold h_inn_falls h_inn_isFull h_inn_isTold h_inn_act h_inn_what h_inn_then h_inn_met h_inn_bed h_inn_dream h_inn_listens h_inn_name h_inn_nameSort h_inn_nameNumber v_thrown v_trouble v_where v_read v_taped v_size v_at v_sort v_place v_sign v_number v_fault v_wrongAt v_word v_marks v_notes v_inn_minutes v_inn_rooms v_inn_doors v_inn_things v_inn_dreams v_inn_sleepers v_inn_listeners v_inn_names x2_came v_inn_doorB v_walked v_inn_doorA v_inn_how v_inn_bed) 2 [] := by
    intro n
    induction n with
    | zero => intro x2_2 x2_came hf; exact (lp_0 hf).elim
    | succ n ih2 =>
      intro x2_2 x2_came hf H locs ls hl hP hD hS
      replace hf := lp_s hf
      generalize lp (BX12_walksMore_2 K21) n = rec2 at ih2 hf
      unfold BX12_walksMore_2 at hf
      replace hf := un2_s hf
      refine lv_iload_n hx hb dX12_walksMore_2 rfl (lv_at hl 2 rfl) ?_
      refine lv_bipush (v := 8) hx hb dX12_walksMore_3 (by decide) ?_
      refine lv_icmp_ge (tgt := 21) hx hb dX12_walksMore_5 (by decide) (fun c_5 => ?_) (fun c_5 => ?_)
      · replace hf := it_t c_5 hf
        exact hK21 x2_came hf _ _ _ (lv_sub hl [0, 1] rfl) hP hD hS
      · replace hf := it_f c_5 hf
        refine lv_aload_n hx hb dX12_walksMore_8 rfl (lv_at hl 0 rfl) ?_
        refine r_get C hP 0 rfl fl_X12_68 rfl dX12_walksMore_9 ?_
        refine lv_iload_n hx hb dX12_walksMore_12 rfl (lv_at hl 2 rfl) ?_
        refine lv_iconst (v := (-1)) hx hb dX12_walksMore_13 (by decide) ?_
        obtain ⟨hi_14, hf⟩ := gd_s hf
        refine r_iast (ws' := (wX12_walksMore E h h_inn h_tape h_far h_from h_real h_other h_kept h_set h_w h_book h_noteSort h_whose h_what h_noteIs h_fitting h_dawn h_likes h_walked h_came h_inn_creak h_inn_doorA h_inn_doorB h_inn_how h_inn_lies h_inn_isCold h_inn_falls h_inn_isFull h_inn_isTold h_inn_act h_inn_what h_inn_then h_inn_met h_inn_bed h_inn_dream h_inn_listens h_inn_name h_inn_nameSort h_inn_nameNumber v_thrown v_trouble v_where v_read v_taped v_size v_at v_sort v_place v_sign v_number v_fault v_wrongAt v_word v_marks v_notes v_inn_minutes v_inn_rooms v_inn_doors v_inn_things v_inn_dreams v_inn_sleepers v_inn_listeners v_inn_names (upd x2_came x2_2.toNatClampNeg (-1)) v_inn_doorB v_walked v_inn_doorA v_inn_how v_inn_bed)) C hP hD hS 2 rfl hi_14 rfl dX12_walksMore_14 ?_
        clear hP hD hS; intro H locs hP hD hS
        refine lv_iinc (v := x2_2 + 1) (lv' := [(2, .int (x2_2 + 1)), (0, .ref h), (1, .int p0)]) hx hb dX12_walksMore_15 hl (k := 2) rfl rfl (by decide) rfl (fun ls hl => ?_)
        refine lv_goto (tgt := 2) hx hb dX12_walksMore_18 (by decide) ?_
        exact ih2 (x2_2 + 1) (upd x2_came x2_2.toNatClampNeg (-1)) hf _ _ _ (lv_sub hl [1, 2, 0] rfl) hP hD hS
  exact key2 _ 0 v_came hf _ _ _ (lv_sub hl [1, 2, 0] rfl) hP hD hS
def wX12_walks (E : EN) (h h_inn h_tape h_far h_from h_real h_other h_kept h_set h_w h_book h_noteSort h_whose h_what h_noteIs h_fitting h_dawn h_likes h_walked h_came h_inn_creak h_inn_doorA h_inn_doorB h_inn_how h_inn_lies h_inn_isCold h_inn_falls h_inn_isFull h_inn_isTold h_inn_act h_inn_what h_inn_then h_inn_met h_inn_bed h_inn_dream h_inn_listens h_inn_name h_inn_nameSort h_inn_nameNumber : Nat) (v_thrown : Int32) (v_trouble : Int32) (v_where : Int32) (v_read : Option Nat) (v_taped : Int32) (v_size : Int32) (v_at : Int32) (v_sort : Int32) (v_place : Int32) (v_sign : Int32) (v_number : Int32) (v_fault : Int32) (v_wrongAt : Int32) (v_word : Int64) (v_marks : Int32) (v_notes : Int32) (v_inn_minutes : Int32) (v_inn_rooms : Int32) (v_inn_doors : Int32) (v_inn_things : Int32) (v_inn_dreams : Int32) (v_inn_sleepers : Int32) (v_inn_listeners : Int32) (v_inn_names : Int32) (v_inn_bed : Nat → Int32) (v_came : Nat → Int32) (v_inn_doorB : Nat → Int32) (v_walked : Nat → Int32) (v_inn_doorA : Nat → Int32) (v_inn_how : Nat → Int32) : va_W := [(h, .inr (11, [.int v_thrown, .int v_trouble, .int v_where, .ref h_inn, va_rf v_read, .ref h_tape, .int v_taped, .int v_size, .int v_at, .int v_sort, .int v_place, .int v_sign, .int v_number, .int v_fault, .int v_wrongAt, .long v_word, .ref h_far, .ref h_from, .ref h_real, .ref h_other, .ref h_kept, .ref h_set, .ref h_w, .int v_marks, .int v_notes, .ref h_book, .ref h_noteSort, .ref h_whose, .ref h_what, .ref h_noteIs, .ref h_fitting, .ref h_dawn, .ref h_likes, .ref h_walked, .ref h_came])), (h_inn, .inr (10, [.int v_inn_minutes, .int v_inn_rooms, .int v_inn_doors, .int v_inn_things, .int v_inn_dreams, .int v_inn_sleepers, .int v_inn_listeners, .int v_inn_names, .ref h_inn_creak, .ref h_inn_doorA, .ref h_inn_doorB, .ref h_inn_how, .ref h_inn_lies, .ref h_inn_isCold, .ref h_inn_falls, .ref h_inn_isFull, .ref h_inn_isTold, .ref h_inn_act, .ref h_inn_what, .ref h_inn_then, .ref h_inn_met, .ref h_inn_bed, .ref h_inn_dream, .ref h_inn_listens, .ref h_inn_name, .ref h_inn_nameSort, .ref h_inn_nameNumber])), (h_inn_bed, aI E 3 v_inn_bed), (h_came, aI E 8 v_came), (h_inn_doorB, aI E 10 v_inn_doorB), (h_walked, aI E 10 v_walked), (h_inn_doorA, aI E 10 v_inn_doorA), (h_inn_how, aI E 10 v_inn_how)]
def BX12_walks_57 (N : Nat) (p0 : Int32) (v_inn_doors : Int32) (v_inn_sleepers : Int32) (v_inn_doorB : Nat → Int32) (v_inn_doorA : Nat → Int32) (v_inn_how : Nat → Int32) (v_inn_bed : Nat → Int32) (rec57 : (Int32 × (Nat → Int32) × (Nat → Int32)) → Option (Int32 × Int32 × Int32 × Int32 × (Nat → Int32) × (Nat → Int32))) : (Int32 × (Nat → Int32) × (Nat → Int32)) → Option (Int32 × Int32 × Int32 × Int32 × (Nat → Int32) × (Nat → Int32)) := un3 fun (x57_2 : Int32) (x57_came : Nat → Int32) (x57_walked : Nat → Int32) => (fX12_walksMore N p0 v_inn_doors v_inn_sleepers x57_came v_inn_doorB x57_walked v_inn_doorA v_inn_how v_inn_bed).bind (un3 fun (r_59 : Int32) (v_came_59 : Nat → Int32) (v_walked_59 : Nat → Int32) => if r_59 = 0 then ((fX12_good N x57_2).bind (un3 fun (r_73 : Int32) (v_trouble_73 : Int32) (v_where_73 : Int32) => some (r_73, 0, v_trouble_73, v_where_73, v_came_59, v_walked_59))) else (rec57 (x57_2 + 1, v_came_59, v_walked_59)))
def BX12_walks_36 (K55 : ((Nat → Int32)) → Option (Int32 × Int32 × Int32 × Int32 × (Nat → Int32) × (Nat → Int32))) (rec36 : (Int32 × (Nat → Int32)) → Option (Int32 × Int32 × Int32 × Int32 × (Nat → Int32) × (Nat → Int32))) : (Int32 × (Nat → Int32)) → Option (Int32 × Int32 × Int32 × Int32 × (Nat → Int32) × (Nat → Int32)) := un2 fun (x36_2 : Int32) (x36_walked : Nat → Int32) => if 10 ≤ x36_2 then (K55 x36_walked) else (gd x36_2 10 (rec36 (x36_2 + 1, upd x36_walked x36_2.toNatClampNeg 0)))
def fX12_walks (N : Nat) (p0 : Int32) (v_inn_rooms : Int32) (v_inn_doors : Int32) (v_inn_sleepers : Int32) (v_inn_bed : Nat → Int32) (v_came : Nat → Int32) (v_inn_doorB : Nat → Int32) (v_walked : Nat → Int32) (v_inn_doorA : Nat → Int32) (v_inn_how : Nat → Int32) : Option (Int32 × Int32 × Int32 × Int32 × (Nat → Int32) × (Nat → Int32)) := (fX12_isRoom N p0 v_inn_rooms).bind (un1 fun (r_7 : Int32) => if r_7 = 0 then ((fX12_refused N 1).bind (un3 fun (r_15 : Int32) (v_trouble_15 : Int32) (v_where_15 : Int32) => some (r_15, 0, v_trouble_15, v_where_15, v_came, v_walked))) else ((fX12_isBed N p0 v_inn_sleepers v_inn_bed).bind (un1 fun (r_21 : Int32) => if r_21 = 0 then (lp (BX12_walks_36 (un1 fun (x55_walked : Nat → Int32) => lp (BX12_walks_57 N p0 v_inn_doors v_inn_sleepers v_inn_doorB v_inn_doorA v_inn_how v_inn_bed) N (0, v_came, x55_walked))) N (0, v_walked)) else ((fX12_good N (-2)).bind (un3 fun (r_30 : Int32) (v_trouble_30 : Int32) (v_where_30 : Int32) => some (r_30, 0, v_trouble_30, v_where_30, v_came, v_walked))))))
set_option maxHeartbeats 4000000 in
set_option maxRecDepth 100000 in
theorem ctX12_walks (l : Launch) (E : EN) (h h_inn h_tape h_far h_from h_real h_other h_kept h_set h_w h_book h_noteSort h_whose h_what h_noteIs h_fitting h_dawn h_likes h_walked h_came h_inn_creak h_inn_doorA h_inn_doorB h_inn_how h_inn_lies h_inn_isCold h_inn_falls h_inn_isFull h_inn_isTold h_inn_act h_inn_what h_inn_then h_inn_met h_inn_bed h_inn_dream h_inn_listens h_inn_name h_inn_nameSort h_inn_nameNumber : Nat) (v_thrown : Int32) (v_trouble : Int32) (v_where : Int32) (v_read : Option Nat) (v_taped : Int32) (v_size : Int32) (v_at : Int32) (v_sort : Int32) (v_place : Int32) (v_sign : Int32) (v_number : Int32) (v_fault : Int32) (v_wrongAt : Int32) (v_word : Int64) (v_marks : Int32) (v_notes : Int32) (v_inn_minutes : Int32) (v_inn_rooms : Int32) (v_inn_doors : Int32) (v_inn_things : Int32) (v_inn_dreams : Int32) (v_inn_sleepers : Int32) (v_inn_listeners : Int32) (v_inn_names : Int32) (v_inn_bed : Nat → Int32) (v_came : Nat → Int32) (v_inn_doorB : Nat → Int32) (v_walked : Nat → Int32) (v_inn_doorA : Nat → Int32) (v_inn_how : Nat → Int32) (N : Nat) (p0 : Int32) (z0 : Int32) (z1 : Int32) (z2 : Int32) (z3 : Int32) (z4 : Nat → Int32) (z5 : Nat → Int32) (hf : fX12_walks N p0 v_inn_rooms v_inn_doors v_inn_sleepers v_inn_bed v_came v_inn_doorB v_walked v_inn_doorA v_inn_how = some (z0, z1, z2, z3, z4, z5)) : CTi l E yX12_walks cX12_walks 3 .int 1 26 [.ref h, .int p0] (wX12_walks E h h_inn h_tape h_far h_from h_real h_other h_kept h_set h_w h_book h_noteSort h_whose h_what h_noteIs h_fitting h_dawn h_likes h_walked h_came h_inn_creak h_inn_doorA h_inn_doorB h_inn_how h_inn_lies h_inn_isCold h_inn_falls h_inn_isFull h_inn_isTold h_inn_act h_inn_what h_inn_then h_inn_met h_inn_bed h_inn_dream h_inn_listens h_inn_name h_inn_nameSort h_inn_nameNumber v_thrown v_trouble v_where v_read v_taped v_size v_at v_sort v_place v_sign v_number v_fault v_wrongAt v_word v_marks v_notes v_inn_minutes v_inn_rooms v_inn_doors v_inn_things v_inn_dreams v_inn_sleepers v_inn_listeners v_inn_names v_inn_bed v_came v_inn_doorB v_walked v_inn_doorA v_inn_how) z0 (wX12_walks E h h_inn h_tape h_far h_from h_real h_other h_kept h_set h_w h_book h_noteSort h_whose h_what h_noteIs h_fitting h_dawn h_likes h_walked h_came h_inn_creak h_inn_doorA h_inn_doorB h_inn_how h_inn_lies h_inn_isCold h_inn_falls h_inn_isFull h_inn_isTold h_inn_act h_inn_what h_inn_then h_inn_met h_inn_bed h_inn_dream h_inn_listens h_inn_name h_inn_nameSort h_inn_nameNumber z1 z2 z3 v_read v_taped v_size v_at v_sort v_place v_sign v_number v_fault v_wrongAt v_word v_marks v_notes v_inn_minutes v_inn_rooms v_inn_doors v_inn_things v_inn_dreams v_inn_sleepers v_inn_listeners v_inn_names v_inn_bed z4 v_inn_doorB z5 v_inn_doorA v_inn_how) := by
  intro sz
  refine ct_body (by decide) (Nat.le_of_ble_eq_true rfl) ?_
  intro p e s m args below meth c A ls hAe C hr hin hP hD hS hl
  have C : CX p s m args meth c cX12_walks RX12 3 E A := C
  have hl : lv_has ls 3 [(0, .ref h), (1, .int p0)] := hl
  have hx := C.1
  have hb := C.2.1
  rw [hAe]
  clear hAe
  obtain ⟨Q, hQ⟩ : ∃ Q, Q = MQ below (Qi E A z0 (wX12_walks E h h_inn h_tape h_far h_from h_real h_other h_kept h_set h_w h_book h_noteSort h_whose h_what h_noteIs h_fitting h_dawn h_likes h_walked h_came h_inn_creak h_inn_doorA h_inn_doorB h_inn_how h_inn_lies h_inn_isCold h_inn_falls h_inn_isFull h_inn_isTold h_inn_act h_inn_what h_inn_then h_inn_met h_inn_bed h_inn_dream h_inn_listens h_inn_name h_inn_nameSort h_inn_nameNumber z1 z2 z3 v_read v_taped v_size v_at v_sort v_place v_sign v_number v_fault v_wrongAt v_word v_marks v_notes v_inn_minutes v_inn_rooms v_inn_doors v_inn_things v_inn_dreams v_inn_sleepers v_inn_listeners v_inn_names v_inn_bed z4 v_inn_doorB z5 v_inn_doorA v_inn_how)) args s 0 0 A := ⟨_, rfl⟩
  rw [← hQ]
  unfold fX12_walks at hf
  refine lv_aload_n hx hb dX12_walks_0 rfl (lv_at hl 0 rfl) ?_
  refine lv_iconst (v := 0) hx hb dX12_walks_1 (by decide) ?_
  refine r_put (ws' := (wX12_walks E h h_inn h_tape h_far h_from h_real h_other h_kept h_set h_w h_book h_noteSort h_whose h_what h_noteIs h_fitting h_dawn h_likes h_walked h_came h_inn_creak h_inn_doorA h_inn_doorB h_inn_how h_inn_lies h_inn_isCold h_inn_falls h_inn_isFull h_inn_isTold h_inn_act h_inn_what h_inn_then h_inn_met h_inn_bed h_inn_dream h_inn_listens h_inn_name h_inn_nameSort h_inn_nameNumber 0 v_trouble v_where v_read v_taped v_size v_at v_sort v_place v_sign v_number v_fault v_wrongAt v_word v_marks v_notes v_inn_minutes v_inn_rooms v_inn_doors v_inn_things v_inn_dreams v_inn_sleepers v_inn_listeners v_inn_names v_inn_bed v_came v_inn_doorB v_walked v_inn_doorA v_inn_how)) C hP hD hS 0 rfl fl_X12_71 rfl rfl (by decide) rfl dX12_walks_2 ?_
  clear hP hD hS; intro H locs hP hD hS
  refine lv_aload_n hx hb dX12_walks_5 rfl (lv_at hl 0 rfl) ?_
  refine lv_iload_n hx hb dX12_walks_6 rfl (lv_at hl 1 rfl) ?_
  obtain ⟨r_7, hc_7, hf⟩ := bd1 hf
  refine r_callVi (ws' := (wX12_walks E h h_inn h_tape h_far h_from h_real h_other h_kept h_set h_w h_book h_noteSort h_whose h_what h_noteIs h_fitting h_dawn h_likes h_walked h_came h_inn_creak h_inn_doorA h_inn_doorB h_inn_how h_inn_lies h_inn_isCold h_inn_falls h_inn_isFull h_inn_isTold h_inn_act h_inn_what h_inn_then h_inn_met h_inn_bed h_inn_dream h_inn_listens h_inn_name h_inn_nameSort h_inn_nameNumber 0 v_trouble v_where v_read v_taped v_size v_at v_sort v_place v_sign v_number v_fault v_wrongAt v_word v_marks v_notes v_inn_minutes v_inn_rooms v_inn_doors v_inn_things v_inn_dreams v_inn_sleepers v_inn_listeners v_inn_names v_inn_bed v_came v_inn_doorB v_walked v_inn_doorA v_inn_how)) (As := [.int p0]) (rest := []) C (ctX12_isRoom l E h h_inn h_tape h_far h_from h_real h_other h_kept h_set h_w h_book h_noteSort h_whose h_what h_noteIs h_fitting h_dawn h_likes h_walked h_came h_inn_creak h_inn_doorA h_inn_doorB h_inn_how h_inn_lies h_inn_isCold h_inn_falls h_inn_isFull h_inn_isTold h_inn_act h_inn_what h_inn_then h_inn_met h_inn_bed h_inn_dream h_inn_listens h_inn_name h_inn_nameSort h_inn_nameNumber 0 v_trouble v_where v_read v_taped v_size v_at v_sort v_place v_sign v_number v_fault v_wrongAt v_word v_marks v_notes v_inn_minutes v_inn_rooms v_inn_doors v_inn_things v_inn_dreams v_inn_sleepers v_inn_listeners v_inn_names N p0 r_7 hc_7) ml_X12_379 ⟨Nat.le_of_ble_eq_true rfl, Nat.le_of_ble_eq_true rfl⟩ hP hD hS 0 rfl rfl rfl [0, 1] rfl rfl rfl rfl rfl hl.1 rfl (Nat.le_of_ble_eq_true rfl) ⟨Nat.zero_le _, Nat.zero_le _⟩ dX12_walks_7 ?_
  clear hP hD hS; intro H locs hP hD hS
  refine lv_if_ne (tgt := 19) hx hb dX12_walks_10 (by decide) (fun c_10 => ?_) (fun c_10 => ?_)
  · replace hf := it_f c_10 hf
    refine lv_aload_n hx hb dX12_walks_19 rfl (lv_at hl 0 rfl) ?_
    refine lv_iload_n hx hb dX12_walks_20 rfl (lv_at hl 1 rfl) ?_
    obtain ⟨r_21, hc_21, hf⟩ := bd1 hf
    refine r_callVi (ws' := (wX12_walks E h h_inn h_tape h_far h_from h_real h_other h_kept h_set h_w h_book h_noteSort h_whose h_what h_noteIs h_fitting h_dawn h_likes h_walked h_came h_inn_creak h_inn_doorA h_inn_doorB h_inn_how h_inn_lies h_inn_isCold h_inn_falls h_inn_isFull h_inn_isTold h_inn_act h_inn_what h_inn_then h_inn_met h_inn_bed h_inn_dream h_inn_listens h_inn_name h_inn_nameSort h_inn_nameNumber 0 v_trouble v_where v_read v_taped v_size v_at v_sort v_place v_sign v_number v_fault v_wrongAt v_word v_marks v_notes v_inn_minutes v_inn_rooms v_inn_doors v_inn_things v_inn_dreams v_inn_sleepers v_inn_listeners v_inn_names v_inn_bed v_came v_inn_doorB v_walked v_inn_doorA v_inn_how)) (As := [.int p0]) (rest := []) C (ctX12_isBed l E h h_inn h_tape h_far h_from h_real h_other h_kept h_set h_w h_book h_noteSort h_whose h_what h_noteIs h_fitting h_dawn h_likes h_walked h_came h_inn_creak h_inn_doorA h_inn_doorB h_inn_how h_inn_lies h_inn_isCold h_inn_falls h_inn_isFull h_inn_isTold h_inn_act h_inn_what h_inn_then h_inn_met h_inn_bed h_inn_dream h_inn_listens h_inn_name h_inn_nameSort h_inn_nameNumber 0 v_trouble v_where v_read v_taped v_size v_at v_sort v_place v_sign v_number v_fault v_wrongAt v_word v_marks v_notes v_inn_minutes v_inn_rooms v_inn_doors v_inn_things v_inn_dreams v_inn_sleepers v_inn_listeners v_inn_names v_inn_bed N p0 r_21 hc_21) ml_X12_486 ⟨Nat.le_of_ble_eq_true rfl, Nat.le_of_ble_eq_true rfl⟩ hP hD hS 0 rfl rfl rfl [0, 1, 2] rfl rfl rfl rfl rfl hl.1 rfl (Nat.le_of_ble_eq_true rfl) ⟨Nat.zero_le _, Nat.zero_le _⟩ dX12_walks_21 ?_
    clear hP hD hS; intro H locs hP hD hS
    refine lv_if_eq (tgt := 34) hx hb dX12_walks_24 (by decide) (fun c_24 => ?_) (fun c_24 => ?_)
    · replace hf := it_t c_24 hf
      refine lv_iconst (v := 0) hx hb dX12_walks_34 (by decide) ?_
      refine lv_istore_n (lv' := [(2, .int 0), (0, .ref h), (1, .int p0)]) hx hb dX12_walks_35 rfl hl (by decide) rfl (fun ls hl => ?_)
      refine lpK hf (fun K55 eK55 hf => ?_)
      have hK55 : ∀ (x55_walked : Nat → Int32) , K55 x55_walked = some (z0, z1, z2, z3, z4, z5) → AT p l e (rmOf 1 26) s m args below meth c E A Q 0 0 3 [(0, .ref h), (1, .int p0)] (wX12_walks E h h_inn h_tape h_far h_from h_real h_other h_kept h_set h_w h_book h_noteSort h_whose h_what h_noteIs h_fitting h_dawn h_likes h_walked h_came h_inn_creak h_inn_doorA h_inn_doorB h_inn_how h_inn_lies h_inn_isCold h_inn_falls h_inn_isFull h_inn_isTold h_inn_act h_inn_what h_inn_then h_inn_met h_inn_bed h_inn_dream h_inn_listens h_inn_name h_inn_nameSort h_inn_nameNumber 0 v_trouble v_where v_read v_taped v_size v_at v_sort v_place v_sign v_number v_fault v_wrongAt v_word v_marks v_notes v_inn_minutes v_inn_rooms v_inn_doors v_inn_things v_inn_dreams v_inn_sleepers v_inn_listeners v_inn_names v_inn_bed v_came v_inn_doorB x55_walked v_inn_doorA v_inn_how) 55 [] := by
        intro x55_walked hf H locs ls hl hP hD hS
        rw [eK55] at hf
        replace hf := un1_s hf
        refine lv_iconst (v := 0) hx hb dX12_walks_55 (by decide) ?_
        refine lv_istore_n (lv' := [(2, .int 0), (0, .ref h), (1, .int p0)]) hx hb dX12_walks_56 rfl hl (by decide) rfl (fun ls hl => ?_)
        have key57 : ∀ (n : Nat) (x57_2 : Int32) (x57_came : Nat → Int32) (x57_walked : Nat → Int32) , lp (BX12_walks_57 N p0 v_inn_doors v_inn_sleepers v_inn_doorB v_inn_doorA v_inn_how v_inn_bed) n (x57_2, x57_came, x57_walked) = some (z0, z1, z2, z3, z4, z5) → AT p l e (rmOf 1 26) s m args below meth c E A Q 0 0 3 [(0, .ref h), (1, .int p0), (2, .int x57_2)] (wX12_walks E h h_inn h_tape h_far h_from h_real h_other h_kept h_set h_w h_book h_noteSort h_whose h_what h_noteIs h_fitting h_dawn h_likes h_walked h_came h_inn_creak h_inn_doorA h_inn_doorB h_inn_how h_inn_lies h_inn_isCold h_inn_falls h_inn_isFull h_inn_isTold h_inn_act h_inn_what h_inn_then h_inn_met h_inn_bed h_inn_dream h_inn_listens h_inn_name h_inn_nameSort h_inn_nameNumber 0 v_trouble v_where v_read v_taped v_size v_at v_sort v_place v_sign v_number v_fault v_wrongAt v_word v_marks v_notes v_inn_minutes v_inn_rooms v_inn_doors v_inn_things v_inn_dreams v_inn_sleepers v_inn_listeners v_inn_names v_inn_bed v_came_59 v_inn_doorB v_walked_59 v_inn_doorA v_inn_how) 57 [] := by
          intro n
          induction n with
          | zero => intro x57_2 x57_came x57_walked hf; exact (lp_0 hf).elim
          | succ n ih57 =>
            intro x57_2 x57_came x57_walked hf H locs ls hl hP hD hS
            replace hf := lp_s hf
            generalize lp (BX12_walks_57 N p0 v_inn_doors v_inn_sleepers v_inn_doorB v_inn_doorA v_inn_how v_inn_bed) n = rec57 at ih57 hf
            unfold BX12_walks_57 at hf
            replace hf := un3_s hf
            refine lv_aload_n hx hb dX12_walks_57 rfl (lv_at hl 0 rfl) ?_
            refine lv_iload_n hx hb dX12_walks_58 rfl (lv_at hl 1 rfl) ?_
            obtain ⟨r_59, v_came_59, v_walked_59, hc_59, hf⟩ := bd3 hf
            refine r_callVi (ws' := (wX12_walks E h h_inn h_tape h_far h_from h_real h_other h_kept h_set h_w h_book h_noteSort h_whose h_what h_noteIs h_fitting h_dawn h_likes h_walked h_came h_inn_creak h_inn_doorA h_inn_doorB h_inn_how h_inn_lies h_inn_isCold h_inn_falls h_inn_isFull h_inn_isTold h_inn_act h_inn_what h_inn_then h_inn_met h_inn_bed h_inn_dream h_inn_listens h_inn_name h_inn_nameSort h_inn_nameNumber 0 v_trouble v_where v_read v_taped v_size v_at v_sort v_place v_sign v_number v_fault v_wrongAt v_word v_marks v_notes v_inn_minutes v_inn_rooms v_inn_doors v_inn_things v_inn_dreams v_inn_sleepers v_inn_listeners v_inn_names v_inn_bed v_came_59 v_inn_doorB v_walked_59 v_inn_doorA v_inn_how)) (As := [.int p0]) (rest := []) C (ctX12_walksMore l E h h_inn h_tape h_far h_from h_real h_other h_kept h_set h_w h_book h_noteSort h_whose h_what h_noteIs h_fitting h_dawn h_likes h_walked h_came h_inn_creak h_inn_doorA h_inn_doorB h_inn_how h_inn_lies h_inn_isCold h_inn_falls h_inn_isFull h_inn_isTold h_inn_act h_inn_what h_inn_then h_inn_met h_inn_bed h_inn_dream h_inn_listens h_inn_name h_inn_nameSort h_inn_nameNumber 0 v_trouble v_where v_read v_taped v_size v_at v_sort v_place v_sign v_number v_fault v_wrongAt v_word v_marks v_notes v_inn_minutes v_inn_rooms v_inn_doors v_inn_things v_inn_dreams v_inn_sleepers v_inn_listeners v_inn_names x57_came v_inn_doorB x57_walked v_inn_doorA v_inn_how v_inn_bed N p0 r_59 v_came_59 v_walked_59 hc_59) ml_X12_498 ⟨Nat.le_of_ble_eq_true rfl, Nat.le_of_ble_eq_true rfl⟩ hP hD hS 0 rfl rfl rfl [0, 1, 3, 4, 5, 6, 7, 2] rfl rfl rfl rfl rfl hl.1 rfl (Nat.le_of_ble_eq_true rfl) ⟨Nat.zero_le _, Nat.zero_le _⟩ dX12_walks_59 ?_
            clear hP hD hS; intro H locs hP hD hS
            refine lv_if_eq (tgt := 71) hx hb dX12_walks_62 (by decide) (fun c_62 => ?_) (fun c_62 => ?_)
            · replace hf := it_t c_62 hf
              refine lv_aload_n hx hb dX12_walks_71 rfl (lv_at hl 0 rfl) ?_
              refine lv_iload_n hx hb dX12_walks_72 rfl (lv_at hl 2 rfl) ?_
              obtain ⟨r_73, v_trouble_73, v_where_73, hc_73, hf⟩ := bd3 hf
              refine r_callVi (ws' := (wX12_walks E h h_inn h_tape h_far h_from h_real h_other h_kept h_set h_w h_book h_noteSort h_whose h_what h_noteIs h_fitting h_dawn h_likes h_walked h_came h_inn_creak h_inn_doorA h_inn_doorB h_inn_how h_inn_lies h_inn_isCold h_inn_falls h_inn_isFull h_inn_isTold h_inn_act h_inn_what h_inn_then h_inn_met h_inn_bed h_inn_dream h_inn_listens h_inn_name h_inn_nameSort h_inn_nameNumber 0 v_trouble_73 v_where_73 v_read v_taped v_size v_at v_sort v_place v_sign v_number v_fault v_wrongAt v_word v_marks v_notes v_inn_minutes v_inn_rooms v_inn_doors v_inn_things v_inn_dreams v_inn_sleepers v_inn_listeners v_inn_names v_inn_bed v_came_59 v_inn_doorB v_walked_59 v_inn_doorA v_inn_how)) (As := [.int x57_2]) (rest := []) C (ctX12_good l E h h_tape h_far h_from h_real h_other h_kept h_set h_w h_book h_noteSort h_whose h_what h_noteIs h_fitting h_dawn h_likes h_walked h_came 0 v_trouble v_where (some h_inn) v_read v_taped v_size v_at v_sort v_place v_sign v_number v_fault v_wrongAt v_word v_marks v_notes N x57_2 r_73 v_trouble_73 v_where_73 hc_73) ml_X12_81 ⟨Nat.le_of_ble_eq_true rfl, Nat.le_of_ble_eq_true rfl⟩ hP hD hS 0 rfl rfl rfl [0] rfl rfl rfl rfl rfl hl.1 rfl (Nat.le_of_ble_eq_true rfl) ⟨Nat.zero_le _, Nat.zero_le _⟩ dX12_walks_73 ?_
              clear hP hD hS; intro H locs hP hD hS
              cases hf
              rw [hQ]
              exact r_iret C hr hP hD hS rfl dX12_walks_76
            · replace hf := it_f c_62 hf
              refine lv_iinc (v := x57_2 + 1) (lv' := [(2, .int (x57_2 + 1)), (0, .ref h), (1, .int p0)]) hx hb dX12_walks_65 hl (k := 2) rfl rfl (by decide) rfl (fun ls hl => ?_)
              refine lv_goto (tgt := 57) hx hb dX12_walks_68 (by decide) ?_
              exact ih57 (x57_2 + 1) v_came_59 v_walked_59 hf _ _ _ (lv_sub hl [1, 2, 0] rfl) hP hD hS
        exact key57 _ 0 v_came x55_walked hf _ _ _ (lv_sub hl [1, 2, 0] rfl) hP hD hS
      clear eK55
      have key36 : ∀ (n : Nat) (x36_2 : Int32) (x36_walked : Nat → Int32) , lp (BX12_walks_36 K55) n (x36_2, x36_walked) = some (z0, z1, z2, z3, z4, z5) → AT p l e (rmOf 1 26) s m args below meth c E A Q 0 0 3 [(0, .ref h), (1, .int p0), (2, .int x36_2)] (wX12_walks E h h_inn h_tape h_far h_from h_real h_other h_kept h_set h_w h_book h_noteSort h_whose h_what h_noteIs h_fitting h_dawn h_likes h_walked h_came h_inn_creak h_inn_doorA h_inn_doorB h_inn_how h_inn_lies h_inn_isCold h_inn_falls h_inn_isFull h_inn_isTold h_inn_act h_inn_what h_inn_then h_inn_met h_inn_bed h_inn_dream h_inn_listens h_inn_name h_inn_nameSort h_inn_nameNumber 0 v_trouble v_where v_read v_taped v_size v_at v_sort v_place v_sign v_number v_fault v_wrongAt v_word v_marks v_notes v_inn_minutes v_inn_rooms v_inn_doors v_inn_things v_inn_dreams v_inn_sleepers v_inn_listeners v_inn_names v_inn_bed v_came v_inn_doorB x36_walked v_inn_doorA v_inn_how) 36 [] := by
        intro n
        induction n with
        | zero => intro x36_2 x36_walked hf; exact (lp_0 hf).elim
        | succ n ih36 =>
          intro x36_2 x36_walked hf H locs ls hl hP hD hS
          replace hf := lp_s hf
          generalize lp (BX12_walks_36 K55) n = rec36 at ih36 hf
          unfold BX12_walks_36 at hf
          replace hf := un2_s hf
          refine lv_iload_n hx hb dX12_walks_36 rfl (lv_at hl 2 rfl) ?_
          refine lv_bipush (v := 10) hx hb dX12_walks_37 (by decide) ?_
          refine lv_icmp_ge (tgt := 55) hx hb dX12_walks_39 (by decide) (fun c_39 => ?_) (fun c_39 => ?_)
          · replace hf := it_t c_39 hf
            exact hK55 x36_walked hf _ _ _ (lv_sub hl [0, 1] rfl) hP hD hS
          · replace hf := it_f c_39 hf
            refine lv_aload_n hx hb dX12_walks_42 rfl (lv_at hl 0 rfl) ?_
            refine r_get C hP 0 rfl fl_X12_65 rfl dX12_walks_43 ?_
            refine lv_iload_n hx hb dX12_walks_46 rfl (lv_at hl 2 rfl) ?_
            refine lv_iconst (v := 0) hx hb dX12_walks_47 (by decide) ?_
            obtain ⟨hi_48, hf⟩ := gd_s hf
            refine r_iast (ws' := (wX12_walks E h h_inn h_tape h_far h_from h_real h_other h_kept h_set h_w h_book h_noteSort h_whose h_what h_noteIs h_fitting h_dawn h_likes h_walked h_came h_inn_creak h_inn_doorA h_inn_doorB h_inn_how h_inn_lies h_inn_isCold h_inn_falls h_inn_isFull h_inn_isTold h_inn_act h_inn_what h_inn_then h_inn_met h_inn_bed h_inn_dream h_inn_listens h_inn_name h_inn_nameSort h_inn_nameNumber 0 v_trouble v_where v_read v_taped v_size v_at v_sort v_place v_sign v_number v_fault v_wrongAt v_word v_marks v_notes v_inn_minutes v_inn_rooms v_inn_doors v_inn_things v_inn_dreams v_inn_sleepers v_inn_listeners v_inn_names v_inn_bed v_came v_inn_doorB (upd x36_walked x36_2.toNatClampNeg 0) v_inn_doorA v_inn_how)) C hP hD hS 5 rfl hi_48 rfl dX12_walks_48 ?_
            clear hP hD hS; intro H locs hP hD hS
            refine lv_iinc (v := x36_2 + 1) (lv' := [(2, .int (x36_2 + 1)), (0, .ref h), (1, .int p0)]) hx hb dX12_walks_49 hl (k := 2) rfl rfl (by decide) rfl (fun ls hl => ?_)
            refine lv_goto (tgt := 36) hx hb dX12_walks_52 (by decide) ?_
            exact ih36 (x36_2 + 1) (upd x36_walked x36_2.toNatClampNeg 0) hf _ _ _ (lv_sub hl [1, 2, 0] rfl) hP hD hS
      exact key36 _ 0 v_walked hf _ _ _ (lv_sub hl [1, 2, 0] rfl) hP hD hS
    · replace hf := it_f c_24 hf
      refine lv_aload_n hx hb dX12_walks_27 rfl (lv_at hl 0 rfl) ?_
      refine lv_bipush (v := (-2)) hx hb dX12_walks_28 (by decide) ?_
      obtain ⟨r_30, v_trouble_30, v_where_30, hc_30, hf⟩ := bd3 hf
      refine r_callVi (ws' := (wX12_walks E h h_inn h_tape h_far h_from h_real h_other h_kept h_set h_w h_book h_noteSort h_whose h_what h_noteIs h_fitting h_dawn h_likes h_walked h_came h_inn_creak h_inn_doorA h_inn_doorB h_inn_how h_inn_lies h_inn_isCold h_inn_falls h_inn_isFull h_inn_isTold h_inn_act h_inn_what h_inn_then h_inn_met h_inn_bed h_inn_dream h_inn_listens h_inn_name h_inn_nameSort h_inn_nameNumber 0 v_trouble_30 v_where_30 v_read v_taped v_size v_at v_sort v_place v_sign v_number v_fault v_wrongAt v_word v_marks v_notes v_inn_minutes v_inn_rooms v_inn_doors v_inn_things v_inn_dreams v_inn_sleepers v_inn_listeners v_inn_names v_inn_bed v_came v_inn_doorB v_walked v_inn_doorA v_inn_how)) (As := [.int (-2)]) (rest := []) C (ctX12_good l E h h_tape h_far h_from h_real h_other h_kept h_set h_w h_book h_noteSort h_whose h_what h_noteIs h_fitting h_dawn h_likes h_walked h_came 0 v_trouble v_where (some h_inn) v_read v_taped v_size v_at v_sort v_place v_sign v_number v_fault v_wrongAt v_word v_marks v_notes N (-2) r_30 v_trouble_30 v_where_30 hc_30) ml_X12_81 ⟨Nat.le_of_ble_eq_true rfl, Nat.le_of_ble_eq_true rfl⟩ hP hD hS 0 rfl rfl rfl [0] rfl rfl rfl rfl rfl hl.1 rfl (Nat.le_of_ble_eq_true rfl) ⟨Nat.zero_le _, Nat.zero_le _⟩ dX12_walks_30 ?_
      clear hP hD hS; intro H locs hP hD hS
      cases hf
      rw [hQ]
      exact r_iret C hr hP hD hS rfl dX12_walks_33
  · replace hf := it_t c_10 hf
    refine lv_aload_n hx hb dX12_walks_13 rfl (lv_at hl 0 rfl) ?_
    refine lv_iconst (v := 1) hx hb dX12_walks_14 (by decide) ?_
    obtain ⟨r_15, v_trouble_15, v_where_15, hc_15, hf⟩ := bd3 hf
    refine r_callVi (ws' := (wX12_walks E h h_inn h_tape h_far h_from h_real h_other h_kept h_set h_w h_book h_noteSort h_whose h_what h_noteIs h_fitting h_dawn h_likes h_walked h_came h_inn_creak h_inn_doorA h_inn_doorB h_inn_how h_inn_lies h_inn_isCold h_inn_falls h_inn_isFull h_inn_isTold h_inn_act h_inn_what h_inn_then h_inn_met h_inn_bed h_inn_dream h_inn_listens h_inn_name h_inn_nameSort h_inn_nameNumber 0 v_trouble_15 v_where_15 v_read v_taped v_size v_at v_sort v_place v_sign v_number v_fault v_wrongAt v_word v_marks v_notes v_inn_minutes v_inn_rooms v_inn_doors v_inn_things v_inn_dreams v_inn_sleepers v_inn_listeners v_inn_names v_inn_bed v_came v_inn_doorB v_walked v_inn_doorA v_inn_how)) (As := [.int 1]) (rest := []) C (ctX12_refused l E h h_tape h_far h_from h_real h_other h_kept h_set h_w h_book h_noteSort h_whose h_what h_noteIs h_fitting h_dawn h_likes h_walked h_came 0 v_trouble v_where (some h_inn) v_read v_taped v_size v_at v_sort v_place v_sign v_number v_fault v_wrongAt v_word v_marks v_notes N 1 r_15 v_trouble_15 v_where_15 hc_15) ml_X12_77 ⟨Nat.le_of_ble_eq_true rfl, Nat.le_of_ble_eq_true rfl⟩ hP hD hS 0 rfl rfl rfl [0] rfl rfl rfl rfl rfl hl.1 rfl (Nat.le_of_ble_eq_true rfl) ⟨Nat.zero_le _, Nat.zero_le _⟩ dX12_walks_15 ?_
    clear hP hD hS; intro H locs hP hD hS
    cases hf
    rw [hQ]
    exact r_iret C hr hP hD hS rfl dX12_walks_18
def wX12_led (E : EN) (h h_inn h_tape h_far h_from h_real h_other h_kept h_set h_w h_book h_noteSort h_whose h_what h_noteIs h_fitting h_dawn h_likes h_walked h_came h_inn_creak h_inn_doorA h_inn_doorB h_inn_how h_inn_lies h_inn_isCold h_inn_falls h_inn_isFull h_inn_isTold h_inn_act h_inn_what h_inn_then h_inn_met h_inn_bed h_inn_dream h_inn_listens h_inn_name h_inn_nameSort h_inn_nameNumber : Nat) (v_thrown : Int32) (v_trouble : Int32) (v_where : Int32) (v_read : Option Nat) (v_taped : Int32) (v_size : Int32) (v_at : Int32) (v_sort : Int32) (v_place : Int32) (v_sign : Int32) (v_number : Int32) (v_fault : Int32) (v_wrongAt : Int32) (v_word : Int64) (v_marks : Int32) (v_notes : Int32) (v_inn_minutes : Int32) (v_inn_rooms : Int32) (v_inn_doors : Int32) (v_inn_things : Int32) (v_inn_dreams : Int32) (v_inn_sleepers : Int32) (v_inn_listeners : Int32) (v_inn_names : Int32) (v_w : Nat → Int32) (v_inn_bed : Nat → Int32) : va_W := [(h, .inr (11, [.int v_thrown, .int v_trouble, .int v_where, .ref h_inn, va_rf v_read, .ref h_tape, .int v_taped, .int v_size, .int v_at, .int v_sort, .int v_place, .int v_sign, .int v_number, .int v_fault, .int v_wrongAt, .long v_word, .ref h_far, .ref h_from, .ref h_real, .ref h_other, .ref h_kept, .ref h_set, .ref h_w, .int v_marks, .int v_notes, .ref h_book, .ref h_noteSort, .ref h_whose, .ref h_what, .ref h_noteIs, .ref h_fitting, .ref h_dawn, .ref h_likes, .ref h_walked, .ref h_came])), (h_inn, .inr (10, [.int v_inn_minutes, .int v_inn_rooms, .int v_inn_doors, .int v_inn_things, .int v_inn_dreams, .int v_inn_sleepers, .int v_inn_listeners, .int v_inn_names, .ref h_inn_creak, .ref h_inn_doorA, .ref h_inn_doorB, .ref h_inn_how, .ref h_inn_lies, .ref h_inn_isCold, .ref h_inn_falls, .ref h_inn_isFull, .ref h_inn_isTold, .ref h_inn_act, .ref h_inn_what, .ref h_inn_then, .ref h_inn_met, .ref h_inn_bed, .ref h_inn_dream, .ref h_inn_listens, .ref h_inn_name, .ref h_inn_nameSort, .ref h_inn_nameNumber])), (h_w, aI E 51 v_w), (h_inn_bed, aI E 3 v_inn_bed)]
def BX12_led_9 (v_inn_sleepers : Int32) (v_w : Nat → Int32) (v_inn_bed : Nat → Int32) (p0 : Int32) (K66 : (Unit) → Option (Int32 × Int32)) (rec9 : (Int32 × Int32) → Option (Int32 × Int32)) : (Int32 × Int32) → Option (Int32 × Int32) := un2 fun (x9_2 : Int32) (x9_3 : Int32) => if v_inn_sleepers ≤ x9_3 then (K66 ()) else (gd (0 + x9_3) 51 (gd x9_3 3 (jn (un1 fun (x60_2 : Int32) => rec9 (x60_2, x9_3 + 1)) (fun j60 => if (v_w (0 + x9_3).toNatClampNeg) = (v_inn_bed x9_3.toNatClampNeg) then (j60 x9_2) else (if x9_2 = p0 then (some (x9_3, 0)) else (j60 (x9_2 + 1)))))))
def fX12_led (N : Nat) (p0 : Int32) (v_inn_sleepers : Int32) (v_w : Nat → Int32) (v_inn_bed : Nat → Int32) : Option (Int32 × Int32) := lp (BX12_led_9 v_inn_sleepers v_w v_inn_bed p0 (un0 (some (0, 1)))) N (0, 0)
set_option maxHeartbeats 4000000 in
set_option maxRecDepth 100000 in
theorem ctX12_led (l : Launch) (E : EN) (h h_inn h_tape h_far h_from h_real h_other h_kept h_set h_w h_book h_noteSort h_whose h_what h_noteIs h_fitting h_dawn h_likes h_walked h_came h_inn_creak h_inn_doorA h_inn_doorB h_inn_how h_inn_lies h_inn_isCold h_inn_falls h_inn_isFull h_inn_isTold h_inn_act h_inn_what h_inn_then h_inn_met h_inn_bed h_inn_dream h_inn_listens h_inn_name h_inn_nameSort h_inn_nameNumber : Nat) (v_thrown : Int32) (v_trouble : Int32) (v_where : Int32) (v_read : Option Nat) (v_taped : Int32) (v_size : Int32) (v_at : Int32) (v_sort : Int32) (v_place : Int32) (v_sign : Int32) (v_number : Int32) (v_fault : Int32) (v_wrongAt : Int32) (v_word : Int64) (v_marks : Int32) (v_notes : Int32) (v_inn_minutes : Int32) (v_inn_rooms : Int32) (v_inn_doors : Int32) (v_inn_things : Int32) (v_inn_dreams : Int32) (v_inn_sleepers : Int32) (v_inn_listeners : Int32) (v_inn_names : Int32) (v_w : Nat → Int32) (v_inn_bed : Nat → Int32) (N : Nat) (p0 : Int32) (z0 : Int32) (z1 : Int32) (hf : fX12_led N p0 v_inn_sleepers v_w v_inn_bed = some (z0, z1)) : CTi l E yX12_led cX12_led 4 .int 0 0 [.ref h, .int p0] (wX12_led E h h_inn h_tape h_far h_from h_real h_other h_kept h_set h_w h_book h_noteSort h_whose h_what h_noteIs h_fitting h_dawn h_likes h_walked h_came h_inn_creak h_inn_doorA h_inn_doorB h_inn_how h_inn_lies h_inn_isCold h_inn_falls h_inn_isFull h_inn_isTold h_inn_act h_inn_what h_inn_then h_inn_met h_inn_bed h_inn_dream h_inn_listens h_inn_name h_inn_nameSort h_inn_nameNumber v_thrown v_trouble v_where v_read v_taped v_size v_at v_sort v_place v_sign v_number v_fault v_wrongAt v_word v_marks v_notes v_inn_minutes v_inn_rooms v_inn_doors v_inn_things v_inn_dreams v_inn_sleepers v_inn_listeners v_inn_names v_w v_inn_bed) z0 (wX12_led E h h_inn h_tape h_far h_from h_real h_other h_kept h_set h_w h_book h_noteSort h_whose h_what h_noteIs h_fitting h_dawn h_likes h_walked h_came h_inn_creak h_inn_doorA h_inn_doorB h_inn_how h_inn_lies h_inn_isCold h_inn_falls h_inn_isFull h_inn_isTold h_inn_act h_inn_what h_inn_then h_inn_met h_inn_bed h_inn_dream h_inn_listens h_inn_name h_inn_nameSort h_inn_nameNumber z1 v_trouble v_where v_read v_taped v_size v_at v_sort v_place v_sign v_number v_fault v_wrongAt v_word v_marks v_notes v_inn_minutes v_inn_rooms v_inn_doors v_inn_things v_inn_dreams v_inn_sleepers v_inn_listeners v_inn_names v_w v_inn_bed) := by
  intro sz
  refine ct_body (by decide) (Nat.le_of_ble_eq_true rfl) ?_
  intro p e s m args below meth c A ls hAe C hr hin hP hD hS hl
  have C : CX p s m args meth c cX12_led RX12 4 E A := C
  have hl : lv_has ls 4 [(0, .ref h), (1, .int p0)] := hl
  have hx := C.1
  have hb := C.2.1
  rw [hAe]
  clear hAe
  obtain ⟨Q, hQ⟩ : ∃ Q, Q = MQ below (Qi E A z0 (wX12_led E h h_inn h_tape h_far h_from h_real h_other h_kept h_set h_w h_book h_noteSort h_whose h_what h_noteIs h_fitting h_dawn h_likes h_walked h_came h_inn_creak h_inn_doorA h_inn_doorB h_inn_how h_inn_lies h_inn_isCold h_inn_falls h_inn_isFull h_inn_isTold h_inn_act h_inn_what h_inn_then h_inn_met h_inn_bed h_inn_dream h_inn_listens h_inn_name h_inn_nameSort h_inn_nameNumber z1 v_trouble v_where v_read v_taped v_size v_at v_sort v_place v_sign v_number v_fault v_wrongAt v_word v_marks v_notes v_inn_minutes v_inn_rooms v_inn_doors v_inn_things v_inn_dreams v_inn_sleepers v_inn_listeners v_inn_names v_w v_inn_bed)) args s 0 0 A := ⟨_, rfl⟩
  rw [← hQ]
  unfold fX12_led at hf
  refine lv_aload_n hx hb dX12_led_0 rfl (lv_at hl 0 rfl) ?_
  refine lv_iconst (v := 0) hx hb dX12_led_1 (by decide) ?_
  refine r_put (ws' := (wX12_led E h h_inn h_tape h_far h_from h_real h_other h_kept h_set h_w h_book h_noteSort h_whose h_what h_noteIs h_fitting h_dawn h_likes h_walked h_came h_inn_creak h_inn_doorA h_inn_doorB h_inn_how h_inn_lies h_inn_isCold h_inn_falls h_inn_isFull h_inn_isTold h_inn_act h_inn_what h_inn_then h_inn_met h_inn_bed h_inn_dream h_inn_listens h_inn_name h_inn_nameSort h_inn_nameNumber 0 v_trouble v_where v_read v_taped v_size v_at v_sort v_place v_sign v_number v_fault v_wrongAt v_word v_marks v_notes v_inn_minutes v_inn_rooms v_inn_doors v_inn_things v_inn_dreams v_inn_sleepers v_inn_listeners v_inn_names v_w v_inn_bed)) C hP hD hS 0 rfl fl_X12_71 rfl rfl (by decide) rfl dX12_led_2 ?_
  clear hP hD hS; intro H locs hP hD hS
  refine lv_iconst (v := 0) hx hb dX12_led_5 (by decide) ?_
  refine lv_istore_n (lv' := [(2, .int 0), (0, .ref h), (1, .int p0)]) hx hb dX12_led_6 rfl hl (by decide) rfl (fun ls hl => ?_)
  refine lv_iconst (v := 0) hx hb dX12_led_7 (by decide) ?_
  refine lv_istore_n (lv' := [(3, .int 0), (2, .int 0), (0, .ref h), (1, .int p0)]) hx hb dX12_led_8 rfl hl (by decide) rfl (fun ls hl => ?_)
  refine lpK hf (fun K66 eK66 hf => ?_)
  have hK66 : K66 () = some (z0, z1) → AT p l e (rmOf 0 0) s m args below meth c E A Q 0 0 4 [(0, .ref h)] (wX12_led E h h_inn h_tape h_far h_from h_real h_other h_kept h_set h_w h_book h_noteSort h_whose h_what h_noteIs h_fitting h_dawn h_likes h_walked h_came h_inn_creak h_inn_doorA h_inn_doorB h_inn_how h_inn_lies h_inn_isCold h_inn_falls h_inn_isFull h_inn_isTold h_inn_act h_inn_what h_inn_then h_inn_met h_inn_bed h_inn_dream h_inn_listens h_inn_name h_inn_nameSort h_inn_nameNumber 0 v_trouble v_where v_read v_taped v_size v_at v_sort v_place v_sign v_number v_fault v_wrongAt v_word v_marks v_notes v_inn_minutes v_inn_rooms v_inn_doors v_inn_things v_inn_dreams v_inn_sleepers v_inn_listeners v_inn_names v_w v_inn_bed) 66 [] := by
    intro  hf H locs ls hl hP hD hS
    rw [eK66] at hf
    replace hf := un0_s hf
    refine lv_aload_n hx hb dX12_led_66 rfl (lv_at hl 0 rfl) ?_
    refine lv_iconst (v := 1) hx hb dX12_led_67 (by decide) ?_
    refine r_put (ws' := (wX12_led E h h_inn h_tape h_far h_from h_real h_other h_kept h_set h_w h_book h_noteSort h_whose h_what h_noteIs h_fitting h_dawn h_likes h_walked h_came h_inn_creak h_inn_doorA h_inn_doorB h_inn_how h_inn_lies h_inn_isCold h_inn_falls h_inn_isFull h_inn_isTold h_inn_act h_inn_what h_inn_then h_inn_met h_inn_bed h_inn_dream h_inn_listens h_inn_name h_inn_nameSort h_inn_nameNumber 1 v_trouble v_where v_read v_taped v_size v_at v_sort v_place v_sign v_number v_fault v_wrongAt v_word v_marks v_notes v_inn_minutes v_inn_rooms v_inn_doors v_inn_things v_inn_dreams v_inn_sleepers v_inn_listeners v_inn_names v_w v_inn_bed)) C hP hD hS 0 rfl fl_X12_71 rfl rfl (by decide) rfl dX12_led_68 ?_
    clear hP hD hS; intro H locs hP hD hS
    refine lv_iconst (v := 0) hx hb dX12_led_71 (by decide) ?_
    cases hf
    rw [hQ]
    exact r_iret C hr hP hD hS rfl dX12_led_72
  clear eK66
  have key9 : ∀ (n : Nat) (x9_2 : Int32) (x9_3 : Int32) , lp (BX12_led_9 v_inn_sleepers v_w v_inn_bed p0 K66) n (x9_2, x9_3) = some (z0, z1) → AT p l e (rmOf 0 0) s m args below meth c E A Q 0 0 4 [(0, .ref h), (1, .int p0), (2, .int x9_2), (3, .int x9_3)] (wX12_led E h h_inn h_tape h_far h_from h_real h_other h_kept h_set h_w h_book h_noteSort h_whose h_what h_noteIs h_fitting h_dawn h_likes h_walked h_came h_inn_creak h_inn_doorA h_inn_doorB h_inn_how h_inn_lies h_inn_isCold h_inn_falls h_inn_isFull h_inn_isTold h_inn_act h_inn_what h_inn_then h_inn_met h_inn_bed h_inn_dream h_inn_listens h_inn_name h_inn_nameSort h_inn_nameNumber 0 v_trouble v_where v_read v_taped v_size v_at v_sort v_place v_sign v_number v_fault v_wrongAt v_word v_marks v_notes v_inn_minutes v_inn_rooms v_inn_doors v_inn_things v_inn_dreams v_inn_sleepers v_inn_listeners v_inn_names v_w v_inn_bed) 9 [] := by
    intro n
    induction n with
    | zero => intro x9_2 x9_3 hf; exact (lp_0 hf).elim
    | succ n ih9 =>
      intro x9_2 x9_3 hf H locs ls hl hP hD hS
      replace hf := lp_s hf
      generalize lp (BX12_led_9 v_inn_sleepers v_w v_inn_bed p0 K66) n = rec9 at ih9 hf
      unfold BX12_led_9 at hf
      replace hf := un2_s hf
      refine lv_aload_n hx hb dX12_led_9 rfl (lv_at hl 0 rfl) ?_
      refine r_get C hP 0 rfl fl_X12_358 rfl dX12_led_10 ?_
      refine lv_ifnull hx hb dX12_led_13 ?_
      refine lv_iload_n hx hb dX12_led_16 rfl (lv_at hl 3 rfl) ?_
      refine lv_aload_n hx hb dX12_led_17 rfl (lv_at hl 0 rfl) ?_
      refine r_get C hP 0 rfl fl_X12_358 rfl dX12_led_18 ?_
      refine r_get C hP 1 rfl fl_X12_247 rfl dX12_led_21 ?_
      refine lv_icmp_ge (tgt := 66) hx hb dX12_led_24 (by decide) (fun c_24 => ?_) (fun c_24 => ?_)
      · replace hf := it_t c_24 hf
        exact hK66  hf _ _ _ (lv_sub hl [0] rfl) hP hD hS
      · replace hf := it_f c_24 hf
        refine lv_aload_n hx hb dX12_led_27 rfl (lv_at hl 0 rfl) ?_
        refine r_get C hP 0 rfl fl_X12_36 rfl dX12_led_28 ?_
        refine lv_iconst (v := 0) hx hb dX12_led_31 (by decide) ?_
        refine lv_iload_n hx hb dX12_led_32 rfl (lv_at hl 3 rfl) ?_
        refine lv_iadd hx hb dX12_led_33 ?_
        obtain ⟨hi_34, hf⟩ := gd_s hf
        refine r_iald C hP 2 rfl hi_34 dX12_led_34 ?_
        refine lv_aload_n hx hb dX12_led_35 rfl (lv_at hl 0 rfl) ?_
        refine r_get C hP 0 rfl fl_X12_358 rfl dX12_led_36 ?_
        refine r_get C hP 1 rfl fl_X12_342 rfl dX12_led_39 ?_
        refine lv_iload_n hx hb dX12_led_42 rfl (lv_at hl 3 rfl) ?_
        obtain ⟨hi_43, hf⟩ := gd_s hf
        refine r_iald C hP 3 rfl hi_43 dX12_led_43 ?_
        refine jnK hf (fun j60 ej60 hf => ?_)
        have hj60 : ∀ (x60_2 : Int32) , j60 x60_2 = some (z0, z1) → AT p l e (rmOf 0 0) s m args below meth c E A Q 0 0 4 [(0, .ref h), (1, .int p0), (2, .int x60_2), (3, .int x9_3)] (wX12_led E h h_inn h_tape h_far h_from h_real h_other h_kept h_set h_w h_book h_noteSort h_whose h_what h_noteIs h_fitting h_dawn h_likes h_walked h_came h_inn_creak h_inn_doorA h_inn_doorB h_inn_how h_inn_lies h_inn_isCold h_inn_falls h_inn_isFull h_inn_isTold h_inn_act h_inn_what h_inn_then h_inn_met h_inn_bed h_inn_dream h_inn_listens h_inn_name h_inn_nameSort h_inn_nameNumber 0 v_trouble v_where v_read v_taped v_size v_at v_sort v_place v_sign v_number v_fault v_wrongAt v_word v_marks v_notes v_inn_minutes v_inn_rooms v_inn_doors v_inn_things v_inn_dreams v_inn_sleepers v_inn_listeners v_inn_names v_w v_inn_bed) 60 [] := by
          intro x60_2 hf H locs ls hl hP hD hS
          rw [ej60] at hf
          replace hf := un1_s hf
          refine lv_iinc (v := x9_3 + 1) (lv' := [(3, .int (x9_3 + 1)), (0, .ref h), (1, .int p0), (2, .int x60_2)]) hx hb dX12_led_60 hl (k := 3) rfl rfl (by decide) rfl (fun ls hl => ?_)
          refine lv_goto (tgt := 9) hx hb dX12_led_63 (by decide) ?_
          exact ih9 x60_2 (x9_3 + 1) hf _ _ _ (lv_sub hl [1, 2, 3, 0] rfl) hP hD hS
        clear ej60
        refine lv_icmp_ne (tgt := 50) hx hb dX12_led_44 (by decide) (fun c_44 => ?_) (fun c_44 => ?_)
        · replace hf := it_f c_44 hf
          refine lv_iload_n hx hb dX12_led_50 rfl (lv_at hl 2 rfl) ?_
          refine lv_iload_n hx hb dX12_led_51 rfl (lv_at hl 1 rfl) ?_
          refine lv_icmp_ne (tgt := 57) hx hb dX12_led_52 (by decide) (fun c_52 => ?_) (fun c_52 => ?_)
          · replace hf := it_f c_52 hf
            refine lv_iinc (v := x9_2 + 1) (lv' := [(2, .int (x9_2 + 1)), (0, .ref h), (1, .int p0), (3, .int x9_3)]) hx hb dX12_led_57 hl (k := 2) rfl rfl (by decide) rfl (fun ls hl => ?_)
            exact hj60 (x9_2 + 1) hf _ _ _ (lv_sub hl [1, 2, 0, 3] rfl) hP hD hS
          · replace hf := it_t c_52 hf
            refine lv_iload_n hx hb dX12_led_55 rfl (lv_at hl 3 rfl) ?_
            cases hf
            rw [hQ]
            exact r_iret C hr hP hD hS rfl dX12_led_56
        · replace hf := it_t c_44 hf
          refine lv_goto (tgt := 60) hx hb dX12_led_47 (by decide) ?_
          exact hj60 x9_2 hf _ _ _ (lv_sub hl [0, 1, 2, 3] rfl) hP hD hS
  exact key9 _ 0 0 hf _ _ _ (lv_sub hl [2, 3, 1, 0] rfl) hP hD hS
def wX12_led0 (E : EN) (h h_tape h_far h_from h_real h_other h_kept h_set h_w h_book h_noteSort h_whose h_what h_noteIs h_fitting h_dawn h_likes h_walked h_came : Nat) (v_thrown : Int32) (v_trouble : Int32) (v_where : Int32) (v_read : Option Nat) (v_taped : Int32) (v_size : Int32) (v_at : Int32) (v_sort : Int32) (v_place : Int32) (v_sign : Int32) (v_number : Int32) (v_fault : Int32) (v_wrongAt : Int32) (v_word : Int64) (v_marks : Int32) (v_notes : Int32) : va_W := [(h, .inr (11, [.int v_thrown, .int v_trouble, .int v_where, .null, va_rf v_read, .ref h_tape, .int v_taped, .int v_size, .int v_at, .int v_sort, .int v_place, .int v_sign, .int v_number, .int v_fault, .int v_wrongAt, .long v_word, .ref h_far, .ref h_from, .ref h_real, .ref h_other, .ref h_kept, .ref h_set, .ref h_w, .int v_marks, .int v_notes, .ref h_book, .ref h_noteSort, .ref h_whose, .ref h_what, .ref h_noteIs, .ref h_fitting, .ref h_dawn, .ref h_likes, .ref h_walked, .ref h_came]))]
def BX12_led0_9 (K66 : (Unit) → Option (Int32 × Int32)) (rec9 : (Int32 × Int32) → Option (Int32 × Int32)) : (Int32 × Int32) → Option (Int32 × Int32) := un2 fun (x9_2 : Int32) (x9_3 : Int32) => K66 ()
def fX12_led0 (N : Nat) : Option (Int32 × Int32) := lp (BX12_led0_9 (un0 (some (0, 1)))) N (0, 0)
set_option maxHeartbeats 4000000 in
set_option maxRecDepth 100000 in
theorem ctX12_led0 (l : Launch) (E : EN) (h h_tape h_far h_from h_real h_other h_kept h_set h_w h_book h_noteSort h_whose h_what h_noteIs h_fitting h_dawn h_likes h_walked h_came : Nat) (v_thrown : Int32) (v_trouble : Int32) (v_where : Int32) (v_read : Option Nat) (v_taped : Int32) (v_size : Int32) (v_at : Int32) (v_sort : Int32) (v_place : Int32) (v_sign : Int32) (v_number : Int32) (v_fault : Int32) (v_wrongAt : Int32) (v_word : Int64) (v_marks : Int32) (v_notes : Int32) (N : Nat) (p0 : Int32) (z0 : Int32) (z1 : Int32) (hf : fX12_led0 N  = some (z0, z1)) : CTi l E yX12_led cX12_led 4 .int 0 0 [.ref h, .int p0] (wX12_led0 E h h_tape h_far h_from h_real h_other h_kept h_set h_w h_book h_noteSort h_whose h_what h_noteIs h_fitting h_dawn h_likes h_walked h_came v_thrown v_trouble v_where v_read v_taped v_size v_at v_sort v_place v_sign v_number v_fault v_wrongAt v_word v_marks v_notes) z0 (wX12_led0 E h h_tape h_far h_from h_real h_other h_kept h_set h_w h_book h_noteSort h_whose h_what h_noteIs h_fitting h_dawn h_likes h_walked h_came z1 v_trouble v_where v_read v_taped v_size v_at v_sort v_place v_sign v_number v_fault v_wrongAt v_word v_marks v_notes) := by
  intro sz
  refine ct_body (by decide) (Nat.le_of_ble_eq_true rfl) ?_
  intro p e s m args below meth c A ls hAe C hr hin hP hD hS hl
  have C : CX p s m args meth c cX12_led RX12 4 E A := C
  have hl : lv_has ls 4 [(0, .ref h), (1, .int p0)] := hl
  have hx := C.1
  have hb := C.2.1
  rw [hAe]
  clear hAe
  obtain ⟨Q, hQ⟩ : ∃ Q, Q = MQ below (Qi E A z0 (wX12_led0 E h h_tape h_far h_from h_real h_other h_kept h_set h_w h_book h_noteSort h_whose h_what h_noteIs h_fitting h_dawn h_likes h_walked h_came z1 v_trouble v_where v_read v_taped v_size v_at v_sort v_place v_sign v_number v_fault v_wrongAt v_word v_marks v_notes)) args s 0 0 A := ⟨_, rfl⟩
  rw [← hQ]
  unfold fX12_led0 at hf
  refine lv_aload_n hx hb dX12_led_0 rfl (lv_at hl 0 rfl) ?_
  refine lv_iconst (v := 0) hx hb dX12_led_1 (by decide) ?_
  refine r_put (ws' := (wX12_led0 E h h_tape h_far h_from h_real h_other h_kept h_set h_w h_book h_noteSort h_whose h_what h_noteIs h_fitting h_dawn h_likes h_walked h_came 0 v_trouble v_where v_read v_taped v_size v_at v_sort v_place v_sign v_number v_fault v_wrongAt v_word v_marks v_notes)) C hP hD hS 0 rfl fl_X12_71 rfl rfl (by decide) rfl dX12_led_2 ?_
  clear hP hD hS; intro H locs hP hD hS
  refine lv_iconst (v := 0) hx hb dX12_led_5 (by decide) ?_
  refine lv_istore_n (lv' := [(2, .int 0), (0, .ref h), (1, .int p0)]) hx hb dX12_led_6 rfl hl (by decide) rfl (fun ls hl => ?_)
  refine lv_iconst (v := 0) hx hb dX12_led_7 (by decide) ?_
  refine lv_istore_n (lv' := [(3, .int 0), (2, .int 0), (0, .ref h), (1, .int p0)]) hx hb dX12_led_8 rfl hl (by decide) rfl (fun ls hl => ?_)
  refine lpK hf (fun K66 eK66 hf => ?_)
  have hK66 : K66 () = some (z0, z1) → AT p l e (rmOf 0 0) s m args below meth c E A Q 0 0 4 [(0, .ref h)] (wX12_led0 E h h_tape h_far h_from h_real h_other h_kept h_set h_w h_book h_noteSort h_whose h_what h_noteIs h_fitting h_dawn h_likes h_walked h_came 0 v_trouble v_where v_read v_taped v_size v_at v_sort v_place v_sign v_number v_fault v_wrongAt v_word v_marks v_notes) 66 [] := by
    intro  hf H locs ls hl hP hD hS
    rw [eK66] at hf
    replace hf := un0_s hf
    refine lv_aload_n hx hb dX12_led_66 rfl (lv_at hl 0 rfl) ?_
    refine lv_iconst (v := 1) hx hb dX12_led_67 (by decide) ?_
    refine r_put (ws' := (wX12_led0 E h h_tape h_far h_from h_real h_other h_kept h_set h_w h_book h_noteSort h_whose h_what h_noteIs h_fitting h_dawn h_likes h_walked h_came 1 v_trouble v_where v_read v_taped v_size v_at v_sort v_place v_sign v_number v_fault v_wrongAt v_word v_marks v_notes)) C hP hD hS 0 rfl fl_X12_71 rfl rfl (by decide) rfl dX12_led_68 ?_
    clear hP hD hS; intro H locs hP hD hS
    refine lv_iconst (v := 0) hx hb dX12_led_71 (by decide) ?_
    cases hf
    rw [hQ]
    exact r_iret C hr hP hD hS rfl dX12_led_72
  clear eK66
  have key9 : ∀ (n : Nat) (x9_2 : Int32) (x9_3 : Int32) , lp (BX12_led0_9 K66) n (x9_2, x9_3) = some (z0, z1) → AT p l e (rmOf 0 0) s m args below meth c E A Q 0 0 4 [(0, .ref h), (1, .int p0), (2, .int x9_2), (3, .int x9_3)] (wX12_led0 E h h_tape h_far h_from h_real h_other h_kept h_set h_w h_book h_noteSort h_whose h_what h_noteIs h_fitting h_dawn h_likes h_walked h_came 0 v_trouble v_where v_read v_taped v_size v_at v_sort v_place v_sign v_number v_fault v_wrongAt v_word v_marks v_notes) 9 [] := by
    intro n
    induction n with
    | zero => intro x9_2 x9_3 hf; exact (lp_0 hf).elim
    | succ n ih9 =>
      intro x9_2 x9_3 hf H locs ls hl hP hD hS
      replace hf := lp_s hf
      generalize lp (BX12_led0_9 K66) n = rec9 at ih9 hf
      unfold BX12_led0_9 at hf
      replace hf := un2_s hf
      refine lv_aload_n hx hb dX12_led_9 rfl (lv_at hl 0 rfl) ?_
      refine r_get C hP 0 rfl fl_X12_358 rfl dX12_led_10 ?_
      refine lv_ifnullN (tgt := 66) hx hb dX12_led_13 (by decide) ?_
      exact hK66  hf _ _ _ (lv_sub hl [0] rfl) hP hD hS
  exact key9 _ 0 0 hf _ _ _ (lv_sub hl [2, 3, 1, 0] rfl) hP hD hS
def wX12_size (E : EN) (h h_inn h_tape h_far h_from h_real h_other h_kept h_set h_w h_book h_noteSort h_whose h_what h_noteIs h_fitting h_dawn h_likes h_walked h_came h_inn_creak h_inn_doorA h_inn_doorB h_inn_how h_inn_lies h_inn_isCold h_inn_falls h_inn_isFull h_inn_isTold h_inn_act h_inn_what h_inn_then h_inn_met h_inn_bed h_inn_dream h_inn_listens h_inn_name h_inn_nameSort h_inn_nameNumber : Nat) (v_thrown : Int32) (v_trouble : Int32) (v_where : Int32) (v_read : Option Nat) (v_taped : Int32) (v_size : Int32) (v_at : Int32) (v_sort : Int32) (v_place : Int32) (v_sign : Int32) (v_number : Int32) (v_fault : Int32) (v_wrongAt : Int32) (v_word : Int64) (v_marks : Int32) (v_notes : Int32) (v_w : Nat → Int32) (v_inn_minutes : Int32) (v_inn_rooms : Int32) (v_inn_doors : Int32) (v_inn_things : Int32) (v_inn_dreams : Int32) (v_inn_sleepers : Int32) (v_inn_listeners : Int32) (v_inn_names : Int32) : va_W := [(h, .inr (11, [.int v_thrown, .int v_trouble, .int v_where, .ref h_inn, va_rf v_read, .ref h_tape, .int v_taped, .int v_size, .int v_at, .int v_sort, .int v_place, .int v_sign, .int v_number, .int v_fault, .int v_wrongAt, .long v_word, .ref h_far, .ref h_from, .ref h_real, .ref h_other, .ref h_kept, .ref h_set, .ref h_w, .int v_marks, .int v_notes, .ref h_book, .ref h_noteSort, .ref h_whose, .ref h_what, .ref h_noteIs, .ref h_fitting, .ref h_dawn, .ref h_likes, .ref h_walked, .ref h_came])), (h_w, aI E 51 v_w), (h_inn, .inr (10, [.int v_inn_minutes, .int v_inn_rooms, .int v_inn_doors, .int v_inn_things, .int v_inn_dreams, .int v_inn_sleepers, .int v_inn_listeners, .int v_inn_names, .ref h_inn_creak, .ref h_inn_doorA, .ref h_inn_doorB, .ref h_inn_how, .ref h_inn_lies, .ref h_inn_isCold, .ref h_inn_falls, .ref h_inn_isFull, .ref h_inn_isTold, .ref h_inn_act, .ref h_inn_what, .ref h_inn_then, .ref h_inn_met, .ref h_inn_bed, .ref h_inn_dream, .ref h_inn_listens, .ref h_inn_name, .ref h_inn_nameSort, .ref h_inn_nameNumber]))]
def fX12_size (N : Nat) (p0 : Int32) (v_taped : Int32) (v_marks : Int32) (v_notes : Int32) (v_w : Nat → Int32) (v_inn_minutes : Int32) (v_inn_rooms : Int32) (v_inn_doors : Int32) (v_inn_things : Int32) (v_inn_dreams : Int32) (v_inn_sleepers : Int32) (v_inn_listeners : Int32) : Option (Int32 × Int32) := if p0 = 11 then (some (v_taped, 0)) else ((fX12_in N p0 0 10).bind (un1 fun (r_20 : Int32) => if r_20 = 0 then (some ((-1), 0)) else (if p0 = 0 then (some (v_inn_rooms, 0)) else (if p0 = 1 then (some (v_inn_doors, 0)) else (if p0 = 2 then (some (v_inn_things, 0)) else (if p0 = 3 then (some (v_inn_dreams, 0)) else (if p0 = 4 then (some (v_inn_sleepers, 0)) else (if p0 = 5 then (some (v_inn_listeners, 0)) else (if p0 = 6 then (some (v_inn_minutes, 0)) else (if p0 = 7 then (gd 49 51 (some (v_w (49 : Int32).toNatClampNeg, 0))) else (if p0 = 8 then (some (v_notes, 0)) else (if p0 = 9 then (some (v_marks, 0)) else (gd 50 51 (some (v_w (50 : Int32).toNatClampNeg, 0)))))))))))))))
set_option maxHeartbeats 4000000 in
set_option maxRecDepth 100000 in
theorem ctX12_size (l : Launch) (E : EN) (h h_inn h_tape h_far h_from h_real h_other h_kept h_set h_w h_book h_noteSort h_whose h_what h_noteIs h_fitting h_dawn h_likes h_walked h_came h_inn_creak h_inn_doorA h_inn_doorB h_inn_how h_inn_lies h_inn_isCold h_inn_falls h_inn_isFull h_inn_isTold h_inn_act h_inn_what h_inn_then h_inn_met h_inn_bed h_inn_dream h_inn_listens h_inn_name h_inn_nameSort h_inn_nameNumber : Nat) (v_thrown : Int32) (v_trouble : Int32) (v_where : Int32) (v_read : Option Nat) (v_taped : Int32) (v_size : Int32) (v_at : Int32) (v_sort : Int32) (v_place : Int32) (v_sign : Int32) (v_number : Int32) (v_fault : Int32) (v_wrongAt : Int32) (v_word : Int64) (v_marks : Int32) (v_notes : Int32) (v_w : Nat → Int32) (v_inn_minutes : Int32) (v_inn_rooms : Int32) (v_inn_doors : Int32) (v_inn_things : Int32) (v_inn_dreams : Int32) (v_inn_sleepers : Int32) (v_inn_listeners : Int32) (v_inn_names : Int32) (N : Nat) (p0 : Int32) (z0 : Int32) (z1 : Int32) (hf : fX12_size N p0 v_taped v_marks v_notes v_w v_inn_minutes v_inn_rooms v_inn_doors v_inn_things v_inn_dreams v_inn_sleepers v_inn_listeners = some (z0, z1)) : CTi l E yX12_size cX12_size 2 .int 1 22 [.ref h, .int p0] (wX12_size E h h_inn h_tape h_far h_from h_real h_other h_kept h_set h_w h_book h_noteSort h_whose h_what h_noteIs h_fitting h_dawn h_likes h_walked h_came h_inn_creak h_inn_doorA h_inn_doorB h_inn_how h_inn_lies h_inn_isCold h_inn_falls h_inn_isFull h_inn_isTold h_inn_act h_inn_what h_inn_then h_inn_met h_inn_bed h_inn_dream h_inn_listens h_inn_name h_inn_nameSort h_inn_nameNumber v_thrown v_trouble v_where v_read v_taped v_size v_at v_sort v_place v_sign v_number v_fault v_wrongAt v_word v_marks v_notes v_w v_inn_minutes v_inn_rooms v_inn_doors v_inn_things v_inn_dreams v_inn_sleepers v_inn_listeners v_inn_names) z0 (wX12_size E h h_inn h_tape h_far h_from h_real h_other h_kept h_set h_w h_book h_noteSort h_whose h_what h_noteIs h_fitting h_dawn h_likes h_walked h_came h_inn_creak h_inn_doorA h_inn_doorB h_inn_how h_inn_lies h_inn_isCold h_inn_falls h_inn_isFull h_inn_isTold h_inn_act h_inn_what h_inn_then h_inn_met h_inn_bed h_inn_dream h_inn_listens h_inn_name h_inn_nameSort h_inn_nameNumber z1 v_trouble v_where v_read v_taped v_size v_at v_sort v_place v_sign v_number v_fault v_wrongAt v_word v_marks v_notes v_w v_inn_minutes v_inn_rooms v_inn_doors v_inn_things v_inn_dreams v_inn_sleepers v_inn_listeners v_inn_names) := by
  intro sz
  refine ct_body (by decide) (Nat.le_of_ble_eq_true rfl) ?_
  intro p e s m args below meth c A ls hAe C hr hin hP hD hS hl
  have C : CX p s m args meth c cX12_size RX12 2 E A := C
  have hl : lv_has ls 2 [(0, .ref h), (1, .int p0)] := hl
  have hx := C.1
  have hb := C.2.1
  rw [hAe]
  clear hAe
  obtain ⟨Q, hQ⟩ : ∃ Q, Q = MQ below (Qi E A z0 (wX12_size E h h_inn h_tape h_far h_from h_real h_other h_kept h_set h_w h_book h_noteSort h_whose h_what h_noteIs h_fitting h_dawn h_likes h_walked h_came h_inn_creak h_inn_doorA h_inn_doorB h_inn_how h_inn_lies h_inn_isCold h_inn_falls h_inn_isFull h_inn_isTold h_inn_act h_inn_what h_inn_then h_inn_met h_inn_bed h_inn_dream h_inn_listens h_inn_name h_inn_nameSort h_inn_nameNumber z1 v_trouble v_where v_read v_taped v_size v_at v_sort v_place v_sign v_number v_fault v_wrongAt v_word v_marks v_notes v_w v_inn_minutes v_inn_rooms v_inn_doors v_inn_things v_inn_dreams v_inn_sleepers v_inn_listeners v_inn_names)) args s 0 0 A := ⟨_, rfl⟩
  rw [← hQ]
  unfold fX12_size at hf
  refine lv_aload_n hx hb dX12_size_0 rfl (lv_at hl 0 rfl) ?_
  refine lv_iconst (v := 0) hx hb dX12_size_1 (by decide) ?_
  refine r_put (ws' := (wX12_size E h h_inn h_tape h_far h_from h_real h_other h_kept h_set h_w h_book h_noteSort h_whose h_what h_noteIs h_fitting h_dawn h_likes h_walked h_came h_inn_creak h_inn_doorA h_inn_doorB h_inn_how h_inn_lies h_inn_isCold h_inn_falls h_inn_isFull h_inn_isTold h_inn_act h_inn_what h_inn_then h_inn_met h_inn_bed h_inn_dream h_inn_listens h_inn_name h_inn_nameSort h_inn_nameNumber 0 v_trouble v_where v_read v_taped v_size v_at v_sort v_place v_sign v_number v_fault v_wrongAt v_word v_marks v_notes v_w v_inn_minutes v_inn_rooms v_inn_doors v_inn_things v_inn_dreams v_inn_sleepers v_inn_listeners v_inn_names)) C hP hD hS 0 rfl fl_X12_71 rfl rfl (by decide) rfl dX12_size_2 ?_
  clear hP hD hS; intro H locs hP hD hS
  refine lv_iload_n hx hb dX12_size_5 rfl (lv_at hl 1 rfl) ?_
  refine lv_bipush (v := 11) hx hb dX12_size_6 (by decide) ?_
  refine lv_icmp_ne (tgt := 16) hx hb dX12_size_8 (by decide) (fun c_8 => ?_) (fun c_8 => ?_)
  · replace hf := it_f c_8 hf
    refine lv_iload_n hx hb dX12_size_16 rfl (lv_at hl 1 rfl) ?_
    refine lv_iconst (v := 0) hx hb dX12_size_17 (by decide) ?_
    refine lv_bipush (v := 10) hx hb dX12_size_18 (by decide) ?_
    obtain ⟨r_20, hc_20, hf⟩ := bd1 hf
    refine r_callSi (ws' := (wX12_size E h h_inn h_tape h_far h_from h_real h_other h_kept h_set h_w h_book h_noteSort h_whose h_what h_noteIs h_fitting h_dawn h_likes h_walked h_came h_inn_creak h_inn_doorA h_inn_doorB h_inn_how h_inn_lies h_inn_isCold h_inn_falls h_inn_isFull h_inn_isTold h_inn_act h_inn_what h_inn_then h_inn_met h_inn_bed h_inn_dream h_inn_listens h_inn_name h_inn_nameSort h_inn_nameNumber 0 v_trouble v_where v_read v_taped v_size v_at v_sort v_place v_sign v_number v_fault v_wrongAt v_word v_marks v_notes v_w v_inn_minutes v_inn_rooms v_inn_doors v_inn_things v_inn_dreams v_inn_sleepers v_inn_listeners v_inn_names)) (As := [.int p0, .int 0, .int 10]) (rest := []) C (ctX12_in l E N p0 0 10 r_20 hc_20) ml_X12_149 ⟨Nat.le_of_ble_eq_true rfl, Nat.le_of_ble_eq_true rfl⟩ hP hD hS [] rfl rfl rfl rfl rfl hl.1 rfl (Nat.le_of_ble_eq_true rfl) ⟨Nat.zero_le _, Nat.zero_le _⟩ dX12_size_20 ?_
    clear hP hD hS; intro H locs hP hD hS
    refine lv_if_ne (tgt := 28) hx hb dX12_size_23 (by decide) (fun c_23 => ?_) (fun c_23 => ?_)
    · replace hf := it_f c_23 hf
      refine lv_aload_n hx hb dX12_size_28 rfl (lv_at hl 0 rfl) ?_
      refine r_get C hP 0 rfl fl_X12_358 rfl dX12_size_29 ?_
      refine lv_ifnonnull (tgt := 37) hx hb dX12_size_32 (by decide) ?_
      refine lv_iload_n hx hb dX12_size_37 rfl (lv_at hl 1 rfl) ?_
      by_cases c_38_0 : p0 = 0
      · replace hf := it_t c_38_0 hf
        refine lv_tableIn (off := 54) (tgt := 92) hx hb dX12_size_38 (by rw [c_38_0]; decide) (by rw [c_38_0]; decide) (by rw [c_38_0]; rfl) (by decide) ?_
        refine lv_aload_n hx hb dX12_size_92 rfl (lv_at hl 0 rfl) ?_
        refine r_get C hP 0 rfl fl_X12_358 rfl dX12_size_93 ?_
        refine r_get C hP 2 rfl fl_X12_244 rfl dX12_size_96 ?_
        cases hf
        rw [hQ]
        exact r_iret C hr hP hD hS rfl dX12_size_99
      · replace hf := it_f c_38_0 hf
        by_cases c_38_1 : p0 = 1
        · replace hf := it_t c_38_1 hf
          refine lv_tableIn (off := 62) (tgt := 100) hx hb dX12_size_38 (by rw [c_38_1]; decide) (by rw [c_38_1]; decide) (by rw [c_38_1]; rfl) (by decide) ?_
          refine lv_aload_n hx hb dX12_size_100 rfl (lv_at hl 0 rfl) ?_
          refine r_get C hP 0 rfl fl_X12_358 rfl dX12_size_101 ?_
          refine r_get C hP 2 rfl fl_X12_292 rfl dX12_size_104 ?_
          cases hf
          rw [hQ]
          exact r_iret C hr hP hD hS rfl dX12_size_107
        · replace hf := it_f c_38_1 hf
          by_cases c_38_2 : p0 = 2
          · replace hf := it_t c_38_2 hf
            refine lv_tableIn (off := 70) (tgt := 108) hx hb dX12_size_38 (by rw [c_38_2]; decide) (by rw [c_38_2]; decide) (by rw [c_38_2]; rfl) (by decide) ?_
            refine lv_aload_n hx hb dX12_size_108 rfl (lv_at hl 0 rfl) ?_
            refine r_get C hP 0 rfl fl_X12_358 rfl dX12_size_109 ?_
            refine r_get C hP 2 rfl fl_X12_315 rfl dX12_size_112 ?_
            cases hf
            rw [hQ]
            exact r_iret C hr hP hD hS rfl dX12_size_115
          · replace hf := it_f c_38_2 hf
            by_cases c_38_3 : p0 = 3
            · replace hf := it_t c_38_3 hf
              refine lv_tableIn (off := 78) (tgt := 116) hx hb dX12_size_38 (by rw [c_38_3]; decide) (by rw [c_38_3]; decide) (by rw [c_38_3]; rfl) (by decide) ?_
              refine lv_aload_n hx hb dX12_size_116 rfl (lv_at hl 0 rfl) ?_
              refine r_get C hP 0 rfl fl_X12_358 rfl dX12_size_117 ?_
              refine r_get C hP 2 rfl fl_X12_325 rfl dX12_size_120 ?_
              cases hf
              rw [hQ]
              exact r_iret C hr hP hD hS rfl dX12_size_123
            · replace hf := it_f c_38_3 hf
              by_cases c_38_4 : p0 = 4
              · replace hf := it_t c_38_4 hf
                refine lv_tableIn (off := 86) (tgt := 124) hx hb dX12_size_38 (by rw [c_38_4]; decide) (by rw [c_38_4]; decide) (by rw [c_38_4]; rfl) (by decide) ?_
                refine lv_aload_n hx hb dX12_size_124 rfl (lv_at hl 0 rfl) ?_
                refine r_get C hP 0 rfl fl_X12_358 rfl dX12_size_125 ?_
                refine r_get C hP 2 rfl fl_X12_247 rfl dX12_size_128 ?_
                cases hf
                rw [hQ]
                exact r_iret C hr hP hD hS rfl dX12_size_131
              · replace hf := it_f c_38_4 hf
                by_cases c_38_5 : p0 = 5
                · replace hf := it_t c_38_5 hf
                  refine lv_tableIn (off := 94) (tgt := 132) hx hb dX12_size_38 (by rw [c_38_5]; decide) (by rw [c_38_5]; decide) (by rw [c_38_5]; rfl) (by decide) ?_
                  refine lv_aload_n hx hb dX12_size_132 rfl (lv_at hl 0 rfl) ?_
                  refine r_get C hP 0 rfl fl_X12_358 rfl dX12_size_133 ?_
                  refine r_get C hP 2 rfl fl_X12_346 rfl dX12_size_136 ?_
                  cases hf
                  rw [hQ]
                  exact r_iret C hr hP hD hS rfl dX12_size_139
                · replace hf := it_f c_38_5 hf
                  by_cases c_38_6 : p0 = 6
                  · replace hf := it_t c_38_6 hf
                    refine lv_tableIn (off := 102) (tgt := 140) hx hb dX12_size_38 (by rw [c_38_6]; decide) (by rw [c_38_6]; decide) (by rw [c_38_6]; rfl) (by decide) ?_
                    refine lv_aload_n hx hb dX12_size_140 rfl (lv_at hl 0 rfl) ?_
                    refine r_get C hP 0 rfl fl_X12_358 rfl dX12_size_141 ?_
                    refine r_get C hP 2 rfl fl_X12_241 rfl dX12_size_144 ?_
                    cases hf
                    rw [hQ]
                    exact r_iret C hr hP hD hS rfl dX12_size_147
                  · replace hf := it_f c_38_6 hf
                    by_cases c_38_7 : p0 = 7
                    · replace hf := it_t c_38_7 hf
                      refine lv_tableIn (off := 110) (tgt := 148) hx hb dX12_size_38 (by rw [c_38_7]; decide) (by rw [c_38_7]; decide) (by rw [c_38_7]; rfl) (by decide) ?_
                      refine lv_aload_n hx hb dX12_size_148 rfl (lv_at hl 0 rfl) ?_
                      refine r_get C hP 0 rfl fl_X12_36 rfl dX12_size_149 ?_
                      refine lv_bipush (v := 49) hx hb dX12_size_152 (by decide) ?_
                      obtain ⟨hi_154, hf⟩ := gd_s hf
                      refine r_iald C hP 1 rfl hi_154 dX12_size_154 ?_
                      cases hf
                      rw [hQ]
                      exact r_iret C hr hP hD hS rfl dX12_size_155
                    · replace hf := it_f c_38_7 hf
                      by_cases c_38_8 : p0 = 8
                      · replace hf := it_t c_38_8 hf
                        refine lv_tableIn (off := 118) (tgt := 156) hx hb dX12_size_38 (by rw [c_38_8]; decide) (by rw [c_38_8]; decide) (by rw [c_38_8]; rfl) (by decide) ?_
                        refine lv_aload_n hx hb dX12_size_156 rfl (lv_at hl 0 rfl) ?_
                        refine r_get C hP 0 rfl fl_X12_360 rfl dX12_size_157 ?_
                        cases hf
                        rw [hQ]
                        exact r_iret C hr hP hD hS rfl dX12_size_160
                      · replace hf := it_f c_38_8 hf
                        by_cases c_38_9 : p0 = 9
                        · replace hf := it_t c_38_9 hf
                          refine lv_tableIn (off := 123) (tgt := 161) hx hb dX12_size_38 (by rw [c_38_9]; decide) (by rw [c_38_9]; decide) (by rw [c_38_9]; rfl) (by decide) ?_
                          refine lv_aload_n hx hb dX12_size_161 rfl (lv_at hl 0 rfl) ?_
                          refine r_get C hP 0 rfl fl_X12_363 rfl dX12_size_162 ?_
                          cases hf
                          rw [hQ]
                          exact r_iret C hr hP hD hS rfl dX12_size_165
                        · replace hf := it_f c_38_9 hf
                          refine lv_tableOut (tgt := 166) hx hb dX12_size_38 (by have g0 := lv_neT (a := 0) c_38_0 (by decide); have g1 := lv_neT (a := 1) c_38_1 (by decide); have g2 := lv_neT (a := 2) c_38_2 (by decide); have g3 := lv_neT (a := 3) c_38_3 (by decide); have g4 := lv_neT (a := 4) c_38_4 (by decide); have g5 := lv_neT (a := 5) c_38_5 (by decide); have g6 := lv_neT (a := 6) c_38_6 (by decide); have g7 := lv_neT (a := 7) c_38_7 (by decide); have g8 := lv_neT (a := 8) c_38_8 (by decide); have g9 := lv_neT (a := 9) c_38_9 (by decide); omega) (by decide) ?_
                          refine lv_aload_n hx hb dX12_size_166 rfl (lv_at hl 0 rfl) ?_
                          refine r_get C hP 0 rfl fl_X12_36 rfl dX12_size_167 ?_
                          refine lv_bipush (v := 50) hx hb dX12_size_170 (by decide) ?_
                          obtain ⟨hi_172, hf⟩ := gd_s hf
                          refine r_iald C hP 1 rfl hi_172 dX12_size_172 ?_
                          cases hf
                          rw [hQ]
                          exact r_iret C hr hP hD hS rfl dX12_size_173
    · replace hf := it_t c_23 hf
      refine lv_iconst (v := (-1)) hx hb dX12_size_26 (by decide) ?_
      cases hf
      rw [hQ]
      exact r_iret C hr hP hD hS rfl dX12_size_27
  · replace hf := it_t c_8 hf
    refine lv_aload_n hx hb dX12_size_11 rfl (lv_at hl 0 rfl) ?_
    refine r_get C hP 0 rfl fl_X12_351 rfl dX12_size_12 ?_
    cases hf
    rw [hQ]
    exact r_iret C hr hP hD hS rfl dX12_size_15
def wX12_size0 (E : EN) (h h_tape h_far h_from h_real h_other h_kept h_set h_w h_book h_noteSort h_whose h_what h_noteIs h_fitting h_dawn h_likes h_walked h_came : Nat) (v_thrown : Int32) (v_trouble : Int32) (v_where : Int32) (v_read : Option Nat) (v_taped : Int32) (v_size : Int32) (v_at : Int32) (v_sort : Int32) (v_place : Int32) (v_sign : Int32) (v_number : Int32) (v_fault : Int32) (v_wrongAt : Int32) (v_word : Int64) (v_marks : Int32) (v_notes : Int32) : va_W := [(h, .inr (11, [.int v_thrown, .int v_trouble, .int v_where, .null, va_rf v_read, .ref h_tape, .int v_taped, .int v_size, .int v_at, .int v_sort, .int v_place, .int v_sign, .int v_number, .int v_fault, .int v_wrongAt, .long v_word, .ref h_far, .ref h_from, .ref h_real, .ref h_other, .ref h_kept, .ref h_set, .ref h_w, .int v_marks, .int v_notes, .ref h_book, .ref h_noteSort, .ref h_whose, .ref h_what, .ref h_noteIs, .ref h_fitting, .ref h_dawn, .ref h_likes, .ref h_walked, .ref h_came]))]
def fX12_size0 (N : Nat) (p0 : Int32) (v_taped : Int32) : Option (Int32 × Int32) := if p0 = 11 then (some (v_taped, 0)) else ((fX12_in N p0 0 10).bind (un1 fun (r_20 : Int32) => if r_20 = 0 then (some ((-1), 0)) else (some (0, 0))))
set_option maxHeartbeats 4000000 in
set_option maxRecDepth 100000 in
theorem ctX12_size0 (l : Launch) (E : EN) (h h_tape h_far h_from h_real h_other h_kept h_set h_w h_book h_noteSort h_whose h_what h_noteIs h_fitting h_dawn h_likes h_walked h_came : Nat) (v_thrown : Int32) (v_trouble : Int32) (v_where : Int32) (v_read : Option Nat) (v_taped : Int32) (v_size : Int32) (v_at : Int32) (v_sort : Int32) (v_place : Int32) (v_sign : Int32) (v_number : Int32) (v_fault : Int32) (v_wrongAt : Int32) (v_word : Int64) (v_marks : Int32) (v_notes : Int32) (N : Nat) (p0 : Int32) (z0 : Int32) (z1 : Int32) (hf : fX12_size0 N p0 v_taped = some (z0, z1)) : CTi l E yX12_size cX12_size 2 .int 1 22 [.ref h, .int p0] (wX12_size0 E h h_tape h_far h_from h_real h_other h_kept h_set h_w h_book h_noteSort h_whose h_what h_noteIs h_fitting h_dawn h_likes h_walked h_came v_thrown v_trouble v_where v_read v_taped v_size v_at v_sort v_place v_sign v_number v_fault v_wrongAt v_word v_marks v_notes) z0 (wX12_size0 E h h_tape h_far h_from h_real h_other h_kept h_set h_w h_book h_noteSort h_whose h_what h_noteIs h_fitting h_dawn h_likes h_walked h_came z1 v_trouble v_where v_read v_taped v_size v_at v_sort v_place v_sign v_number v_fault v_wrongAt v_word v_marks v_notes) := by
  intro sz
  refine ct_body (by decide) (Nat.le_of_ble_eq_true rfl) ?_
  intro p e s m args below meth c A ls hAe C hr hin hP hD hS hl
  have C : CX p s m args meth c cX12_size RX12 2 E A := C
  have hl : lv_has ls 2 [(0, .ref h), (1, .int p0)] := hl
  have hx := C.1
  have hb := C.2.1
  rw [hAe]
  clear hAe
  obtain ⟨Q, hQ⟩ : ∃ Q, Q = MQ below (Qi E A z0 (wX12_size0 E h h_tape h_far h_from h_real h_other h_kept h_set h_w h_book h_noteSort h_whose h_what h_noteIs h_fitting h_dawn h_likes h_walked h_came z1 v_trouble v_where v_read v_taped v_size v_at v_sort v_place v_sign v_number v_fault v_wrongAt v_word v_marks v_notes)) args s 0 0 A := ⟨_, rfl⟩
  rw [← hQ]
  unfold fX12_size0 at hf
  refine lv_aload_n hx hb dX12_size_0 rfl (lv_at hl 0 rfl) ?_
  refine lv_iconst (v := 0) hx hb dX12_size_1 (by decide) ?_
  refine r_put (ws' := (wX12_size0 E h h_tape h_far h_from h_real h_other h_kept h_set h_w h_book h_noteSort h_whose h_what h_noteIs h_fitting h_dawn h_likes h_walked h_came 0 v_trouble v_where v_read v_taped v_size v_at v_sort v_place v_sign v_number v_fault v_wrongAt v_word v_marks v_notes)) C hP hD hS 0 rfl fl_X12_71 rfl rfl (by decide) rfl dX12_size_2 ?_
  clear hP hD hS; intro H locs hP hD hS
  refine lv_iload_n hx hb dX12_size_5 rfl (lv_at hl 1 rfl) ?_
  refine lv_bipush (v := 11) hx hb dX12_size_6 (by decide) ?_
  refine lv_icmp_ne (tgt := 16) hx hb dX12_size_8 (by decide) (fun c_8 => ?_) (fun c_8 => ?_)
  · replace hf := it_f c_8 hf
    refine lv_iload_n hx hb dX12_size_16 rfl (lv_at hl 1 rfl) ?_
    refine lv_iconst (v := 0) hx hb dX12_size_17 (by decide) ?_
    refine lv_bipush (v := 10) hx hb dX12_size_18 (by decide) ?_
    obtain ⟨r_20, hc_20, hf⟩ := bd1 hf
    refine r_callSi (ws' := (wX12_size0 E h h_tape h_far h_from h_real h_other h_kept h_set h_w h_book h_noteSort h_whose h_what h_noteIs h_fitting h_dawn h_likes h_walked h_came 0 v_trouble v_where v_read v_taped v_size v_at v_sort v_place v_sign v_number v_fault v_wrongAt v_word v_marks v_notes)) (As := [.int p0, .int 0, .int 10]) (rest := []) C (ctX12_in l E N p0 0 10 r_20 hc_20) ml_X12_149 ⟨Nat.le_of_ble_eq_true rfl, Nat.le_of_ble_eq_true rfl⟩ hP hD hS [] rfl rfl rfl rfl rfl hl.1 rfl (Nat.le_of_ble_eq_true rfl) ⟨Nat.zero_le _, Nat.zero_le _⟩ dX12_size_20 ?_
    clear hP hD hS; intro H locs hP hD hS
    refine lv_if_ne (tgt := 28) hx hb dX12_size_23 (by decide) (fun c_23 => ?_) (fun c_23 => ?_)
    · replace hf := it_f c_23 hf
      refine lv_aload_n hx hb dX12_size_28 rfl (lv_at hl 0 rfl) ?_
      refine r_get C hP 0 rfl fl_X12_358 rfl dX12_size_29 ?_
      refine lv_ifnonnullN hx hb dX12_size_32 ?_
      refine lv_iconst (v := 0) hx hb dX12_size_35 (by decide) ?_
      cases hf
      rw [hQ]
      exact r_iret C hr hP hD hS rfl dX12_size_36
    · replace hf := it_t c_23 hf
      refine lv_iconst (v := (-1)) hx hb dX12_size_26 (by decide) ?_
      cases hf
      rw [hQ]
      exact r_iret C hr hP hD hS rfl dX12_size_27
  · replace hf := it_t c_8 hf
    refine lv_aload_n hx hb dX12_size_11 rfl (lv_at hl 0 rfl) ?_
    refine r_get C hP 0 rfl fl_X12_351 rfl dX12_size_12 ?_
    cases hf
    rw [hQ]
    exact r_iret C hr hP hD hS rfl dX12_size_15
def wX12_trouble (E : EN) (h h_tape h_far h_from h_real h_other h_kept h_set h_w h_book h_noteSort h_whose h_what h_noteIs h_fitting h_dawn h_likes h_walked h_came : Nat) (v_thrown : Int32) (v_trouble : Int32) (v_where : Int32) (v_inn : Option Nat) (v_read : Option Nat) (v_taped : Int32) (v_size : Int32) (v_at : Int32) (v_sort : Int32) (v_place : Int32) (v_sign : Int32) (v_number : Int32) (v_fault : Int32) (v_wrongAt : Int32) (v_word : Int64) (v_marks : Int32) (v_notes : Int32) : va_W := [(h, .inr (11, [.int v_thrown, .int v_trouble, .int v_where, va_rf v_inn, va_rf v_read, .ref h_tape, .int v_taped, .int v_size, .int v_at, .int v_sort, .int v_place, .int v_sign, .int v_number, .int v_fault, .int v_wrongAt, .long v_word, .ref h_far, .ref h_from, .ref h_real, .ref h_other, .ref h_kept, .ref h_set, .ref h_w, .int v_marks, .int v_notes, .ref h_book, .ref h_noteSort, .ref h_whose, .ref h_what, .ref h_noteIs, .ref h_fitting, .ref h_dawn, .ref h_likes, .ref h_walked, .ref h_came]))]
def fX12_trouble (N : Nat) (v_trouble : Int32) : Option (Int32 × Int32) := some (v_trouble, 0)
set_option maxHeartbeats 4000000 in
set_option maxRecDepth 100000 in
theorem ctX12_trouble (l : Launch) (E : EN) (h h_tape h_far h_from h_real h_other h_kept h_set h_w h_book h_noteSort h_whose h_what h_noteIs h_fitting h_dawn h_likes h_walked h_came : Nat) (v_thrown : Int32) (v_trouble : Int32) (v_where : Int32) (v_inn : Option Nat) (v_read : Option Nat) (v_taped : Int32) (v_size : Int32) (v_at : Int32) (v_sort : Int32) (v_place : Int32) (v_sign : Int32) (v_number : Int32) (v_fault : Int32) (v_wrongAt : Int32) (v_word : Int64) (v_marks : Int32) (v_notes : Int32) (N : Nat) (z0 : Int32) (z1 : Int32) (hf : fX12_trouble N v_trouble = some (z0, z1)) : CTi l E yX12_trouble cX12_trouble 1 .int 0 0 [.ref h] (wX12_trouble E h h_tape h_far h_from h_real h_other h_kept h_set h_w h_book h_noteSort h_whose h_what h_noteIs h_fitting h_dawn h_likes h_walked h_came v_thrown v_trouble v_where v_inn v_read v_taped v_size v_at v_sort v_place v_sign v_number v_fault v_wrongAt v_word v_marks v_notes) z0 (wX12_trouble E h h_tape h_far h_from h_real h_other h_kept h_set h_w h_book h_noteSort h_whose h_what h_noteIs h_fitting h_dawn h_likes h_walked h_came z1 v_trouble v_where v_inn v_read v_taped v_size v_at v_sort v_place v_sign v_number v_fault v_wrongAt v_word v_marks v_notes) := by
  intro sz
  refine ct_body (by decide) (Nat.le_of_ble_eq_true rfl) ?_
  intro p e s m args below meth c A ls hAe C hr hin hP hD hS hl
  have C : CX p s m args meth c cX12_trouble RX12 1 E A := C
  have hl : lv_has ls 1 [(0, .ref h)] := hl
  have hx := C.1
  have hb := C.2.1
  rw [hAe]
  clear hAe
  obtain ⟨Q, hQ⟩ : ∃ Q, Q = MQ below (Qi E A z0 (wX12_trouble E h h_tape h_far h_from h_real h_other h_kept h_set h_w h_book h_noteSort h_whose h_what h_noteIs h_fitting h_dawn h_likes h_walked h_came z1 v_trouble v_where v_inn v_read v_taped v_size v_at v_sort v_place v_sign v_number v_fault v_wrongAt v_word v_marks v_notes)) args s 0 0 A := ⟨_, rfl⟩
  rw [← hQ]
  unfold fX12_trouble at hf
  refine lv_aload_n hx hb dX12_trouble_0 rfl (lv_at hl 0 rfl) ?_
  refine lv_iconst (v := 0) hx hb dX12_trouble_1 (by decide) ?_
  refine r_put (ws' := (wX12_trouble E h h_tape h_far h_from h_real h_other h_kept h_set h_w h_book h_noteSort h_whose h_what h_noteIs h_fitting h_dawn h_likes h_walked h_came 0 v_trouble v_where v_inn v_read v_taped v_size v_at v_sort v_place v_sign v_number v_fault v_wrongAt v_word v_marks v_notes)) C hP hD hS 0 rfl fl_X12_71 rfl rfl (by decide) rfl dX12_trouble_2 ?_
  clear hP hD hS; intro H locs hP hD hS
  refine lv_aload_n hx hb dX12_trouble_5 rfl (lv_at hl 0 rfl) ?_
  refine r_get C hP 0 rfl fl_X12_74 rfl dX12_trouble_6 ?_
  cases hf
  rw [hQ]
  exact r_iret C hr hP hD hS rfl dX12_trouble_9
