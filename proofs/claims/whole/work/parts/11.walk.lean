theorem dX12_readThing_0 : decode cX12_readThing 0 = .ok (.aload_n 0, 1) := by decide +kernel
theorem dX12_readThing_1 : decode cX12_readThing 1 = .ok (.aload_n 0, 1) := by decide +kernel
theorem dX12_readThing_2 : decode cX12_readThing 2 = .ok (.getfield 202, 3) := by decide +kernel
theorem dX12_readThing_5 : decode cX12_readThing 5 = .ok (.getfield 315, 3) := by decide +kernel
theorem dX12_readThing_8 : decode cX12_readThing 8 = .ok (.iconst 4, 1) := by decide +kernel
theorem dX12_readThing_9 : decode cX12_readThing 9 = .ok (.invokevirtual 276, 3) := by decide +kernel
theorem dX12_readThing_12 : decode cX12_readThing 12 = .ok (.aload_n 0, 1) := by decide +kernel
theorem dX12_readThing_13 : decode cX12_readThing 13 = .ok (.iconst 1, 1) := by decide +kernel
theorem dX12_readThing_14 : decode cX12_readThing 14 = .ok (.aload_n 0, 1) := by decide +kernel
theorem dX12_readThing_15 : decode cX12_readThing 15 = .ok (.getfield 202, 3) := by decide +kernel
theorem dX12_readThing_18 : decode cX12_readThing 18 = .ok (.getfield 315, 3) := by decide +kernel
theorem dX12_readThing_21 : decode cX12_readThing 21 = .ok (.invokevirtual 279, 3) := by decide +kernel
theorem dX12_readThing_24 : decode cX12_readThing 24 = .ok (.aload_n 0, 1) := by decide +kernel
theorem dX12_readThing_25 : decode cX12_readThing 25 = .ok (.ldc_w 318, 3) := by decide +kernel
theorem dX12_readThing_28 : decode cX12_readThing 28 = .ok (.invokevirtual 157, 3) := by decide +kernel
theorem dX12_readThing_31 : decode cX12_readThing 31 = .ok (.aload_n 0, 1) := by decide +kernel
theorem dX12_readThing_32 : decode cX12_readThing 32 = .ok (.iconst 0, 1) := by decide +kernel
theorem dX12_readThing_33 : decode cX12_readThing 33 = .ok (.invokevirtual 295, 3) := by decide +kernel
theorem dX12_readThing_36 : decode cX12_readThing 36 = .ok (.istore_n 1, 1) := by decide +kernel
theorem dX12_readThing_37 : decode cX12_readThing 37 = .ok (.aload_n 0, 1) := by decide +kernel
theorem dX12_readThing_38 : decode cX12_readThing 38 = .ok (.ldc 186, 2) := by decide +kernel
theorem dX12_readThing_40 : decode cX12_readThing 40 = .ok (.invokevirtual 284, 3) := by decide +kernel
theorem dX12_readThing_43 : decode cX12_readThing 43 = .ok (.istore_n 2, 1) := by decide +kernel
theorem dX12_readThing_44 : decode cX12_readThing 44 = .ok (.aload_n 0, 1) := by decide +kernel
theorem dX12_readThing_45 : decode cX12_readThing 45 = .ok (.getfield 99, 3) := by decide +kernel
theorem dX12_readThing_48 : decode cX12_readThing 48 = .ok (.iconst 5, 1) := by decide +kernel
theorem dX12_readThing_49 : decode cX12_readThing 49 = .ok (.if_icmp .ne 4, 3) := by decide +kernel
theorem dX12_readThing_52 : decode cX12_readThing 52 = .ok (.return_, 1) := by decide +kernel
theorem dX12_readThing_53 : decode cX12_readThing 53 = .ok (.aload_n 0, 1) := by decide +kernel
theorem dX12_readThing_54 : decode cX12_readThing 54 = .ok (.getfield 202, 3) := by decide +kernel
theorem dX12_readThing_57 : decode cX12_readThing 57 = .ok (.getfield 319, 3) := by decide +kernel
theorem dX12_readThing_60 : decode cX12_readThing 60 = .ok (.aload_n 0, 1) := by decide +kernel
theorem dX12_readThing_61 : decode cX12_readThing 61 = .ok (.getfield 202, 3) := by decide +kernel
theorem dX12_readThing_64 : decode cX12_readThing 64 = .ok (.getfield 315, 3) := by decide +kernel
theorem dX12_readThing_67 : decode cX12_readThing 67 = .ok (.iload_n 1, 1) := by decide +kernel
theorem dX12_readThing_68 : decode cX12_readThing 68 = .ok (.iastore, 1) := by decide +kernel
theorem dX12_readThing_69 : decode cX12_readThing 69 = .ok (.aload_n 0, 1) := by decide +kernel
theorem dX12_readThing_70 : decode cX12_readThing 70 = .ok (.getfield 202, 3) := by decide +kernel
theorem dX12_readThing_73 : decode cX12_readThing 73 = .ok (.getfield 322, 3) := by decide +kernel
theorem dX12_readThing_76 : decode cX12_readThing 76 = .ok (.aload_n 0, 1) := by decide +kernel
theorem dX12_readThing_77 : decode cX12_readThing 77 = .ok (.getfield 202, 3) := by decide +kernel
theorem dX12_readThing_80 : decode cX12_readThing 80 = .ok (.getfield 315, 3) := by decide +kernel
theorem dX12_readThing_83 : decode cX12_readThing 83 = .ok (.iload_n 2, 1) := by decide +kernel
theorem dX12_readThing_84 : decode cX12_readThing 84 = .ok (.bastore, 1) := by decide +kernel
theorem dX12_readThing_85 : decode cX12_readThing 85 = .ok (.aload_n 0, 1) := by decide +kernel
theorem dX12_readThing_86 : decode cX12_readThing 86 = .ok (.getfield 202, 3) := by decide +kernel
theorem dX12_readThing_89 : decode cX12_readThing 89 = .ok (.dup, 1) := by decide +kernel
theorem dX12_readThing_90 : decode cX12_readThing 90 = .ok (.getfield 315, 3) := by decide +kernel
theorem dX12_readThing_93 : decode cX12_readThing 93 = .ok (.iconst 1, 1) := by decide +kernel
theorem dX12_readThing_94 : decode cX12_readThing 94 = .ok (.iadd, 1) := by decide +kernel
theorem dX12_readThing_95 : decode cX12_readThing 95 = .ok (.putfield 315, 3) := by decide +kernel
theorem dX12_readThing_98 : decode cX12_readThing 98 = .ok (.return_, 1) := by decide +kernel
theorem dX12_readDream_0 : decode cX12_readDream 0 = .ok (.aload_n 0, 1) := by decide +kernel
theorem dX12_readDream_1 : decode cX12_readDream 1 = .ok (.invokevirtual 142, 3) := by decide +kernel
theorem dX12_readDream_4 : decode cX12_readDream 4 = .ok (.aload_n 0, 1) := by decide +kernel
theorem dX12_readDream_5 : decode cX12_readDream 5 = .ok (.invokevirtual 220, 3) := by decide +kernel
theorem dX12_readDream_8 : decode cX12_readDream 8 = .ok (.ifCond .ne 8, 3) := by decide +kernel
theorem dX12_readDream_11 : decode cX12_readDream 11 = .ok (.aload_n 0, 1) := by decide +kernel
theorem dX12_readDream_12 : decode cX12_readDream 12 = .ok (.iconst 1, 1) := by decide +kernel
theorem dX12_readDream_13 : decode cX12_readDream 13 = .ok (.invokevirtual 145, 3) := by decide +kernel
theorem dX12_readDream_16 : decode cX12_readDream 16 = .ok (.aload_n 0, 1) := by decide +kernel
theorem dX12_readDream_17 : decode cX12_readDream 17 = .ok (.getfield 202, 3) := by decide +kernel
theorem dX12_readDream_20 : decode cX12_readDream 20 = .ok (.aload_n 0, 1) := by decide +kernel
theorem dX12_readDream_21 : decode cX12_readDream 21 = .ok (.getfield 118, 3) := by decide +kernel
theorem dX12_readDream_24 : decode cX12_readDream 24 = .ok (.invokevirtual 224, 3) := by decide +kernel
theorem dX12_readDream_27 : decode cX12_readDream 27 = .ok (.istore_n 1, 1) := by decide +kernel
theorem dX12_readDream_28 : decode cX12_readDream 28 = .ok (.iload_n 1, 1) := by decide +kernel
theorem dX12_readDream_29 : decode cX12_readDream 29 = .ok (.iconst (-1), 1) := by decide +kernel
theorem dX12_readDream_30 : decode cX12_readDream 30 = .ok (.if_icmp .eq 21, 3) := by decide +kernel
theorem dX12_readDream_33 : decode cX12_readDream 33 = .ok (.aload_n 0, 1) := by decide +kernel
theorem dX12_readDream_34 : decode cX12_readDream 34 = .ok (.getfield 202, 3) := by decide +kernel
theorem dX12_readDream_37 : decode cX12_readDream 37 = .ok (.getfield 214, 3) := by decide +kernel
theorem dX12_readDream_40 : decode cX12_readDream 40 = .ok (.iload_n 1, 1) := by decide +kernel
theorem dX12_readDream_41 : decode cX12_readDream 41 = .ok (.iaload, 1) := by decide +kernel
theorem dX12_readDream_42 : decode cX12_readDream 42 = .ok (.iconst 2, 1) := by decide +kernel
theorem dX12_readDream_43 : decode cX12_readDream 43 = .ok (.if_icmp .eq 8, 3) := by decide +kernel
theorem dX12_readDream_46 : decode cX12_readDream 46 = .ok (.aload_n 0, 1) := by decide +kernel
theorem dX12_readDream_47 : decode cX12_readDream 47 = .ok (.iconst 3, 1) := by decide +kernel
theorem dX12_readDream_48 : decode cX12_readDream 48 = .ok (.invokevirtual 145, 3) := by decide +kernel
theorem dX12_readDream_51 : decode cX12_readDream 51 = .ok (.iload_n 1, 1) := by decide +kernel
theorem dX12_readDream_52 : decode cX12_readDream 52 = .ok (.iconst (-1), 1) := by decide +kernel
theorem dX12_readDream_53 : decode cX12_readDream 53 = .ok (.if_icmp .ne 19, 3) := by decide +kernel
theorem dX12_readDream_56 : decode cX12_readDream 56 = .ok (.aload_n 0, 1) := by decide +kernel
theorem dX12_readDream_57 : decode cX12_readDream 57 = .ok (.getfield 202, 3) := by decide +kernel
theorem dX12_readDream_60 : decode cX12_readDream 60 = .ok (.getfield 325, 3) := by decide +kernel
theorem dX12_readDream_63 : decode cX12_readDream 63 = .ok (.iconst 4, 1) := by decide +kernel
theorem dX12_readDream_64 : decode cX12_readDream 64 = .ok (.if_icmp .ne 8, 3) := by decide +kernel
theorem dX12_readDream_67 : decode cX12_readDream 67 = .ok (.aload_n 0, 1) := by decide +kernel
theorem dX12_readDream_68 : decode cX12_readDream 68 = .ok (.iconst 5, 1) := by decide +kernel
theorem dX12_readDream_69 : decode cX12_readDream 69 = .ok (.invokevirtual 145, 3) := by decide +kernel
theorem dX12_readDream_72 : decode cX12_readDream 72 = .ok (.iload_n 1, 1) := by decide +kernel
theorem dX12_readDream_73 : decode cX12_readDream 73 = .ok (.iconst (-1), 1) := by decide +kernel
theorem dX12_readDream_74 : decode cX12_readDream 74 = .ok (.if_icmp .ne 13, 3) := by decide +kernel
theorem dX12_readDream_77 : decode cX12_readDream 77 = .ok (.aload_n 0, 1) := by decide +kernel
theorem dX12_readDream_78 : decode cX12_readDream 78 = .ok (.getfield 202, 3) := by decide +kernel
theorem dX12_readDream_81 : decode cX12_readDream 81 = .ok (.getfield 325, 3) := by decide +kernel
theorem dX12_readDream_84 : decode cX12_readDream 84 = .ok (.goto 12, 3) := by decide +kernel
theorem dX12_readDream_87 : decode cX12_readDream 87 = .ok (.aload_n 0, 1) := by decide +kernel
theorem dX12_readDream_88 : decode cX12_readDream 88 = .ok (.getfield 202, 3) := by decide +kernel
theorem dX12_readDream_91 : decode cX12_readDream 91 = .ok (.getfield 217, 3) := by decide +kernel
theorem dX12_readDream_94 : decode cX12_readDream 94 = .ok (.iload_n 1, 1) := by decide +kernel
theorem dX12_readDream_95 : decode cX12_readDream 95 = .ok (.iaload, 1) := by decide +kernel
theorem dX12_readDream_96 : decode cX12_readDream 96 = .ok (.istore_n 2, 1) := by decide +kernel
theorem dX12_readDream_97 : decode cX12_readDream 97 = .ok (.iload_n 1, 1) := by decide +kernel
theorem dX12_readDream_98 : decode cX12_readDream 98 = .ok (.iconst (-1), 1) := by decide +kernel
theorem dX12_readDream_99 : decode cX12_readDream 99 = .ok (.if_icmp .ne 30, 3) := by decide +kernel
theorem dX12_readDream_102 : decode cX12_readDream 102 = .ok (.aload_n 0, 1) := by decide +kernel
theorem dX12_readDream_103 : decode cX12_readDream 103 = .ok (.getfield 99, 3) := by decide +kernel
theorem dX12_readDream_106 : decode cX12_readDream 106 = .ok (.iconst 5, 1) := by decide +kernel
theorem dX12_readDream_107 : decode cX12_readDream 107 = .ok (.if_icmp .eq 22, 3) := by decide +kernel
theorem dX12_readDream_110 : decode cX12_readDream 110 = .ok (.aload_n 0, 1) := by decide +kernel
theorem dX12_readDream_111 : decode cX12_readDream 111 = .ok (.iconst 2, 1) := by decide +kernel
theorem dX12_readDream_112 : decode cX12_readDream 112 = .ok (.iload_n 2, 1) := by decide +kernel
theorem dX12_readDream_113 : decode cX12_readDream 113 = .ok (.invokevirtual 228, 3) := by decide +kernel
theorem dX12_readDream_116 : decode cX12_readDream 116 = .ok (.aload_n 0, 1) := by decide +kernel
theorem dX12_readDream_117 : decode cX12_readDream 117 = .ok (.getfield 202, 3) := by decide +kernel
theorem dX12_readDream_120 : decode cX12_readDream 120 = .ok (.dup, 1) := by decide +kernel
theorem dX12_readDream_121 : decode cX12_readDream 121 = .ok (.getfield 325, 3) := by decide +kernel
theorem dX12_readDream_124 : decode cX12_readDream 124 = .ok (.iconst 1, 1) := by decide +kernel
theorem dX12_readDream_125 : decode cX12_readDream 125 = .ok (.iadd, 1) := by decide +kernel
theorem dX12_readDream_126 : decode cX12_readDream 126 = .ok (.putfield 325, 3) := by decide +kernel
theorem dX12_readDream_129 : decode cX12_readDream 129 = .ok (.aload_n 0, 1) := by decide +kernel
theorem dX12_readDream_130 : decode cX12_readDream 130 = .ok (.invokevirtual 142, 3) := by decide +kernel
theorem dX12_readDream_133 : decode cX12_readDream 133 = .ok (.aload_n 0, 1) := by decide +kernel
theorem dX12_readDream_134 : decode cX12_readDream 134 = .ok (.iconst 0, 1) := by decide +kernel
theorem dX12_readDream_135 : decode cX12_readDream 135 = .ok (.iconst 3, 1) := by decide +kernel
theorem dX12_readDream_136 : decode cX12_readDream 136 = .ok (.invokevirtual 153, 3) := by decide +kernel
theorem dX12_readDream_139 : decode cX12_readDream 139 = .ok (.istore_n 3, 1) := by decide +kernel
theorem dX12_readDream_140 : decode cX12_readDream 140 = .ok (.aload_n 0, 1) := by decide +kernel
theorem dX12_readDream_141 : decode cX12_readDream 141 = .ok (.getfield 99, 3) := by decide +kernel
theorem dX12_readDream_144 : decode cX12_readDream 144 = .ok (.iconst 5, 1) := by decide +kernel
theorem dX12_readDream_145 : decode cX12_readDream 145 = .ok (.if_icmp .ne 7, 3) := by decide +kernel
theorem dX12_readDream_148 : decode cX12_readDream 148 = .ok (.iconst 0, 1) := by decide +kernel
theorem dX12_readDream_149 : decode cX12_readDream 149 = .ok (.goto 8, 3) := by decide +kernel
theorem dX12_readDream_152 : decode cX12_readDream 152 = .ok (.iconst 4, 1) := by decide +kernel
theorem dX12_readDream_153 : decode cX12_readDream 153 = .ok (.iload_n 2, 1) := by decide +kernel
theorem dX12_readDream_154 : decode cX12_readDream 154 = .ok (.imul, 1) := by decide +kernel
theorem dX12_readDream_155 : decode cX12_readDream 155 = .ok (.iload_n 3, 1) := by decide +kernel
theorem dX12_readDream_156 : decode cX12_readDream 156 = .ok (.iadd, 1) := by decide +kernel
theorem dX12_readDream_157 : decode cX12_readDream 157 = .ok (.istore 4, 2) := by decide +kernel
theorem dX12_readDream_159 : decode cX12_readDream 159 = .ok (.aload_n 0, 1) := by decide +kernel
theorem dX12_readDream_160 : decode cX12_readDream 160 = .ok (.getfield 202, 3) := by decide +kernel
theorem dX12_readDream_163 : decode cX12_readDream 163 = .ok (.getfield 328, 3) := by decide +kernel
theorem dX12_readDream_166 : decode cX12_readDream 166 = .ok (.iload 4, 2) := by decide +kernel
theorem dX12_readDream_168 : decode cX12_readDream 168 = .ok (.baload, 1) := by decide +kernel
theorem dX12_readDream_169 : decode cX12_readDream 169 = .ok (.ifCond .eq 8, 3) := by decide +kernel
theorem dX12_readDream_172 : decode cX12_readDream 172 = .ok (.aload_n 0, 1) := by decide +kernel
theorem dX12_readDream_173 : decode cX12_readDream 173 = .ok (.iconst 3, 1) := by decide +kernel
theorem dX12_readDream_174 : decode cX12_readDream 174 = .ok (.invokevirtual 145, 3) := by decide +kernel
theorem dX12_readDream_177 : decode cX12_readDream 177 = .ok (.aload_n 0, 1) := by decide +kernel
theorem dX12_readDream_178 : decode cX12_readDream 178 = .ok (.invokevirtual 142, 3) := by decide +kernel
theorem dX12_readDream_181 : decode cX12_readDream 181 = .ok (.aload_n 0, 1) := by decide +kernel
theorem dX12_readDream_182 : decode cX12_readDream 182 = .ok (.ldc 192, 2) := by decide +kernel
theorem dX12_readDream_184 : decode cX12_readDream 184 = .ok (.invokevirtual 284, 3) := by decide +kernel
theorem dX12_readDream_187 : decode cX12_readDream 187 = .ok (.ifCond .eq 7, 3) := by decide +kernel
theorem dX12_readDream_190 : decode cX12_readDream 190 = .ok (.iconst 0, 1) := by decide +kernel
theorem dX12_readDream_191 : decode cX12_readDream 191 = .ok (.goto 69, 3) := by decide +kernel
theorem dX12_readDream_194 : decode cX12_readDream 194 = .ok (.aload_n 0, 1) := by decide +kernel
theorem dX12_readDream_195 : decode cX12_readDream 195 = .ok (.ldc 194, 2) := by decide +kernel
theorem dX12_readDream_197 : decode cX12_readDream 197 = .ok (.invokevirtual 284, 3) := by decide +kernel
theorem dX12_readDream_200 : decode cX12_readDream 200 = .ok (.ifCond .eq 7, 3) := by decide +kernel
theorem dX12_readDream_203 : decode cX12_readDream 203 = .ok (.iconst 1, 1) := by decide +kernel
theorem dX12_readDream_204 : decode cX12_readDream 204 = .ok (.goto 56, 3) := by decide +kernel
theorem dX12_readDream_207 : decode cX12_readDream 207 = .ok (.aload_n 0, 1) := by decide +kernel
theorem dX12_readDream_208 : decode cX12_readDream 208 = .ok (.ldc 196, 2) := by decide +kernel
theorem dX12_readDream_210 : decode cX12_readDream 210 = .ok (.invokevirtual 284, 3) := by decide +kernel
theorem dX12_readDream_213 : decode cX12_readDream 213 = .ok (.ifCond .eq 7, 3) := by decide +kernel
theorem dX12_readDream_216 : decode cX12_readDream 216 = .ok (.iconst 2, 1) := by decide +kernel
theorem dX12_readDream_217 : decode cX12_readDream 217 = .ok (.goto 43, 3) := by decide +kernel
theorem dX12_readDream_220 : decode cX12_readDream 220 = .ok (.aload_n 0, 1) := by decide +kernel
theorem dX12_readDream_221 : decode cX12_readDream 221 = .ok (.ldc 198, 2) := by decide +kernel
theorem dX12_readDream_223 : decode cX12_readDream 223 = .ok (.invokevirtual 284, 3) := by decide +kernel
theorem dX12_readDream_226 : decode cX12_readDream 226 = .ok (.ifCond .eq 7, 3) := by decide +kernel
theorem dX12_readDream_229 : decode cX12_readDream 229 = .ok (.iconst 3, 1) := by decide +kernel
theorem dX12_readDream_230 : decode cX12_readDream 230 = .ok (.goto 30, 3) := by decide +kernel
theorem dX12_readDream_233 : decode cX12_readDream 233 = .ok (.aload_n 0, 1) := by decide +kernel
theorem dX12_readDream_234 : decode cX12_readDream 234 = .ok (.ldc 200, 2) := by decide +kernel
theorem dX12_readDream_236 : decode cX12_readDream 236 = .ok (.invokevirtual 284, 3) := by decide +kernel
theorem dX12_readDream_239 : decode cX12_readDream 239 = .ok (.ifCond .eq 7, 3) := by decide +kernel
theorem dX12_readDream_242 : decode cX12_readDream 242 = .ok (.iconst 4, 1) := by decide +kernel
theorem dX12_readDream_243 : decode cX12_readDream 243 = .ok (.goto 17, 3) := by decide +kernel
theorem dX12_readDream_246 : decode cX12_readDream 246 = .ok (.aload_n 0, 1) := by decide +kernel
theorem dX12_readDream_247 : decode cX12_readDream 247 = .ok (.ldc 180, 2) := by decide +kernel
theorem dX12_readDream_249 : decode cX12_readDream 249 = .ok (.invokevirtual 284, 3) := by decide +kernel
theorem dX12_readDream_252 : decode cX12_readDream 252 = .ok (.ifCond .eq 7, 3) := by decide +kernel
theorem dX12_readDream_255 : decode cX12_readDream 255 = .ok (.iconst 5, 1) := by decide +kernel
theorem dX12_readDream_256 : decode cX12_readDream 256 = .ok (.goto 4, 3) := by decide +kernel
theorem dX12_readDream_259 : decode cX12_readDream 259 = .ok (.iconst (-1), 1) := by decide +kernel
theorem dX12_readDream_260 : decode cX12_readDream 260 = .ok (.istore 5, 2) := by decide +kernel
theorem dX12_readDream_262 : decode cX12_readDream 262 = .ok (.iload 5, 2) := by decide +kernel
theorem dX12_readDream_264 : decode cX12_readDream 264 = .ok (.iconst (-1), 1) := by decide +kernel
theorem dX12_readDream_265 : decode cX12_readDream 265 = .ok (.if_icmp .ne 8, 3) := by decide +kernel
theorem dX12_readDream_268 : decode cX12_readDream 268 = .ok (.aload_n 0, 1) := by decide +kernel
theorem dX12_readDream_269 : decode cX12_readDream 269 = .ok (.iconst 1, 1) := by decide +kernel
theorem dX12_readDream_270 : decode cX12_readDream 270 = .ok (.invokevirtual 145, 3) := by decide +kernel
theorem dX12_readDream_273 : decode cX12_readDream 273 = .ok (.iload 5, 2) := by decide +kernel
theorem dX12_readDream_275 : decode cX12_readDream 275 = .ok (.ifCond .eq 9, 3) := by decide +kernel
theorem dX12_readDream_278 : decode cX12_readDream 278 = .ok (.iload 5, 2) := by decide +kernel
theorem dX12_readDream_280 : decode cX12_readDream 280 = .ok (.iconst 5, 1) := by decide +kernel
theorem dX12_readDream_281 : decode cX12_readDream 281 = .ok (.if_icmp .ne 11, 3) := by decide +kernel
theorem dX12_readDream_284 : decode cX12_readDream 284 = .ok (.aload_n 0, 1) := by decide +kernel
theorem dX12_readDream_285 : decode cX12_readDream 285 = .ok (.iconst 0, 1) := by decide +kernel
theorem dX12_readDream_286 : decode cX12_readDream 286 = .ok (.invokevirtual 295, 3) := by decide +kernel
theorem dX12_readDream_289 : decode cX12_readDream 289 = .ok (.goto 25, 3) := by decide +kernel
theorem dX12_readDream_292 : decode cX12_readDream 292 = .ok (.iload 5, 2) := by decide +kernel
theorem dX12_readDream_294 : decode cX12_readDream 294 = .ok (.iconst 1, 1) := by decide +kernel
theorem dX12_readDream_295 : decode cX12_readDream 295 = .ok (.if_icmp .eq 9, 3) := by decide +kernel
theorem dX12_readDream_298 : decode cX12_readDream 298 = .ok (.iload 5, 2) := by decide +kernel
theorem dX12_readDream_300 : decode cX12_readDream 300 = .ok (.iconst 3, 1) := by decide +kernel
theorem dX12_readDream_301 : decode cX12_readDream 301 = .ok (.if_icmp .ne 11, 3) := by decide +kernel
theorem dX12_readDream_304 : decode cX12_readDream 304 = .ok (.aload_n 0, 1) := by decide +kernel
theorem dX12_readDream_305 : decode cX12_readDream 305 = .ok (.iconst 1, 1) := by decide +kernel
theorem dX12_readDream_306 : decode cX12_readDream 306 = .ok (.invokevirtual 295, 3) := by decide +kernel
theorem dX12_readDream_309 : decode cX12_readDream 309 = .ok (.goto 5, 3) := by decide +kernel
theorem dX12_readDream_312 : decode cX12_readDream 312 = .ok (.bipush (-2), 2) := by decide +kernel
theorem dX12_readDream_314 : decode cX12_readDream 314 = .ok (.istore 6, 2) := by decide +kernel
theorem dX12_readDream_316 : decode cX12_readDream 316 = .ok (.aload_n 0, 1) := by decide +kernel
theorem dX12_readDream_317 : decode cX12_readDream 317 = .ok (.ldc 188, 2) := by decide +kernel
theorem dX12_readDream_319 : decode cX12_readDream 319 = .ok (.iconst 0, 1) := by decide +kernel
theorem dX12_readDream_320 : decode cX12_readDream 320 = .ok (.iconst 3, 1) := by decide +kernel
theorem dX12_readDream_321 : decode cX12_readDream 321 = .ok (.invokevirtual 272, 3) := by decide +kernel
theorem dX12_readDream_324 : decode cX12_readDream 324 = .ok (.istore 7, 2) := by decide +kernel
theorem dX12_readDream_326 : decode cX12_readDream 326 = .ok (.aload_n 0, 1) := by decide +kernel
theorem dX12_readDream_327 : decode cX12_readDream 327 = .ok (.ldc 190, 2) := by decide +kernel
theorem dX12_readDream_329 : decode cX12_readDream 329 = .ok (.invokevirtual 284, 3) := by decide +kernel
theorem dX12_readDream_332 : decode cX12_readDream 332 = .ok (.ifCond .eq 12, 3) := by decide +kernel
theorem dX12_readDream_335 : decode cX12_readDream 335 = .ok (.aload_n 0, 1) := by decide +kernel
theorem dX12_readDream_336 : decode cX12_readDream 336 = .ok (.iconst 0, 1) := by decide +kernel
theorem dX12_readDream_337 : decode cX12_readDream 337 = .ok (.iconst 3, 1) := by decide +kernel
theorem dX12_readDream_338 : decode cX12_readDream 338 = .ok (.invokevirtual 161, 3) := by decide +kernel
theorem dX12_readDream_341 : decode cX12_readDream 341 = .ok (.goto 5, 3) := by decide +kernel
theorem dX12_readDream_344 : decode cX12_readDream 344 = .ok (.bipush (-2), 2) := by decide +kernel
theorem dX12_readDream_346 : decode cX12_readDream 346 = .ok (.istore 8, 2) := by decide +kernel
theorem dX12_readDream_348 : decode cX12_readDream 348 = .ok (.aload_n 0, 1) := by decide +kernel
theorem dX12_readDream_349 : decode cX12_readDream 349 = .ok (.getfield 99, 3) := by decide +kernel
theorem dX12_readDream_352 : decode cX12_readDream 352 = .ok (.iconst 5, 1) := by decide +kernel
theorem dX12_readDream_353 : decode cX12_readDream 353 = .ok (.if_icmp .ne 4, 3) := by decide +kernel
theorem dX12_readDream_356 : decode cX12_readDream 356 = .ok (.return_, 1) := by decide +kernel
theorem dX12_readDream_357 : decode cX12_readDream 357 = .ok (.aload_n 0, 1) := by decide +kernel
theorem dX12_readDream_358 : decode cX12_readDream 358 = .ok (.getfield 202, 3) := by decide +kernel
theorem dX12_readDream_361 : decode cX12_readDream 361 = .ok (.getfield 328, 3) := by decide +kernel
theorem dX12_readDream_364 : decode cX12_readDream 364 = .ok (.iload 4, 2) := by decide +kernel
theorem dX12_readDream_366 : decode cX12_readDream 366 = .ok (.iconst 1, 1) := by decide +kernel
theorem dX12_readDream_367 : decode cX12_readDream 367 = .ok (.bastore, 1) := by decide +kernel
theorem dX12_readDream_368 : decode cX12_readDream 368 = .ok (.aload_n 0, 1) := by decide +kernel
theorem dX12_readDream_369 : decode cX12_readDream 369 = .ok (.getfield 202, 3) := by decide +kernel
theorem dX12_readDream_372 : decode cX12_readDream 372 = .ok (.getfield 331, 3) := by decide +kernel
theorem dX12_readDream_375 : decode cX12_readDream 375 = .ok (.iload 4, 2) := by decide +kernel
theorem dX12_readDream_377 : decode cX12_readDream 377 = .ok (.iload 5, 2) := by decide +kernel
theorem dX12_readDream_379 : decode cX12_readDream 379 = .ok (.iastore, 1) := by decide +kernel
theorem dX12_readDream_380 : decode cX12_readDream 380 = .ok (.aload_n 0, 1) := by decide +kernel
theorem dX12_readDream_381 : decode cX12_readDream 381 = .ok (.getfield 202, 3) := by decide +kernel
theorem dX12_readDream_384 : decode cX12_readDream 384 = .ok (.getfield 334, 3) := by decide +kernel
theorem dX12_readDream_387 : decode cX12_readDream 387 = .ok (.iload 4, 2) := by decide +kernel
theorem dX12_readDream_389 : decode cX12_readDream 389 = .ok (.iload 6, 2) := by decide +kernel
theorem dX12_readDream_391 : decode cX12_readDream 391 = .ok (.iastore, 1) := by decide +kernel
theorem dX12_readDream_392 : decode cX12_readDream 392 = .ok (.aload_n 0, 1) := by decide +kernel
theorem dX12_readDream_393 : decode cX12_readDream 393 = .ok (.getfield 202, 3) := by decide +kernel
theorem dX12_readDream_396 : decode cX12_readDream 396 = .ok (.getfield 335, 3) := by decide +kernel
theorem dX12_readDream_399 : decode cX12_readDream 399 = .ok (.iload 4, 2) := by decide +kernel
theorem dX12_readDream_401 : decode cX12_readDream 401 = .ok (.iload 7, 2) := by decide +kernel
theorem dX12_readDream_403 : decode cX12_readDream 403 = .ok (.iastore, 1) := by decide +kernel
theorem dX12_readDream_404 : decode cX12_readDream 404 = .ok (.aload_n 0, 1) := by decide +kernel
theorem dX12_readDream_405 : decode cX12_readDream 405 = .ok (.getfield 202, 3) := by decide +kernel
theorem dX12_readDream_408 : decode cX12_readDream 408 = .ok (.getfield 337, 3) := by decide +kernel
theorem dX12_readDream_411 : decode cX12_readDream 411 = .ok (.iload 4, 2) := by decide +kernel
theorem dX12_readDream_413 : decode cX12_readDream 413 = .ok (.iload 8, 2) := by decide +kernel
theorem dX12_readDream_415 : decode cX12_readDream 415 = .ok (.iastore, 1) := by decide +kernel
theorem dX12_readDream_416 : decode cX12_readDream 416 = .ok (.return_, 1) := by decide +kernel
theorem dX12_readSleeper_0 : decode cX12_readSleeper 0 = .ok (.aload_n 0, 1) := by decide +kernel
theorem dX12_readSleeper_1 : decode cX12_readSleeper 1 = .ok (.aload_n 0, 1) := by decide +kernel
theorem dX12_readSleeper_2 : decode cX12_readSleeper 2 = .ok (.getfield 202, 3) := by decide +kernel
theorem dX12_readSleeper_5 : decode cX12_readSleeper 5 = .ok (.getfield 247, 3) := by decide +kernel
theorem dX12_readSleeper_8 : decode cX12_readSleeper 8 = .ok (.iconst 3, 1) := by decide +kernel
theorem dX12_readSleeper_9 : decode cX12_readSleeper 9 = .ok (.invokevirtual 276, 3) := by decide +kernel
theorem dX12_readSleeper_12 : decode cX12_readSleeper 12 = .ok (.aload_n 0, 1) := by decide +kernel
theorem dX12_readSleeper_13 : decode cX12_readSleeper 13 = .ok (.iconst 3, 1) := by decide +kernel
theorem dX12_readSleeper_14 : decode cX12_readSleeper 14 = .ok (.aload_n 0, 1) := by decide +kernel
theorem dX12_readSleeper_15 : decode cX12_readSleeper 15 = .ok (.getfield 202, 3) := by decide +kernel
theorem dX12_readSleeper_18 : decode cX12_readSleeper 18 = .ok (.getfield 247, 3) := by decide +kernel
theorem dX12_readSleeper_21 : decode cX12_readSleeper 21 = .ok (.invokevirtual 279, 3) := by decide +kernel
theorem dX12_readSleeper_24 : decode cX12_readSleeper 24 = .ok (.aload_n 0, 1) := by decide +kernel
theorem dX12_readSleeper_25 : decode cX12_readSleeper 25 = .ok (.ldc_w 339, 3) := by decide +kernel
theorem dX12_readSleeper_28 : decode cX12_readSleeper 28 = .ok (.invokevirtual 157, 3) := by decide +kernel
theorem dX12_readSleeper_31 : decode cX12_readSleeper 31 = .ok (.aload_n 0, 1) := by decide +kernel
theorem dX12_readSleeper_32 : decode cX12_readSleeper 32 = .ok (.iconst 0, 1) := by decide +kernel
theorem dX12_readSleeper_33 : decode cX12_readSleeper 33 = .ok (.invokevirtual 295, 3) := by decide +kernel
theorem dX12_readSleeper_36 : decode cX12_readSleeper 36 = .ok (.istore_n 1, 1) := by decide +kernel
theorem dX12_readSleeper_37 : decode cX12_readSleeper 37 = .ok (.aload_n 0, 1) := by decide +kernel
theorem dX12_readSleeper_38 : decode cX12_readSleeper 38 = .ok (.ldc_w 341, 3) := by decide +kernel
theorem dX12_readSleeper_41 : decode cX12_readSleeper 41 = .ok (.invokevirtual 157, 3) := by decide +kernel
theorem dX12_readSleeper_44 : decode cX12_readSleeper 44 = .ok (.aload_n 0, 1) := by decide +kernel
theorem dX12_readSleeper_45 : decode cX12_readSleeper 45 = .ok (.iconst 2, 1) := by decide +kernel
theorem dX12_readSleeper_46 : decode cX12_readSleeper 46 = .ok (.invokevirtual 295, 3) := by decide +kernel
theorem dX12_readSleeper_49 : decode cX12_readSleeper 49 = .ok (.istore_n 2, 1) := by decide +kernel
theorem dX12_readSleeper_50 : decode cX12_readSleeper 50 = .ok (.aload_n 0, 1) := by decide +kernel
theorem dX12_readSleeper_51 : decode cX12_readSleeper 51 = .ok (.getfield 99, 3) := by decide +kernel
theorem dX12_readSleeper_54 : decode cX12_readSleeper 54 = .ok (.iconst 5, 1) := by decide +kernel
theorem dX12_readSleeper_55 : decode cX12_readSleeper 55 = .ok (.if_icmp .ne 4, 3) := by decide +kernel
theorem dX12_readSleeper_58 : decode cX12_readSleeper 58 = .ok (.return_, 1) := by decide +kernel
theorem dX12_readSleeper_59 : decode cX12_readSleeper 59 = .ok (.aload_n 0, 1) := by decide +kernel
theorem dX12_readSleeper_60 : decode cX12_readSleeper 60 = .ok (.getfield 202, 3) := by decide +kernel
theorem dX12_readSleeper_63 : decode cX12_readSleeper 63 = .ok (.getfield 342, 3) := by decide +kernel
theorem dX12_readSleeper_66 : decode cX12_readSleeper 66 = .ok (.aload_n 0, 1) := by decide +kernel
theorem dX12_readSleeper_67 : decode cX12_readSleeper 67 = .ok (.getfield 202, 3) := by decide +kernel
theorem dX12_readSleeper_70 : decode cX12_readSleeper 70 = .ok (.getfield 247, 3) := by decide +kernel
theorem dX12_readSleeper_73 : decode cX12_readSleeper 73 = .ok (.iload_n 1, 1) := by decide +kernel
theorem dX12_readSleeper_74 : decode cX12_readSleeper 74 = .ok (.iastore, 1) := by decide +kernel
theorem dX12_readSleeper_75 : decode cX12_readSleeper 75 = .ok (.aload_n 0, 1) := by decide +kernel
theorem dX12_readSleeper_76 : decode cX12_readSleeper 76 = .ok (.getfield 202, 3) := by decide +kernel
theorem dX12_readSleeper_79 : decode cX12_readSleeper 79 = .ok (.getfield 344, 3) := by decide +kernel
theorem dX12_readSleeper_82 : decode cX12_readSleeper 82 = .ok (.aload_n 0, 1) := by decide +kernel
theorem dX12_readSleeper_83 : decode cX12_readSleeper 83 = .ok (.getfield 202, 3) := by decide +kernel
theorem dX12_readSleeper_86 : decode cX12_readSleeper 86 = .ok (.getfield 247, 3) := by decide +kernel
theorem dX12_readSleeper_89 : decode cX12_readSleeper 89 = .ok (.iload_n 2, 1) := by decide +kernel
theorem dX12_readSleeper_90 : decode cX12_readSleeper 90 = .ok (.iastore, 1) := by decide +kernel
theorem dX12_readSleeper_91 : decode cX12_readSleeper 91 = .ok (.aload_n 0, 1) := by decide +kernel
theorem dX12_readSleeper_92 : decode cX12_readSleeper 92 = .ok (.getfield 202, 3) := by decide +kernel
theorem dX12_readSleeper_95 : decode cX12_readSleeper 95 = .ok (.dup, 1) := by decide +kernel
theorem dX12_readSleeper_96 : decode cX12_readSleeper 96 = .ok (.getfield 247, 3) := by decide +kernel
theorem dX12_readSleeper_99 : decode cX12_readSleeper 99 = .ok (.iconst 1, 1) := by decide +kernel
theorem dX12_readSleeper_100 : decode cX12_readSleeper 100 = .ok (.iadd, 1) := by decide +kernel
theorem dX12_readSleeper_101 : decode cX12_readSleeper 101 = .ok (.putfield 247, 3) := by decide +kernel
theorem dX12_readSleeper_104 : decode cX12_readSleeper 104 = .ok (.return_, 1) := by decide +kernel
theorem dX12_readListens_0 : decode cX12_readListens 0 = .ok (.aload_n 0, 1) := by decide +kernel
theorem dX12_readListens_1 : decode cX12_readListens 1 = .ok (.aload_n 0, 1) := by decide +kernel
theorem dX12_readListens_2 : decode cX12_readListens 2 = .ok (.getfield 202, 3) := by decide +kernel
theorem dX12_readListens_5 : decode cX12_readListens 5 = .ok (.getfield 346, 3) := by decide +kernel
theorem dX12_readListens_8 : decode cX12_readListens 8 = .ok (.iconst 3, 1) := by decide +kernel
theorem dX12_readListens_9 : decode cX12_readListens 9 = .ok (.invokevirtual 276, 3) := by decide +kernel
theorem dX12_readListens_12 : decode cX12_readListens 12 = .ok (.aload_n 0, 1) := by decide +kernel
theorem dX12_readListens_13 : decode cX12_readListens 13 = .ok (.iconst 0, 1) := by decide +kernel
theorem dX12_readListens_14 : decode cX12_readListens 14 = .ok (.invokevirtual 232, 3) := by decide +kernel
theorem dX12_readListens_17 : decode cX12_readListens 17 = .ok (.istore_n 1, 1) := by decide +kernel
theorem dX12_readListens_18 : decode cX12_readListens 18 = .ok (.iconst 0, 1) := by decide +kernel
theorem dX12_readListens_19 : decode cX12_readListens 19 = .ok (.istore_n 2, 1) := by decide +kernel
theorem dX12_readListens_20 : decode cX12_readListens 20 = .ok (.iload_n 2, 1) := by decide +kernel
theorem dX12_readListens_21 : decode cX12_readListens 21 = .ok (.aload_n 0, 1) := by decide +kernel
theorem dX12_readListens_22 : decode cX12_readListens 22 = .ok (.getfield 202, 3) := by decide +kernel
theorem dX12_readListens_25 : decode cX12_readListens 25 = .ok (.getfield 346, 3) := by decide +kernel
theorem dX12_readListens_28 : decode cX12_readListens 28 = .ok (.if_icmp .ge 35, 3) := by decide +kernel
theorem dX12_readListens_31 : decode cX12_readListens 31 = .ok (.aload_n 0, 1) := by decide +kernel
theorem dX12_readListens_32 : decode cX12_readListens 32 = .ok (.getfield 99, 3) := by decide +kernel
theorem dX12_readListens_35 : decode cX12_readListens 35 = .ok (.iconst 5, 1) := by decide +kernel
theorem dX12_readListens_36 : decode cX12_readListens 36 = .ok (.if_icmp .eq 21, 3) := by decide +kernel
theorem dX12_readListens_39 : decode cX12_readListens 39 = .ok (.aload_n 0, 1) := by decide +kernel
theorem dX12_readListens_40 : decode cX12_readListens 40 = .ok (.getfield 202, 3) := by decide +kernel
theorem dX12_readListens_43 : decode cX12_readListens 43 = .ok (.getfield 349, 3) := by decide +kernel
theorem dX12_readListens_46 : decode cX12_readListens 46 = .ok (.iload_n 2, 1) := by decide +kernel
theorem dX12_readListens_47 : decode cX12_readListens 47 = .ok (.iaload, 1) := by decide +kernel
theorem dX12_readListens_48 : decode cX12_readListens 48 = .ok (.iload_n 1, 1) := by decide +kernel
theorem dX12_readListens_49 : decode cX12_readListens 49 = .ok (.if_icmp .ne 8, 3) := by decide +kernel
theorem dX12_readListens_52 : decode cX12_readListens 52 = .ok (.aload_n 0, 1) := by decide +kernel
theorem dX12_readListens_53 : decode cX12_readListens 53 = .ok (.iconst 3, 1) := by decide +kernel
theorem dX12_readListens_54 : decode cX12_readListens 54 = .ok (.invokevirtual 145, 3) := by decide +kernel
theorem dX12_readListens_57 : decode cX12_readListens 57 = .ok (.iinc 2 1, 3) := by decide +kernel
theorem dX12_readListens_60 : decode cX12_readListens 60 = .ok (.goto (-40), 3) := by decide +kernel
theorem dX12_readListens_63 : decode cX12_readListens 63 = .ok (.aload_n 0, 1) := by decide +kernel
theorem dX12_readListens_64 : decode cX12_readListens 64 = .ok (.invokevirtual 142, 3) := by decide +kernel
theorem dX12_readListens_67 : decode cX12_readListens 67 = .ok (.aload_n 0, 1) := by decide +kernel
theorem dX12_readListens_68 : decode cX12_readListens 68 = .ok (.getfield 99, 3) := by decide +kernel
theorem dX12_readListens_71 : decode cX12_readListens 71 = .ok (.iconst 5, 1) := by decide +kernel
theorem dX12_readListens_72 : decode cX12_readListens 72 = .ok (.if_icmp .ne 4, 3) := by decide +kernel
theorem dX12_readListens_75 : decode cX12_readListens 75 = .ok (.return_, 1) := by decide +kernel
theorem dX12_readListens_76 : decode cX12_readListens 76 = .ok (.aload_n 0, 1) := by decide +kernel
theorem dX12_readListens_77 : decode cX12_readListens 77 = .ok (.getfield 202, 3) := by decide +kernel
theorem dX12_readListens_80 : decode cX12_readListens 80 = .ok (.getfield 349, 3) := by decide +kernel
theorem dX12_readListens_83 : decode cX12_readListens 83 = .ok (.aload_n 0, 1) := by decide +kernel
theorem dX12_readListens_84 : decode cX12_readListens 84 = .ok (.getfield 202, 3) := by decide +kernel
theorem dX12_readListens_87 : decode cX12_readListens 87 = .ok (.getfield 346, 3) := by decide +kernel
theorem dX12_readListens_90 : decode cX12_readListens 90 = .ok (.iload_n 1, 1) := by decide +kernel
theorem dX12_readListens_91 : decode cX12_readListens 91 = .ok (.iastore, 1) := by decide +kernel
theorem dX12_readListens_92 : decode cX12_readListens 92 = .ok (.aload_n 0, 1) := by decide +kernel
theorem dX12_readListens_93 : decode cX12_readListens 93 = .ok (.getfield 202, 3) := by decide +kernel
theorem dX12_readListens_96 : decode cX12_readListens 96 = .ok (.dup, 1) := by decide +kernel
theorem dX12_readListens_97 : decode cX12_readListens 97 = .ok (.getfield 346, 3) := by decide +kernel
theorem dX12_readListens_100 : decode cX12_readListens 100 = .ok (.iconst 1, 1) := by decide +kernel
theorem dX12_readListens_101 : decode cX12_readListens 101 = .ok (.iadd, 1) := by decide +kernel
theorem dX12_readListens_102 : decode cX12_readListens 102 = .ok (.putfield 346, 3) := by decide +kernel
theorem dX12_readListens_105 : decode cX12_readListens 105 = .ok (.return_, 1) := by decide +kernel
theorem dX12_readLine_0 : decode cX12_readLine 0 = .ok (.aload_n 0, 1) := by decide +kernel
theorem dX12_readLine_1 : decode cX12_readLine 1 = .ok (.ldc 164, 2) := by decide +kernel
theorem dX12_readLine_3 : decode cX12_readLine 3 = .ok (.invokevirtual 138, 3) := by decide +kernel
theorem dX12_readLine_6 : decode cX12_readLine 6 = .ok (.ifCond .eq 10, 3) := by decide +kernel
theorem dX12_readLine_9 : decode cX12_readLine 9 = .ok (.aload_n 0, 1) := by decide +kernel
theorem dX12_readLine_10 : decode cX12_readLine 10 = .ok (.invokevirtual 250, 3) := by decide +kernel
theorem dX12_readLine_13 : decode cX12_readLine 13 = .ok (.goto 104, 3) := by decide +kernel
theorem dX12_readLine_16 : decode cX12_readLine 16 = .ok (.aload_n 0, 1) := by decide +kernel
theorem dX12_readLine_17 : decode cX12_readLine 17 = .ok (.ldc 166, 2) := by decide +kernel
theorem dX12_readLine_19 : decode cX12_readLine 19 = .ok (.invokevirtual 138, 3) := by decide +kernel
theorem dX12_readLine_22 : decode cX12_readLine 22 = .ok (.ifCond .eq 10, 3) := by decide +kernel
theorem dX12_readLine_25 : decode cX12_readLine 25 = .ok (.aload_n 0, 1) := by decide +kernel
theorem dX12_readLine_26 : decode cX12_readLine 26 = .ok (.invokevirtual 253, 3) := by decide +kernel
theorem dX12_readLine_29 : decode cX12_readLine 29 = .ok (.goto 88, 3) := by decide +kernel
theorem dX12_readLine_32 : decode cX12_readLine 32 = .ok (.aload_n 0, 1) := by decide +kernel
theorem dX12_readLine_33 : decode cX12_readLine 33 = .ok (.ldc 168, 2) := by decide +kernel
theorem dX12_readLine_35 : decode cX12_readLine 35 = .ok (.invokevirtual 138, 3) := by decide +kernel
theorem dX12_readLine_38 : decode cX12_readLine 38 = .ok (.ifCond .eq 10, 3) := by decide +kernel
theorem dX12_readLine_41 : decode cX12_readLine 41 = .ok (.aload_n 0, 1) := by decide +kernel
theorem dX12_readLine_42 : decode cX12_readLine 42 = .ok (.invokevirtual 256, 3) := by decide +kernel
theorem dX12_readLine_45 : decode cX12_readLine 45 = .ok (.goto 72, 3) := by decide +kernel
theorem dX12_readLine_48 : decode cX12_readLine 48 = .ok (.aload_n 0, 1) := by decide +kernel
theorem dX12_readLine_49 : decode cX12_readLine 49 = .ok (.ldc 170, 2) := by decide +kernel
theorem dX12_readLine_51 : decode cX12_readLine 51 = .ok (.invokevirtual 138, 3) := by decide +kernel
theorem dX12_readLine_54 : decode cX12_readLine 54 = .ok (.ifCond .eq 10, 3) := by decide +kernel
theorem dX12_readLine_57 : decode cX12_readLine 57 = .ok (.aload_n 0, 1) := by decide +kernel
theorem dX12_readLine_58 : decode cX12_readLine 58 = .ok (.invokevirtual 259, 3) := by decide +kernel
theorem dX12_readLine_61 : decode cX12_readLine 61 = .ok (.goto 56, 3) := by decide +kernel
theorem dX12_readLine_64 : decode cX12_readLine 64 = .ok (.aload_n 0, 1) := by decide +kernel
theorem dX12_readLine_65 : decode cX12_readLine 65 = .ok (.ldc 172, 2) := by decide +kernel
theorem dX12_readLine_67 : decode cX12_readLine 67 = .ok (.invokevirtual 138, 3) := by decide +kernel
theorem dX12_readLine_70 : decode cX12_readLine 70 = .ok (.ifCond .eq 10, 3) := by decide +kernel
theorem dX12_readLine_73 : decode cX12_readLine 73 = .ok (.aload_n 0, 1) := by decide +kernel
theorem dX12_readLine_74 : decode cX12_readLine 74 = .ok (.invokevirtual 262, 3) := by decide +kernel
theorem dX12_readLine_77 : decode cX12_readLine 77 = .ok (.goto 40, 3) := by decide +kernel
theorem dX12_readLine_80 : decode cX12_readLine 80 = .ok (.aload_n 0, 1) := by decide +kernel
theorem dX12_readLine_81 : decode cX12_readLine 81 = .ok (.ldc 174, 2) := by decide +kernel
theorem dX12_readLine_83 : decode cX12_readLine 83 = .ok (.invokevirtual 138, 3) := by decide +kernel
theorem dX12_readLine_86 : decode cX12_readLine 86 = .ok (.ifCond .eq 10, 3) := by decide +kernel
theorem dX12_readLine_89 : decode cX12_readLine 89 = .ok (.aload_n 0, 1) := by decide +kernel
theorem dX12_readLine_90 : decode cX12_readLine 90 = .ok (.invokevirtual 265, 3) := by decide +kernel
theorem dX12_readLine_93 : decode cX12_readLine 93 = .ok (.goto 24, 3) := by decide +kernel
theorem dX12_readLine_96 : decode cX12_readLine 96 = .ok (.aload_n 0, 1) := by decide +kernel
theorem dX12_readLine_97 : decode cX12_readLine 97 = .ok (.ldc 176, 2) := by decide +kernel
theorem dX12_readLine_99 : decode cX12_readLine 99 = .ok (.invokevirtual 138, 3) := by decide +kernel
theorem dX12_readLine_102 : decode cX12_readLine 102 = .ok (.ifCond .eq 10, 3) := by decide +kernel
theorem dX12_readLine_105 : decode cX12_readLine 105 = .ok (.aload_n 0, 1) := by decide +kernel
theorem dX12_readLine_106 : decode cX12_readLine 106 = .ok (.invokevirtual 268, 3) := by decide +kernel
theorem dX12_readLine_109 : decode cX12_readLine 109 = .ok (.goto 8, 3) := by decide +kernel
theorem dX12_readLine_112 : decode cX12_readLine 112 = .ok (.aload_n 0, 1) := by decide +kernel
theorem dX12_readLine_113 : decode cX12_readLine 113 = .ok (.iconst 1, 1) := by decide +kernel
theorem dX12_readLine_114 : decode cX12_readLine 114 = .ok (.invokevirtual 145, 3) := by decide +kernel
theorem dX12_readLine_117 : decode cX12_readLine 117 = .ok (.return_, 1) := by decide +kernel
theorem dX12_readInn_0 : decode cX12_readInn 0 = .ok (.iconst 1, 1) := by decide +kernel
theorem dX12_readInn_1 : decode cX12_readInn 1 = .ok (.istore_n 1, 1) := by decide +kernel
theorem dX12_readInn_2 : decode cX12_readInn 2 = .ok (.iload_n 1, 1) := by decide +kernel
theorem dX12_readInn_3 : decode cX12_readInn 3 = .ok (.ifCond .eq 17, 3) := by decide +kernel
theorem dX12_readInn_6 : decode cX12_readInn 6 = .ok (.aload_n 0, 1) := by decide +kernel
theorem dX12_readInn_7 : decode cX12_readInn 7 = .ok (.invokevirtual 235, 3) := by decide +kernel
theorem dX12_readInn_10 : decode cX12_readInn 10 = .ok (.aload_n 0, 1) := by decide +kernel
theorem dX12_readInn_11 : decode cX12_readInn 11 = .ok (.bipush 59, 2) := by decide +kernel
theorem dX12_readInn_13 : decode cX12_readInn 13 = .ok (.invokevirtual 238, 3) := by decide +kernel
theorem dX12_readInn_16 : decode cX12_readInn 16 = .ok (.istore_n 1, 1) := by decide +kernel
theorem dX12_readInn_17 : decode cX12_readInn 17 = .ok (.goto (-15), 3) := by decide +kernel
theorem dX12_readInn_20 : decode cX12_readInn 20 = .ok (.aload_n 0, 1) := by decide +kernel
theorem dX12_readInn_21 : decode cX12_readInn 21 = .ok (.getfield 99, 3) := by decide +kernel
theorem dX12_readInn_24 : decode cX12_readInn 24 = .ok (.iconst 1, 1) := by decide +kernel
theorem dX12_readInn_25 : decode cX12_readInn 25 = .ok (.if_icmp .eq 8, 3) := by decide +kernel
theorem dX12_readInn_28 : decode cX12_readInn 28 = .ok (.aload_n 0, 1) := by decide +kernel
theorem dX12_readInn_29 : decode cX12_readInn 29 = .ok (.iconst 1, 1) := by decide +kernel
theorem dX12_readInn_30 : decode cX12_readInn 30 = .ok (.invokevirtual 145, 3) := by decide +kernel
theorem dX12_readInn_33 : decode cX12_readInn 33 = .ok (.aload_n 0, 1) := by decide +kernel
theorem dX12_readInn_34 : decode cX12_readInn 34 = .ok (.getfield 202, 3) := by decide +kernel
theorem dX12_readInn_37 : decode cX12_readInn 37 = .ok (.getfield 241, 3) := by decide +kernel
theorem dX12_readInn_40 : decode cX12_readInn 40 = .ok (.ifCond .eq 23, 3) := by decide +kernel
theorem dX12_readInn_43 : decode cX12_readInn 43 = .ok (.aload_n 0, 1) := by decide +kernel
theorem dX12_readInn_44 : decode cX12_readInn 44 = .ok (.getfield 202, 3) := by decide +kernel
theorem dX12_readInn_47 : decode cX12_readInn 47 = .ok (.getfield 244, 3) := by decide +kernel
theorem dX12_readInn_50 : decode cX12_readInn 50 = .ok (.ifCond .eq 13, 3) := by decide +kernel
theorem dX12_readInn_53 : decode cX12_readInn 53 = .ok (.aload_n 0, 1) := by decide +kernel
theorem dX12_readInn_54 : decode cX12_readInn 54 = .ok (.getfield 202, 3) := by decide +kernel
theorem dX12_readInn_57 : decode cX12_readInn 57 = .ok (.getfield 247, 3) := by decide +kernel
theorem dX12_readInn_60 : decode cX12_readInn 60 = .ok (.ifCond .ne 9, 3) := by decide +kernel
theorem dX12_readInn_63 : decode cX12_readInn 63 = .ok (.aload_n 0, 1) := by decide +kernel
theorem dX12_readInn_64 : decode cX12_readInn 64 = .ok (.bipush 6, 2) := by decide +kernel
theorem dX12_readInn_66 : decode cX12_readInn 66 = .ok (.invokevirtual 145, 3) := by decide +kernel
theorem dX12_readInn_69 : decode cX12_readInn 69 = .ok (.return_, 1) := by decide +kernel
theorem dX12_feed_0 : decode cX12_feed 0 = .ok (.aload_n 0, 1) := by decide +kernel
theorem dX12_feed_1 : decode cX12_feed 1 = .ok (.iconst 0, 1) := by decide +kernel
theorem dX12_feed_2 : decode cX12_feed 2 = .ok (.putfield 71, 3) := by decide +kernel
theorem dX12_feed_5 : decode cX12_feed 5 = .ok (.aload_n 0, 1) := by decide +kernel
theorem dX12_feed_6 : decode cX12_feed 6 = .ok (.getfield 351, 3) := by decide +kernel
theorem dX12_feed_9 : decode cX12_feed 9 = .ok (.bipush 20, 2) := by decide +kernel
theorem dX12_feed_11 : decode cX12_feed 11 = .ok (.iadd, 1) := by decide +kernel
theorem dX12_feed_12 : decode cX12_feed 12 = .ok (.sipush 900, 3) := by decide +kernel
theorem dX12_feed_15 : decode cX12_feed 15 = .ok (.if_icmp .le 5, 3) := by decide +kernel
theorem dX12_feed_18 : decode cX12_feed 18 = .ok (.iconst (-1), 1) := by decide +kernel
theorem dX12_feed_19 : decode cX12_feed 19 = .ok (.ireturn, 1) := by decide +kernel
theorem dX12_feed_20 : decode cX12_feed 20 = .ok (.iconst 0, 1) := by decide +kernel
theorem dX12_feed_21 : decode cX12_feed 21 = .ok (.istore 6, 2) := by decide +kernel
theorem dX12_feed_23 : decode cX12_feed 23 = .ok (.iload 6, 2) := by decide +kernel
theorem dX12_feed_25 : decode cX12_feed 25 = .ok (.bipush 20, 2) := by decide +kernel
theorem dX12_feed_27 : decode cX12_feed 27 = .ok (.if_icmp .ge 90, 3) := by decide +kernel
theorem dX12_feed_30 : decode cX12_feed 30 = .ok (.iload 6, 2) := by decide +kernel
theorem dX12_feed_32 : decode cX12_feed 32 = .ok (.iconst 4, 1) := by decide +kernel
theorem dX12_feed_33 : decode cX12_feed 33 = .ok (.if_icmp .ge 7, 3) := by decide +kernel
theorem dX12_feed_36 : decode cX12_feed 36 = .ok (.iload_n 1, 1) := by decide +kernel
theorem dX12_feed_37 : decode cX12_feed 37 = .ok (.goto 39, 3) := by decide +kernel
theorem dX12_feed_40 : decode cX12_feed 40 = .ok (.iload 6, 2) := by decide +kernel
theorem dX12_feed_42 : decode cX12_feed 42 = .ok (.bipush 8, 2) := by decide +kernel
theorem dX12_feed_44 : decode cX12_feed 44 = .ok (.if_icmp .ge 7, 3) := by decide +kernel
theorem dX12_feed_47 : decode cX12_feed 47 = .ok (.iload_n 2, 1) := by decide +kernel
theorem dX12_feed_48 : decode cX12_feed 48 = .ok (.goto 28, 3) := by decide +kernel
theorem dX12_feed_51 : decode cX12_feed 51 = .ok (.iload 6, 2) := by decide +kernel
theorem dX12_feed_53 : decode cX12_feed 53 = .ok (.bipush 12, 2) := by decide +kernel
theorem dX12_feed_55 : decode cX12_feed 55 = .ok (.if_icmp .ge 7, 3) := by decide +kernel
theorem dX12_feed_58 : decode cX12_feed 58 = .ok (.iload_n 3, 1) := by decide +kernel
theorem dX12_feed_59 : decode cX12_feed 59 = .ok (.goto 17, 3) := by decide +kernel
theorem dX12_feed_62 : decode cX12_feed 62 = .ok (.iload 6, 2) := by decide +kernel
theorem dX12_feed_64 : decode cX12_feed 64 = .ok (.bipush 16, 2) := by decide +kernel
theorem dX12_feed_66 : decode cX12_feed 66 = .ok (.if_icmp .ge 8, 3) := by decide +kernel
theorem dX12_feed_69 : decode cX12_feed 69 = .ok (.iload 4, 2) := by decide +kernel
theorem dX12_feed_71 : decode cX12_feed 71 = .ok (.goto 5, 3) := by decide +kernel
theorem dX12_feed_74 : decode cX12_feed 74 = .ok (.iload 5, 2) := by decide +kernel
theorem dX12_feed_76 : decode cX12_feed 76 = .ok (.istore 7, 2) := by decide +kernel
theorem dX12_feed_78 : decode cX12_feed 78 = .ok (.aload_n 0, 1) := by decide +kernel
theorem dX12_feed_79 : decode cX12_feed 79 = .ok (.getfield 13, 3) := by decide +kernel
theorem dX12_feed_82 : decode cX12_feed 82 = .ok (.aload_n 0, 1) := by decide +kernel
theorem dX12_feed_83 : decode cX12_feed 83 = .ok (.getfield 351, 3) := by decide +kernel
theorem dX12_feed_86 : decode cX12_feed 86 = .ok (.iload 7, 2) := by decide +kernel
theorem dX12_feed_88 : decode cX12_feed 88 = .ok (.bipush 24, 2) := by decide +kernel
theorem dX12_feed_90 : decode cX12_feed 90 = .ok (.bipush 8, 2) := by decide +kernel
theorem dX12_feed_92 : decode cX12_feed 92 = .ok (.iload 6, 2) := by decide +kernel
theorem dX12_feed_94 : decode cX12_feed 94 = .ok (.iconst 4, 1) := by decide +kernel
theorem dX12_feed_95 : decode cX12_feed 95 = .ok (.irem, 1) := by decide +kernel
theorem dX12_feed_96 : decode cX12_feed 96 = .ok (.imul, 1) := by decide +kernel
theorem dX12_feed_97 : decode cX12_feed 97 = .ok (.isub, 1) := by decide +kernel
theorem dX12_feed_98 : decode cX12_feed 98 = .ok (.ishr, 1) := by decide +kernel
theorem dX12_feed_99 : decode cX12_feed 99 = .ok (.i2b, 1) := by decide +kernel
theorem dX12_feed_100 : decode cX12_feed 100 = .ok (.bastore, 1) := by decide +kernel
theorem dX12_feed_101 : decode cX12_feed 101 = .ok (.aload_n 0, 1) := by decide +kernel
theorem dX12_feed_102 : decode cX12_feed 102 = .ok (.dup, 1) := by decide +kernel
theorem dX12_feed_103 : decode cX12_feed 103 = .ok (.getfield 351, 3) := by decide +kernel
theorem dX12_feed_106 : decode cX12_feed 106 = .ok (.iconst 1, 1) := by decide +kernel
theorem dX12_feed_107 : decode cX12_feed 107 = .ok (.iadd, 1) := by decide +kernel
theorem dX12_feed_108 : decode cX12_feed 108 = .ok (.putfield 351, 3) := by decide +kernel
theorem dX12_feed_111 : decode cX12_feed 111 = .ok (.iinc 6 1, 3) := by decide +kernel
theorem dX12_feed_114 : decode cX12_feed 114 = .ok (.goto (-91), 3) := by decide +kernel
theorem dX12_feed_117 : decode cX12_feed 117 = .ok (.aload_n 0, 1) := by decide +kernel
theorem dX12_feed_118 : decode cX12_feed 118 = .ok (.getfield 351, 3) := by decide +kernel
theorem dX12_feed_121 : decode cX12_feed 121 = .ok (.ireturn, 1) := by decide +kernel
theorem dX12_measures_0 : decode cX12_measures 0 = .ok (.iconst 0, 1) := by decide +kernel
theorem dX12_measures_1 : decode cX12_measures 1 = .ok (.istore_n 3, 1) := by decide +kernel
theorem dX12_measures_2 : decode cX12_measures 2 = .ok (.iload_n 3, 1) := by decide +kernel
theorem dX12_measures_3 : decode cX12_measures 3 = .ok (.bipush 8, 2) := by decide +kernel
theorem dX12_measures_5 : decode cX12_measures 5 = .ok (.if_icmp .ge 26, 3) := by decide +kernel
theorem dX12_measures_8 : decode cX12_measures 8 = .ok (.aload_n 0, 1) := by decide +kernel
theorem dX12_measures_9 : decode cX12_measures 9 = .ok (.getfield 21, 3) := by decide +kernel
theorem dX12_measures_12 : decode cX12_measures 12 = .ok (.iload_n 3, 1) := by decide +kernel
theorem dX12_measures_13 : decode cX12_measures 13 = .ok (.iload_n 3, 1) := by decide +kernel
theorem dX12_measures_14 : decode cX12_measures 14 = .ok (.iload_n 1, 1) := by decide +kernel
theorem dX12_measures_15 : decode cX12_measures 15 = .ok (.if_icmp .ne 7, 3) := by decide +kernel
theorem dX12_measures_18 : decode cX12_measures 18 = .ok (.iconst 0, 1) := by decide +kernel
theorem dX12_measures_19 : decode cX12_measures 19 = .ok (.goto 5, 3) := by decide +kernel
theorem dX12_measures_22 : decode cX12_measures 22 = .ok (.bipush 99, 2) := by decide +kernel
theorem dX12_measures_24 : decode cX12_measures 24 = .ok (.iastore, 1) := by decide +kernel
theorem dX12_measures_25 : decode cX12_measures 25 = .ok (.iinc 3 1, 3) := by decide +kernel
theorem dX12_measures_28 : decode cX12_measures 28 = .ok (.goto (-26), 3) := by decide +kernel
theorem dX12_measures_31 : decode cX12_measures 31 = .ok (.iconst 0, 1) := by decide +kernel
theorem dX12_measures_32 : decode cX12_measures 32 = .ok (.istore_n 3, 1) := by decide +kernel
theorem dX12_measures_33 : decode cX12_measures 33 = .ok (.iload_n 3, 1) := by decide +kernel
theorem dX12_measures_34 : decode cX12_measures 34 = .ok (.aload_n 0, 1) := by decide +kernel
theorem dX12_measures_35 : decode cX12_measures 35 = .ok (.getfield 358, 3) := by decide +kernel
theorem dX12_measures_38 : decode cX12_measures 38 = .ok (.getfield 244, 3) := by decide +kernel
theorem dX12_measures_41 : decode cX12_measures 41 = .ok (.if_icmp .ge 159, 3) := by decide +kernel
theorem dX12_measures_44 : decode cX12_measures 44 = .ok (.iconst 0, 1) := by decide +kernel
theorem dX12_measures_45 : decode cX12_measures 45 = .ok (.istore 4, 2) := by decide +kernel
theorem dX12_measures_47 : decode cX12_measures 47 = .ok (.iload 4, 2) := by decide +kernel
theorem dX12_measures_49 : decode cX12_measures 49 = .ok (.aload_n 0, 1) := by decide +kernel
theorem dX12_measures_50 : decode cX12_measures 50 = .ok (.getfield 358, 3) := by decide +kernel
theorem dX12_measures_53 : decode cX12_measures 53 = .ok (.getfield 292, 3) := by decide +kernel
theorem dX12_measures_56 : decode cX12_measures 56 = .ok (.if_icmp .ge 138, 3) := by decide +kernel
theorem dX12_measures_59 : decode cX12_measures 59 = .ok (.iload_n 2, 1) := by decide +kernel
theorem dX12_measures_60 : decode cX12_measures 60 = .ok (.iload 4, 2) := by decide +kernel
theorem dX12_measures_62 : decode cX12_measures 62 = .ok (.invokestatic 372, 3) := by decide +kernel
theorem dX12_measures_65 : decode cX12_measures 65 = .ok (.ifCond .eq 6, 3) := by decide +kernel
theorem dX12_measures_68 : decode cX12_measures 68 = .ok (.goto 120, 3) := by decide +kernel
theorem dX12_measures_71 : decode cX12_measures 71 = .ok (.aload_n 0, 1) := by decide +kernel
theorem dX12_measures_72 : decode cX12_measures 72 = .ok (.getfield 21, 3) := by decide +kernel
theorem dX12_measures_75 : decode cX12_measures 75 = .ok (.aload_n 0, 1) := by decide +kernel
theorem dX12_measures_76 : decode cX12_measures 76 = .ok (.getfield 358, 3) := by decide +kernel
theorem dX12_measures_79 : decode cX12_measures 79 = .ok (.getfield 304, 3) := by decide +kernel
theorem dX12_measures_82 : decode cX12_measures 82 = .ok (.iload 4, 2) := by decide +kernel
theorem dX12_measures_84 : decode cX12_measures 84 = .ok (.iaload, 1) := by decide +kernel
theorem dX12_measures_85 : decode cX12_measures 85 = .ok (.iaload, 1) := by decide +kernel
theorem dX12_measures_86 : decode cX12_measures 86 = .ok (.iload_n 3, 1) := by decide +kernel
theorem dX12_measures_87 : decode cX12_measures 87 = .ok (.if_icmp .ne 44, 3) := by decide +kernel
theorem dX12_measures_90 : decode cX12_measures 90 = .ok (.aload_n 0, 1) := by decide +kernel
theorem dX12_measures_91 : decode cX12_measures 91 = .ok (.getfield 21, 3) := by decide +kernel
theorem dX12_measures_94 : decode cX12_measures 94 = .ok (.aload_n 0, 1) := by decide +kernel
theorem dX12_measures_95 : decode cX12_measures 95 = .ok (.getfield 358, 3) := by decide +kernel
theorem dX12_measures_98 : decode cX12_measures 98 = .ok (.getfield 307, 3) := by decide +kernel
theorem dX12_measures_101 : decode cX12_measures 101 = .ok (.iload 4, 2) := by decide +kernel
theorem dX12_measures_103 : decode cX12_measures 103 = .ok (.iaload, 1) := by decide +kernel
theorem dX12_measures_104 : decode cX12_measures 104 = .ok (.iaload, 1) := by decide +kernel
theorem dX12_measures_105 : decode cX12_measures 105 = .ok (.bipush 99, 2) := by decide +kernel
theorem dX12_measures_107 : decode cX12_measures 107 = .ok (.if_icmp .ne 24, 3) := by decide +kernel
theorem dX12_measures_110 : decode cX12_measures 110 = .ok (.aload_n 0, 1) := by decide +kernel
theorem dX12_measures_111 : decode cX12_measures 111 = .ok (.getfield 21, 3) := by decide +kernel
theorem dX12_measures_114 : decode cX12_measures 114 = .ok (.aload_n 0, 1) := by decide +kernel
theorem dX12_measures_115 : decode cX12_measures 115 = .ok (.getfield 358, 3) := by decide +kernel
theorem dX12_measures_118 : decode cX12_measures 118 = .ok (.getfield 307, 3) := by decide +kernel
theorem dX12_measures_121 : decode cX12_measures 121 = .ok (.iload 4, 2) := by decide +kernel
theorem dX12_measures_123 : decode cX12_measures 123 = .ok (.iaload, 1) := by decide +kernel
theorem dX12_measures_124 : decode cX12_measures 124 = .ok (.iload_n 3, 1) := by decide +kernel
theorem dX12_measures_125 : decode cX12_measures 125 = .ok (.iconst 1, 1) := by decide +kernel
theorem dX12_measures_126 : decode cX12_measures 126 = .ok (.iadd, 1) := by decide +kernel
theorem dX12_measures_127 : decode cX12_measures 127 = .ok (.iastore, 1) := by decide +kernel
theorem dX12_measures_128 : decode cX12_measures 128 = .ok (.goto 60, 3) := by decide +kernel
theorem dX12_measures_131 : decode cX12_measures 131 = .ok (.aload_n 0, 1) := by decide +kernel
theorem dX12_measures_132 : decode cX12_measures 132 = .ok (.getfield 21, 3) := by decide +kernel
theorem dX12_measures_135 : decode cX12_measures 135 = .ok (.aload_n 0, 1) := by decide +kernel
theorem dX12_measures_136 : decode cX12_measures 136 = .ok (.getfield 358, 3) := by decide +kernel
theorem dX12_measures_139 : decode cX12_measures 139 = .ok (.getfield 307, 3) := by decide +kernel
theorem dX12_measures_142 : decode cX12_measures 142 = .ok (.iload 4, 2) := by decide +kernel
theorem dX12_measures_144 : decode cX12_measures 144 = .ok (.iaload, 1) := by decide +kernel
theorem dX12_measures_145 : decode cX12_measures 145 = .ok (.iaload, 1) := by decide +kernel
theorem dX12_measures_146 : decode cX12_measures 146 = .ok (.iload_n 3, 1) := by decide +kernel
theorem dX12_measures_147 : decode cX12_measures 147 = .ok (.if_icmp .ne 41, 3) := by decide +kernel
theorem dX12_measures_150 : decode cX12_measures 150 = .ok (.aload_n 0, 1) := by decide +kernel
theorem dX12_measures_151 : decode cX12_measures 151 = .ok (.getfield 21, 3) := by decide +kernel
theorem dX12_measures_154 : decode cX12_measures 154 = .ok (.aload_n 0, 1) := by decide +kernel
theorem dX12_measures_155 : decode cX12_measures 155 = .ok (.getfield 358, 3) := by decide +kernel
theorem dX12_measures_158 : decode cX12_measures 158 = .ok (.getfield 304, 3) := by decide +kernel
theorem dX12_measures_161 : decode cX12_measures 161 = .ok (.iload 4, 2) := by decide +kernel
theorem dX12_measures_163 : decode cX12_measures 163 = .ok (.iaload, 1) := by decide +kernel
theorem dX12_measures_164 : decode cX12_measures 164 = .ok (.iaload, 1) := by decide +kernel
theorem dX12_measures_165 : decode cX12_measures 165 = .ok (.bipush 99, 2) := by decide +kernel
theorem dX12_measures_167 : decode cX12_measures 167 = .ok (.if_icmp .ne 21, 3) := by decide +kernel
theorem dX12_measures_170 : decode cX12_measures 170 = .ok (.aload_n 0, 1) := by decide +kernel
theorem dX12_measures_171 : decode cX12_measures 171 = .ok (.getfield 21, 3) := by decide +kernel
theorem dX12_measures_174 : decode cX12_measures 174 = .ok (.aload_n 0, 1) := by decide +kernel
theorem dX12_measures_175 : decode cX12_measures 175 = .ok (.getfield 358, 3) := by decide +kernel
theorem dX12_measures_178 : decode cX12_measures 178 = .ok (.getfield 304, 3) := by decide +kernel
theorem dX12_measures_181 : decode cX12_measures 181 = .ok (.iload 4, 2) := by decide +kernel
theorem dX12_measures_183 : decode cX12_measures 183 = .ok (.iaload, 1) := by decide +kernel
theorem dX12_measures_184 : decode cX12_measures 184 = .ok (.iload_n 3, 1) := by decide +kernel
theorem dX12_measures_185 : decode cX12_measures 185 = .ok (.iconst 1, 1) := by decide +kernel
theorem dX12_measures_186 : decode cX12_measures 186 = .ok (.iadd, 1) := by decide +kernel
theorem dX12_measures_187 : decode cX12_measures 187 = .ok (.iastore, 1) := by decide +kernel
theorem dX12_measures_188 : decode cX12_measures 188 = .ok (.iinc 4 1, 3) := by decide +kernel
theorem dX12_measures_191 : decode cX12_measures 191 = .ok (.goto (-144), 3) := by decide +kernel
theorem dX12_measures_194 : decode cX12_measures 194 = .ok (.iinc 3 1, 3) := by decide +kernel
theorem dX12_measures_197 : decode cX12_measures 197 = .ok (.goto (-164), 3) := by decide +kernel
theorem dX12_measures_200 : decode cX12_measures 200 = .ok (.return_, 1) := by decide +kernel
theorem dX12_lays_0 : decode cX12_lays 0 = .ok (.iconst 0, 1) := by decide +kernel
theorem dX12_lays_1 : decode cX12_lays 1 = .ok (.istore_n 1, 1) := by decide +kernel
theorem dX12_lays_2 : decode cX12_lays 2 = .ok (.iload_n 1, 1) := by decide +kernel
theorem dX12_lays_3 : decode cX12_lays 3 = .ok (.aload_n 0, 1) := by decide +kernel
theorem dX12_lays_4 : decode cX12_lays 4 = .ok (.getfield 358, 3) := by decide +kernel
theorem dX12_lays_7 : decode cX12_lays 7 = .ok (.getfield 244, 3) := by decide +kernel
theorem dX12_lays_10 : decode cX12_lays 10 = .ok (.if_icmp .ge 46, 3) := by decide +kernel
theorem dX12_lays_13 : decode cX12_lays 13 = .ok (.aload_n 0, 1) := by decide +kernel
theorem dX12_lays_14 : decode cX12_lays 14 = .ok (.iload_n 1, 1) := by decide +kernel
theorem dX12_lays_15 : decode cX12_lays 15 = .ok (.iconst 0, 1) := by decide +kernel
theorem dX12_lays_16 : decode cX12_lays 16 = .ok (.invokevirtual 376, 3) := by decide +kernel
theorem dX12_lays_19 : decode cX12_lays 19 = .ok (.iconst 0, 1) := by decide +kernel
theorem dX12_lays_20 : decode cX12_lays 20 = .ok (.istore_n 2, 1) := by decide +kernel
theorem dX12_lays_21 : decode cX12_lays 21 = .ok (.iload_n 2, 1) := by decide +kernel
theorem dX12_lays_22 : decode cX12_lays 22 = .ok (.bipush 8, 2) := by decide +kernel
theorem dX12_lays_24 : decode cX12_lays 24 = .ok (.if_icmp .ge 26, 3) := by decide +kernel
theorem dX12_lays_27 : decode cX12_lays 27 = .ok (.aload_n 0, 1) := by decide +kernel
theorem dX12_lays_28 : decode cX12_lays 28 = .ok (.getfield 17, 3) := by decide +kernel
theorem dX12_lays_31 : decode cX12_lays 31 = .ok (.bipush 8, 2) := by decide +kernel
theorem dX12_lays_33 : decode cX12_lays 33 = .ok (.iload_n 1, 1) := by decide +kernel
theorem dX12_lays_34 : decode cX12_lays 34 = .ok (.imul, 1) := by decide +kernel
theorem dX12_lays_35 : decode cX12_lays 35 = .ok (.iload_n 2, 1) := by decide +kernel
theorem dX12_lays_36 : decode cX12_lays 36 = .ok (.iadd, 1) := by decide +kernel
theorem dX12_lays_37 : decode cX12_lays 37 = .ok (.aload_n 0, 1) := by decide +kernel
theorem dX12_lays_38 : decode cX12_lays 38 = .ok (.getfield 21, 3) := by decide +kernel
theorem dX12_lays_41 : decode cX12_lays 41 = .ok (.iload_n 2, 1) := by decide +kernel
theorem dX12_lays_42 : decode cX12_lays 42 = .ok (.iaload, 1) := by decide +kernel
theorem dX12_lays_43 : decode cX12_lays 43 = .ok (.iastore, 1) := by decide +kernel
theorem dX12_lays_44 : decode cX12_lays 44 = .ok (.iinc 2 1, 3) := by decide +kernel
theorem dX12_lays_47 : decode cX12_lays 47 = .ok (.goto (-26), 3) := by decide +kernel
theorem dX12_lays_50 : decode cX12_lays 50 = .ok (.iinc 1 1, 3) := by decide +kernel
theorem dX12_lays_53 : decode cX12_lays 53 = .ok (.goto (-51), 3) := by decide +kernel
theorem dX12_lays_56 : decode cX12_lays 56 = .ok (.return_, 1) := by decide +kernel
theorem dX12_fallsNight_0 : decode cX12_fallsNight 0 = .ok (.iconst 0, 1) := by decide +kernel
theorem dX12_fallsNight_1 : decode cX12_fallsNight 1 = .ok (.istore_n 2, 1) := by decide +kernel
theorem dX12_fallsNight_2 : decode cX12_fallsNight 2 = .ok (.iload_n 2, 1) := by decide +kernel
theorem dX12_fallsNight_3 : decode cX12_fallsNight 3 = .ok (.bipush 51, 2) := by decide +kernel
theorem dX12_fallsNight_5 : decode cX12_fallsNight 5 = .ok (.if_icmp .ge 27, 3) := by decide +kernel
theorem dX12_fallsNight_8 : decode cX12_fallsNight 8 = .ok (.iload_n 2, 1) := by decide +kernel
theorem dX12_fallsNight_9 : decode cX12_fallsNight 9 = .ok (.bipush 12, 2) := by decide +kernel
theorem dX12_fallsNight_11 : decode cX12_fallsNight 11 = .ok (.bipush 14, 2) := by decide +kernel
theorem dX12_fallsNight_13 : decode cX12_fallsNight 13 = .ok (.invokestatic 149, 3) := by decide +kernel
theorem dX12_fallsNight_16 : decode cX12_fallsNight 16 = .ok (.ifCond .ne 10, 3) := by decide +kernel
theorem dX12_fallsNight_19 : decode cX12_fallsNight 19 = .ok (.aload_n 0, 1) := by decide +kernel
theorem dX12_fallsNight_20 : decode cX12_fallsNight 20 = .ok (.getfield 36, 3) := by decide +kernel
theorem dX12_fallsNight_23 : decode cX12_fallsNight 23 = .ok (.iload_n 2, 1) := by decide +kernel
theorem dX12_fallsNight_24 : decode cX12_fallsNight 24 = .ok (.iconst 0, 1) := by decide +kernel
theorem dX12_fallsNight_25 : decode cX12_fallsNight 25 = .ok (.iastore, 1) := by decide +kernel
theorem dX12_fallsNight_26 : decode cX12_fallsNight 26 = .ok (.iinc 2 1, 3) := by decide +kernel
theorem dX12_fallsNight_29 : decode cX12_fallsNight 29 = .ok (.goto (-27), 3) := by decide +kernel
theorem dX12_fallsNight_32 : decode cX12_fallsNight 32 = .ok (.iconst 0, 1) := by decide +kernel
theorem dX12_fallsNight_33 : decode cX12_fallsNight 33 = .ok (.istore_n 2, 1) := by decide +kernel
theorem dX12_fallsNight_34 : decode cX12_fallsNight 34 = .ok (.iload_n 2, 1) := by decide +kernel
theorem dX12_fallsNight_35 : decode cX12_fallsNight 35 = .ok (.aload_n 0, 1) := by decide +kernel
theorem dX12_fallsNight_36 : decode cX12_fallsNight 36 = .ok (.getfield 358, 3) := by decide +kernel
theorem dX12_fallsNight_39 : decode cX12_fallsNight 39 = .ok (.getfield 247, 3) := by decide +kernel
theorem dX12_fallsNight_42 : decode cX12_fallsNight 42 = .ok (.if_icmp .ge 37, 3) := by decide +kernel
theorem dX12_fallsNight_45 : decode cX12_fallsNight 45 = .ok (.aload_n 0, 1) := by decide +kernel
theorem dX12_fallsNight_46 : decode cX12_fallsNight 46 = .ok (.getfield 36, 3) := by decide +kernel
theorem dX12_fallsNight_49 : decode cX12_fallsNight 49 = .ok (.iconst 0, 1) := by decide +kernel
theorem dX12_fallsNight_50 : decode cX12_fallsNight 50 = .ok (.iload_n 2, 1) := by decide +kernel
theorem dX12_fallsNight_51 : decode cX12_fallsNight 51 = .ok (.iadd, 1) := by decide +kernel
theorem dX12_fallsNight_52 : decode cX12_fallsNight 52 = .ok (.aload_n 0, 1) := by decide +kernel
theorem dX12_fallsNight_53 : decode cX12_fallsNight 53 = .ok (.getfield 358, 3) := by decide +kernel
theorem dX12_fallsNight_56 : decode cX12_fallsNight 56 = .ok (.getfield 342, 3) := by decide +kernel
theorem dX12_fallsNight_59 : decode cX12_fallsNight 59 = .ok (.iload_n 2, 1) := by decide +kernel
theorem dX12_fallsNight_60 : decode cX12_fallsNight 60 = .ok (.iaload, 1) := by decide +kernel
theorem dX12_fallsNight_61 : decode cX12_fallsNight 61 = .ok (.iastore, 1) := by decide +kernel
theorem dX12_fallsNight_62 : decode cX12_fallsNight 62 = .ok (.aload_n 0, 1) := by decide +kernel
theorem dX12_fallsNight_63 : decode cX12_fallsNight 63 = .ok (.getfield 36, 3) := by decide +kernel
theorem dX12_fallsNight_66 : decode cX12_fallsNight 66 = .ok (.bipush 6, 2) := by decide +kernel
theorem dX12_fallsNight_68 : decode cX12_fallsNight 68 = .ok (.iload_n 2, 1) := by decide +kernel
theorem dX12_fallsNight_69 : decode cX12_fallsNight 69 = .ok (.iadd, 1) := by decide +kernel
theorem dX12_fallsNight_70 : decode cX12_fallsNight 70 = .ok (.bipush (-2), 2) := by decide +kernel
theorem dX12_fallsNight_72 : decode cX12_fallsNight 72 = .ok (.iastore, 1) := by decide +kernel
theorem dX12_fallsNight_73 : decode cX12_fallsNight 73 = .ok (.iinc 2 1, 3) := by decide +kernel
theorem dX12_fallsNight_76 : decode cX12_fallsNight 76 = .ok (.goto (-42), 3) := by decide +kernel
theorem dX12_fallsNight_79 : decode cX12_fallsNight 79 = .ok (.iconst 0, 1) := by decide +kernel
theorem dX12_fallsNight_80 : decode cX12_fallsNight 80 = .ok (.istore_n 2, 1) := by decide +kernel
theorem dX12_fallsNight_81 : decode cX12_fallsNight 81 = .ok (.iload_n 2, 1) := by decide +kernel
theorem dX12_fallsNight_82 : decode cX12_fallsNight 82 = .ok (.aload_n 0, 1) := by decide +kernel
theorem dX12_fallsNight_83 : decode cX12_fallsNight 83 = .ok (.getfield 358, 3) := by decide +kernel
theorem dX12_fallsNight_86 : decode cX12_fallsNight 86 = .ok (.getfield 315, 3) := by decide +kernel
theorem dX12_fallsNight_89 : decode cX12_fallsNight 89 = .ok (.if_icmp .ge 53, 3) := by decide +kernel
theorem dX12_fallsNight_92 : decode cX12_fallsNight 92 = .ok (.aload_n 0, 1) := by decide +kernel
theorem dX12_fallsNight_93 : decode cX12_fallsNight 93 = .ok (.getfield 36, 3) := by decide +kernel
theorem dX12_fallsNight_96 : decode cX12_fallsNight 96 = .ok (.bipush 15, 2) := by decide +kernel
theorem dX12_fallsNight_98 : decode cX12_fallsNight 98 = .ok (.iload_n 2, 1) := by decide +kernel
theorem dX12_fallsNight_99 : decode cX12_fallsNight 99 = .ok (.iadd, 1) := by decide +kernel
theorem dX12_fallsNight_100 : decode cX12_fallsNight 100 = .ok (.aload_n 0, 1) := by decide +kernel
theorem dX12_fallsNight_101 : decode cX12_fallsNight 101 = .ok (.getfield 358, 3) := by decide +kernel
theorem dX12_fallsNight_104 : decode cX12_fallsNight 104 = .ok (.getfield 319, 3) := by decide +kernel
theorem dX12_fallsNight_107 : decode cX12_fallsNight 107 = .ok (.iload_n 2, 1) := by decide +kernel
theorem dX12_fallsNight_108 : decode cX12_fallsNight 108 = .ok (.iaload, 1) := by decide +kernel
theorem dX12_fallsNight_109 : decode cX12_fallsNight 109 = .ok (.iastore, 1) := by decide +kernel
theorem dX12_fallsNight_110 : decode cX12_fallsNight 110 = .ok (.aload_n 0, 1) := by decide +kernel
theorem dX12_fallsNight_111 : decode cX12_fallsNight 111 = .ok (.getfield 36, 3) := by decide +kernel
theorem dX12_fallsNight_114 : decode cX12_fallsNight 114 = .ok (.bipush 19, 2) := by decide +kernel
theorem dX12_fallsNight_116 : decode cX12_fallsNight 116 = .ok (.iload_n 2, 1) := by decide +kernel
theorem dX12_fallsNight_117 : decode cX12_fallsNight 117 = .ok (.iadd, 1) := by decide +kernel
theorem dX12_fallsNight_118 : decode cX12_fallsNight 118 = .ok (.aload_n 0, 1) := by decide +kernel
theorem dX12_fallsNight_119 : decode cX12_fallsNight 119 = .ok (.getfield 358, 3) := by decide +kernel
theorem dX12_fallsNight_122 : decode cX12_fallsNight 122 = .ok (.getfield 322, 3) := by decide +kernel
theorem dX12_fallsNight_125 : decode cX12_fallsNight 125 = .ok (.iload_n 2, 1) := by decide +kernel
theorem dX12_fallsNight_126 : decode cX12_fallsNight 126 = .ok (.baload, 1) := by decide +kernel
theorem dX12_fallsNight_127 : decode cX12_fallsNight 127 = .ok (.ifCond .eq 7, 3) := by decide +kernel
theorem dX12_fallsNight_130 : decode cX12_fallsNight 130 = .ok (.iconst 1, 1) := by decide +kernel
theorem dX12_fallsNight_131 : decode cX12_fallsNight 131 = .ok (.goto 4, 3) := by decide +kernel
theorem dX12_fallsNight_134 : decode cX12_fallsNight 134 = .ok (.iconst 0, 1) := by decide +kernel
theorem dX12_fallsNight_135 : decode cX12_fallsNight 135 = .ok (.iastore, 1) := by decide +kernel
theorem dX12_fallsNight_136 : decode cX12_fallsNight 136 = .ok (.iinc 2 1, 3) := by decide +kernel
theorem dX12_fallsNight_139 : decode cX12_fallsNight 139 = .ok (.goto (-58), 3) := by decide +kernel
theorem dX12_fallsNight_142 : decode cX12_fallsNight 142 = .ok (.iconst 0, 1) := by decide +kernel
theorem dX12_fallsNight_143 : decode cX12_fallsNight 143 = .ok (.istore_n 2, 1) := by decide +kernel
theorem dX12_fallsNight_144 : decode cX12_fallsNight 144 = .ok (.iload_n 2, 1) := by decide +kernel
theorem dX12_fallsNight_145 : decode cX12_fallsNight 145 = .ok (.aload_n 0, 1) := by decide +kernel
theorem dX12_fallsNight_146 : decode cX12_fallsNight 146 = .ok (.getfield 358, 3) := by decide +kernel
theorem dX12_fallsNight_149 : decode cX12_fallsNight 149 = .ok (.getfield 292, 3) := by decide +kernel
theorem dX12_fallsNight_152 : decode cX12_fallsNight 152 = .ok (.if_icmp .ge 53, 3) := by decide +kernel
theorem dX12_fallsNight_155 : decode cX12_fallsNight 155 = .ok (.aload_n 0, 1) := by decide +kernel
theorem dX12_fallsNight_156 : decode cX12_fallsNight 156 = .ok (.getfield 36, 3) := by decide +kernel
theorem dX12_fallsNight_159 : decode cX12_fallsNight 159 = .ok (.bipush 23, 2) := by decide +kernel
theorem dX12_fallsNight_161 : decode cX12_fallsNight 161 = .ok (.iload_n 2, 1) := by decide +kernel
theorem dX12_fallsNight_162 : decode cX12_fallsNight 162 = .ok (.iadd, 1) := by decide +kernel
theorem dX12_fallsNight_163 : decode cX12_fallsNight 163 = .ok (.iload_n 1, 1) := by decide +kernel
theorem dX12_fallsNight_164 : decode cX12_fallsNight 164 = .ok (.iconst 1, 1) := by decide +kernel
theorem dX12_fallsNight_165 : decode cX12_fallsNight 165 = .ok (.iconst 2, 1) := by decide +kernel
theorem dX12_fallsNight_166 : decode cX12_fallsNight 166 = .ok (.iload_n 2, 1) := by decide +kernel
theorem dX12_fallsNight_167 : decode cX12_fallsNight 167 = .ok (.imul, 1) := by decide +kernel
theorem dX12_fallsNight_168 : decode cX12_fallsNight 168 = .ok (.iadd, 1) := by decide +kernel
theorem dX12_fallsNight_169 : decode cX12_fallsNight 169 = .ok (.if_icmp .ne 7, 3) := by decide +kernel
theorem dX12_fallsNight_172 : decode cX12_fallsNight 172 = .ok (.iconst 1, 1) := by decide +kernel
theorem dX12_fallsNight_173 : decode cX12_fallsNight 173 = .ok (.goto 25, 3) := by decide +kernel
theorem dX12_fallsNight_176 : decode cX12_fallsNight 176 = .ok (.iload_n 1, 1) := by decide +kernel
theorem dX12_fallsNight_177 : decode cX12_fallsNight 177 = .ok (.iconst 2, 1) := by decide +kernel
theorem dX12_fallsNight_178 : decode cX12_fallsNight 178 = .ok (.iconst 2, 1) := by decide +kernel
theorem dX12_fallsNight_179 : decode cX12_fallsNight 179 = .ok (.iload_n 2, 1) := by decide +kernel
theorem dX12_fallsNight_180 : decode cX12_fallsNight 180 = .ok (.imul, 1) := by decide +kernel
theorem dX12_fallsNight_181 : decode cX12_fallsNight 181 = .ok (.iadd, 1) := by decide +kernel
theorem dX12_fallsNight_182 : decode cX12_fallsNight 182 = .ok (.if_icmp .ne 7, 3) := by decide +kernel
theorem dX12_fallsNight_185 : decode cX12_fallsNight 185 = .ok (.iconst 2, 1) := by decide +kernel
theorem dX12_fallsNight_186 : decode cX12_fallsNight 186 = .ok (.goto 12, 3) := by decide +kernel
theorem dX12_fallsNight_189 : decode cX12_fallsNight 189 = .ok (.aload_n 0, 1) := by decide +kernel
theorem dX12_fallsNight_190 : decode cX12_fallsNight 190 = .ok (.getfield 358, 3) := by decide +kernel
theorem dX12_fallsNight_193 : decode cX12_fallsNight 193 = .ok (.getfield 310, 3) := by decide +kernel
theorem dX12_fallsNight_196 : decode cX12_fallsNight 196 = .ok (.iload_n 2, 1) := by decide +kernel
theorem dX12_fallsNight_197 : decode cX12_fallsNight 197 = .ok (.iaload, 1) := by decide +kernel
theorem dX12_fallsNight_198 : decode cX12_fallsNight 198 = .ok (.iastore, 1) := by decide +kernel
theorem dX12_fallsNight_199 : decode cX12_fallsNight 199 = .ok (.iinc 2 1, 3) := by decide +kernel
theorem dX12_fallsNight_202 : decode cX12_fallsNight 202 = .ok (.goto (-58), 3) := by decide +kernel
theorem dX12_fallsNight_205 : decode cX12_fallsNight 205 = .ok (.aload_n 0, 1) := by decide +kernel
theorem dX12_fallsNight_206 : decode cX12_fallsNight 206 = .ok (.getfield 36, 3) := by decide +kernel
theorem dX12_fallsNight_209 : decode cX12_fallsNight 209 = .ok (.bipush 50, 2) := by decide +kernel
theorem dX12_fallsNight_211 : decode cX12_fallsNight 211 = .ok (.iload_n 1, 1) := by decide +kernel
theorem dX12_fallsNight_212 : decode cX12_fallsNight 212 = .ok (.iastore, 1) := by decide +kernel
theorem dX12_fallsNight_213 : decode cX12_fallsNight 213 = .ok (.return_, 1) := by decide +kernel
theorem dX12_fault_0 : decode cX12_fault 0 = .ok (.aload_n 0, 1) := by decide +kernel
theorem dX12_fault_1 : decode cX12_fault 1 = .ok (.iconst 0, 1) := by decide +kernel
theorem dX12_fault_2 : decode cX12_fault 2 = .ok (.putfield 71, 3) := by decide +kernel
theorem dX12_fault_5 : decode cX12_fault 5 = .ok (.aload_n 0, 1) := by decide +kernel
theorem dX12_fault_6 : decode cX12_fault 6 = .ok (.getfield 128, 3) := by decide +kernel
theorem dX12_fault_9 : decode cX12_fault 9 = .ok (.ireturn, 1) := by decide +kernel
theorem dX12_where_0 : decode cX12_where 0 = .ok (.aload_n 0, 1) := by decide +kernel
theorem dX12_where_1 : decode cX12_where 1 = .ok (.iconst 0, 1) := by decide +kernel
theorem dX12_where_2 : decode cX12_where 2 = .ok (.putfield 71, 3) := by decide +kernel
theorem dX12_where_5 : decode cX12_where 5 = .ok (.aload_n 0, 1) := by decide +kernel
theorem dX12_where_6 : decode cX12_where 6 = .ok (.getfield 9, 3) := by decide +kernel
theorem dX12_where_9 : decode cX12_where 9 = .ok (.ireturn, 1) := by decide +kernel
theorem dX12_isRoom_0 : decode cX12_isRoom 0 = .ok (.aload_n 0, 1) := by decide +kernel
theorem dX12_isRoom_1 : decode cX12_isRoom 1 = .ok (.getfield 358, 3) := by decide +kernel
theorem dX12_isRoom_4 : decode cX12_isRoom 4 = .ok (.ifnull 22, 3) := by decide +kernel
theorem dX12_isRoom_7 : decode cX12_isRoom 7 = .ok (.iload_n 1, 1) := by decide +kernel
theorem dX12_isRoom_8 : decode cX12_isRoom 8 = .ok (.ifCond .lt 18, 3) := by decide +kernel
theorem dX12_isRoom_11 : decode cX12_isRoom 11 = .ok (.iload_n 1, 1) := by decide +kernel
theorem dX12_isRoom_12 : decode cX12_isRoom 12 = .ok (.aload_n 0, 1) := by decide +kernel
theorem dX12_isRoom_13 : decode cX12_isRoom 13 = .ok (.getfield 358, 3) := by decide +kernel
theorem dX12_isRoom_16 : decode cX12_isRoom 16 = .ok (.getfield 244, 3) := by decide +kernel
theorem dX12_isRoom_19 : decode cX12_isRoom 19 = .ok (.if_icmp .ge 7, 3) := by decide +kernel
theorem dX12_isRoom_22 : decode cX12_isRoom 22 = .ok (.iconst 1, 1) := by decide +kernel
theorem dX12_isRoom_23 : decode cX12_isRoom 23 = .ok (.goto 4, 3) := by decide +kernel
theorem dX12_isRoom_26 : decode cX12_isRoom 26 = .ok (.iconst 0, 1) := by decide +kernel
theorem dX12_isRoom_27 : decode cX12_isRoom 27 = .ok (.ireturn, 1) := by decide +kernel
theorem dX12_far_0 : decode cX12_far 0 = .ok (.aload_n 0, 1) := by decide +kernel
theorem dX12_far_1 : decode cX12_far 1 = .ok (.iconst 0, 1) := by decide +kernel
theorem dX12_far_2 : decode cX12_far 2 = .ok (.putfield 71, 3) := by decide +kernel
theorem dX12_far_5 : decode cX12_far 5 = .ok (.aload_n 0, 1) := by decide +kernel
theorem dX12_far_6 : decode cX12_far 6 = .ok (.iload_n 1, 1) := by decide +kernel
theorem dX12_far_7 : decode cX12_far 7 = .ok (.invokevirtual 379, 3) := by decide +kernel
theorem dX12_far_10 : decode cX12_far 10 = .ok (.ifCond .eq 29, 3) := by decide +kernel
theorem dX12_far_13 : decode cX12_far 13 = .ok (.aload_n 0, 1) := by decide +kernel
theorem dX12_far_14 : decode cX12_far 14 = .ok (.iload_n 2, 1) := by decide +kernel
theorem dX12_far_15 : decode cX12_far 15 = .ok (.invokevirtual 379, 3) := by decide +kernel
theorem dX12_far_18 : decode cX12_far 18 = .ok (.ifCond .eq 21, 3) := by decide +kernel
theorem dX12_far_21 : decode cX12_far 21 = .ok (.aload_n 0, 1) := by decide +kernel
theorem dX12_far_22 : decode cX12_far 22 = .ok (.aload_n 0, 1) := by decide +kernel
theorem dX12_far_23 : decode cX12_far 23 = .ok (.getfield 17, 3) := by decide +kernel
theorem dX12_far_26 : decode cX12_far 26 = .ok (.bipush 8, 2) := by decide +kernel
theorem dX12_far_28 : decode cX12_far 28 = .ok (.iload_n 1, 1) := by decide +kernel
theorem dX12_far_29 : decode cX12_far 29 = .ok (.imul, 1) := by decide +kernel
theorem dX12_far_30 : decode cX12_far 30 = .ok (.iload_n 2, 1) := by decide +kernel
theorem dX12_far_31 : decode cX12_far 31 = .ok (.iadd, 1) := by decide +kernel
theorem dX12_far_32 : decode cX12_far 32 = .ok (.iaload, 1) := by decide +kernel
theorem dX12_far_33 : decode cX12_far 33 = .ok (.invokevirtual 81, 3) := by decide +kernel
theorem dX12_far_36 : decode cX12_far 36 = .ok (.goto 8, 3) := by decide +kernel
theorem dX12_far_39 : decode cX12_far 39 = .ok (.aload_n 0, 1) := by decide +kernel
theorem dX12_far_40 : decode cX12_far 40 = .ok (.iconst 1, 1) := by decide +kernel
theorem dX12_far_41 : decode cX12_far 41 = .ok (.invokevirtual 77, 3) := by decide +kernel
theorem dX12_far_44 : decode cX12_far 44 = .ok (.ireturn, 1) := by decide +kernel
theorem dX12_room_0 : decode cX12_room 0 = .ok (.aload_n 0, 1) := by decide +kernel
theorem dX12_room_1 : decode cX12_room 1 = .ok (.iconst 0, 1) := by decide +kernel
theorem dX12_room_2 : decode cX12_room 2 = .ok (.putfield 71, 3) := by decide +kernel
theorem dX12_room_5 : decode cX12_room 5 = .ok (.aload_n 0, 1) := by decide +kernel
theorem dX12_room_6 : decode cX12_room 6 = .ok (.iload_n 1, 1) := by decide +kernel
theorem dX12_room_7 : decode cX12_room 7 = .ok (.invokevirtual 379, 3) := by decide +kernel
theorem dX12_room_10 : decode cX12_room 10 = .ok (.ifCond .eq 12, 3) := by decide +kernel
theorem dX12_room_13 : decode cX12_room 13 = .ok (.iload_n 2, 1) := by decide +kernel
theorem dX12_room_14 : decode cX12_room 14 = .ok (.iconst 0, 1) := by decide +kernel
theorem dX12_room_15 : decode cX12_room 15 = .ok (.iconst 1, 1) := by decide +kernel
theorem dX12_room_16 : decode cX12_room 16 = .ok (.invokestatic 149, 3) := by decide +kernel
theorem dX12_room_19 : decode cX12_room 19 = .ok (.ifCond .ne 9, 3) := by decide +kernel
theorem dX12_room_22 : decode cX12_room 22 = .ok (.aload_n 0, 1) := by decide +kernel
theorem dX12_room_23 : decode cX12_room 23 = .ok (.iconst 1, 1) := by decide +kernel
theorem dX12_room_24 : decode cX12_room 24 = .ok (.invokevirtual 77, 3) := by decide +kernel
theorem dX12_room_27 : decode cX12_room 27 = .ok (.ireturn, 1) := by decide +kernel
theorem dX12_room_28 : decode cX12_room 28 = .ok (.aload_n 0, 1) := by decide +kernel
theorem dX12_room_29 : decode cX12_room 29 = .ok (.iload_n 2, 1) := by decide +kernel
theorem dX12_room_30 : decode cX12_room 30 = .ok (.ifCond .ne 15, 3) := by decide +kernel
theorem dX12_room_33 : decode cX12_room 33 = .ok (.aload_n 0, 1) := by decide +kernel
theorem dX12_room_34 : decode cX12_room 34 = .ok (.getfield 358, 3) := by decide +kernel
theorem dX12_room_37 : decode cX12_room 37 = .ok (.getfield 287, 3) := by decide +kernel
theorem dX12_room_40 : decode cX12_room 40 = .ok (.iload_n 1, 1) := by decide +kernel
theorem dX12_room_41 : decode cX12_room 41 = .ok (.iaload, 1) := by decide +kernel
theorem dX12_room_42 : decode cX12_room 42 = .ok (.goto 20, 3) := by decide +kernel
theorem dX12_room_45 : decode cX12_room 45 = .ok (.aload_n 0, 1) := by decide +kernel
theorem dX12_room_46 : decode cX12_room 46 = .ok (.getfield 358, 3) := by decide +kernel
theorem dX12_room_49 : decode cX12_room 49 = .ok (.getfield 289, 3) := by decide +kernel
theorem dX12_room_52 : decode cX12_room 52 = .ok (.iload_n 1, 1) := by decide +kernel
theorem dX12_room_53 : decode cX12_room 53 = .ok (.baload, 1) := by decide +kernel
theorem dX12_room_54 : decode cX12_room 54 = .ok (.ifCond .eq 7, 3) := by decide +kernel
theorem dX12_room_57 : decode cX12_room 57 = .ok (.iconst 1, 1) := by decide +kernel
theorem dX12_room_58 : decode cX12_room 58 = .ok (.goto 4, 3) := by decide +kernel
theorem dX12_room_61 : decode cX12_room 61 = .ok (.iconst 0, 1) := by decide +kernel
theorem dX12_room_62 : decode cX12_room 62 = .ok (.invokevirtual 81, 3) := by decide +kernel
theorem dX12_room_65 : decode cX12_room 65 = .ok (.ireturn, 1) := by decide +kernel
def wX12_readThing (E : EN) (h h_read h_tape h_far h_from h_real h_other h_kept h_set h_w h_book h_noteSort h_whose h_what h_noteIs h_fitting h_dawn h_likes h_walked h_came h_read_creak h_read_doorA h_read_doorB h_read_how h_read_lies h_read_isCold h_read_falls h_read_isFull h_read_isTold h_read_act h_read_what h_read_then h_read_met h_read_bed h_read_dream h_read_listens h_read_name h_read_nameSort h_read_nameNumber : Nat) (v_thrown : Int32) (v_trouble : Int32) (v_where : Int32) (v_inn : Option Nat) (v_taped : Int32) (v_size : Int32) (v_at : Int32) (v_sort : Int32) (v_place : Int32) (v_sign : Int32) (v_number : Int32) (v_fault : Int32) (v_wrongAt : Int32) (v_word : Int64) (v_marks : Int32) (v_notes : Int32) (v_read_minutes : Int32) (v_read_rooms : Int32) (v_read_doors : Int32) (v_read_things : Int32) (v_read_dreams : Int32) (v_read_sleepers : Int32) (v_read_listeners : Int32) (v_read_names : Int32) (v_tape : Nat → Int32) (v_read_name : Nat → Int64) (v_read_nameSort : Nat → Int32) (v_read_nameNumber : Nat → Int32) (v_read_lies : Nat → Int32) (v_read_isFull : Nat → Int32) : va_W := [(h, .inr (11, [.int v_thrown, .int v_trouble, .int v_where, va_rf v_inn, .ref h_read, .ref h_tape, .int v_taped, .int v_size, .int v_at, .int v_sort, .int v_place, .int v_sign, .int v_number, .int v_fault, .int v_wrongAt, .long v_word, .ref h_far, .ref h_from, .ref h_real, .ref h_other, .ref h_kept, .ref h_set, .ref h_w, .int v_marks, .int v_notes, .ref h_book, .ref h_noteSort, .ref h_whose, .ref h_what, .ref h_noteIs, .ref h_fitting, .ref h_dawn, .ref h_likes, .ref h_walked, .ref h_came])), (h_read, .inr (10, [.int v_read_minutes, .int v_read_rooms, .int v_read_doors, .int v_read_things, .int v_read_dreams, .int v_read_sleepers, .int v_read_listeners, .int v_read_names, .ref h_read_creak, .ref h_read_doorA, .ref h_read_doorB, .ref h_read_how, .ref h_read_lies, .ref h_read_isCold, .ref h_read_falls, .ref h_read_isFull, .ref h_read_isTold, .ref h_read_act, .ref h_read_what, .ref h_read_then, .ref h_read_met, .ref h_read_bed, .ref h_read_dream, .ref h_read_listens, .ref h_read_name, .ref h_read_nameSort, .ref h_read_nameNumber])), (h_tape, aB E 900 v_tape), (h_read_name, aJ E 19 v_read_name), (h_read_nameSort, aI E 19 v_read_nameSort), (h_read_nameNumber, aI E 19 v_read_nameNumber), (h_read_lies, aI E 4 v_read_lies), (h_read_isFull, aZ E 4 v_read_isFull)]
def fX12_readThing (N : Nat) (v_size : Int32) (v_at : Int32) (v_sort : Int32) (v_place : Int32) (v_sign : Int32) (v_number : Int32) (v_fault : Int32) (v_wrongAt : Int32) (v_word : Int64) (v_read_things : Int32) (v_read_names : Int32) (v_tape : Nat → Int32) (v_read_name : Nat → Int64) (v_read_nameSort : Nat → Int32) (v_read_nameNumber : Nat → Int32) (v_read_lies : Nat → Int32) (v_read_isFull : Nat → Int32) : Option (Int32 × Int32 × Int32 × Int32 × Int32 × Int32 × Int32 × Int64 × Int32 × Int32 × (Nat → Int64) × (Nat → Int32) × (Nat → Int32) × (Nat → Int32) × (Nat → Int32)) := (fX12_begins N v_read_things 4 v_size v_at v_sort v_place v_sign v_number v_fault v_wrongAt v_word v_tape).bind (un8 fun (v_at_9 : Int32) (v_sort_9 : Int32) (v_place_9 : Int32) (v_sign_9 : Int32) (v_number_9 : Int32) (v_fault_9 : Int32) (v_wrongAt_9 : Int32) (v_word_9 : Int64) => (fX12_readFresh N 1 v_read_things v_size v_at_9 v_sort_9 v_place_9 v_sign_9 v_number_9 v_fault_9 v_wrongAt_9 v_word_9 v_read_names v_read_name v_read_nameSort v_read_nameNumber v_tape).bind (un12 fun (v_at_21 : Int32) (v_sort_21 : Int32) (v_place_21 : Int32) (v_sign_21 : Int32) (v_number_21 : Int32) (v_fault_21 : Int32) (v_wrongAt_21 : Int32) (v_word_21 : Int64) (v_read_names_21 : Int32) (v_read_name_21 : Nat → Int64) (v_read_nameSort_21 : Nat → Int32) (v_read_nameNumber_21 : Nat → Int32) => (fX12_needs N 21 v_size v_at_21 v_sort_21 v_place_21 v_sign_21 v_number_21 v_fault_21 v_wrongAt_21 v_word_21 v_tape).bind (un8 fun (v_at_28 : Int32) (v_sort_28 : Int32) (v_place_28 : Int32) (v_sign_28 : Int32) (v_number_28 : Int32) (v_fault_28 : Int32) (v_wrongAt_28 : Int32) (v_word_28 : Int64) => (fX12_readKnown N 0 v_size v_at_28 v_sort_28 v_place_28 v_sign_28 v_number_28 v_fault_28 v_wrongAt_28 v_word_28 v_read_names_21 v_read_name_21 v_read_nameNumber_21 v_read_nameSort_21 v_tape).bind (un9 fun (r_33 : Int32) (v_at_33 : Int32) (v_sort_33 : Int32) (v_place_33 : Int32) (v_sign_33 : Int32) (v_number_33 : Int32) (v_fault_33 : Int32) (v_wrongAt_33 : Int32) (v_word_33 : Int64) => (fX12_eatsWord N 11 v_size v_at_33 v_sort_33 v_place_33 v_sign_33 v_number_33 v_word_33 v_tape).bind (un7 fun (r_40 : Int32) (v_at_40 : Int32) (v_sort_40 : Int32) (v_place_40 : Int32) (v_sign_40 : Int32) (v_number_40 : Int32) (v_word_40 : Int64) => if v_sort_40 = 5 then (some (v_at_40, v_sort_40, v_place_40, v_sign_40, v_number_40, v_fault_33, v_wrongAt_33, v_word_40, v_read_things, v_read_names_21, v_read_name_21, v_read_nameSort_21, v_read_nameNumber_21, v_read_lies, v_read_isFull)) else (gd v_read_things 4 (gd v_read_things 4 (zg r_40 (some (v_at_40, v_sort_40, v_place_40, v_sign_40, v_number_40, v_fault_33, v_wrongAt_33, v_word_40, v_read_things + 1, v_read_names_21, v_read_name_21, v_read_nameSort_21, v_read_nameNumber_21, upd v_read_lies v_read_things.toNatClampNeg r_33, upd v_read_isFull v_read_things.toNatClampNeg r_40))))))))))
set_option maxHeartbeats 4000000 in
set_option maxRecDepth 100000 in
theorem ctX12_readThing (l : Launch) (E : EN) (h h_read h_tape h_far h_from h_real h_other h_kept h_set h_w h_book h_noteSort h_whose h_what h_noteIs h_fitting h_dawn h_likes h_walked h_came h_read_creak h_read_doorA h_read_doorB h_read_how h_read_lies h_read_isCold h_read_falls h_read_isFull h_read_isTold h_read_act h_read_what h_read_then h_read_met h_read_bed h_read_dream h_read_listens h_read_name h_read_nameSort h_read_nameNumber : Nat) (v_thrown : Int32) (v_trouble : Int32) (v_where : Int32) (v_inn : Option Nat) (v_taped : Int32) (v_size : Int32) (v_at : Int32) (v_sort : Int32) (v_place : Int32) (v_sign : Int32) (v_number : Int32) (v_fault : Int32) (v_wrongAt : Int32) (v_word : Int64) (v_marks : Int32) (v_notes : Int32) (v_read_minutes : Int32) (v_read_rooms : Int32) (v_read_doors : Int32) (v_read_things : Int32) (v_read_dreams : Int32) (v_read_sleepers : Int32) (v_read_listeners : Int32) (v_read_names : Int32) (v_tape : Nat → Int32) (v_read_name : Nat → Int64) (v_read_nameSort : Nat → Int32) (v_read_nameNumber : Nat → Int32) (v_read_lies : Nat → Int32) (v_read_isFull : Nat → Int32) (N : Nat) (z : Int32 × Int32 × Int32 × Int32 × Int32 × Int32 × Int32 × Int64 × Int32 × Int32 × (Nat → Int64) × (Nat → Int32) × (Nat → Int32) × (Nat → Int32) × (Nat → Int32)) (hf : fX12_readThing N v_size v_at v_sort v_place v_sign v_number v_fault v_wrongAt v_word v_read_things v_read_names v_tape v_read_name v_read_nameSort v_read_nameNumber v_read_lies v_read_isFull = some z) : CTv l E yX12_readThing cX12_readThing 3 9 193 [.ref h] (wX12_readThing E h h_read h_tape h_far h_from h_real h_other h_kept h_set h_w h_book h_noteSort h_whose h_what h_noteIs h_fitting h_dawn h_likes h_walked h_came h_read_creak h_read_doorA h_read_doorB h_read_how h_read_lies h_read_isCold h_read_falls h_read_isFull h_read_isTold h_read_act h_read_what h_read_then h_read_met h_read_bed h_read_dream h_read_listens h_read_name h_read_nameSort h_read_nameNumber v_thrown v_trouble v_where v_inn v_taped v_size v_at v_sort v_place v_sign v_number v_fault v_wrongAt v_word v_marks v_notes v_read_minutes v_read_rooms v_read_doors v_read_things v_read_dreams v_read_sleepers v_read_listeners v_read_names v_tape v_read_name v_read_nameSort v_read_nameNumber v_read_lies v_read_isFull) (wX12_readThing E h h_read h_tape h_far h_from h_real h_other h_kept h_set h_w h_book h_noteSort h_whose h_what h_noteIs h_fitting h_dawn h_likes h_walked h_came h_read_creak h_read_doorA h_read_doorB h_read_how h_read_lies h_read_isCold h_read_falls h_read_isFull h_read_isTold h_read_act h_read_what h_read_then h_read_met h_read_bed h_read_dream h_read_listens h_read_name h_read_nameSort h_read_nameNumber v_thrown v_trouble v_where v_inn v_taped v_size z.1 z.2.1 z.2.2.1 z.2.2.2.1 z.2.2.2.2.1 z.2.2.2.2.2.1 z.2.2.2.2.2.2.1 z.2.2.2.2.2.2.2.1 v_marks v_notes v_read_minutes v_read_rooms v_read_doors z.2.2.2.2.2.2.2.2.1 v_read_dreams v_read_sleepers v_read_listeners z.2.2.2.2.2.2.2.2.2.1 v_tape z.2.2.2.2.2.2.2.2.2.2.1 z.2.2.2.2.2.2.2.2.2.2.2.1 z.2.2.2.2.2.2.2.2.2.2.2.2.1 z.2.2.2.2.2.2.2.2.2.2.2.2.2.1 z.2.2.2.2.2.2.2.2.2.2.2.2.2.2) := by
  intro sz
  refine ct_body (by decide) (Nat.le_of_ble_eq_true rfl) ?_
  intro p e s m args below meth c A ls hAe C hr hin hP hD hS hl
  have C : CX p s m args meth c cX12_readThing RX12 3 E A := C
  have hl : lv_has ls 3 [(0, .ref h)] := hl
  have hx := C.1
  have hb := C.2.1
  rw [hAe]
  clear hAe
  obtain ⟨Q, hQ⟩ : ∃ Q, Q = MQ below (Qv E A (wX12_readThing E h h_read h_tape h_far h_from h_real h_other h_kept h_set h_w h_book h_noteSort h_whose h_what h_noteIs h_fitting h_dawn h_likes h_walked h_came h_read_creak h_read_doorA h_read_doorB h_read_how h_read_lies h_read_isCold h_read_falls h_read_isFull h_read_isTold h_read_act h_read_what h_read_then h_read_met h_read_bed h_read_dream h_read_listens h_read_name h_read_nameSort h_read_nameNumber v_thrown v_trouble v_where v_inn v_taped v_size z.1 z.2.1 z.2.2.1 z.2.2.2.1 z.2.2.2.2.1 z.2.2.2.2.2.1 z.2.2.2.2.2.2.1 z.2.2.2.2.2.2.2.1 v_marks v_notes v_read_minutes v_read_rooms v_read_doors z.2.2.2.2.2.2.2.2.1 v_read_dreams v_read_sleepers v_read_listeners z.2.2.2.2.2.2.2.2.2.1 v_tape z.2.2.2.2.2.2.2.2.2.2.1 z.2.2.2.2.2.2.2.2.2.2.2.1 z.2.2.2.2.2.2.2.2.2.2.2.2.1 z.2.2.2.2.2.2.2.2.2.2.2.2.2.1 z.2.2.2.2.2.2.2.2.2.2.2.2.2.2)) args s 0 0 A := ⟨_, rfl⟩
  rw [← hQ]
  unfold fX12_readThing at hf
  refine lv_aload_n (pc := 0) hx hb dX12_readThing_0 rfl (lv_at hl 0 rfl) ?_
  refine lv_aload_n (pc := 1) hx hb dX12_readThing_1 rfl (lv_at hl 0 rfl) ?_
  refine r_get (pc := 2) C hP 0 rfl fl_X12_202 rfl dX12_readThing_2 ?_
  refine r_get (pc := 5) C hP 1 rfl fl_X12_315 rfl dX12_readThing_5 ?_
  refine lv_iconst (pc := 8) (v := 4) hx hb dX12_readThing_8 (by decide) ?_
  obtain ⟨v_at_9, v_sort_9, v_place_9, v_sign_9, v_number_9, v_fault_9, v_wrongAt_9, v_word_9, hc_9, hf⟩ := bd8 hf
  refine r_dalVv (pc := 9) (ws' := (wX12_readThing E h h_read h_tape h_far h_from h_real h_other h_kept h_set h_w h_book h_noteSort h_whose h_what h_noteIs h_fitting h_dawn h_likes h_walked h_came h_read_creak h_read_doorA h_read_doorB h_read_how h_read_lies h_read_isCold h_read_falls h_read_isFull h_read_isTold h_read_act h_read_what h_read_then h_read_met h_read_bed h_read_dream h_read_listens h_read_name h_read_nameSort h_read_nameNumber v_thrown v_trouble v_where v_inn v_taped v_size v_at_9 v_sort_9 v_place_9 v_sign_9 v_number_9 v_fault_9 v_wrongAt_9 v_word_9 v_marks v_notes v_read_minutes v_read_rooms v_read_doors v_read_things v_read_dreams v_read_sleepers v_read_listeners v_read_names v_tape v_read_name v_read_nameSort v_read_nameNumber v_read_lies v_read_isFull)) (As := [.int v_read_things, .int 4]) (rest := []) C (ctX12_begins l E h h_tape h_far h_from h_real h_other h_kept h_set h_w h_book h_noteSort h_whose h_what h_noteIs h_fitting h_dawn h_likes h_walked h_came v_thrown v_trouble v_where v_inn (some h_read) v_taped v_size v_at v_sort v_place v_sign v_number v_fault v_wrongAt v_word v_marks v_notes v_tape N v_read_things 4 (v_at_9, v_sort_9, v_place_9, v_sign_9, v_number_9, v_fault_9, v_wrongAt_9, v_word_9) hc_9) ml_X12_276 ⟨Nat.le_of_ble_eq_true rfl, Nat.le_of_ble_eq_true rfl⟩ hP hD hS 0 rfl rfl rfl [0, 2] [8, 1, 9, 3, 4, 5, 6, 7] 8 rfl rfl rfl rfl rfl rfl rfl hl.1 rfl (Nat.le_of_ble_eq_true rfl) ⟨Nat.zero_le _, Nat.zero_le _⟩ dX12_readThing_9 ?_
  clear hP hD hS; intro H locs hP hD hS
  refine lv_aload_n (pc := 12) hx hb dX12_readThing_12 rfl (lv_at hl 0 rfl) ?_
  refine lv_iconst (pc := 13) (v := 1) hx hb dX12_readThing_13 (by decide) ?_
  refine lv_aload_n (pc := 14) hx hb dX12_readThing_14 rfl (lv_at hl 0 rfl) ?_
  refine r_get (pc := 15) C hP 0 rfl fl_X12_202 rfl dX12_readThing_15 ?_
  refine r_get (pc := 18) C hP 1 rfl fl_X12_315 rfl dX12_readThing_18 ?_
  obtain ⟨v_at_21, v_sort_21, v_place_21, v_sign_21, v_number_21, v_fault_21, v_wrongAt_21, v_word_21, v_read_names_21, v_read_name_21, v_read_nameSort_21, v_read_nameNumber_21, hc_21, hf⟩ := bd12 hf
  refine r_dalVv (pc := 21) (ws' := (wX12_readThing E h h_read h_tape h_far h_from h_real h_other h_kept h_set h_w h_book h_noteSort h_whose h_what h_noteIs h_fitting h_dawn h_likes h_walked h_came h_read_creak h_read_doorA h_read_doorB h_read_how h_read_lies h_read_isCold h_read_falls h_read_isFull h_read_isTold h_read_act h_read_what h_read_then h_read_met h_read_bed h_read_dream h_read_listens h_read_name h_read_nameSort h_read_nameNumber v_thrown v_trouble v_where v_inn v_taped v_size v_at_21 v_sort_21 v_place_21 v_sign_21 v_number_21 v_fault_21 v_wrongAt_21 v_word_21 v_marks v_notes v_read_minutes v_read_rooms v_read_doors v_read_things v_read_dreams v_read_sleepers v_read_listeners v_read_names_21 v_tape v_read_name_21 v_read_nameSort_21 v_read_nameNumber_21 v_read_lies v_read_isFull)) (As := [.int 1, .int v_read_things]) (rest := []) C (ctX12_readFresh l E h h_read h_tape h_far h_from h_real h_other h_kept h_set h_w h_book h_noteSort h_whose h_what h_noteIs h_fitting h_dawn h_likes h_walked h_came h_read_creak h_read_doorA h_read_doorB h_read_how h_read_lies h_read_isCold h_read_falls h_read_isFull h_read_isTold h_read_act h_read_what h_read_then h_read_met h_read_bed h_read_dream h_read_listens h_read_name h_read_nameSort h_read_nameNumber v_thrown v_trouble v_where v_inn v_taped v_size v_at_9 v_sort_9 v_place_9 v_sign_9 v_number_9 v_fault_9 v_wrongAt_9 v_word_9 v_marks v_notes v_read_minutes v_read_rooms v_read_doors v_read_things v_read_dreams v_read_sleepers v_read_listeners v_read_names v_read_name v_read_nameSort v_read_nameNumber v_tape N 1 v_read_things (v_at_21, v_sort_21, v_place_21, v_sign_21, v_number_21, v_fault_21, v_wrongAt_21, v_word_21, v_read_names_21, v_read_name_21, v_read_nameSort_21, v_read_nameNumber_21) hc_21) ml_X12_279 ⟨Nat.le_of_ble_eq_true rfl, Nat.le_of_ble_eq_true rfl⟩ hP hD hS 0 rfl rfl rfl [0, 1, 3, 4, 5, 2] [8, 9, 13, 10, 11, 12, 6, 7] 8 rfl rfl rfl rfl rfl rfl rfl hl.1 rfl (Nat.le_of_ble_eq_true rfl) ⟨Nat.zero_le _, Nat.zero_le _⟩ dX12_readThing_21 ?_
  clear hP hD hS; intro H locs hP hD hS
  refine lv_aload_n (pc := 24) hx hb dX12_readThing_24 rfl (lv_at hl 0 rfl) ?_
  refine r_ldcSw (pc := 25) C (C.kx.2.2.2.2.2 21 (by decide)).2.2.2.2 dX12_readThing_25 ?_
  obtain ⟨v_at_28, v_sort_28, v_place_28, v_sign_28, v_number_28, v_fault_28, v_wrongAt_28, v_word_28, hc_28, hf⟩ := bd8 hf
  refine r_dalVv (pc := 28) (ws' := (wX12_readThing E h h_read h_tape h_far h_from h_real h_other h_kept h_set h_w h_book h_noteSort h_whose h_what h_noteIs h_fitting h_dawn h_likes h_walked h_came h_read_creak h_read_doorA h_read_doorB h_read_how h_read_lies h_read_isCold h_read_falls h_read_isFull h_read_isTold h_read_act h_read_what h_read_then h_read_met h_read_bed h_read_dream h_read_listens h_read_name h_read_nameSort h_read_nameNumber v_thrown v_trouble v_where v_inn v_taped v_size v_at_28 v_sort_28 v_place_28 v_sign_28 v_number_28 v_fault_28 v_wrongAt_28 v_word_28 v_marks v_notes v_read_minutes v_read_rooms v_read_doors v_read_things v_read_dreams v_read_sleepers v_read_listeners v_read_names_21 v_tape v_read_name_21 v_read_nameSort_21 v_read_nameNumber_21 v_read_lies v_read_isFull)) (As := [.ref (E.2.2.2.2.1 21)]) (rest := []) C (ctX12_needs l E h h_tape h_far h_from h_real h_other h_kept h_set h_w h_book h_noteSort h_whose h_what h_noteIs h_fitting h_dawn h_likes h_walked h_came v_thrown v_trouble v_where v_inn (some h_read) v_taped v_size v_at_21 v_sort_21 v_place_21 v_sign_21 v_number_21 v_fault_21 v_wrongAt_21 v_word_21 v_marks v_notes v_tape 21 (by decide) N (v_at_28, v_sort_28, v_place_28, v_sign_28, v_number_28, v_fault_28, v_wrongAt_28, v_word_28) hc_28) ml_X12_157 ⟨Nat.le_of_ble_eq_true rfl, Nat.le_of_ble_eq_true rfl⟩ hP hD hS 0 rfl rfl rfl [0, 2] [8, 1, 9, 3, 4, 5, 6, 7] 8 rfl rfl rfl rfl rfl rfl rfl hl.1 rfl (Nat.le_of_ble_eq_true rfl) ⟨Nat.zero_le _, Nat.zero_le _⟩ dX12_readThing_28 ?_
  clear hP hD hS; intro H locs hP hD hS
  refine lv_aload_n (pc := 31) hx hb dX12_readThing_31 rfl (lv_at hl 0 rfl) ?_
  refine lv_iconst (pc := 32) (v := 0) hx hb dX12_readThing_32 (by decide) ?_
  obtain ⟨r_33, v_at_33, v_sort_33, v_place_33, v_sign_33, v_number_33, v_fault_33, v_wrongAt_33, v_word_33, hc_33, hf⟩ := bd9 hf
  refine r_dalVi (pc := 33) (ws' := (wX12_readThing E h h_read h_tape h_far h_from h_real h_other h_kept h_set h_w h_book h_noteSort h_whose h_what h_noteIs h_fitting h_dawn h_likes h_walked h_came h_read_creak h_read_doorA h_read_doorB h_read_how h_read_lies h_read_isCold h_read_falls h_read_isFull h_read_isTold h_read_act h_read_what h_read_then h_read_met h_read_bed h_read_dream h_read_listens h_read_name h_read_nameSort h_read_nameNumber v_thrown v_trouble v_where v_inn v_taped v_size v_at_33 v_sort_33 v_place_33 v_sign_33 v_number_33 v_fault_33 v_wrongAt_33 v_word_33 v_marks v_notes v_read_minutes v_read_rooms v_read_doors v_read_things v_read_dreams v_read_sleepers v_read_listeners v_read_names_21 v_tape v_read_name_21 v_read_nameSort_21 v_read_nameNumber_21 v_read_lies v_read_isFull)) (As := [.int 0]) (rest := []) C (ctX12_readKnown l E h h_read h_tape h_far h_from h_real h_other h_kept h_set h_w h_book h_noteSort h_whose h_what h_noteIs h_fitting h_dawn h_likes h_walked h_came h_read_creak h_read_doorA h_read_doorB h_read_how h_read_lies h_read_isCold h_read_falls h_read_isFull h_read_isTold h_read_act h_read_what h_read_then h_read_met h_read_bed h_read_dream h_read_listens h_read_name h_read_nameSort h_read_nameNumber v_thrown v_trouble v_where v_inn v_taped v_size v_at_28 v_sort_28 v_place_28 v_sign_28 v_number_28 v_fault_28 v_wrongAt_28 v_word_28 v_marks v_notes v_read_minutes v_read_rooms v_read_doors v_read_things v_read_dreams v_read_sleepers v_read_listeners v_read_names_21 v_read_name_21 v_read_nameNumber_21 v_read_nameSort_21 v_tape N 0 (r_33, v_at_33, v_sort_33, v_place_33, v_sign_33, v_number_33, v_fault_33, v_wrongAt_33, v_word_33) hc_33) ml_X12_295 ⟨Nat.le_of_ble_eq_true rfl, Nat.le_of_ble_eq_true rfl⟩ hP hD hS 0 rfl rfl rfl [0, 1, 3, 5, 4, 2] [8, 9, 13, 10, 12, 11, 6, 7] 8 rfl rfl rfl rfl rfl rfl rfl hl.1 rfl (Nat.le_of_ble_eq_true rfl) ⟨Nat.zero_le _, Nat.zero_le _⟩ dX12_readThing_33 ?_
  clear hP hD hS; intro H locs hP hD hS
  refine lv_istore_n (pc := 36) (lv' := [(1, .int r_33), (0, .ref h)]) hx hb dX12_readThing_36 rfl hl (by decide) rfl (fun ls hl => ?_)
  refine lv_aload_n (pc := 37) hx hb dX12_readThing_37 rfl (lv_at hl 1 rfl) ?_
  refine r_ldcS (pc := 38) C (C.kx.2.2.2.2.2 11 (by decide)).2.2.2.2 dX12_readThing_38 ?_
  obtain ⟨r_40, v_at_40, v_sort_40, v_place_40, v_sign_40, v_number_40, v_word_40, hc_40, hf⟩ := bd7 hf
  refine r_dalVi (pc := 40) (ws' := (wX12_readThing E h h_read h_tape h_far h_from h_real h_other h_kept h_set h_w h_book h_noteSort h_whose h_what h_noteIs h_fitting h_dawn h_likes h_walked h_came h_read_creak h_read_doorA h_read_doorB h_read_how h_read_lies h_read_isCold h_read_falls h_read_isFull h_read_isTold h_read_act h_read_what h_read_then h_read_met h_read_bed h_read_dream h_read_listens h_read_name h_read_nameSort h_read_nameNumber v_thrown v_trouble v_where v_inn v_taped v_size v_at_40 v_sort_40 v_place_40 v_sign_40 v_number_40 v_fault_33 v_wrongAt_33 v_word_40 v_marks v_notes v_read_minutes v_read_rooms v_read_doors v_read_things v_read_dreams v_read_sleepers v_read_listeners v_read_names_21 v_tape v_read_name_21 v_read_nameSort_21 v_read_nameNumber_21 v_read_lies v_read_isFull)) (As := [.ref (E.2.2.2.2.1 11)]) (rest := []) C (ctX12_eatsWord l E h h_tape h_far h_from h_real h_other h_kept h_set h_w h_book h_noteSort h_whose h_what h_noteIs h_fitting h_dawn h_likes h_walked h_came v_thrown v_trouble v_where v_inn (some h_read) v_taped v_size v_at_33 v_sort_33 v_place_33 v_sign_33 v_number_33 v_fault_33 v_wrongAt_33 v_word_33 v_marks v_notes v_tape 11 (by decide) N (r_40, v_at_40, v_sort_40, v_place_40, v_sign_40, v_number_40, v_word_40) hc_40) ml_X12_284 ⟨Nat.le_of_ble_eq_true rfl, Nat.le_of_ble_eq_true rfl⟩ hP hD hS 0 rfl rfl rfl [0, 2] [8, 1, 9, 3, 4, 5, 6, 7] 8 rfl rfl rfl rfl rfl rfl rfl hl.1 rfl (Nat.le_of_ble_eq_true rfl) ⟨Nat.zero_le _, Nat.zero_le _⟩ dX12_readThing_40 ?_
  clear hP hD hS; intro H locs hP hD hS
  refine lv_istore_n (pc := 43) (lv' := [(2, .int r_40), (1, .int r_33), (0, .ref h)]) hx hb dX12_readThing_43 rfl hl (by decide) rfl (fun ls hl => ?_)
  refine lv_aload_n (pc := 44) hx hb dX12_readThing_44 rfl (lv_at hl 2 rfl) ?_
  refine r_get (pc := 45) C hP 0 rfl fl_X12_99 rfl dX12_readThing_45 ?_
  refine lv_iconst (pc := 48) (v := 5) hx hb dX12_readThing_48 (by decide) ?_
  refine lv_icmp_ne (pc := 49) (tgt := 53) hx hb dX12_readThing_49 (by decide) (fun c_49 => ?_) (fun c_49 => ?_)
  · replace hf := it_f c_49 hf
    refine lv_aload_n (pc := 53) hx hb dX12_readThing_53 rfl (lv_at hl 2 rfl) ?_
    refine r_get (pc := 54) C hP 0 rfl fl_X12_202 rfl dX12_readThing_54 ?_
    refine r_get (pc := 57) C hP 1 rfl fl_X12_319 rfl dX12_readThing_57 ?_
    refine lv_aload_n (pc := 60) hx hb dX12_readThing_60 rfl (lv_at hl 2 rfl) ?_
    refine r_get (pc := 61) C hP 0 rfl fl_X12_202 rfl dX12_readThing_61 ?_
    refine r_get (pc := 64) C hP 1 rfl fl_X12_315 rfl dX12_readThing_64 ?_
    refine lv_iload_n (pc := 67) hx hb dX12_readThing_67 rfl (lv_at hl 1 rfl) ?_
    obtain ⟨hi_68, hf⟩ := gd_s hf
    refine r_iast (pc := 68) (ws' := (wX12_readThing E h h_read h_tape h_far h_from h_real h_other h_kept h_set h_w h_book h_noteSort h_whose h_what h_noteIs h_fitting h_dawn h_likes h_walked h_came h_read_creak h_read_doorA h_read_doorB h_read_how h_read_lies h_read_isCold h_read_falls h_read_isFull h_read_isTold h_read_act h_read_what h_read_then h_read_met h_read_bed h_read_dream h_read_listens h_read_name h_read_nameSort h_read_nameNumber v_thrown v_trouble v_where v_inn v_taped v_size v_at_40 v_sort_40 v_place_40 v_sign_40 v_number_40 v_fault_33 v_wrongAt_33 v_word_40 v_marks v_notes v_read_minutes v_read_rooms v_read_doors v_read_things v_read_dreams v_read_sleepers v_read_listeners v_read_names_21 v_tape v_read_name_21 v_read_nameSort_21 v_read_nameNumber_21 (upd v_read_lies v_read_things.toNatClampNeg r_33) v_read_isFull)) C hP hD hS 6 rfl hi_68 rfl dX12_readThing_68 ?_
    clear hP hD hS; intro H locs hP hD hS
    refine lv_aload_n (pc := 69) hx hb dX12_readThing_69 rfl (lv_at hl 2 rfl) ?_
    refine r_get (pc := 70) C hP 0 rfl fl_X12_202 rfl dX12_readThing_70 ?_
    refine r_get (pc := 73) C hP 1 rfl fl_X12_322 rfl dX12_readThing_73 ?_
    refine lv_aload_n (pc := 76) hx hb dX12_readThing_76 rfl (lv_at hl 2 rfl) ?_
    refine r_get (pc := 77) C hP 0 rfl fl_X12_202 rfl dX12_readThing_77 ?_
    refine r_get (pc := 80) C hP 1 rfl fl_X12_315 rfl dX12_readThing_80 ?_
    refine lv_iload_n (pc := 83) hx hb dX12_readThing_83 rfl (lv_at hl 0 rfl) ?_
    obtain ⟨hi_84, hf⟩ := gd_s hf
    obtain ⟨hz_84, hf⟩ := zg_s hf
    refine r_zast (pc := 84) (ws' := (wX12_readThing E h h_read h_tape h_far h_from h_real h_other h_kept h_set h_w h_book h_noteSort h_whose h_what h_noteIs h_fitting h_dawn h_likes h_walked h_came h_read_creak h_read_doorA h_read_doorB h_read_how h_read_lies h_read_isCold h_read_falls h_read_isFull h_read_isTold h_read_act h_read_what h_read_then h_read_met h_read_bed h_read_dream h_read_listens h_read_name h_read_nameSort h_read_nameNumber v_thrown v_trouble v_where v_inn v_taped v_size v_at_40 v_sort_40 v_place_40 v_sign_40 v_number_40 v_fault_33 v_wrongAt_33 v_word_40 v_marks v_notes v_read_minutes v_read_rooms v_read_doors v_read_things v_read_dreams v_read_sleepers v_read_listeners v_read_names_21 v_tape v_read_name_21 v_read_nameSort_21 v_read_nameNumber_21 (upd v_read_lies v_read_things.toNatClampNeg r_33) (upd v_read_isFull v_read_things.toNatClampNeg r_40))) C hP hD hS 7 rfl hi_84 hz_84 rfl dX12_readThing_84 ?_
    clear hP hD hS; intro H locs hP hD hS
    refine lv_aload_n (pc := 85) hx hb dX12_readThing_85 rfl (lv_at hl 2 rfl) ?_
    refine r_get (pc := 86) C hP 0 rfl fl_X12_202 rfl dX12_readThing_86 ?_
    refine lv_dup (pc := 89) hx hb dX12_readThing_89 rfl ?_
    refine r_get (pc := 90) C hP 1 rfl fl_X12_315 rfl dX12_readThing_90 ?_
    refine lv_iconst (pc := 93) (v := 1) hx hb dX12_readThing_93 (by decide) ?_
    refine lv_iadd (pc := 94) hx hb dX12_readThing_94 ?_
    refine r_put (pc := 95) (ws' := (wX12_readThing E h h_read h_tape h_far h_from h_real h_other h_kept h_set h_w h_book h_noteSort h_whose h_what h_noteIs h_fitting h_dawn h_likes h_walked h_came h_read_creak h_read_doorA h_read_doorB h_read_how h_read_lies h_read_isCold h_read_falls h_read_isFull h_read_isTold h_read_act h_read_what h_read_then h_read_met h_read_bed h_read_dream h_read_listens h_read_name h_read_nameSort h_read_nameNumber v_thrown v_trouble v_where v_inn v_taped v_size v_at_40 v_sort_40 v_place_40 v_sign_40 v_number_40 v_fault_33 v_wrongAt_33 v_word_40 v_marks v_notes v_read_minutes v_read_rooms v_read_doors (v_read_things + 1) v_read_dreams v_read_sleepers v_read_listeners v_read_names_21 v_tape v_read_name_21 v_read_nameSort_21 v_read_nameNumber_21 (upd v_read_lies v_read_things.toNatClampNeg r_33) (upd v_read_isFull v_read_things.toNatClampNeg r_40))) C hP hD hS 1 rfl fl_X12_315 rfl rfl (Nat.le_of_ble_eq_true rfl) rfl dX12_readThing_95 ?_
    clear hP hD hS; intro H locs hP hD hS
    cases hf
    rw [hQ]
    exact r_vret C hr hP hD hS dX12_readThing_98
  · replace hf := it_t c_49 hf
    cases hf
    rw [hQ]
    exact r_vret C hr hP hD hS dX12_readThing_52
def wX12_readDream (E : EN) (h h_read h_tape h_far h_from h_real h_other h_kept h_set h_w h_book h_noteSort h_whose h_what h_noteIs h_fitting h_dawn h_likes h_walked h_came h_read_creak h_read_doorA h_read_doorB h_read_how h_read_lies h_read_isCold h_read_falls h_read_isFull h_read_isTold h_read_act h_read_what h_read_then h_read_met h_read_bed h_read_dream h_read_listens h_read_name h_read_nameSort h_read_nameNumber : Nat) (v_thrown : Int32) (v_trouble : Int32) (v_where : Int32) (v_inn : Option Nat) (v_taped : Int32) (v_size : Int32) (v_at : Int32) (v_sort : Int32) (v_place : Int32) (v_sign : Int32) (v_number : Int32) (v_fault : Int32) (v_wrongAt : Int32) (v_word : Int64) (v_marks : Int32) (v_notes : Int32) (v_tape : Nat → Int32) (v_read_minutes : Int32) (v_read_rooms : Int32) (v_read_doors : Int32) (v_read_things : Int32) (v_read_dreams : Int32) (v_read_sleepers : Int32) (v_read_listeners : Int32) (v_read_names : Int32) (v_read_name : Nat → Int64) (v_read_nameNumber : Nat → Int32) (v_read_isTold : Nat → Int32) (v_read_nameSort : Nat → Int32) (v_read_act : Nat → Int32) (v_read_what : Nat → Int32) (v_read_then : Nat → Int32) (v_read_met : Nat → Int32) : va_W := [(h, .inr (11, [.int v_thrown, .int v_trouble, .int v_where, va_rf v_inn, .ref h_read, .ref h_tape, .int v_taped, .int v_size, .int v_at, .int v_sort, .int v_place, .int v_sign, .int v_number, .int v_fault, .int v_wrongAt, .long v_word, .ref h_far, .ref h_from, .ref h_real, .ref h_other, .ref h_kept, .ref h_set, .ref h_w, .int v_marks, .int v_notes, .ref h_book, .ref h_noteSort, .ref h_whose, .ref h_what, .ref h_noteIs, .ref h_fitting, .ref h_dawn, .ref h_likes, .ref h_walked, .ref h_came])), (h_tape, aB E 900 v_tape), (h_read, .inr (10, [.int v_read_minutes, .int v_read_rooms, .int v_read_doors, .int v_read_things, .int v_read_dreams, .int v_read_sleepers, .int v_read_listeners, .int v_read_names, .ref h_read_creak, .ref h_read_doorA, .ref h_read_doorB, .ref h_read_how, .ref h_read_lies, .ref h_read_isCold, .ref h_read_falls, .ref h_read_isFull, .ref h_read_isTold, .ref h_read_act, .ref h_read_what, .ref h_read_then, .ref h_read_met, .ref h_read_bed, .ref h_read_dream, .ref h_read_listens, .ref h_read_name, .ref h_read_nameSort, .ref h_read_nameNumber])), (h_read_name, aJ E 19 v_read_name), (h_read_nameNumber, aI E 19 v_read_nameNumber), (h_read_isTold, aZ E 16 v_read_isTold), (h_read_nameSort, aI E 19 v_read_nameSort), (h_read_act, aI E 16 v_read_act), (h_read_what, aI E 16 v_read_what), (h_read_then, aI E 16 v_read_then), (h_read_met, aI E 16 v_read_met)]
def fX12_readDream (N : Nat) (v_size : Int32) (v_at : Int32) (v_sort : Int32) (v_place : Int32) (v_sign : Int32) (v_number : Int32) (v_fault : Int32) (v_wrongAt : Int32) (v_word : Int64) (v_tape : Nat → Int32) (v_read_dreams : Int32) (v_read_names : Int32) (v_read_name : Nat → Int64) (v_read_nameNumber : Nat → Int32) (v_read_isTold : Nat → Int32) (v_read_nameSort : Nat → Int32) (v_read_act : Nat → Int32) (v_read_what : Nat → Int32) (v_read_then : Nat → Int32) (v_read_met : Nat → Int32) : Option (Int32 × Int32 × Int32 × Int32 × Int32 × Int32 × Int32 × Int64 × Int32 × Int32 × (Nat → Int64) × (Nat → Int32) × (Nat → Int32) × (Nat → Int32) × (Nat → Int32) × (Nat → Int32) × (Nat → Int32) × (Nat → Int32)) := (fX12_goesOn N v_size v_at v_sort v_place v_sign v_number v_word v_tape).bind (un6 fun (v_at_1 : Int32) (v_sort_1 : Int32) (v_place_1 : Int32) (v_sign_1 : Int32) (v_number_1 : Int32) (v_word_1 : Int64) => (fX12_isName N v_sort_1 v_word_1).bind (un1 fun (r_5 : Int32) => jn (un3 fun (x16_sort : Int32) (x16_fault : Int32) (x16_wrongAt : Int32) => (fX11_find N v_word_1 v_read_names v_read_name).bind (un1 fun (r_24 : Int32) => jn (un3 fun (x51_sort : Int32) (x51_fault : Int32) (x51_wrongAt : Int32) => jn (un3 fun (x72_sort : Int32) (x72_fault : Int32) (x72_wrongAt : Int32) => jn (un1 fun (x96_s0 : Int32) => jn (un5 fun (x129_read_dreams : Int32) (x129_read_names : Int32) (x129_read_name : Nat → Int64) (x129_read_nameNumber : Nat → Int32) (x129_read_nameSort : Nat → Int32) => (fX12_goesOn N v_size v_at_1 x72_sort v_place_1 v_sign_1 v_number_1 v_word_1 v_tape).bind (un6 fun (v_at_130 : Int32) (v_sort_130 : Int32) (v_place_130 : Int32) (v_sign_130 : Int32) (v_number_130 : Int32) (v_word_130 : Int64) => (fX12_whole N 0 3 v_sort_130 v_place_130 v_number_130 x72_fault x72_wrongAt).bind (un4 fun (r_136 : Int32) (v_sort_136 : Int32) (v_fault_136 : Int32) (v_wrongAt_136 : Int32) => jn (un1 fun (x157_s0 : Int32) => gd x157_s0 16 (jn (un3 fun (x177_sort : Int32) (x177_fault : Int32) (x177_wrongAt : Int32) => (fX12_goesOn N v_size v_at_130 x177_sort v_place_130 v_sign_130 v_number_130 v_word_130 v_tape).bind (un6 fun (v_at_178 : Int32) (v_sort_178 : Int32) (v_place_178 : Int32) (v_sign_178 : Int32) (v_number_178 : Int32) (v_word_178 : Int64) => (fX12_eatsWord N 14 v_size v_at_178 v_sort_178 v_place_178 v_sign_178 v_number_178 v_word_178 v_tape).bind (un7 fun (r_184 : Int32) (v_at_184 : Int32) (v_sort_184 : Int32) (v_place_184 : Int32) (v_sign_184 : Int32) (v_number_184 : Int32) (v_word_184 : Int64) => jn (un7 fun (x260_s0 : Int32) (x260_at : Int32) (x260_sort : Int32) (x260_place : Int32) (x260_sign : Int32) (x260_number : Int32) (x260_word : Int64) => jn (un3 fun (x273_sort : Int32) (x273_fault : Int32) (x273_wrongAt : Int32) => jn (un9 fun (x314_s0 : Int32) (x314_at : Int32) (x314_sort : Int32) (x314_place : Int32) (x314_sign : Int32) (x314_number : Int32) (x314_fault : Int32) (x314_wrongAt : Int32) (x314_word : Int64) => (fX12_readPart N 12 0 3 v_size x314_at x314_sort x314_place x314_sign x314_number x314_fault x314_wrongAt x314_word v_tape).bind (un9 fun (r_321 : Int32) (v_at_321 : Int32) (v_sort_321 : Int32) (v_place_321 : Int32) (v_sign_321 : Int32) (v_number_321 : Int32) (v_fault_321 : Int32) (v_wrongAt_321 : Int32) (v_word_321 : Int64) => (fX12_eatsWord N 13 v_size v_at_321 v_sort_321 v_place_321 v_sign_321 v_number_321 v_word_321 v_tape).bind (un7 fun (r_329 : Int32) (v_at_329 : Int32) (v_sort_329 : Int32) (v_place_329 : Int32) (v_sign_329 : Int32) (v_number_329 : Int32) (v_word_329 : Int64) => jn (un9 fun (x346_s0 : Int32) (x346_at : Int32) (x346_sort : Int32) (x346_place : Int32) (x346_sign : Int32) (x346_number : Int32) (x346_fault : Int32) (x346_wrongAt : Int32) (x346_word : Int64) => if x346_sort = 5 then (some (x346_at, x346_sort, x346_place, x346_sign, x346_number, x346_fault, x346_wrongAt, x346_word, x129_read_dreams, x129_read_names, x129_read_name, x129_read_nameNumber, v_read_isTold, x129_read_nameSort, v_read_act, v_read_what, v_read_then, v_read_met)) else (gd x157_s0 16 (gd x157_s0 16 (gd x157_s0 16 (gd x157_s0 16 (gd x157_s0 16 (some (x346_at, x346_sort, x346_place, x346_sign, x346_number, x346_fault, x346_wrongAt, x346_word, x129_read_dreams, x129_read_names, x129_read_name, x129_read_nameNumber, upd v_read_isTold x157_s0.toNatClampNeg 1, x129_read_nameSort, upd v_read_act x157_s0.toNatClampNeg x260_s0, upd v_read_what x157_s0.toNatClampNeg x314_s0, upd v_read_then x157_s0.toNatClampNeg r_321, upd v_read_met x157_s0.toNatClampNeg x346_s0)))))))) (fun j346 => if r_329 = 0 then (j346 ((-2), v_at_329, v_sort_329, v_place_329, v_sign_329, v_number_329, v_fault_321, v_wrongAt_321, v_word_329)) else ((fX12_readWhole N 0 3 v_size v_at_329 v_sort_329 v_place_329 v_sign_329 v_number_329 v_fault_321 v_wrongAt_321 v_word_329 v_tape).bind (un9 fun (r_338 : Int32) (v_at_338 : Int32) (v_sort_338 : Int32) (v_place_338 : Int32) (v_sign_338 : Int32) (v_number_338 : Int32) (v_fault_338 : Int32) (v_wrongAt_338 : Int32) (v_word_338 : Int64) => j346 (r_338, v_at_338, v_sort_338, v_place_338, v_sign_338, v_number_338, v_fault_338, v_wrongAt_338, v_word_338))))))) (fun j314 => jn (un0 ((fX12_readKnown N 0 v_size x260_at x273_sort x260_place x260_sign x260_number x273_fault x273_wrongAt x260_word x129_read_names x129_read_name x129_read_nameNumber x129_read_nameSort v_tape).bind (un9 fun (r_286 : Int32) (v_at_286 : Int32) (v_sort_286 : Int32) (v_place_286 : Int32) (v_sign_286 : Int32) (v_number_286 : Int32) (v_fault_286 : Int32) (v_wrongAt_286 : Int32) (v_word_286 : Int64) => j314 (r_286, v_at_286, v_sort_286, v_place_286, v_sign_286, v_number_286, v_fault_286, v_wrongAt_286, v_word_286)))) (fun j284 => if x260_s0 = 0 then (j284 ()) else (if x260_s0 = 5 then (j284 ()) else (jn (un0 ((fX12_readKnown N 1 v_size x260_at x273_sort x260_place x260_sign x260_number x273_fault x273_wrongAt x260_word x129_read_names x129_read_name x129_read_nameNumber x129_read_nameSort v_tape).bind (un9 fun (r_306 : Int32) (v_at_306 : Int32) (v_sort_306 : Int32) (v_place_306 : Int32) (v_sign_306 : Int32) (v_number_306 : Int32) (v_fault_306 : Int32) (v_wrongAt_306 : Int32) (v_word_306 : Int64) => j314 (r_306, v_at_306, v_sort_306, v_place_306, v_sign_306, v_number_306, v_fault_306, v_wrongAt_306, v_word_306)))) (fun j304 => if x260_s0 = 1 then (j304 ()) else (if x260_s0 = 3 then (j304 ()) else (j314 ((-2), x260_at, x273_sort, x260_place, x260_sign, x260_number, x273_fault, x273_wrongAt, x260_word))))))))) (fun j273 => if x260_s0 = (-1) then ((fX12_wrong N 1 x260_sort x260_place x177_fault x177_wrongAt).bind (un3 fun (v_sort_270 : Int32) (v_fault_270 : Int32) (v_wrongAt_270 : Int32) => j273 (v_sort_270, v_fault_270, v_wrongAt_270))) else (j273 (x260_sort, x177_fault, x177_wrongAt)))) (fun j260 => if r_184 = 0 then ((fX12_eatsWord N 15 v_size v_at_184 v_sort_184 v_place_184 v_sign_184 v_number_184 v_word_184 v_tape).bind (un7 fun (r_197 : Int32) (v_at_197 : Int32) (v_sort_197 : Int32) (v_place_197 : Int32) (v_sign_197 : Int32) (v_number_197 : Int32) (v_word_197 : Int64) => if r_197 = 0 then ((fX12_eatsWord N 16 v_size v_at_197 v_sort_197 v_place_197 v_sign_197 v_number_197 v_word_197 v_tape).bind (un7 fun (r_210 : Int32) (v_at_210 : Int32) (v_sort_210 : Int32) (v_place_210 : Int32) (v_sign_210 : Int32) (v_number_210 : Int32) (v_word_210 : Int64) => if r_210 = 0 then ((fX12_eatsWord N 17 v_size v_at_210 v_sort_210 v_place_210 v_sign_210 v_number_210 v_word_210 v_tape).bind (un7 fun (r_223 : Int32) (v_at_223 : Int32) (v_sort_223 : Int32) (v_place_223 : Int32) (v_sign_223 : Int32) (v_number_223 : Int32) (v_word_223 : Int64) => if r_223 = 0 then ((fX12_eatsWord N 18 v_size v_at_223 v_sort_223 v_place_223 v_sign_223 v_number_223 v_word_223 v_tape).bind (un7 fun (r_236 : Int32) (v_at_236 : Int32) (v_sort_236 : Int32) (v_place_236 : Int32) (v_sign_236 : Int32) (v_number_236 : Int32) (v_word_236 : Int64) => if r_236 = 0 then ((fX12_eatsWord N 8 v_size v_at_236 v_sort_236 v_place_236 v_sign_236 v_number_236 v_word_236 v_tape).bind (un7 fun (r_249 : Int32) (v_at_249 : Int32) (v_sort_249 : Int32) (v_place_249 : Int32) (v_sign_249 : Int32) (v_number_249 : Int32) (v_word_249 : Int64) => if r_249 = 0 then (j260 ((-1), v_at_249, v_sort_249, v_place_249, v_sign_249, v_number_249, v_word_249)) else (j260 (5, v_at_249, v_sort_249, v_place_249, v_sign_249, v_number_249, v_word_249)))) else (j260 (4, v_at_236, v_sort_236, v_place_236, v_sign_236, v_number_236, v_word_236)))) else (j260 (3, v_at_223, v_sort_223, v_place_223, v_sign_223, v_number_223, v_word_223)))) else (j260 (2, v_at_210, v_sort_210, v_place_210, v_sign_210, v_number_210, v_word_210)))) else (j260 (1, v_at_197, v_sort_197, v_place_197, v_sign_197, v_number_197, v_word_197)))) else (j260 (0, v_at_184, v_sort_184, v_place_184, v_sign_184, v_number_184, v_word_184)))))) (fun j177 => if (v_read_isTold x157_s0.toNatClampNeg) = 0 then (j177 (v_sort_136, v_fault_136, v_wrongAt_136)) else ((fX12_wrong N 3 v_sort_136 v_place_130 v_fault_136 v_wrongAt_136).bind (un3 fun (v_sort_174 : Int32) (v_fault_174 : Int32) (v_wrongAt_174 : Int32) => j177 (v_sort_174, v_fault_174, v_wrongAt_174)))))) (fun j157 => if v_sort_136 = 5 then (j157 0) else (j157 ((4 * x96_s0) + r_136)))))) (fun j129 => if r_24 = (-1) then (if x72_sort = 5 then (j129 (v_read_dreams, v_read_names, v_read_name, v_read_nameNumber, v_read_nameSort)) else ((fX12_adds N 2 x96_s0 x72_sort v_word_1 v_read_names v_read_name v_read_nameSort v_read_nameNumber).bind (un4 fun (v_read_names_113 : Int32) (v_read_name_113 : Nat → Int64) (v_read_nameSort_113 : Nat → Int32) (v_read_nameNumber_113 : Nat → Int32) => j129 (v_read_dreams + 1, v_read_names_113, v_read_name_113, v_read_nameNumber_113, v_read_nameSort_113)))) else (j129 (v_read_dreams, v_read_names, v_read_name, v_read_nameNumber, v_read_nameSort)))) (fun j96 => if r_24 = (-1) then (j96 v_read_dreams) else (gd r_24 19 (j96 (v_read_nameNumber r_24.toNatClampNeg))))) (fun j72 => if r_24 = (-1) then (if v_read_dreams = 4 then ((fX12_wrong N 5 x51_sort v_place_1 x51_fault x51_wrongAt).bind (un3 fun (v_sort_69 : Int32) (v_fault_69 : Int32) (v_wrongAt_69 : Int32) => j72 (v_sort_69, v_fault_69, v_wrongAt_69))) else (j72 (x51_sort, x51_fault, x51_wrongAt))) else (j72 (x51_sort, x51_fault, x51_wrongAt)))) (fun j51 => if r_24 = (-1) then (j51 (x16_sort, x16_fault, x16_wrongAt)) else (gd r_24 19 (if (v_read_nameSort r_24.toNatClampNeg) = 2 then (j51 (x16_sort, x16_fault, x16_wrongAt)) else ((fX12_wrong N 3 x16_sort v_place_1 x16_fault x16_wrongAt).bind (un3 fun (v_sort_48 : Int32) (v_fault_48 : Int32) (v_wrongAt_48 : Int32) => j51 (v_sort_48, v_fault_48, v_wrongAt_48)))))))) (fun j16 => if r_5 = 0 then ((fX12_wrong N 1 v_sort_1 v_place_1 v_fault v_wrongAt).bind (un3 fun (v_sort_13 : Int32) (v_fault_13 : Int32) (v_wrongAt_13 : Int32) => j16 (v_sort_13, v_fault_13, v_wrongAt_13))) else (j16 (v_sort_1, v_fault, v_wrongAt)))))
set_option maxHeartbeats 4000000 in
set_option maxRecDepth 100000 in
theorem ctX12_readDream (l : Launch) (E : EN) (h h_read h_tape h_far h_from h_real h_other h_kept h_set h_w h_book h_noteSort h_whose h_what h_noteIs h_fitting h_dawn h_likes h_walked h_came h_read_creak h_read_doorA h_read_doorB h_read_how h_read_lies h_read_isCold h_read_falls h_read_isFull h_read_isTold h_read_act h_read_what h_read_then h_read_met h_read_bed h_read_dream h_read_listens h_read_name h_read_nameSort h_read_nameNumber : Nat) (v_thrown : Int32) (v_trouble : Int32) (v_where : Int32) (v_inn : Option Nat) (v_taped : Int32) (v_size : Int32) (v_at : Int32) (v_sort : Int32) (v_place : Int32) (v_sign : Int32) (v_number : Int32) (v_fault : Int32) (v_wrongAt : Int32) (v_word : Int64) (v_marks : Int32) (v_notes : Int32) (v_tape : Nat → Int32) (v_read_minutes : Int32) (v_read_rooms : Int32) (v_read_doors : Int32) (v_read_things : Int32) (v_read_dreams : Int32) (v_read_sleepers : Int32) (v_read_listeners : Int32) (v_read_names : Int32) (v_read_name : Nat → Int64) (v_read_nameNumber : Nat → Int32) (v_read_isTold : Nat → Int32) (v_read_nameSort : Nat → Int32) (v_read_act : Nat → Int32) (v_read_what : Nat → Int32) (v_read_then : Nat → Int32) (v_read_met : Nat → Int32) (N : Nat) (z : Int32 × Int32 × Int32 × Int32 × Int32 × Int32 × Int32 × Int64 × Int32 × Int32 × (Nat → Int64) × (Nat → Int32) × (Nat → Int32) × (Nat → Int32) × (Nat → Int32) × (Nat → Int32) × (Nat → Int32) × (Nat → Int32)) (hf : fX12_readDream N v_size v_at v_sort v_place v_sign v_number v_fault v_wrongAt v_word v_tape v_read_dreams v_read_names v_read_name v_read_nameNumber v_read_isTold v_read_nameSort v_read_act v_read_what v_read_then v_read_met = some z) : CTv l E yX12_readDream cX12_readDream 9 9 193 [.ref h] (wX12_readDream E h h_read h_tape h_far h_from h_real h_other h_kept h_set h_w h_book h_noteSort h_whose h_what h_noteIs h_fitting h_dawn h_likes h_walked h_came h_read_creak h_read_doorA h_read_doorB h_read_how h_read_lies h_read_isCold h_read_falls h_read_isFull h_read_isTold h_read_act h_read_what h_read_then h_read_met h_read_bed h_read_dream h_read_listens h_read_name h_read_nameSort h_read_nameNumber v_thrown v_trouble v_where v_inn v_taped v_size v_at v_sort v_place v_sign v_number v_fault v_wrongAt v_word v_marks v_notes v_tape v_read_minutes v_read_rooms v_read_doors v_read_things v_read_dreams v_read_sleepers v_read_listeners v_read_names v_read_name v_read_nameNumber v_read_isTold v_read_nameSort v_read_act v_read_what v_read_then v_read_met) (wX12_readDream E h h_read h_tape h_far h_from h_real h_other h_kept h_set h_w h_book h_noteSort h_whose h_what h_noteIs h_fitting h_dawn h_likes h_walked h_came h_read_creak h_read_doorA h_read_doorB h_read_how h_read_lies h_read_isCold h_read_falls h_read_isFull h_read_isTold h_read_act h_read_what h_read_then h_read_met h_read_bed h_read_dream h_read_listens h_read_name h_read_nameSort h_read_nameNumber v_thrown v_trouble v_where v_inn v_taped v_size z.1 z.2.1 z.2.2.1 z.2.2.2.1 z.2.2.2.2.1 z.2.2.2.2.2.1 z.2.2.2.2.2.2.1 z.2.2.2.2.2.2.2.1 v_marks v_notes v_tape v_read_minutes v_read_rooms v_read_doors v_read_things z.2.2.2.2.2.2.2.2.1 v_read_sleepers v_read_listeners z.2.2.2.2.2.2.2.2.2.1 z.2.2.2.2.2.2.2.2.2.2.1 z.2.2.2.2.2.2.2.2.2.2.2.1 z.2.2.2.2.2.2.2.2.2.2.2.2.1 z.2.2.2.2.2.2.2.2.2.2.2.2.2.1 z.2.2.2.2.2.2.2.2.2.2.2.2.2.2.1 z.2.2.2.2.2.2.2.2.2.2.2.2.2.2.2.1 z.2.2.2.2.2.2.2.2.2.2.2.2.2.2.2.2.1 z.2.2.2.2.2.2.2.2.2.2.2.2.2.2.2.2.2) := by
  intro sz
  refine ct_body (by decide) (Nat.le_of_ble_eq_true rfl) ?_
  intro p e s m args below meth c A ls hAe C hr hin hP hD hS hl
  have C : CX p s m args meth c cX12_readDream RX12 9 E A := C
  have hl : lv_has ls 9 [(0, .ref h)] := hl
  have hx := C.1
  have hb := C.2.1
  rw [hAe]
  clear hAe
  obtain ⟨Q, hQ⟩ : ∃ Q, Q = MQ below (Qv E A (wX12_readDream E h h_read h_tape h_far h_from h_real h_other h_kept h_set h_w h_book h_noteSort h_whose h_what h_noteIs h_fitting h_dawn h_likes h_walked h_came h_read_creak h_read_doorA h_read_doorB h_read_how h_read_lies h_read_isCold h_read_falls h_read_isFull h_read_isTold h_read_act h_read_what h_read_then h_read_met h_read_bed h_read_dream h_read_listens h_read_name h_read_nameSort h_read_nameNumber v_thrown v_trouble v_where v_inn v_taped v_size z.1 z.2.1 z.2.2.1 z.2.2.2.1 z.2.2.2.2.1 z.2.2.2.2.2.1 z.2.2.2.2.2.2.1 z.2.2.2.2.2.2.2.1 v_marks v_notes v_tape v_read_minutes v_read_rooms v_read_doors v_read_things z.2.2.2.2.2.2.2.2.1 v_read_sleepers v_read_listeners z.2.2.2.2.2.2.2.2.2.1 z.2.2.2.2.2.2.2.2.2.2.1 z.2.2.2.2.2.2.2.2.2.2.2.1 z.2.2.2.2.2.2.2.2.2.2.2.2.1 z.2.2.2.2.2.2.2.2.2.2.2.2.2.1 z.2.2.2.2.2.2.2.2.2.2.2.2.2.2.1 z.2.2.2.2.2.2.2.2.2.2.2.2.2.2.2.1 z.2.2.2.2.2.2.2.2.2.2.2.2.2.2.2.2.1 z.2.2.2.2.2.2.2.2.2.2.2.2.2.2.2.2.2)) args s 0 0 A := ⟨_, rfl⟩
  rw [← hQ]
  unfold fX12_readDream at hf
  refine lv_aload_n (pc := 0) hx hb dX12_readDream_0 rfl (lv_at hl 0 rfl) ?_
  obtain ⟨v_at_1, v_sort_1, v_place_1, v_sign_1, v_number_1, v_word_1, hc_1, hf⟩ := bd6 hf
  refine r_dalVv (pc := 1) (ws' := (wX12_readDream E h h_read h_tape h_far h_from h_real h_other h_kept h_set h_w h_book h_noteSort h_whose h_what h_noteIs h_fitting h_dawn h_likes h_walked h_came h_read_creak h_read_doorA h_read_doorB h_read_how h_read_lies h_read_isCold h_read_falls h_read_isFull h_read_isTold h_read_act h_read_what h_read_then h_read_met h_read_bed h_read_dream h_read_listens h_read_name h_read_nameSort h_read_nameNumber v_thrown v_trouble v_where v_inn v_taped v_size v_at_1 v_sort_1 v_place_1 v_sign_1 v_number_1 v_fault v_wrongAt v_word_1 v_marks v_notes v_tape v_read_minutes v_read_rooms v_read_doors v_read_things v_read_dreams v_read_sleepers v_read_listeners v_read_names v_read_name v_read_nameNumber v_read_isTold v_read_nameSort v_read_act v_read_what v_read_then v_read_met)) (As := []) (rest := []) C (ctX12_goesOn l E h h_tape h_far h_from h_real h_other h_kept h_set h_w h_book h_noteSort h_whose h_what h_noteIs h_fitting h_dawn h_likes h_walked h_came v_thrown v_trouble v_where v_inn (some h_read) v_taped v_size v_at v_sort v_place v_sign v_number v_fault v_wrongAt v_word v_marks v_notes v_tape N (v_at_1, v_sort_1, v_place_1, v_sign_1, v_number_1, v_word_1) hc_1) ml_X12_142 ⟨Nat.le_of_ble_eq_true rfl, Nat.le_of_ble_eq_true rfl⟩ hP hD hS 0 rfl rfl rfl [0, 1] [11, 12, 2, 3, 4, 5, 6, 7, 8, 9, 10] 11 rfl rfl rfl rfl rfl rfl rfl hl.1 rfl (Nat.le_of_ble_eq_true rfl) ⟨Nat.zero_le _, Nat.zero_le _⟩ dX12_readDream_1 ?_
  clear hP hD hS; intro H locs hP hD hS
  refine lv_aload_n (pc := 4) hx hb dX12_readDream_4 rfl (lv_at hl 0 rfl) ?_
  obtain ⟨r_5, hc_5, hf⟩ := bd1 hf
  refine r_dalVi (pc := 5) (ws' := (wX12_readDream E h h_read h_tape h_far h_from h_real h_other h_kept h_set h_w h_book h_noteSort h_whose h_what h_noteIs h_fitting h_dawn h_likes h_walked h_came h_read_creak h_read_doorA h_read_doorB h_read_how h_read_lies h_read_isCold h_read_falls h_read_isFull h_read_isTold h_read_act h_read_what h_read_then h_read_met h_read_bed h_read_dream h_read_listens h_read_name h_read_nameSort h_read_nameNumber v_thrown v_trouble v_where v_inn v_taped v_size v_at_1 v_sort_1 v_place_1 v_sign_1 v_number_1 v_fault v_wrongAt v_word_1 v_marks v_notes v_tape v_read_minutes v_read_rooms v_read_doors v_read_things v_read_dreams v_read_sleepers v_read_listeners v_read_names v_read_name v_read_nameNumber v_read_isTold v_read_nameSort v_read_act v_read_what v_read_then v_read_met)) (As := []) (rest := []) C (ctX12_isName l E h h_tape h_far h_from h_real h_other h_kept h_set h_w h_book h_noteSort h_whose h_what h_noteIs h_fitting h_dawn h_likes h_walked h_came v_thrown v_trouble v_where v_inn (some h_read) v_taped v_size v_at_1 v_sort_1 v_place_1 v_sign_1 v_number_1 v_fault v_wrongAt v_word_1 v_marks v_notes N r_5 hc_5) ml_X12_220 ⟨Nat.le_of_ble_eq_true rfl, Nat.le_of_ble_eq_true rfl⟩ hP hD hS 0 rfl rfl rfl [0] [11, 1, 2, 3, 4, 5, 6, 7, 8, 9, 10] 11 rfl rfl rfl rfl rfl rfl rfl hl.1 rfl (Nat.le_of_ble_eq_true rfl) ⟨Nat.zero_le _, Nat.zero_le _⟩ dX12_readDream_5 ?_
  clear hP hD hS; intro H locs hP hD hS
  refine jnK hf (fun j16 ej16 hf => ?_)
  have hj16 : ∀ (x16_sort : Int32) (x16_fault : Int32) (x16_wrongAt : Int32) , j16 (x16_sort, x16_fault, x16_wrongAt) = some z → AT p l e (rmOf 9 193) s m args below meth c E A Q 0 0 9 [(0, .ref h)] (wX12_readDream E h h_read h_tape h_far h_from h_real h_other h_kept h_set h_w h_book h_noteSort h_whose h_what h_noteIs h_fitting h_dawn h_likes h_walked h_came h_read_creak h_read_doorA h_read_doorB h_read_how h_read_lies h_read_isCold h_read_falls h_read_isFull h_read_isTold h_read_act h_read_what h_read_then h_read_met h_read_bed h_read_dream h_read_listens h_read_name h_read_nameSort h_read_nameNumber v_thrown v_trouble v_where v_inn v_taped v_size v_at_1 x16_sort v_place_1 v_sign_1 v_number_1 x16_fault x16_wrongAt v_word_1 v_marks v_notes v_tape v_read_minutes v_read_rooms v_read_doors v_read_things v_read_dreams v_read_sleepers v_read_listeners v_read_names v_read_name v_read_nameNumber v_read_isTold v_read_nameSort v_read_act v_read_what v_read_then v_read_met) 16 [] := by
    intro x16_sort x16_fault x16_wrongAt hf H locs ls hl hP hD hS
    rw [ej16] at hf
    replace hf := un3_s hf
    refine lv_aload_n (pc := 16) hx hb dX12_readDream_16 rfl (lv_at hl 0 rfl) ?_
    refine r_get (pc := 17) C hP 0 rfl fl_X12_202 rfl dX12_readDream_17 ?_
    refine lv_aload_n (pc := 20) hx hb dX12_readDream_20 rfl (lv_at hl 0 rfl) ?_
    refine r_get (pc := 21) C hP 0 rfl fl_X12_118 rfl dX12_readDream_21 ?_
    obtain ⟨r_24, hc_24, hf⟩ := bd1 hf
    refine r_dalVi (pc := 24) (ws' := (wX12_readDream E h h_read h_tape h_far h_from h_real h_other h_kept h_set h_w h_book h_noteSort h_whose h_what h_noteIs h_fitting h_dawn h_likes h_walked h_came h_read_creak h_read_doorA h_read_doorB h_read_how h_read_lies h_read_isCold h_read_falls h_read_isFull h_read_isTold h_read_act h_read_what h_read_then h_read_met h_read_bed h_read_dream h_read_listens h_read_name h_read_nameSort h_read_nameNumber v_thrown v_trouble v_where v_inn v_taped v_size v_at_1 x16_sort v_place_1 v_sign_1 v_number_1 x16_fault x16_wrongAt v_word_1 v_marks v_notes v_tape v_read_minutes v_read_rooms v_read_doors v_read_things v_read_dreams v_read_sleepers v_read_listeners v_read_names v_read_name v_read_nameNumber v_read_isTold v_read_nameSort v_read_act v_read_what v_read_then v_read_met)) (As := [.long v_word_1]) (rest := []) C (ctX11_find l E h_read h_read_creak h_read_doorA h_read_doorB h_read_how h_read_lies h_read_isCold h_read_falls h_read_isFull h_read_isTold h_read_act h_read_what h_read_then h_read_met h_read_bed h_read_dream h_read_listens h_read_name h_read_nameSort h_read_nameNumber v_read_minutes v_read_rooms v_read_doors v_read_things v_read_dreams v_read_sleepers v_read_listeners v_read_names v_read_name N v_word_1 r_24 hc_24) ml_X12_224 ⟨Nat.le_of_ble_eq_true rfl, Nat.le_of_ble_eq_true rfl⟩ hP hD hS 2 rfl rfl rfl [2, 3] [0, 1, 11, 12, 4, 5, 6, 7, 8, 9, 10] 11 rfl rfl rfl rfl rfl rfl rfl hl.1 rfl (Nat.le_of_ble_eq_true rfl) ⟨Nat.zero_le _, Nat.zero_le _⟩ dX12_readDream_24 ?_
    clear hP hD hS; intro H locs hP hD hS
    refine lv_istore_n (pc := 27) (lv' := [(1, .int r_24), (0, .ref h)]) hx hb dX12_readDream_27 rfl hl (by decide) rfl (fun ls hl => ?_)
    refine lv_iload_n (pc := 28) hx hb dX12_readDream_28 rfl (lv_at hl 0 rfl) ?_
    refine lv_iconst (pc := 29) (v := (-1)) hx hb dX12_readDream_29 (by decide) ?_
    refine jnK hf (fun j51 ej51 hf => ?_)
    have hj51 : ∀ (x51_sort : Int32) (x51_fault : Int32) (x51_wrongAt : Int32) , j51 (x51_sort, x51_fault, x51_wrongAt) = some z → AT p l e (rmOf 9 193) s m args below meth c E A Q 0 0 9 [(0, .ref h), (1, .int r_24)] (wX12_readDream E h h_read h_tape h_far h_from h_real h_other h_kept h_set h_w h_book h_noteSort h_whose h_what h_noteIs h_fitting h_dawn h_likes h_walked h_came h_read_creak h_read_doorA h_read_doorB h_read_how h_read_lies h_read_isCold h_read_falls h_read_isFull h_read_isTold h_read_act h_read_what h_read_then h_read_met h_read_bed h_read_dream h_read_listens h_read_name h_read_nameSort h_read_nameNumber v_thrown v_trouble v_where v_inn v_taped v_size v_at_1 x51_sort v_place_1 v_sign_1 v_number_1 x51_fault x51_wrongAt v_word_1 v_marks v_notes v_tape v_read_minutes v_read_rooms v_read_doors v_read_things v_read_dreams v_read_sleepers v_read_listeners v_read_names v_read_name v_read_nameNumber v_read_isTold v_read_nameSort v_read_act v_read_what v_read_then v_read_met) 51 [] := by
      intro x51_sort x51_fault x51_wrongAt hf H locs ls hl hP hD hS
      rw [ej51] at hf
      replace hf := un3_s hf
      refine lv_iload_n (pc := 51) hx hb dX12_readDream_51 rfl (lv_at hl 1 rfl) ?_
      refine lv_iconst (pc := 52) (v := (-1)) hx hb dX12_readDream_52 (by decide) ?_
      refine jnK hf (fun j72 ej72 hf => ?_)
      have hj72 : ∀ (x72_sort : Int32) (x72_fault : Int32) (x72_wrongAt : Int32) , j72 (x72_sort, x72_fault, x72_wrongAt) = some z → AT p l e (rmOf 9 193) s m args below meth c E A Q 0 0 9 [(0, .ref h), (1, .int r_24)] (wX12_readDream E h h_read h_tape h_far h_from h_real h_other h_kept h_set h_w h_book h_noteSort h_whose h_what h_noteIs h_fitting h_dawn h_likes h_walked h_came h_read_creak h_read_doorA h_read_doorB h_read_how h_read_lies h_read_isCold h_read_falls h_read_isFull h_read_isTold h_read_act h_read_what h_read_then h_read_met h_read_bed h_read_dream h_read_listens h_read_name h_read_nameSort h_read_nameNumber v_thrown v_trouble v_where v_inn v_taped v_size v_at_1 x72_sort v_place_1 v_sign_1 v_number_1 x72_fault x72_wrongAt v_word_1 v_marks v_notes v_tape v_read_minutes v_read_rooms v_read_doors v_read_things v_read_dreams v_read_sleepers v_read_listeners v_read_names v_read_name v_read_nameNumber v_read_isTold v_read_nameSort v_read_act v_read_what v_read_then v_read_met) 72 [] := by
        intro x72_sort x72_fault x72_wrongAt hf H locs ls hl hP hD hS
        rw [ej72] at hf
        replace hf := un3_s hf
        refine lv_iload_n (pc := 72) hx hb dX12_readDream_72 rfl (lv_at hl 1 rfl) ?_
        refine lv_iconst (pc := 73) (v := (-1)) hx hb dX12_readDream_73 (by decide) ?_
        refine jnK hf (fun j96 ej96 hf => ?_)
        have hj96 : ∀ (x96_s0 : Int32) , j96 x96_s0 = some z → AT p l e (rmOf 9 193) s m args below meth c E A Q 0 0 9 [(0, .ref h), (1, .int r_24)] (wX12_readDream E h h_read h_tape h_far h_from h_real h_other h_kept h_set h_w h_book h_noteSort h_whose h_what h_noteIs h_fitting h_dawn h_likes h_walked h_came h_read_creak h_read_doorA h_read_doorB h_read_how h_read_lies h_read_isCold h_read_falls h_read_isFull h_read_isTold h_read_act h_read_what h_read_then h_read_met h_read_bed h_read_dream h_read_listens h_read_name h_read_nameSort h_read_nameNumber v_thrown v_trouble v_where v_inn v_taped v_size v_at_1 x72_sort v_place_1 v_sign_1 v_number_1 x72_fault x72_wrongAt v_word_1 v_marks v_notes v_tape v_read_minutes v_read_rooms v_read_doors v_read_things v_read_dreams v_read_sleepers v_read_listeners v_read_names v_read_name v_read_nameNumber v_read_isTold v_read_nameSort v_read_act v_read_what v_read_then v_read_met) 96 [.int x96_s0] := by
          intro x96_s0 hf H locs ls hl hP hD hS
          rw [ej96] at hf
          replace hf := un1_s hf
          refine lv_istore_n (pc := 96) (lv' := [(2, .int x96_s0), (0, .ref h), (1, .int r_24)]) hx hb dX12_readDream_96 rfl hl (by decide) rfl (fun ls hl => ?_)
          refine lv_iload_n (pc := 97) hx hb dX12_readDream_97 rfl (lv_at hl 2 rfl) ?_
          refine lv_iconst (pc := 98) (v := (-1)) hx hb dX12_readDream_98 (by decide) ?_
          refine jnK hf (fun j129 ej129 hf => ?_)
          have hj129 : ∀ (x129_read_dreams : Int32) (x129_read_names : Int32) (x129_read_name : Nat → Int64) (x129_read_nameNumber : Nat → Int32) (x129_read_nameSort : Nat → Int32) , j129 (x129_read_dreams, x129_read_names, x129_read_name, x129_read_nameNumber, x129_read_nameSort) = some z → AT p l e (rmOf 9 193) s m args below meth c E A Q 0 0 9 [(0, .ref h), (2, .int x96_s0)] (wX12_readDream E h h_read h_tape h_far h_from h_real h_other h_kept h_set h_w h_book h_noteSort h_whose h_what h_noteIs h_fitting h_dawn h_likes h_walked h_came h_read_creak h_read_doorA h_read_doorB h_read_how h_read_lies h_read_isCold h_read_falls h_read_isFull h_read_isTold h_read_act h_read_what h_read_then h_read_met h_read_bed h_read_dream h_read_listens h_read_name h_read_nameSort h_read_nameNumber v_thrown v_trouble v_where v_inn v_taped v_size v_at_1 x72_sort v_place_1 v_sign_1 v_number_1 x72_fault x72_wrongAt v_word_1 v_marks v_notes v_tape v_read_minutes v_read_rooms v_read_doors v_read_things x129_read_dreams v_read_sleepers v_read_listeners x129_read_names x129_read_name x129_read_nameNumber v_read_isTold x129_read_nameSort v_read_act v_read_what v_read_then v_read_met) 129 [] := by
            intro x129_read_dreams x129_read_names x129_read_name x129_read_nameNumber x129_read_nameSort hf H locs ls hl hP hD hS
            rw [ej129] at hf
            replace hf := un5_s hf
            refine lv_aload_n (pc := 129) hx hb dX12_readDream_129 rfl (lv_at hl 0 rfl) ?_
            obtain ⟨v_at_130, v_sort_130, v_place_130, v_sign_130, v_number_130, v_word_130, hc_130, hf⟩ := bd6 hf
            refine r_dalVv (pc := 130) (ws' := (wX12_readDream E h h_read h_tape h_far h_from h_real h_other h_kept h_set h_w h_book h_noteSort h_whose h_what h_noteIs h_fitting h_dawn h_likes h_walked h_came h_read_creak h_read_doorA h_read_doorB h_read_how h_read_lies h_read_isCold h_read_falls h_read_isFull h_read_isTold h_read_act h_read_what h_read_then h_read_met h_read_bed h_read_dream h_read_listens h_read_name h_read_nameSort h_read_nameNumber v_thrown v_trouble v_where v_inn v_taped v_size v_at_130 v_sort_130 v_place_130 v_sign_130 v_number_130 x72_fault x72_wrongAt v_word_130 v_marks v_notes v_tape v_read_minutes v_read_rooms v_read_doors v_read_things x129_read_dreams v_read_sleepers v_read_listeners x129_read_names x129_read_name x129_read_nameNumber v_read_isTold x129_read_nameSort v_read_act v_read_what v_read_then v_read_met)) (As := []) (rest := []) C (ctX12_goesOn l E h h_tape h_far h_from h_real h_other h_kept h_set h_w h_book h_noteSort h_whose h_what h_noteIs h_fitting h_dawn h_likes h_walked h_came v_thrown v_trouble v_where v_inn (some h_read) v_taped v_size v_at_1 x72_sort v_place_1 v_sign_1 v_number_1 x72_fault x72_wrongAt v_word_1 v_marks v_notes v_tape N (v_at_130, v_sort_130, v_place_130, v_sign_130, v_number_130, v_word_130) hc_130) ml_X12_142 ⟨Nat.le_of_ble_eq_true rfl, Nat.le_of_ble_eq_true rfl⟩ hP hD hS 0 rfl rfl rfl [0, 1] [11, 12, 2, 3, 4, 5, 6, 7, 8, 9, 10] 11 rfl rfl rfl rfl rfl rfl rfl hl.1 rfl (Nat.le_of_ble_eq_true rfl) ⟨Nat.zero_le _, Nat.zero_le _⟩ dX12_readDream_130 ?_
            clear hP hD hS; intro H locs hP hD hS
            refine lv_aload_n (pc := 133) hx hb dX12_readDream_133 rfl (lv_at hl 0 rfl) ?_
            refine lv_iconst (pc := 134) (v := 0) hx hb dX12_readDream_134 (by decide) ?_
            refine lv_iconst (pc := 135) (v := 3) hx hb dX12_readDream_135 (by decide) ?_
            obtain ⟨r_136, v_sort_136, v_fault_136, v_wrongAt_136, hc_136, hf⟩ := bd4 hf
            refine r_dalVi (pc := 136) (ws' := (wX12_readDream E h h_read h_tape h_far h_from h_real h_other h_kept h_set h_w h_book h_noteSort h_whose h_what h_noteIs h_fitting h_dawn h_likes h_walked h_came h_read_creak h_read_doorA h_read_doorB h_read_how h_read_lies h_read_isCold h_read_falls h_read_isFull h_read_isTold h_read_act h_read_what h_read_then h_read_met h_read_bed h_read_dream h_read_listens h_read_name h_read_nameSort h_read_nameNumber v_thrown v_trouble v_where v_inn v_taped v_size v_at_130 v_sort_136 v_place_130 v_sign_130 v_number_130 v_fault_136 v_wrongAt_136 v_word_130 v_marks v_notes v_tape v_read_minutes v_read_rooms v_read_doors v_read_things x129_read_dreams v_read_sleepers v_read_listeners x129_read_names x129_read_name x129_read_nameNumber v_read_isTold x129_read_nameSort v_read_act v_read_what v_read_then v_read_met)) (As := [.int 0, .int 3]) (rest := []) C (ctX12_whole l E h h_tape h_far h_from h_real h_other h_kept h_set h_w h_book h_noteSort h_whose h_what h_noteIs h_fitting h_dawn h_likes h_walked h_came v_thrown v_trouble v_where v_inn (some h_read) v_taped v_size v_at_130 v_sort_130 v_place_130 v_sign_130 v_number_130 x72_fault x72_wrongAt v_word_130 v_marks v_notes N 0 3 (r_136, v_sort_136, v_fault_136, v_wrongAt_136) hc_136) ml_X12_153 ⟨Nat.le_of_ble_eq_true rfl, Nat.le_of_ble_eq_true rfl⟩ hP hD hS 0 rfl rfl rfl [0] [11, 1, 2, 3, 4, 5, 6, 7, 8, 9, 10] 11 rfl rfl rfl rfl rfl rfl rfl hl.1 rfl (Nat.le_of_ble_eq_true rfl) ⟨Nat.zero_le _, Nat.zero_le _⟩ dX12_readDream_136 ?_
            clear hP hD hS; intro H locs hP hD hS
            refine lv_istore_n (pc := 139) (lv' := [(3, .int r_136), (0, .ref h), (2, .int x96_s0)]) hx hb dX12_readDream_139 rfl hl (by decide) rfl (fun ls hl => ?_)
            refine lv_aload_n (pc := 140) hx hb dX12_readDream_140 rfl (lv_at hl 1 rfl) ?_
            refine r_get (pc := 141) C hP 0 rfl fl_X12_99 rfl dX12_readDream_141 ?_
            refine lv_iconst (pc := 144) (v := 5) hx hb dX12_readDream_144 (by decide) ?_
            refine jnK hf (fun j157 ej157 hf => ?_)
            have hj157 : ∀ (x157_s0 : Int32) , j157 x157_s0 = some z → AT p l e (rmOf 9 193) s m args below meth c E A Q 0 0 9 [(0, .ref h)] (wX12_readDream E h h_read h_tape h_far h_from h_real h_other h_kept h_set h_w h_book h_noteSort h_whose h_what h_noteIs h_fitting h_dawn h_likes h_walked h_came h_read_creak h_read_doorA h_read_doorB h_read_how h_read_lies h_read_isCold h_read_falls h_read_isFull h_read_isTold h_read_act h_read_what h_read_then h_read_met h_read_bed h_read_dream h_read_listens h_read_name h_read_nameSort h_read_nameNumber v_thrown v_trouble v_where v_inn v_taped v_size v_at_130 v_sort_136 v_place_130 v_sign_130 v_number_130 v_fault_136 v_wrongAt_136 v_word_130 v_marks v_notes v_tape v_read_minutes v_read_rooms v_read_doors v_read_things x129_read_dreams v_read_sleepers v_read_listeners x129_read_names x129_read_name x129_read_nameNumber v_read_isTold x129_read_nameSort v_read_act v_read_what v_read_then v_read_met) 157 [.int x157_s0] := by
              intro x157_s0 hf H locs ls hl hP hD hS
              rw [ej157] at hf
              replace hf := un1_s hf
              refine lv_istore (pc := 157) (lv' := [(4, .int x157_s0), (0, .ref h)]) hx hb dX12_readDream_157 hl (by decide) rfl (fun ls hl => ?_)
              refine lv_aload_n (pc := 159) hx hb dX12_readDream_159 rfl (lv_at hl 1 rfl) ?_
              refine r_get (pc := 160) C hP 0 rfl fl_X12_202 rfl dX12_readDream_160 ?_
              refine r_get (pc := 163) C hP 2 rfl fl_X12_328 rfl dX12_readDream_163 ?_
              refine lv_iload (pc := 166) hx hb dX12_readDream_166 (lv_at hl 0 rfl) ?_
              obtain ⟨hi_168, hf⟩ := gd_s hf
              refine r_zald (pc := 168) C hP 5 rfl hi_168 dX12_readDream_168 ?_
              refine jnK hf (fun j177 ej177 hf => ?_)
              have hj177 : ∀ (x177_sort : Int32) (x177_fault : Int32) (x177_wrongAt : Int32) , j177 (x177_sort, x177_fault, x177_wrongAt) = some z → AT p l e (rmOf 9 193) s m args below meth c E A Q 0 0 9 [(0, .ref h), (4, .int x157_s0)] (wX12_readDream E h h_read h_tape h_far h_from h_real h_other h_kept h_set h_w h_book h_noteSort h_whose h_what h_noteIs h_fitting h_dawn h_likes h_walked h_came h_read_creak h_read_doorA h_read_doorB h_read_how h_read_lies h_read_isCold h_read_falls h_read_isFull h_read_isTold h_read_act h_read_what h_read_then h_read_met h_read_bed h_read_dream h_read_listens h_read_name h_read_nameSort h_read_nameNumber v_thrown v_trouble v_where v_inn v_taped v_size v_at_130 x177_sort v_place_130 v_sign_130 v_number_130 x177_fault x177_wrongAt v_word_130 v_marks v_notes v_tape v_read_minutes v_read_rooms v_read_doors v_read_things x129_read_dreams v_read_sleepers v_read_listeners x129_read_names x129_read_name x129_read_nameNumber v_read_isTold x129_read_nameSort v_read_act v_read_what v_read_then v_read_met) 177 [] := by
                intro x177_sort x177_fault x177_wrongAt hf H locs ls hl hP hD hS
                rw [ej177] at hf
                replace hf := un3_s hf
                refine lv_aload_n (pc := 177) hx hb dX12_readDream_177 rfl (lv_at hl 0 rfl) ?_
                obtain ⟨v_at_178, v_sort_178, v_place_178, v_sign_178, v_number_178, v_word_178, hc_178, hf⟩ := bd6 hf
                refine r_dalVv (pc := 178) (ws' := (wX12_readDream E h h_read h_tape h_far h_from h_real h_other h_kept h_set h_w h_book h_noteSort h_whose h_what h_noteIs h_fitting h_dawn h_likes h_walked h_came h_read_creak h_read_doorA h_read_doorB h_read_how h_read_lies h_read_isCold h_read_falls h_read_isFull h_read_isTold h_read_act h_read_what h_read_then h_read_met h_read_bed h_read_dream h_read_listens h_read_name h_read_nameSort h_read_nameNumber v_thrown v_trouble v_where v_inn v_taped v_size v_at_178 v_sort_178 v_place_178 v_sign_178 v_number_178 x177_fault x177_wrongAt v_word_178 v_marks v_notes v_tape v_read_minutes v_read_rooms v_read_doors v_read_things x129_read_dreams v_read_sleepers v_read_listeners x129_read_names x129_read_name x129_read_nameNumber v_read_isTold x129_read_nameSort v_read_act v_read_what v_read_then v_read_met)) (As := []) (rest := []) C (ctX12_goesOn l E h h_tape h_far h_from h_real h_other h_kept h_set h_w h_book h_noteSort h_whose h_what h_noteIs h_fitting h_dawn h_likes h_walked h_came v_thrown v_trouble v_where v_inn (some h_read) v_taped v_size v_at_130 x177_sort v_place_130 v_sign_130 v_number_130 x177_fault x177_wrongAt v_word_130 v_marks v_notes v_tape N (v_at_178, v_sort_178, v_place_178, v_sign_178, v_number_178, v_word_178) hc_178) ml_X12_142 ⟨Nat.le_of_ble_eq_true rfl, Nat.le_of_ble_eq_true rfl⟩ hP hD hS 0 rfl rfl rfl [0, 1] [11, 12, 2, 3, 4, 5, 6, 7, 8, 9, 10] 11 rfl rfl rfl rfl rfl rfl rfl hl.1 rfl (Nat.le_of_ble_eq_true rfl) ⟨Nat.zero_le _, Nat.zero_le _⟩ dX12_readDream_178 ?_
                clear hP hD hS; intro H locs hP hD hS
                refine lv_aload_n (pc := 181) hx hb dX12_readDream_181 rfl (lv_at hl 0 rfl) ?_
                refine r_ldcS (pc := 182) C (C.kx.2.2.2.2.2 14 (by decide)).2.2.2.2 dX12_readDream_182 ?_
                obtain ⟨r_184, v_at_184, v_sort_184, v_place_184, v_sign_184, v_number_184, v_word_184, hc_184, hf⟩ := bd7 hf
                refine r_dalVi (pc := 184) (ws' := (wX12_readDream E h h_read h_tape h_far h_from h_real h_other h_kept h_set h_w h_book h_noteSort h_whose h_what h_noteIs h_fitting h_dawn h_likes h_walked h_came h_read_creak h_read_doorA h_read_doorB h_read_how h_read_lies h_read_isCold h_read_falls h_read_isFull h_read_isTold h_read_act h_read_what h_read_then h_read_met h_read_bed h_read_dream h_read_listens h_read_name h_read_nameSort h_read_nameNumber v_thrown v_trouble v_where v_inn v_taped v_size v_at_184 v_sort_184 v_place_184 v_sign_184 v_number_184 x177_fault x177_wrongAt v_word_184 v_marks v_notes v_tape v_read_minutes v_read_rooms v_read_doors v_read_things x129_read_dreams v_read_sleepers v_read_listeners x129_read_names x129_read_name x129_read_nameNumber v_read_isTold x129_read_nameSort v_read_act v_read_what v_read_then v_read_met)) (As := [.ref (E.2.2.2.2.1 14)]) (rest := []) C (ctX12_eatsWord l E h h_tape h_far h_from h_real h_other h_kept h_set h_w h_book h_noteSort h_whose h_what h_noteIs h_fitting h_dawn h_likes h_walked h_came v_thrown v_trouble v_where v_inn (some h_read) v_taped v_size v_at_178 v_sort_178 v_place_178 v_sign_178 v_number_178 x177_fault x177_wrongAt v_word_178 v_marks v_notes v_tape 14 (by decide) N (r_184, v_at_184, v_sort_184, v_place_184, v_sign_184, v_number_184, v_word_184) hc_184) ml_X12_284 ⟨Nat.le_of_ble_eq_true rfl, Nat.le_of_ble_eq_true rfl⟩ hP hD hS 0 rfl rfl rfl [0, 1] [11, 12, 2, 3, 4, 5, 6, 7, 8, 9, 10] 11 rfl rfl rfl rfl rfl rfl rfl hl.1 rfl (Nat.le_of_ble_eq_true rfl) ⟨Nat.zero_le _, Nat.zero_le _⟩ dX12_readDream_184 ?_
                clear hP hD hS; intro H locs hP hD hS
                refine jnK hf (fun j260 ej260 hf => ?_)
                have hj260 : ∀ (x260_s0 : Int32) (x260_at : Int32) (x260_sort : Int32) (x260_place : Int32) (x260_sign : Int32) (x260_number : Int32) (x260_word : Int64) , j260 (x260_s0, x260_at, x260_sort, x260_place, x260_sign, x260_number, x260_word) = some z → AT p l e (rmOf 9 193) s m args below meth c E A Q 0 0 9 [(0, .ref h), (4, .int x157_s0)] (wX12_readDream E h h_read h_tape h_far h_from h_real h_other h_kept h_set h_w h_book h_noteSort h_whose h_what h_noteIs h_fitting h_dawn h_likes h_walked h_came h_read_creak h_read_doorA h_read_doorB h_read_how h_read_lies h_read_isCold h_read_falls h_read_isFull h_read_isTold h_read_act h_read_what h_read_then h_read_met h_read_bed h_read_dream h_read_listens h_read_name h_read_nameSort h_read_nameNumber v_thrown v_trouble v_where v_inn v_taped v_size x260_at x260_sort x260_place x260_sign x260_number x177_fault x177_wrongAt x260_word v_marks v_notes v_tape v_read_minutes v_read_rooms v_read_doors v_read_things x129_read_dreams v_read_sleepers v_read_listeners x129_read_names x129_read_name x129_read_nameNumber v_read_isTold x129_read_nameSort v_read_act v_read_what v_read_then v_read_met) 260 [.int x260_s0] := by
                  intro x260_s0 x260_at x260_sort x260_place x260_sign x260_number x260_word hf H locs ls hl hP hD hS
                  rw [ej260] at hf
                  replace hf := un7_s hf
                  refine lv_istore (pc := 260) (lv' := [(5, .int x260_s0), (0, .ref h), (4, .int x157_s0)]) hx hb dX12_readDream_260 hl (by decide) rfl (fun ls hl => ?_)
                  refine lv_iload (pc := 262) hx hb dX12_readDream_262 (lv_at hl 0 rfl) ?_
                  refine lv_iconst (pc := 264) (v := (-1)) hx hb dX12_readDream_264 (by decide) ?_
                  refine jnK hf (fun j273 ej273 hf => ?_)
                  have hj273 : ∀ (x273_sort : Int32) (x273_fault : Int32) (x273_wrongAt : Int32) , j273 (x273_sort, x273_fault, x273_wrongAt) = some z → AT p l e (rmOf 9 193) s m args below meth c E A Q 0 0 9 [(0, .ref h), (4, .int x157_s0), (5, .int x260_s0)] (wX12_readDream E h h_read h_tape h_far h_from h_real h_other h_kept h_set h_w h_book h_noteSort h_whose h_what h_noteIs h_fitting h_dawn h_likes h_walked h_came h_read_creak h_read_doorA h_read_doorB h_read_how h_read_lies h_read_isCold h_read_falls h_read_isFull h_read_isTold h_read_act h_read_what h_read_then h_read_met h_read_bed h_read_dream h_read_listens h_read_name h_read_nameSort h_read_nameNumber v_thrown v_trouble v_where v_inn v_taped v_size x260_at x273_sort x260_place x260_sign x260_number x273_fault x273_wrongAt x260_word v_marks v_notes v_tape v_read_minutes v_read_rooms v_read_doors v_read_things x129_read_dreams v_read_sleepers v_read_listeners x129_read_names x129_read_name x129_read_nameNumber v_read_isTold x129_read_nameSort v_read_act v_read_what v_read_then v_read_met) 273 [] := by
                    intro x273_sort x273_fault x273_wrongAt hf H locs ls hl hP hD hS
                    rw [ej273] at hf
                    replace hf := un3_s hf
                    refine lv_iload (pc := 273) hx hb dX12_readDream_273 (lv_at hl 2 rfl) ?_
                    refine jnK hf (fun j314 ej314 hf => ?_)
                    have hj314 : ∀ (x314_s0 : Int32) (x314_at : Int32) (x314_sort : Int32) (x314_place : Int32) (x314_sign : Int32) (x314_number : Int32) (x314_fault : Int32) (x314_wrongAt : Int32) (x314_word : Int64) , j314 (x314_s0, x314_at, x314_sort, x314_place, x314_sign, x314_number, x314_fault, x314_wrongAt, x314_word) = some z → AT p l e (rmOf 9 193) s m args below meth c E A Q 0 0 9 [(0, .ref h), (4, .int x157_s0), (5, .int x260_s0)] (wX12_readDream E h h_read h_tape h_far h_from h_real h_other h_kept h_set h_w h_book h_noteSort h_whose h_what h_noteIs h_fitting h_dawn h_likes h_walked h_came h_read_creak h_read_doorA h_read_doorB h_read_how h_read_lies h_read_isCold h_read_falls h_read_isFull h_read_isTold h_read_act h_read_what h_read_then h_read_met h_read_bed h_read_dream h_read_listens h_read_name h_read_nameSort h_read_nameNumber v_thrown v_trouble v_where v_inn v_taped v_size x314_at x314_sort x314_place x314_sign x314_number x314_fault x314_wrongAt x314_word v_marks v_notes v_tape v_read_minutes v_read_rooms v_read_doors v_read_things x129_read_dreams v_read_sleepers v_read_listeners x129_read_names x129_read_name x129_read_nameNumber v_read_isTold x129_read_nameSort v_read_act v_read_what v_read_then v_read_met) 314 [.int x314_s0] := by
                      intro x314_s0 x314_at x314_sort x314_place x314_sign x314_number x314_fault x314_wrongAt x314_word hf H locs ls hl hP hD hS
                      rw [ej314] at hf
                      replace hf := un9_s hf
                      refine lv_istore (pc := 314) (lv' := [(6, .int x314_s0), (0, .ref h), (4, .int x157_s0), (5, .int x260_s0)]) hx hb dX12_readDream_314 hl (by decide) rfl (fun ls hl => ?_)
                      refine lv_aload_n (pc := 316) hx hb dX12_readDream_316 rfl (lv_at hl 1 rfl) ?_
                      refine r_ldcS (pc := 317) C (C.kx.2.2.2.2.2 12 (by decide)).2.2.2.2 dX12_readDream_317 ?_
                      refine lv_iconst (pc := 319) (v := 0) hx hb dX12_readDream_319 (by decide) ?_
                      refine lv_iconst (pc := 320) (v := 3) hx hb dX12_readDream_320 (by decide) ?_
                      obtain ⟨r_321, v_at_321, v_sort_321, v_place_321, v_sign_321, v_number_321, v_fault_321, v_wrongAt_321, v_word_321, hc_321, hf⟩ := bd9 hf
                      refine r_dalVi (pc := 321) (ws' := (wX12_readDream E h h_read h_tape h_far h_from h_real h_other h_kept h_set h_w h_book h_noteSort h_whose h_what h_noteIs h_fitting h_dawn h_likes h_walked h_came h_read_creak h_read_doorA h_read_doorB h_read_how h_read_lies h_read_isCold h_read_falls h_read_isFull h_read_isTold h_read_act h_read_what h_read_then h_read_met h_read_bed h_read_dream h_read_listens h_read_name h_read_nameSort h_read_nameNumber v_thrown v_trouble v_where v_inn v_taped v_size v_at_321 v_sort_321 v_place_321 v_sign_321 v_number_321 v_fault_321 v_wrongAt_321 v_word_321 v_marks v_notes v_tape v_read_minutes v_read_rooms v_read_doors v_read_things x129_read_dreams v_read_sleepers v_read_listeners x129_read_names x129_read_name x129_read_nameNumber v_read_isTold x129_read_nameSort v_read_act v_read_what v_read_then v_read_met)) (As := [.ref (E.2.2.2.2.1 12), .int 0, .int 3]) (rest := []) C (ctX12_readPart l E h h_tape h_far h_from h_real h_other h_kept h_set h_w h_book h_noteSort h_whose h_what h_noteIs h_fitting h_dawn h_likes h_walked h_came v_thrown v_trouble v_where v_inn (some h_read) v_taped v_size x314_at x314_sort x314_place x314_sign x314_number x314_fault x314_wrongAt x314_word v_marks v_notes v_tape 12 (by decide) N 0 3 (r_321, v_at_321, v_sort_321, v_place_321, v_sign_321, v_number_321, v_fault_321, v_wrongAt_321, v_word_321) hc_321) ml_X12_272 ⟨Nat.le_of_ble_eq_true rfl, Nat.le_of_ble_eq_true rfl⟩ hP hD hS 0 rfl rfl rfl [0, 1] [11, 12, 2, 3, 4, 5, 6, 7, 8, 9, 10] 11 rfl rfl rfl rfl rfl rfl rfl hl.1 rfl (Nat.le_of_ble_eq_true rfl) ⟨Nat.zero_le _, Nat.zero_le _⟩ dX12_readDream_321 ?_
                      clear hP hD hS; intro H locs hP hD hS
                      refine lv_istore (pc := 324) (lv' := [(7, .int r_321), (6, .int x314_s0), (0, .ref h), (4, .int x157_s0), (5, .int x260_s0)]) hx hb dX12_readDream_324 hl (by decide) rfl (fun ls hl => ?_)
                      refine lv_aload_n (pc := 326) hx hb dX12_readDream_326 rfl (lv_at hl 2 rfl) ?_
                      refine r_ldcS (pc := 327) C (C.kx.2.2.2.2.2 13 (by decide)).2.2.2.2 dX12_readDream_327 ?_
                      obtain ⟨r_329, v_at_329, v_sort_329, v_place_329, v_sign_329, v_number_329, v_word_329, hc_329, hf⟩ := bd7 hf
                      refine r_dalVi (pc := 329) (ws' := (wX12_readDream E h h_read h_tape h_far h_from h_real h_other h_kept h_set h_w h_book h_noteSort h_whose h_what h_noteIs h_fitting h_dawn h_likes h_walked h_came h_read_creak h_read_doorA h_read_doorB h_read_how h_read_lies h_read_isCold h_read_falls h_read_isFull h_read_isTold h_read_act h_read_what h_read_then h_read_met h_read_bed h_read_dream h_read_listens h_read_name h_read_nameSort h_read_nameNumber v_thrown v_trouble v_where v_inn v_taped v_size v_at_329 v_sort_329 v_place_329 v_sign_329 v_number_329 v_fault_321 v_wrongAt_321 v_word_329 v_marks v_notes v_tape v_read_minutes v_read_rooms v_read_doors v_read_things x129_read_dreams v_read_sleepers v_read_listeners x129_read_names x129_read_name x129_read_nameNumber v_read_isTold x129_read_nameSort v_read_act v_read_what v_read_then v_read_met)) (As := [.ref (E.2.2.2.2.1 13)]) (rest := []) C (ctX12_eatsWord l E h h_tape h_far h_from h_real h_other h_kept h_set h_w h_book h_noteSort h_whose h_what h_noteIs h_fitting h_dawn h_likes h_walked h_came v_thrown v_trouble v_where v_inn (some h_read) v_taped v_size v_at_321 v_sort_321 v_place_321 v_sign_321 v_number_321 v_fault_321 v_wrongAt_321 v_word_321 v_marks v_notes v_tape 13 (by decide) N (r_329, v_at_329, v_sort_329, v_place_329, v_sign_329, v_number_329, v_word_329) hc_329) ml_X12_284 ⟨Nat.le_of_ble_eq_true rfl, Nat.le_of_ble_eq_true rfl⟩ hP hD hS 0 rfl rfl rfl [0, 1] [11, 12, 2, 3, 4, 5, 6, 7, 8, 9, 10] 11 rfl rfl rfl rfl rfl rfl rfl hl.1 rfl (Nat.le_of_ble_eq_true rfl) ⟨Nat.zero_le _, Nat.zero_le _⟩ dX12_readDream_329 ?_
                      clear hP hD hS; intro H locs hP hD hS
                      refine jnK hf (fun j346 ej346 hf => ?_)
                      have hj346 : ∀ (x346_s0 : Int32) (x346_at : Int32) (x346_sort : Int32) (x346_place : Int32) (x346_sign : Int32) (x346_number : Int32) (x346_fault : Int32) (x346_wrongAt : Int32) (x346_word : Int64) , j346 (x346_s0, x346_at, x346_sort, x346_place, x346_sign, x346_number, x346_fault, x346_wrongAt, x346_word) = some z → AT p l e (rmOf 9 193) s m args below meth c E A Q 0 0 9 [(0, .ref h), (4, .int x157_s0), (5, .int x260_s0), (6, .int x314_s0), (7, .int r_321)] (wX12_readDream E h h_read h_tape h_far h_from h_real h_other h_kept h_set h_w h_book h_noteSort h_whose h_what h_noteIs h_fitting h_dawn h_likes h_walked h_came h_read_creak h_read_doorA h_read_doorB h_read_how h_read_lies h_read_isCold h_read_falls h_read_isFull h_read_isTold h_read_act h_read_what h_read_then h_read_met h_read_bed h_read_dream h_read_listens h_read_name h_read_nameSort h_read_nameNumber v_thrown v_trouble v_where v_inn v_taped v_size x346_at x346_sort x346_place x346_sign x346_number x346_fault x346_wrongAt x346_word v_marks v_notes v_tape v_read_minutes v_read_rooms v_read_doors v_read_things x129_read_dreams v_read_sleepers v_read_listeners x129_read_names x129_read_name x129_read_nameNumber v_read_isTold x129_read_nameSort v_read_act v_read_what v_read_then v_read_met) 346 [.int x346_s0] := by
                        intro x346_s0 x346_at x346_sort x346_place x346_sign x346_number x346_fault x346_wrongAt x346_word hf H locs ls hl hP hD hS
                        rw [ej346] at hf
                        replace hf := un9_s hf
                        refine lv_istore (pc := 346) (lv' := [(8, .int x346_s0), (0, .ref h), (4, .int x157_s0), (5, .int x260_s0), (6, .int x314_s0), (7, .int r_321)]) hx hb dX12_readDream_346 hl (by decide) rfl (fun ls hl => ?_)
                        refine lv_aload_n (pc := 348) hx hb dX12_readDream_348 rfl (lv_at hl 1 rfl) ?_
                        refine r_get (pc := 349) C hP 0 rfl fl_X12_99 rfl dX12_readDream_349 ?_
                        refine lv_iconst (pc := 352) (v := 5) hx hb dX12_readDream_352 (by decide) ?_
                        refine lv_icmp_ne (pc := 353) (tgt := 357) hx hb dX12_readDream_353 (by decide) (fun c_353 => ?_) (fun c_353 => ?_)
                        · replace hf := it_f c_353 hf
                          refine lv_aload_n (pc := 357) hx hb dX12_readDream_357 rfl (lv_at hl 1 rfl) ?_
                          refine r_get (pc := 358) C hP 0 rfl fl_X12_202 rfl dX12_readDream_358 ?_
                          refine r_get (pc := 361) C hP 2 rfl fl_X12_328 rfl dX12_readDream_361 ?_
                          refine lv_iload (pc := 364) hx hb dX12_readDream_364 (lv_at hl 2 rfl) ?_
                          refine lv_iconst (pc := 366) (v := 1) hx hb dX12_readDream_366 (by decide) ?_
                          obtain ⟨hi_367, hf⟩ := gd_s hf
                          refine r_zast (pc := 367) (ws' := (wX12_readDream E h h_read h_tape h_far h_from h_real h_other h_kept h_set h_w h_book h_noteSort h_whose h_what h_noteIs h_fitting h_dawn h_likes h_walked h_came h_read_creak h_read_doorA h_read_doorB h_read_how h_read_lies h_read_isCold h_read_falls h_read_isFull h_read_isTold h_read_act h_read_what h_read_then h_read_met h_read_bed h_read_dream h_read_listens h_read_name h_read_nameSort h_read_nameNumber v_thrown v_trouble v_where v_inn v_taped v_size x346_at x346_sort x346_place x346_sign x346_number x346_fault x346_wrongAt x346_word v_marks v_notes v_tape v_read_minutes v_read_rooms v_read_doors v_read_things x129_read_dreams v_read_sleepers v_read_listeners x129_read_names x129_read_name x129_read_nameNumber (upd v_read_isTold x157_s0.toNatClampNeg 1) x129_read_nameSort v_read_act v_read_what v_read_then v_read_met)) C hP hD hS 5 rfl hi_367 (Or.inr rfl) rfl dX12_readDream_367 ?_
                          clear hP hD hS; intro H locs hP hD hS
                          refine lv_aload_n (pc := 368) hx hb dX12_readDream_368 rfl (lv_at hl 1 rfl) ?_
                          refine r_get (pc := 369) C hP 0 rfl fl_X12_202 rfl dX12_readDream_369 ?_
                          refine r_get (pc := 372) C hP 2 rfl fl_X12_331 rfl dX12_readDream_372 ?_
                          refine lv_iload (pc := 375) hx hb dX12_readDream_375 (lv_at hl 2 rfl) ?_
                          refine lv_iload (pc := 377) hx hb dX12_readDream_377 (lv_at hl 3 rfl) ?_
                          obtain ⟨hi_379, hf⟩ := gd_s hf
                          refine r_iast (pc := 379) (ws' := (wX12_readDream E h h_read h_tape h_far h_from h_real h_other h_kept h_set h_w h_book h_noteSort h_whose h_what h_noteIs h_fitting h_dawn h_likes h_walked h_came h_read_creak h_read_doorA h_read_doorB h_read_how h_read_lies h_read_isCold h_read_falls h_read_isFull h_read_isTold h_read_act h_read_what h_read_then h_read_met h_read_bed h_read_dream h_read_listens h_read_name h_read_nameSort h_read_nameNumber v_thrown v_trouble v_where v_inn v_taped v_size x346_at x346_sort x346_place x346_sign x346_number x346_fault x346_wrongAt x346_word v_marks v_notes v_tape v_read_minutes v_read_rooms v_read_doors v_read_things x129_read_dreams v_read_sleepers v_read_listeners x129_read_names x129_read_name x129_read_nameNumber (upd v_read_isTold x157_s0.toNatClampNeg 1) x129_read_nameSort (upd v_read_act x157_s0.toNatClampNeg x260_s0) v_read_what v_read_then v_read_met)) C hP hD hS 7 rfl hi_379 rfl dX12_readDream_379 ?_
                          clear hP hD hS; intro H locs hP hD hS
                          refine lv_aload_n (pc := 380) hx hb dX12_readDream_380 rfl (lv_at hl 1 rfl) ?_
                          refine r_get (pc := 381) C hP 0 rfl fl_X12_202 rfl dX12_readDream_381 ?_
                          refine r_get (pc := 384) C hP 2 rfl fl_X12_334 rfl dX12_readDream_384 ?_
                          refine lv_iload (pc := 387) hx hb dX12_readDream_387 (lv_at hl 2 rfl) ?_
                          refine lv_iload (pc := 389) hx hb dX12_readDream_389 (lv_at hl 4 rfl) ?_
                          obtain ⟨hi_391, hf⟩ := gd_s hf
                          refine r_iast (pc := 391) (ws' := (wX12_readDream E h h_read h_tape h_far h_from h_real h_other h_kept h_set h_w h_book h_noteSort h_whose h_what h_noteIs h_fitting h_dawn h_likes h_walked h_came h_read_creak h_read_doorA h_read_doorB h_read_how h_read_lies h_read_isCold h_read_falls h_read_isFull h_read_isTold h_read_act h_read_what h_read_then h_read_met h_read_bed h_read_dream h_read_listens h_read_name h_read_nameSort h_read_nameNumber v_thrown v_trouble v_where v_inn v_taped v_size x346_at x346_sort x346_place x346_sign x346_number x346_fault x346_wrongAt x346_word v_marks v_notes v_tape v_read_minutes v_read_rooms v_read_doors v_read_things x129_read_dreams v_read_sleepers v_read_listeners x129_read_names x129_read_name x129_read_nameNumber (upd v_read_isTold x157_s0.toNatClampNeg 1) x129_read_nameSort (upd v_read_act x157_s0.toNatClampNeg x260_s0) (upd v_read_what x157_s0.toNatClampNeg x314_s0) v_read_then v_read_met)) C hP hD hS 8 rfl hi_391 rfl dX12_readDream_391 ?_
                          clear hP hD hS; intro H locs hP hD hS
                          refine lv_aload_n (pc := 392) hx hb dX12_readDream_392 rfl (lv_at hl 1 rfl) ?_
                          refine r_get (pc := 393) C hP 0 rfl fl_X12_202 rfl dX12_readDream_393 ?_
                          refine r_get (pc := 396) C hP 2 rfl fl_X12_335 rfl dX12_readDream_396 ?_
                          refine lv_iload (pc := 399) hx hb dX12_readDream_399 (lv_at hl 2 rfl) ?_
                          refine lv_iload (pc := 401) hx hb dX12_readDream_401 (lv_at hl 5 rfl) ?_
                          obtain ⟨hi_403, hf⟩ := gd_s hf
                          refine r_iast (pc := 403) (ws' := (wX12_readDream E h h_read h_tape h_far h_from h_real h_other h_kept h_set h_w h_book h_noteSort h_whose h_what h_noteIs h_fitting h_dawn h_likes h_walked h_came h_read_creak h_read_doorA h_read_doorB h_read_how h_read_lies h_read_isCold h_read_falls h_read_isFull h_read_isTold h_read_act h_read_what h_read_then h_read_met h_read_bed h_read_dream h_read_listens h_read_name h_read_nameSort h_read_nameNumber v_thrown v_trouble v_where v_inn v_taped v_size x346_at x346_sort x346_place x346_sign x346_number x346_fault x346_wrongAt x346_word v_marks v_notes v_tape v_read_minutes v_read_rooms v_read_doors v_read_things x129_read_dreams v_read_sleepers v_read_listeners x129_read_names x129_read_name x129_read_nameNumber (upd v_read_isTold x157_s0.toNatClampNeg 1) x129_read_nameSort (upd v_read_act x157_s0.toNatClampNeg x260_s0) (upd v_read_what x157_s0.toNatClampNeg x314_s0) (upd v_read_then x157_s0.toNatClampNeg r_321) v_read_met)) C hP hD hS 9 rfl hi_403 rfl dX12_readDream_403 ?_
                          clear hP hD hS; intro H locs hP hD hS
                          refine lv_aload_n (pc := 404) hx hb dX12_readDream_404 rfl (lv_at hl 1 rfl) ?_
                          refine r_get (pc := 405) C hP 0 rfl fl_X12_202 rfl dX12_readDream_405 ?_
                          refine r_get (pc := 408) C hP 2 rfl fl_X12_337 rfl dX12_readDream_408 ?_
                          refine lv_iload (pc := 411) hx hb dX12_readDream_411 (lv_at hl 2 rfl) ?_
                          refine lv_iload (pc := 413) hx hb dX12_readDream_413 (lv_at hl 0 rfl) ?_
                          obtain ⟨hi_415, hf⟩ := gd_s hf
                          refine r_iast (pc := 415) (ws' := (wX12_readDream E h h_read h_tape h_far h_from h_real h_other h_kept h_set h_w h_book h_noteSort h_whose h_what h_noteIs h_fitting h_dawn h_likes h_walked h_came h_read_creak h_read_doorA h_read_doorB h_read_how h_read_lies h_read_isCold h_read_falls h_read_isFull h_read_isTold h_read_act h_read_what h_read_then h_read_met h_read_bed h_read_dream h_read_listens h_read_name h_read_nameSort h_read_nameNumber v_thrown v_trouble v_where v_inn v_taped v_size x346_at x346_sort x346_place x346_sign x346_number x346_fault x346_wrongAt x346_word v_marks v_notes v_tape v_read_minutes v_read_rooms v_read_doors v_read_things x129_read_dreams v_read_sleepers v_read_listeners x129_read_names x129_read_name x129_read_nameNumber (upd v_read_isTold x157_s0.toNatClampNeg 1) x129_read_nameSort (upd v_read_act x157_s0.toNatClampNeg x260_s0) (upd v_read_what x157_s0.toNatClampNeg x314_s0) (upd v_read_then x157_s0.toNatClampNeg r_321) (upd v_read_met x157_s0.toNatClampNeg x346_s0))) C hP hD hS 10 rfl hi_415 rfl dX12_readDream_415 ?_
                          clear hP hD hS; intro H locs hP hD hS
                          cases hf
                          rw [hQ]
                          exact r_vret C hr hP hD hS dX12_readDream_416
                        · replace hf := it_t c_353 hf
                          cases hf
                          rw [hQ]
                          exact r_vret C hr hP hD hS dX12_readDream_356
                      clear ej346
                      refine lv_if_eq (pc := 332) (tgt := 344) hx hb dX12_readDream_332 (by decide) (fun c_332 => ?_) (fun c_332 => ?_)
                      · replace hf := it_t c_332 hf
                        refine lv_bipush (pc := 344) (v := (-2)) hx hb dX12_readDream_344 (by decide) ?_
                        exact hj346 (-2) v_at_329 v_sort_329 v_place_329 v_sign_329 v_number_329 v_fault_321 v_wrongAt_321 v_word_329 hf _ _ _ (lv_sub hl [2, 3, 4, 1, 0] rfl) hP hD hS
                      · replace hf := it_f c_332 hf
                        refine lv_aload_n (pc := 335) hx hb dX12_readDream_335 rfl (lv_at hl 2 rfl) ?_
                        refine lv_iconst (pc := 336) (v := 0) hx hb dX12_readDream_336 (by decide) ?_
                        refine lv_iconst (pc := 337) (v := 3) hx hb dX12_readDream_337 (by decide) ?_
                        obtain ⟨r_338, v_at_338, v_sort_338, v_place_338, v_sign_338, v_number_338, v_fault_338, v_wrongAt_338, v_word_338, hc_338, hf⟩ := bd9 hf
                        refine r_dalVi (pc := 338) (ws' := (wX12_readDream E h h_read h_tape h_far h_from h_real h_other h_kept h_set h_w h_book h_noteSort h_whose h_what h_noteIs h_fitting h_dawn h_likes h_walked h_came h_read_creak h_read_doorA h_read_doorB h_read_how h_read_lies h_read_isCold h_read_falls h_read_isFull h_read_isTold h_read_act h_read_what h_read_then h_read_met h_read_bed h_read_dream h_read_listens h_read_name h_read_nameSort h_read_nameNumber v_thrown v_trouble v_where v_inn v_taped v_size v_at_338 v_sort_338 v_place_338 v_sign_338 v_number_338 v_fault_338 v_wrongAt_338 v_word_338 v_marks v_notes v_tape v_read_minutes v_read_rooms v_read_doors v_read_things x129_read_dreams v_read_sleepers v_read_listeners x129_read_names x129_read_name x129_read_nameNumber v_read_isTold x129_read_nameSort v_read_act v_read_what v_read_then v_read_met)) (As := [.int 0, .int 3]) (rest := []) C (ctX12_readWhole l E h h_tape h_far h_from h_real h_other h_kept h_set h_w h_book h_noteSort h_whose h_what h_noteIs h_fitting h_dawn h_likes h_walked h_came v_thrown v_trouble v_where v_inn (some h_read) v_taped v_size v_at_329 v_sort_329 v_place_329 v_sign_329 v_number_329 v_fault_321 v_wrongAt_321 v_word_329 v_marks v_notes v_tape N 0 3 (r_338, v_at_338, v_sort_338, v_place_338, v_sign_338, v_number_338, v_fault_338, v_wrongAt_338, v_word_338) hc_338) ml_X12_161 ⟨Nat.le_of_ble_eq_true rfl, Nat.le_of_ble_eq_true rfl⟩ hP hD hS 0 rfl rfl rfl [0, 1] [11, 12, 2, 3, 4, 5, 6, 7, 8, 9, 10] 11 rfl rfl rfl rfl rfl rfl rfl hl.1 rfl (Nat.le_of_ble_eq_true rfl) ⟨Nat.zero_le _, Nat.zero_le _⟩ dX12_readDream_338 ?_
                        clear hP hD hS; intro H locs hP hD hS
                        refine lv_goto (pc := 341) (tgt := 346) hx hb dX12_readDream_341 (by decide) ?_
                        exact hj346 r_338 v_at_338 v_sort_338 v_place_338 v_sign_338 v_number_338 v_fault_338 v_wrongAt_338 v_word_338 hf _ _ _ (lv_sub hl [2, 3, 4, 1, 0] rfl) hP hD hS
                    clear ej314
                    refine jnK hf (fun j284 ej284 hf => ?_)
                    have hj284 : j284 () = some z → AT p l e (rmOf 9 193) s m args below meth c E A Q 0 0 9 [(0, .ref h), (4, .int x157_s0), (5, .int x260_s0)] (wX12_readDream E h h_read h_tape h_far h_from h_real h_other h_kept h_set h_w h_book h_noteSort h_whose h_what h_noteIs h_fitting h_dawn h_likes h_walked h_came h_read_creak h_read_doorA h_read_doorB h_read_how h_read_lies h_read_isCold h_read_falls h_read_isFull h_read_isTold h_read_act h_read_what h_read_then h_read_met h_read_bed h_read_dream h_read_listens h_read_name h_read_nameSort h_read_nameNumber v_thrown v_trouble v_where v_inn v_taped v_size x260_at x273_sort x260_place x260_sign x260_number x273_fault x273_wrongAt x260_word v_marks v_notes v_tape v_read_minutes v_read_rooms v_read_doors v_read_things x129_read_dreams v_read_sleepers v_read_listeners x129_read_names x129_read_name x129_read_nameNumber v_read_isTold x129_read_nameSort v_read_act v_read_what v_read_then v_read_met) 284 [] := by
                      intro  hf H locs ls hl hP hD hS
                      rw [ej284] at hf
                      replace hf := un0_s hf
                      refine lv_aload_n (pc := 284) hx hb dX12_readDream_284 rfl (lv_at hl 0 rfl) ?_
                      refine lv_iconst (pc := 285) (v := 0) hx hb dX12_readDream_285 (by decide) ?_
                      obtain ⟨r_286, v_at_286, v_sort_286, v_place_286, v_sign_286, v_number_286, v_fault_286, v_wrongAt_286, v_word_286, hc_286, hf⟩ := bd9 hf
                      refine r_dalVi (pc := 286) (ws' := (wX12_readDream E h h_read h_tape h_far h_from h_real h_other h_kept h_set h_w h_book h_noteSort h_whose h_what h_noteIs h_fitting h_dawn h_likes h_walked h_came h_read_creak h_read_doorA h_read_doorB h_read_how h_read_lies h_read_isCold h_read_falls h_read_isFull h_read_isTold h_read_act h_read_what h_read_then h_read_met h_read_bed h_read_dream h_read_listens h_read_name h_read_nameSort h_read_nameNumber v_thrown v_trouble v_where v_inn v_taped v_size v_at_286 v_sort_286 v_place_286 v_sign_286 v_number_286 v_fault_286 v_wrongAt_286 v_word_286 v_marks v_notes v_tape v_read_minutes v_read_rooms v_read_doors v_read_things x129_read_dreams v_read_sleepers v_read_listeners x129_read_names x129_read_name x129_read_nameNumber v_read_isTold x129_read_nameSort v_read_act v_read_what v_read_then v_read_met)) (As := [.int 0]) (rest := []) C (ctX12_readKnown l E h h_read h_tape h_far h_from h_real h_other h_kept h_set h_w h_book h_noteSort h_whose h_what h_noteIs h_fitting h_dawn h_likes h_walked h_came h_read_creak h_read_doorA h_read_doorB h_read_how h_read_lies h_read_isCold h_read_falls h_read_isFull h_read_isTold h_read_act h_read_what h_read_then h_read_met h_read_bed h_read_dream h_read_listens h_read_name h_read_nameSort h_read_nameNumber v_thrown v_trouble v_where v_inn v_taped v_size x260_at x273_sort x260_place x260_sign x260_number x273_fault x273_wrongAt x260_word v_marks v_notes v_read_minutes v_read_rooms v_read_doors v_read_things x129_read_dreams v_read_sleepers v_read_listeners x129_read_names x129_read_name x129_read_nameNumber x129_read_nameSort v_tape N 0 (r_286, v_at_286, v_sort_286, v_place_286, v_sign_286, v_number_286, v_fault_286, v_wrongAt_286, v_word_286) hc_286) ml_X12_295 ⟨Nat.le_of_ble_eq_true rfl, Nat.le_of_ble_eq_true rfl⟩ hP hD hS 0 rfl rfl rfl [0, 2, 3, 4, 6, 1] [11, 16, 12, 13, 14, 5, 15, 7, 8, 9, 10] 11 rfl rfl rfl rfl rfl rfl rfl hl.1 rfl (Nat.le_of_ble_eq_true rfl) ⟨Nat.zero_le _, Nat.zero_le _⟩ dX12_readDream_286 ?_
                      clear hP hD hS; intro H locs hP hD hS
                      refine lv_goto (pc := 289) (tgt := 314) hx hb dX12_readDream_289 (by decide) ?_
                      exact hj314 r_286 v_at_286 v_sort_286 v_place_286 v_sign_286 v_number_286 v_fault_286 v_wrongAt_286 v_word_286 hf _ _ _ (lv_sub hl [0, 1, 2] rfl) hP hD hS
                    clear ej284
                    refine lv_if_eq (pc := 275) (tgt := 284) hx hb dX12_readDream_275 (by decide) (fun c_275 => ?_) (fun c_275 => ?_)
                    · replace hf := it_t c_275 hf
                      exact hj284  hf _ _ _ (lv_sub hl [0, 1, 2] rfl) hP hD hS
                    · replace hf := it_f c_275 hf
                      refine lv_iload (pc := 278) hx hb dX12_readDream_278 (lv_at hl 2 rfl) ?_
                      refine lv_iconst (pc := 280) (v := 5) hx hb dX12_readDream_280 (by decide) ?_
                      refine lv_icmp_ne (pc := 281) (tgt := 292) hx hb dX12_readDream_281 (by decide) (fun c_281 => ?_) (fun c_281 => ?_)
                      · replace hf := it_f c_281 hf
                        refine lv_iload (pc := 292) hx hb dX12_readDream_292 (lv_at hl 2 rfl) ?_
                        refine lv_iconst (pc := 294) (v := 1) hx hb dX12_readDream_294 (by decide) ?_
                        refine jnK hf (fun j304 ej304 hf => ?_)
                        have hj304 : j304 () = some z → AT p l e (rmOf 9 193) s m args below meth c E A Q 0 0 9 [(0, .ref h), (4, .int x157_s0), (5, .int x260_s0)] (wX12_readDream E h h_read h_tape h_far h_from h_real h_other h_kept h_set h_w h_book h_noteSort h_whose h_what h_noteIs h_fitting h_dawn h_likes h_walked h_came h_read_creak h_read_doorA h_read_doorB h_read_how h_read_lies h_read_isCold h_read_falls h_read_isFull h_read_isTold h_read_act h_read_what h_read_then h_read_met h_read_bed h_read_dream h_read_listens h_read_name h_read_nameSort h_read_nameNumber v_thrown v_trouble v_where v_inn v_taped v_size x260_at x273_sort x260_place x260_sign x260_number x273_fault x273_wrongAt x260_word v_marks v_notes v_tape v_read_minutes v_read_rooms v_read_doors v_read_things x129_read_dreams v_read_sleepers v_read_listeners x129_read_names x129_read_name x129_read_nameNumber v_read_isTold x129_read_nameSort v_read_act v_read_what v_read_then v_read_met) 304 [] := by
                          intro  hf H locs ls hl hP hD hS
                          rw [ej304] at hf
                          replace hf := un0_s hf
                          refine lv_aload_n (pc := 304) hx hb dX12_readDream_304 rfl (lv_at hl 0 rfl) ?_
                          refine lv_iconst (pc := 305) (v := 1) hx hb dX12_readDream_305 (by decide) ?_
                          obtain ⟨r_306, v_at_306, v_sort_306, v_place_306, v_sign_306, v_number_306, v_fault_306, v_wrongAt_306, v_word_306, hc_306, hf⟩ := bd9 hf
                          refine r_dalVi (pc := 306) (ws' := (wX12_readDream E h h_read h_tape h_far h_from h_real h_other h_kept h_set h_w h_book h_noteSort h_whose h_what h_noteIs h_fitting h_dawn h_likes h_walked h_came h_read_creak h_read_doorA h_read_doorB h_read_how h_read_lies h_read_isCold h_read_falls h_read_isFull h_read_isTold h_read_act h_read_what h_read_then h_read_met h_read_bed h_read_dream h_read_listens h_read_name h_read_nameSort h_read_nameNumber v_thrown v_trouble v_where v_inn v_taped v_size v_at_306 v_sort_306 v_place_306 v_sign_306 v_number_306 v_fault_306 v_wrongAt_306 v_word_306 v_marks v_notes v_tape v_read_minutes v_read_rooms v_read_doors v_read_things x129_read_dreams v_read_sleepers v_read_listeners x129_read_names x129_read_name x129_read_nameNumber v_read_isTold x129_read_nameSort v_read_act v_read_what v_read_then v_read_met)) (As := [.int 1]) (rest := []) C (ctX12_readKnown l E h h_read h_tape h_far h_from h_real h_other h_kept h_set h_w h_book h_noteSort h_whose h_what h_noteIs h_fitting h_dawn h_likes h_walked h_came h_read_creak h_read_doorA h_read_doorB h_read_how h_read_lies h_read_isCold h_read_falls h_read_isFull h_read_isTold h_read_act h_read_what h_read_then h_read_met h_read_bed h_read_dream h_read_listens h_read_name h_read_nameSort h_read_nameNumber v_thrown v_trouble v_where v_inn v_taped v_size x260_at x273_sort x260_place x260_sign x260_number x273_fault x273_wrongAt x260_word v_marks v_notes v_read_minutes v_read_rooms v_read_doors v_read_things x129_read_dreams v_read_sleepers v_read_listeners x129_read_names x129_read_name x129_read_nameNumber x129_read_nameSort v_tape N 1 (r_306, v_at_306, v_sort_306, v_place_306, v_sign_306, v_number_306, v_fault_306, v_wrongAt_306, v_word_306) hc_306) ml_X12_295 ⟨Nat.le_of_ble_eq_true rfl, Nat.le_of_ble_eq_true rfl⟩ hP hD hS 0 rfl rfl rfl [0, 2, 3, 4, 6, 1] [11, 16, 12, 13, 14, 5, 15, 7, 8, 9, 10] 11 rfl rfl rfl rfl rfl rfl rfl hl.1 rfl (Nat.le_of_ble_eq_true rfl) ⟨Nat.zero_le _, Nat.zero_le _⟩ dX12_readDream_306 ?_
                          clear hP hD hS; intro H locs hP hD hS
                          refine lv_goto (pc := 309) (tgt := 314) hx hb dX12_readDream_309 (by decide) ?_
                          exact hj314 r_306 v_at_306 v_sort_306 v_place_306 v_sign_306 v_number_306 v_fault_306 v_wrongAt_306 v_word_306 hf _ _ _ (lv_sub hl [0, 1, 2] rfl) hP hD hS
                        clear ej304
                        refine lv_icmp_eq (pc := 295) (tgt := 304) hx hb dX12_readDream_295 (by decide) (fun c_295 => ?_) (fun c_295 => ?_)
                        · replace hf := it_t c_295 hf
                          exact hj304  hf _ _ _ (lv_sub hl [0, 1, 2] rfl) hP hD hS
                        · replace hf := it_f c_295 hf
                          refine lv_iload (pc := 298) hx hb dX12_readDream_298 (lv_at hl 2 rfl) ?_
                          refine lv_iconst (pc := 300) (v := 3) hx hb dX12_readDream_300 (by decide) ?_
                          refine lv_icmp_ne (pc := 301) (tgt := 312) hx hb dX12_readDream_301 (by decide) (fun c_301 => ?_) (fun c_301 => ?_)
                          · replace hf := it_f c_301 hf
                            refine lv_bipush (pc := 312) (v := (-2)) hx hb dX12_readDream_312 (by decide) ?_
                            exact hj314 (-2) x260_at x273_sort x260_place x260_sign x260_number x273_fault x273_wrongAt x260_word hf _ _ _ (lv_sub hl [0, 1, 2] rfl) hP hD hS
                          · replace hf := it_t c_301 hf
                            exact hj304  hf _ _ _ (lv_sub hl [0, 1, 2] rfl) hP hD hS
                      · replace hf := it_t c_281 hf
                        exact hj284  hf _ _ _ (lv_sub hl [0, 1, 2] rfl) hP hD hS
                  clear ej273
                  refine lv_icmp_ne (pc := 265) (tgt := 273) hx hb dX12_readDream_265 (by decide) (fun c_265 => ?_) (fun c_265 => ?_)
                  · replace hf := it_f c_265 hf
                    exact hj273 x260_sort x177_fault x177_wrongAt hf _ _ _ (lv_sub hl [1, 2, 0] rfl) hP hD hS
                  · replace hf := it_t c_265 hf
                    refine lv_aload_n (pc := 268) hx hb dX12_readDream_268 rfl (lv_at hl 1 rfl) ?_
                    refine lv_iconst (pc := 269) (v := 1) hx hb dX12_readDream_269 (by decide) ?_
                    obtain ⟨v_sort_270, v_fault_270, v_wrongAt_270, hc_270, hf⟩ := bd3 hf
                    refine r_dalVv (pc := 270) (ws' := (wX12_readDream E h h_read h_tape h_far h_from h_real h_other h_kept h_set h_w h_book h_noteSort h_whose h_what h_noteIs h_fitting h_dawn h_likes h_walked h_came h_read_creak h_read_doorA h_read_doorB h_read_how h_read_lies h_read_isCold h_read_falls h_read_isFull h_read_isTold h_read_act h_read_what h_read_then h_read_met h_read_bed h_read_dream h_read_listens h_read_name h_read_nameSort h_read_nameNumber v_thrown v_trouble v_where v_inn v_taped v_size x260_at v_sort_270 x260_place x260_sign x260_number v_fault_270 v_wrongAt_270 x260_word v_marks v_notes v_tape v_read_minutes v_read_rooms v_read_doors v_read_things x129_read_dreams v_read_sleepers v_read_listeners x129_read_names x129_read_name x129_read_nameNumber v_read_isTold x129_read_nameSort v_read_act v_read_what v_read_then v_read_met)) (As := [.int 1]) (rest := []) C (ctX12_wrong l E h h_tape h_far h_from h_real h_other h_kept h_set h_w h_book h_noteSort h_whose h_what h_noteIs h_fitting h_dawn h_likes h_walked h_came v_thrown v_trouble v_where v_inn (some h_read) v_taped v_size x260_at x260_sort x260_place x260_sign x260_number x177_fault x177_wrongAt x260_word v_marks v_notes N 1 (v_sort_270, v_fault_270, v_wrongAt_270) hc_270) ml_X12_145 ⟨Nat.le_of_ble_eq_true rfl, Nat.le_of_ble_eq_true rfl⟩ hP hD hS 0 rfl rfl rfl [0] [11, 1, 2, 3, 4, 5, 6, 7, 8, 9, 10] 11 rfl rfl rfl rfl rfl rfl rfl hl.1 rfl (Nat.le_of_ble_eq_true rfl) ⟨Nat.zero_le _, Nat.zero_le _⟩ dX12_readDream_270 ?_
                    clear hP hD hS; intro H locs hP hD hS
                    exact hj273 v_sort_270 v_fault_270 v_wrongAt_270 hf _ _ _ (lv_sub hl [1, 2, 0] rfl) hP hD hS
                clear ej260
                refine lv_if_eq (pc := 187) (tgt := 194) hx hb dX12_readDream_187 (by decide) (fun c_187 => ?_) (fun c_187 => ?_)
                · replace hf := it_t c_187 hf
                  refine lv_aload_n (pc := 194) hx hb dX12_readDream_194 rfl (lv_at hl 0 rfl) ?_
                  refine r_ldcS (pc := 195) C (C.kx.2.2.2.2.2 15 (by decide)).2.2.2.2 dX12_readDream_195 ?_
                  obtain ⟨r_197, v_at_197, v_sort_197, v_place_197, v_sign_197, v_number_197, v_word_197, hc_197, hf⟩ := bd7 hf
                  refine r_dalVi (pc := 197) (ws' := (wX12_readDream E h h_read h_tape h_far h_from h_real h_other h_kept h_set h_w h_book h_noteSort h_whose h_what h_noteIs h_fitting h_dawn h_likes h_walked h_came h_read_creak h_read_doorA h_read_doorB h_read_how h_read_lies h_read_isCold h_read_falls h_read_isFull h_read_isTold h_read_act h_read_what h_read_then h_read_met h_read_bed h_read_dream h_read_listens h_read_name h_read_nameSort h_read_nameNumber v_thrown v_trouble v_where v_inn v_taped v_size v_at_197 v_sort_197 v_place_197 v_sign_197 v_number_197 x177_fault x177_wrongAt v_word_197 v_marks v_notes v_tape v_read_minutes v_read_rooms v_read_doors v_read_things x129_read_dreams v_read_sleepers v_read_listeners x129_read_names x129_read_name x129_read_nameNumber v_read_isTold x129_read_nameSort v_read_act v_read_what v_read_then v_read_met)) (As := [.ref (E.2.2.2.2.1 15)]) (rest := []) C (ctX12_eatsWord l E h h_tape h_far h_from h_real h_other h_kept h_set h_w h_book h_noteSort h_whose h_what h_noteIs h_fitting h_dawn h_likes h_walked h_came v_thrown v_trouble v_where v_inn (some h_read) v_taped v_size v_at_184 v_sort_184 v_place_184 v_sign_184 v_number_184 x177_fault x177_wrongAt v_word_184 v_marks v_notes v_tape 15 (by decide) N (r_197, v_at_197, v_sort_197, v_place_197, v_sign_197, v_number_197, v_word_197) hc_197) ml_X12_284 ⟨Nat.le_of_ble_eq_true rfl, Nat.le_of_ble_eq_true rfl⟩ hP hD hS 0 rfl rfl rfl [0, 1] [11, 12, 2, 3, 4, 5, 6, 7, 8, 9, 10] 11 rfl rfl rfl rfl rfl rfl rfl hl.1 rfl (Nat.le_of_ble_eq_true rfl) ⟨Nat.zero_le _, Nat.zero_le _⟩ dX12_readDream_197 ?_
                  clear hP hD hS; intro H locs hP hD hS
                  refine lv_if_eq (pc := 200) (tgt := 207) hx hb dX12_readDream_200 (by decide) (fun c_200 => ?_) (fun c_200 => ?_)
                  · replace hf := it_t c_200 hf
                    refine lv_aload_n (pc := 207) hx hb dX12_readDream_207 rfl (lv_at hl 0 rfl) ?_
                    refine r_ldcS (pc := 208) C (C.kx.2.2.2.2.2 16 (by decide)).2.2.2.2 dX12_readDream_208 ?_
                    obtain ⟨r_210, v_at_210, v_sort_210, v_place_210, v_sign_210, v_number_210, v_word_210, hc_210, hf⟩ := bd7 hf
                    refine r_dalVi (pc := 210) (ws' := (wX12_readDream E h h_read h_tape h_far h_from h_real h_other h_kept h_set h_w h_book h_noteSort h_whose h_what h_noteIs h_fitting h_dawn h_likes h_walked h_came h_read_creak h_read_doorA h_read_doorB h_read_how h_read_lies h_read_isCold h_read_falls h_read_isFull h_read_isTold h_read_act h_read_what h_read_then h_read_met h_read_bed h_read_dream h_read_listens h_read_name h_read_nameSort h_read_nameNumber v_thrown v_trouble v_where v_inn v_taped v_size v_at_210 v_sort_210 v_place_210 v_sign_210 v_number_210 x177_fault x177_wrongAt v_word_210 v_marks v_notes v_tape v_read_minutes v_read_rooms v_read_doors v_read_things x129_read_dreams v_read_sleepers v_read_listeners x129_read_names x129_read_name x129_read_nameNumber v_read_isTold x129_read_nameSort v_read_act v_read_what v_read_then v_read_met)) (As := [.ref (E.2.2.2.2.1 16)]) (rest := []) C (ctX12_eatsWord l E h h_tape h_far h_from h_real h_other h_kept h_set h_w h_book h_noteSort h_whose h_what h_noteIs h_fitting h_dawn h_likes h_walked h_came v_thrown v_trouble v_where v_inn (some h_read) v_taped v_size v_at_197 v_sort_197 v_place_197 v_sign_197 v_number_197 x177_fault x177_wrongAt v_word_197 v_marks v_notes v_tape 16 (by decide) N (r_210, v_at_210, v_sort_210, v_place_210, v_sign_210, v_number_210, v_word_210) hc_210) ml_X12_284 ⟨Nat.le_of_ble_eq_true rfl, Nat.le_of_ble_eq_true rfl⟩ hP hD hS 0 rfl rfl rfl [0, 1] [11, 12, 2, 3, 4, 5, 6, 7, 8, 9, 10] 11 rfl rfl rfl rfl rfl rfl rfl hl.1 rfl (Nat.le_of_ble_eq_true rfl) ⟨Nat.zero_le _, Nat.zero_le _⟩ dX12_readDream_210 ?_
                    clear hP hD hS; intro H locs hP hD hS
                    refine lv_if_eq (pc := 213) (tgt := 220) hx hb dX12_readDream_213 (by decide) (fun c_213 => ?_) (fun c_213 => ?_)
                    · replace hf := it_t c_213 hf
                      refine lv_aload_n (pc := 220) hx hb dX12_readDream_220 rfl (lv_at hl 0 rfl) ?_
                      refine r_ldcS (pc := 221) C (C.kx.2.2.2.2.2 17 (by decide)).2.2.2.2 dX12_readDream_221 ?_
                      obtain ⟨r_223, v_at_223, v_sort_223, v_place_223, v_sign_223, v_number_223, v_word_223, hc_223, hf⟩ := bd7 hf
                      refine r_dalVi (pc := 223) (ws' := (wX12_readDream E h h_read h_tape h_far h_from h_real h_other h_kept h_set h_w h_book h_noteSort h_whose h_what h_noteIs h_fitting h_dawn h_likes h_walked h_came h_read_creak h_read_doorA h_read_doorB h_read_how h_read_lies h_read_isCold h_read_falls h_read_isFull h_read_isTold h_read_act h_read_what h_read_then h_read_met h_read_bed h_read_dream h_read_listens h_read_name h_read_nameSort h_read_nameNumber v_thrown v_trouble v_where v_inn v_taped v_size v_at_223 v_sort_223 v_place_223 v_sign_223 v_number_223 x177_fault x177_wrongAt v_word_223 v_marks v_notes v_tape v_read_minutes v_read_rooms v_read_doors v_read_things x129_read_dreams v_read_sleepers v_read_listeners x129_read_names x129_read_name x129_read_nameNumber v_read_isTold x129_read_nameSort v_read_act v_read_what v_read_then v_read_met)) (As := [.ref (E.2.2.2.2.1 17)]) (rest := []) C (ctX12_eatsWord l E h h_tape h_far h_from h_real h_other h_kept h_set h_w h_book h_noteSort h_whose h_what h_noteIs h_fitting h_dawn h_likes h_walked h_came v_thrown v_trouble v_where v_inn (some h_read) v_taped v_size v_at_210 v_sort_210 v_place_210 v_sign_210 v_number_210 x177_fault x177_wrongAt v_word_210 v_marks v_notes v_tape 17 (by decide) N (r_223, v_at_223, v_sort_223, v_place_223, v_sign_223, v_number_223, v_word_223) hc_223) ml_X12_284 ⟨Nat.le_of_ble_eq_true rfl, Nat.le_of_ble_eq_true rfl⟩ hP hD hS 0 rfl rfl rfl [0, 1] [11, 12, 2, 3, 4, 5, 6, 7, 8, 9, 10] 11 rfl rfl rfl rfl rfl rfl rfl hl.1 rfl (Nat.le_of_ble_eq_true rfl) ⟨Nat.zero_le _, Nat.zero_le _⟩ dX12_readDream_223 ?_
                      clear hP hD hS; intro H locs hP hD hS
                      refine lv_if_eq (pc := 226) (tgt := 233) hx hb dX12_readDream_226 (by decide) (fun c_226 => ?_) (fun c_226 => ?_)
                      · replace hf := it_t c_226 hf
                        refine lv_aload_n (pc := 233) hx hb dX12_readDream_233 rfl (lv_at hl 0 rfl) ?_
                        refine r_ldcS (pc := 234) C (C.kx.2.2.2.2.2 18 (by decide)).2.2.2.2 dX12_readDream_234 ?_
                        obtain ⟨r_236, v_at_236, v_sort_236, v_place_236, v_sign_236, v_number_236, v_word_236, hc_236, hf⟩ := bd7 hf
                        refine r_dalVi (pc := 236) (ws' := (wX12_readDream E h h_read h_tape h_far h_from h_real h_other h_kept h_set h_w h_book h_noteSort h_whose h_what h_noteIs h_fitting h_dawn h_likes h_walked h_came h_read_creak h_read_doorA h_read_doorB h_read_how h_read_lies h_read_isCold h_read_falls h_read_isFull h_read_isTold h_read_act h_read_what h_read_then h_read_met h_read_bed h_read_dream h_read_listens h_read_name h_read_nameSort h_read_nameNumber v_thrown v_trouble v_where v_inn v_taped v_size v_at_236 v_sort_236 v_place_236 v_sign_236 v_number_236 x177_fault x177_wrongAt v_word_236 v_marks v_notes v_tape v_read_minutes v_read_rooms v_read_doors v_read_things x129_read_dreams v_read_sleepers v_read_listeners x129_read_names x129_read_name x129_read_nameNumber v_read_isTold x129_read_nameSort v_read_act v_read_what v_read_then v_read_met)) (As := [.ref (E.2.2.2.2.1 18)]) (rest := []) C (ctX12_eatsWord l E h h_tape h_far h_from h_real h_other h_kept h_set h_w h_book h_noteSort h_whose h_what h_noteIs h_fitting h_dawn h_likes h_walked h_came v_thrown v_trouble v_where v_inn (some h_read) v_taped v_size v_at_223 v_sort_223 v_place_223 v_sign_223 v_number_223 x177_fault x177_wrongAt v_word_223 v_marks v_notes v_tape 18 (by decide) N (r_236, v_at_236, v_sort_236, v_place_236, v_sign_236, v_number_236, v_word_236) hc_236) ml_X12_284 ⟨Nat.le_of_ble_eq_true rfl, Nat.le_of_ble_eq_true rfl⟩ hP hD hS 0 rfl rfl rfl [0, 1] [11, 12, 2, 3, 4, 5, 6, 7, 8, 9, 10] 11 rfl rfl rfl rfl rfl rfl rfl hl.1 rfl (Nat.le_of_ble_eq_true rfl) ⟨Nat.zero_le _, Nat.zero_le _⟩ dX12_readDream_236 ?_
                        clear hP hD hS; intro H locs hP hD hS
                        refine lv_if_eq (pc := 239) (tgt := 246) hx hb dX12_readDream_239 (by decide) (fun c_239 => ?_) (fun c_239 => ?_)
                        · replace hf := it_t c_239 hf
                          refine lv_aload_n (pc := 246) hx hb dX12_readDream_246 rfl (lv_at hl 0 rfl) ?_
                          refine r_ldcS (pc := 247) C (C.kx.2.2.2.2.2 8 (by decide)).2.2.2.2 dX12_readDream_247 ?_
                          obtain ⟨r_249, v_at_249, v_sort_249, v_place_249, v_sign_249, v_number_249, v_word_249, hc_249, hf⟩ := bd7 hf
                          refine r_dalVi (pc := 249) (ws' := (wX12_readDream E h h_read h_tape h_far h_from h_real h_other h_kept h_set h_w h_book h_noteSort h_whose h_what h_noteIs h_fitting h_dawn h_likes h_walked h_came h_read_creak h_read_doorA h_read_doorB h_read_how h_read_lies h_read_isCold h_read_falls h_read_isFull h_read_isTold h_read_act h_read_what h_read_then h_read_met h_read_bed h_read_dream h_read_listens h_read_name h_read_nameSort h_read_nameNumber v_thrown v_trouble v_where v_inn v_taped v_size v_at_249 v_sort_249 v_place_249 v_sign_249 v_number_249 x177_fault x177_wrongAt v_word_249 v_marks v_notes v_tape v_read_minutes v_read_rooms v_read_doors v_read_things x129_read_dreams v_read_sleepers v_read_listeners x129_read_names x129_read_name x129_read_nameNumber v_read_isTold x129_read_nameSort v_read_act v_read_what v_read_then v_read_met)) (As := [.ref (E.2.2.2.2.1 8)]) (rest := []) C (ctX12_eatsWord l E h h_tape h_far h_from h_real h_other h_kept h_set h_w h_book h_noteSort h_whose h_what h_noteIs h_fitting h_dawn h_likes h_walked h_came v_thrown v_trouble v_where v_inn (some h_read) v_taped v_size v_at_236 v_sort_236 v_place_236 v_sign_236 v_number_236 x177_fault x177_wrongAt v_word_236 v_marks v_notes v_tape 8 (by decide) N (r_249, v_at_249, v_sort_249, v_place_249, v_sign_249, v_number_249, v_word_249) hc_249) ml_X12_284 ⟨Nat.le_of_ble_eq_true rfl, Nat.le_of_ble_eq_true rfl⟩ hP hD hS 0 rfl rfl rfl [0, 1] [11, 12, 2, 3, 4, 5, 6, 7, 8, 9, 10] 11 rfl rfl rfl rfl rfl rfl rfl hl.1 rfl (Nat.le_of_ble_eq_true rfl) ⟨Nat.zero_le _, Nat.zero_le _⟩ dX12_readDream_249 ?_
                          clear hP hD hS; intro H locs hP hD hS
                          refine lv_if_eq (pc := 252) (tgt := 259) hx hb dX12_readDream_252 (by decide) (fun c_252 => ?_) (fun c_252 => ?_)
                          · replace hf := it_t c_252 hf
                            refine lv_iconst (pc := 259) (v := (-1)) hx hb dX12_readDream_259 (by decide) ?_
                            exact hj260 (-1) v_at_249 v_sort_249 v_place_249 v_sign_249 v_number_249 v_word_249 hf _ _ _ (lv_sub hl [0, 1] rfl) hP hD hS
                          · replace hf := it_f c_252 hf
                            refine lv_iconst (pc := 255) (v := 5) hx hb dX12_readDream_255 (by decide) ?_
                            refine lv_goto (pc := 256) (tgt := 260) hx hb dX12_readDream_256 (by decide) ?_
                            exact hj260 5 v_at_249 v_sort_249 v_place_249 v_sign_249 v_number_249 v_word_249 hf _ _ _ (lv_sub hl [0, 1] rfl) hP hD hS
                        · replace hf := it_f c_239 hf
                          refine lv_iconst (pc := 242) (v := 4) hx hb dX12_readDream_242 (by decide) ?_
                          refine lv_goto (pc := 243) (tgt := 260) hx hb dX12_readDream_243 (by decide) ?_
                          exact hj260 4 v_at_236 v_sort_236 v_place_236 v_sign_236 v_number_236 v_word_236 hf _ _ _ (lv_sub hl [0, 1] rfl) hP hD hS
                      · replace hf := it_f c_226 hf
                        refine lv_iconst (pc := 229) (v := 3) hx hb dX12_readDream_229 (by decide) ?_
                        refine lv_goto (pc := 230) (tgt := 260) hx hb dX12_readDream_230 (by decide) ?_
                        exact hj260 3 v_at_223 v_sort_223 v_place_223 v_sign_223 v_number_223 v_word_223 hf _ _ _ (lv_sub hl [0, 1] rfl) hP hD hS
                    · replace hf := it_f c_213 hf
                      refine lv_iconst (pc := 216) (v := 2) hx hb dX12_readDream_216 (by decide) ?_
                      refine lv_goto (pc := 217) (tgt := 260) hx hb dX12_readDream_217 (by decide) ?_
                      exact hj260 2 v_at_210 v_sort_210 v_place_210 v_sign_210 v_number_210 v_word_210 hf _ _ _ (lv_sub hl [0, 1] rfl) hP hD hS
                  · replace hf := it_f c_200 hf
                    refine lv_iconst (pc := 203) (v := 1) hx hb dX12_readDream_203 (by decide) ?_
                    refine lv_goto (pc := 204) (tgt := 260) hx hb dX12_readDream_204 (by decide) ?_
                    exact hj260 1 v_at_197 v_sort_197 v_place_197 v_sign_197 v_number_197 v_word_197 hf _ _ _ (lv_sub hl [0, 1] rfl) hP hD hS
                · replace hf := it_f c_187 hf
                  refine lv_iconst (pc := 190) (v := 0) hx hb dX12_readDream_190 (by decide) ?_
                  refine lv_goto (pc := 191) (tgt := 260) hx hb dX12_readDream_191 (by decide) ?_
                  exact hj260 0 v_at_184 v_sort_184 v_place_184 v_sign_184 v_number_184 v_word_184 hf _ _ _ (lv_sub hl [0, 1] rfl) hP hD hS
              clear ej177
              refine lv_if_eq (pc := 169) (tgt := 177) hx hb dX12_readDream_169 (by decide) (fun c_169 => ?_) (fun c_169 => ?_)
              · replace hf := it_t c_169 hf
                exact hj177 v_sort_136 v_fault_136 v_wrongAt_136 hf _ _ _ (lv_sub hl [1, 0] rfl) hP hD hS
              · replace hf := it_f c_169 hf
                refine lv_aload_n (pc := 172) hx hb dX12_readDream_172 rfl (lv_at hl 1 rfl) ?_
                refine lv_iconst (pc := 173) (v := 3) hx hb dX12_readDream_173 (by decide) ?_
                obtain ⟨v_sort_174, v_fault_174, v_wrongAt_174, hc_174, hf⟩ := bd3 hf
                refine r_dalVv (pc := 174) (ws' := (wX12_readDream E h h_read h_tape h_far h_from h_real h_other h_kept h_set h_w h_book h_noteSort h_whose h_what h_noteIs h_fitting h_dawn h_likes h_walked h_came h_read_creak h_read_doorA h_read_doorB h_read_how h_read_lies h_read_isCold h_read_falls h_read_isFull h_read_isTold h_read_act h_read_what h_read_then h_read_met h_read_bed h_read_dream h_read_listens h_read_name h_read_nameSort h_read_nameNumber v_thrown v_trouble v_where v_inn v_taped v_size v_at_130 v_sort_174 v_place_130 v_sign_130 v_number_130 v_fault_174 v_wrongAt_174 v_word_130 v_marks v_notes v_tape v_read_minutes v_read_rooms v_read_doors v_read_things x129_read_dreams v_read_sleepers v_read_listeners x129_read_names x129_read_name x129_read_nameNumber v_read_isTold x129_read_nameSort v_read_act v_read_what v_read_then v_read_met)) (As := [.int 3]) (rest := []) C (ctX12_wrong l E h h_tape h_far h_from h_real h_other h_kept h_set h_w h_book h_noteSort h_whose h_what h_noteIs h_fitting h_dawn h_likes h_walked h_came v_thrown v_trouble v_where v_inn (some h_read) v_taped v_size v_at_130 v_sort_136 v_place_130 v_sign_130 v_number_130 v_fault_136 v_wrongAt_136 v_word_130 v_marks v_notes N 3 (v_sort_174, v_fault_174, v_wrongAt_174) hc_174) ml_X12_145 ⟨Nat.le_of_ble_eq_true rfl, Nat.le_of_ble_eq_true rfl⟩ hP hD hS 0 rfl rfl rfl [0] [11, 1, 2, 3, 4, 5, 6, 7, 8, 9, 10] 11 rfl rfl rfl rfl rfl rfl rfl hl.1 rfl (Nat.le_of_ble_eq_true rfl) ⟨Nat.zero_le _, Nat.zero_le _⟩ dX12_readDream_174 ?_
                clear hP hD hS; intro H locs hP hD hS
                exact hj177 v_sort_174 v_fault_174 v_wrongAt_174 hf _ _ _ (lv_sub hl [1, 0] rfl) hP hD hS
            clear ej157
            refine lv_icmp_ne (pc := 145) (tgt := 152) hx hb dX12_readDream_145 (by decide) (fun c_145 => ?_) (fun c_145 => ?_)
            · replace hf := it_f c_145 hf
              refine lv_iconst (pc := 152) (v := 4) hx hb dX12_readDream_152 (by decide) ?_
              refine lv_iload_n (pc := 153) hx hb dX12_readDream_153 rfl (lv_at hl 2 rfl) ?_
              refine lv_imul (pc := 154) hx hb dX12_readDream_154 ?_
              refine lv_iload_n (pc := 155) hx hb dX12_readDream_155 rfl (lv_at hl 0 rfl) ?_
              refine lv_iadd (pc := 156) hx hb dX12_readDream_156 ?_
              exact hj157 ((4 * x96_s0) + r_136) hf _ _ _ (lv_sub hl [1] rfl) hP hD hS
            · replace hf := it_t c_145 hf
              refine lv_iconst (pc := 148) (v := 0) hx hb dX12_readDream_148 (by decide) ?_
              refine lv_goto (pc := 149) (tgt := 157) hx hb dX12_readDream_149 (by decide) ?_
              exact hj157 0 hf _ _ _ (lv_sub hl [1] rfl) hP hD hS
          clear ej129
          refine lv_icmp_ne (pc := 99) (tgt := 129) hx hb dX12_readDream_99 (by decide) (fun c_99 => ?_) (fun c_99 => ?_)
          · replace hf := it_f c_99 hf
            exact hj129 v_read_dreams v_read_names v_read_name v_read_nameNumber v_read_nameSort hf _ _ _ (lv_sub hl [1, 0] rfl) hP hD hS
          · replace hf := it_t c_99 hf
            refine lv_aload_n (pc := 102) hx hb dX12_readDream_102 rfl (lv_at hl 1 rfl) ?_
            refine r_get (pc := 103) C hP 0 rfl fl_X12_99 rfl dX12_readDream_103 ?_
            refine lv_iconst (pc := 106) (v := 5) hx hb dX12_readDream_106 (by decide) ?_
            refine lv_icmp_eq (pc := 107) (tgt := 129) hx hb dX12_readDream_107 (by decide) (fun c_107 => ?_) (fun c_107 => ?_)
            · replace hf := it_t c_107 hf
              exact hj129 v_read_dreams v_read_names v_read_name v_read_nameNumber v_read_nameSort hf _ _ _ (lv_sub hl [1, 0] rfl) hP hD hS
            · replace hf := it_f c_107 hf
              refine lv_aload_n (pc := 110) hx hb dX12_readDream_110 rfl (lv_at hl 1 rfl) ?_
              refine lv_iconst (pc := 111) (v := 2) hx hb dX12_readDream_111 (by decide) ?_
              refine lv_iload_n (pc := 112) hx hb dX12_readDream_112 rfl (lv_at hl 0 rfl) ?_
              obtain ⟨v_read_names_113, v_read_name_113, v_read_nameSort_113, v_read_nameNumber_113, hc_113, hf⟩ := bd4 hf
              refine r_dalVv (pc := 113) (ws' := (wX12_readDream E h h_read h_tape h_far h_from h_real h_other h_kept h_set h_w h_book h_noteSort h_whose h_what h_noteIs h_fitting h_dawn h_likes h_walked h_came h_read_creak h_read_doorA h_read_doorB h_read_how h_read_lies h_read_isCold h_read_falls h_read_isFull h_read_isTold h_read_act h_read_what h_read_then h_read_met h_read_bed h_read_dream h_read_listens h_read_name h_read_nameSort h_read_nameNumber v_thrown v_trouble v_where v_inn v_taped v_size v_at_1 x72_sort v_place_1 v_sign_1 v_number_1 x72_fault x72_wrongAt v_word_1 v_marks v_notes v_tape v_read_minutes v_read_rooms v_read_doors v_read_things v_read_dreams v_read_sleepers v_read_listeners v_read_names_113 v_read_name_113 v_read_nameNumber_113 v_read_isTold v_read_nameSort_113 v_read_act v_read_what v_read_then v_read_met)) (As := [.int 2, .int x96_s0]) (rest := []) C (ctX12_adds l E h h_read h_tape h_far h_from h_real h_other h_kept h_set h_w h_book h_noteSort h_whose h_what h_noteIs h_fitting h_dawn h_likes h_walked h_came h_read_creak h_read_doorA h_read_doorB h_read_how h_read_lies h_read_isCold h_read_falls h_read_isFull h_read_isTold h_read_act h_read_what h_read_then h_read_met h_read_bed h_read_dream h_read_listens h_read_name h_read_nameSort h_read_nameNumber v_thrown v_trouble v_where v_inn v_taped v_size v_at_1 x72_sort v_place_1 v_sign_1 v_number_1 x72_fault x72_wrongAt v_word_1 v_marks v_notes v_read_minutes v_read_rooms v_read_doors v_read_things v_read_dreams v_read_sleepers v_read_listeners v_read_names v_read_name v_read_nameSort v_read_nameNumber N 2 x96_s0 (v_read_names_113, v_read_name_113, v_read_nameSort_113, v_read_nameNumber_113) hc_113) ml_X12_228 ⟨Nat.le_of_ble_eq_true rfl, Nat.le_of_ble_eq_true rfl⟩ hP hD hS 0 rfl rfl rfl [0, 2, 3, 6, 4] [11, 1, 12, 13, 15, 5, 14, 7, 8, 9, 10] 11 rfl rfl rfl rfl rfl rfl rfl hl.1 rfl (Nat.le_of_ble_eq_true rfl) ⟨Nat.zero_le _, Nat.zero_le _⟩ dX12_readDream_113 ?_
              clear hP hD hS; intro H locs hP hD hS
              refine lv_aload_n (pc := 116) hx hb dX12_readDream_116 rfl (lv_at hl 1 rfl) ?_
              refine r_get (pc := 117) C hP 0 rfl fl_X12_202 rfl dX12_readDream_117 ?_
              refine lv_dup (pc := 120) hx hb dX12_readDream_120 rfl ?_
              refine r_get (pc := 121) C hP 2 rfl fl_X12_325 rfl dX12_readDream_121 ?_
              refine lv_iconst (pc := 124) (v := 1) hx hb dX12_readDream_124 (by decide) ?_
              refine lv_iadd (pc := 125) hx hb dX12_readDream_125 ?_
              refine r_put (pc := 126) (ws' := (wX12_readDream E h h_read h_tape h_far h_from h_real h_other h_kept h_set h_w h_book h_noteSort h_whose h_what h_noteIs h_fitting h_dawn h_likes h_walked h_came h_read_creak h_read_doorA h_read_doorB h_read_how h_read_lies h_read_isCold h_read_falls h_read_isFull h_read_isTold h_read_act h_read_what h_read_then h_read_met h_read_bed h_read_dream h_read_listens h_read_name h_read_nameSort h_read_nameNumber v_thrown v_trouble v_where v_inn v_taped v_size v_at_1 x72_sort v_place_1 v_sign_1 v_number_1 x72_fault x72_wrongAt v_word_1 v_marks v_notes v_tape v_read_minutes v_read_rooms v_read_doors v_read_things (v_read_dreams + 1) v_read_sleepers v_read_listeners v_read_names_113 v_read_name_113 v_read_nameNumber_113 v_read_isTold v_read_nameSort_113 v_read_act v_read_what v_read_then v_read_met)) C hP hD hS 2 rfl fl_X12_325 rfl rfl (Nat.le_of_ble_eq_true rfl) rfl dX12_readDream_126 ?_
              clear hP hD hS; intro H locs hP hD hS
              exact hj129 (v_read_dreams + 1) v_read_names_113 v_read_name_113 v_read_nameNumber_113 v_read_nameSort_113 hf _ _ _ (lv_sub hl [1, 0] rfl) hP hD hS
        clear ej96
        refine lv_icmp_ne (pc := 74) (tgt := 87) hx hb dX12_readDream_74 (by decide) (fun c_74 => ?_) (fun c_74 => ?_)
        · replace hf := it_f c_74 hf
          refine lv_aload_n (pc := 87) hx hb dX12_readDream_87 rfl (lv_at hl 0 rfl) ?_
          refine r_get (pc := 88) C hP 0 rfl fl_X12_202 rfl dX12_readDream_88 ?_
          refine r_get (pc := 91) C hP 2 rfl fl_X12_217 rfl dX12_readDream_91 ?_
          refine lv_iload_n (pc := 94) hx hb dX12_readDream_94 rfl (lv_at hl 1 rfl) ?_
          obtain ⟨hi_95, hf⟩ := gd_s hf
          refine r_iald (pc := 95) C hP 4 rfl hi_95 dX12_readDream_95 ?_
          exact hj96 (v_read_nameNumber r_24.toNatClampNeg) hf _ _ _ (lv_sub hl [0, 1] rfl) hP hD hS
        · replace hf := it_t c_74 hf
          refine lv_aload_n (pc := 77) hx hb dX12_readDream_77 rfl (lv_at hl 0 rfl) ?_
          refine r_get (pc := 78) C hP 0 rfl fl_X12_202 rfl dX12_readDream_78 ?_
          refine r_get (pc := 81) C hP 2 rfl fl_X12_325 rfl dX12_readDream_81 ?_
          refine lv_goto (pc := 84) (tgt := 96) hx hb dX12_readDream_84 (by decide) ?_
          exact hj96 v_read_dreams hf _ _ _ (lv_sub hl [0, 1] rfl) hP hD hS
      clear ej72
      refine lv_icmp_ne (pc := 53) (tgt := 72) hx hb dX12_readDream_53 (by decide) (fun c_53 => ?_) (fun c_53 => ?_)
      · replace hf := it_f c_53 hf
        exact hj72 x51_sort x51_fault x51_wrongAt hf _ _ _ (lv_sub hl [0, 1] rfl) hP hD hS
      · replace hf := it_t c_53 hf
        refine lv_aload_n (pc := 56) hx hb dX12_readDream_56 rfl (lv_at hl 0 rfl) ?_
        refine r_get (pc := 57) C hP 0 rfl fl_X12_202 rfl dX12_readDream_57 ?_
        refine r_get (pc := 60) C hP 2 rfl fl_X12_325 rfl dX12_readDream_60 ?_
        refine lv_iconst (pc := 63) (v := 4) hx hb dX12_readDream_63 (by decide) ?_
        refine lv_icmp_ne (pc := 64) (tgt := 72) hx hb dX12_readDream_64 (by decide) (fun c_64 => ?_) (fun c_64 => ?_)
        · replace hf := it_f c_64 hf
          exact hj72 x51_sort x51_fault x51_wrongAt hf _ _ _ (lv_sub hl [0, 1] rfl) hP hD hS
        · replace hf := it_t c_64 hf
          refine lv_aload_n (pc := 67) hx hb dX12_readDream_67 rfl (lv_at hl 0 rfl) ?_
          refine lv_iconst (pc := 68) (v := 5) hx hb dX12_readDream_68 (by decide) ?_
          obtain ⟨v_sort_69, v_fault_69, v_wrongAt_69, hc_69, hf⟩ := bd3 hf
          refine r_dalVv (pc := 69) (ws' := (wX12_readDream E h h_read h_tape h_far h_from h_real h_other h_kept h_set h_w h_book h_noteSort h_whose h_what h_noteIs h_fitting h_dawn h_likes h_walked h_came h_read_creak h_read_doorA h_read_doorB h_read_how h_read_lies h_read_isCold h_read_falls h_read_isFull h_read_isTold h_read_act h_read_what h_read_then h_read_met h_read_bed h_read_dream h_read_listens h_read_name h_read_nameSort h_read_nameNumber v_thrown v_trouble v_where v_inn v_taped v_size v_at_1 v_sort_69 v_place_1 v_sign_1 v_number_1 v_fault_69 v_wrongAt_69 v_word_1 v_marks v_notes v_tape v_read_minutes v_read_rooms v_read_doors v_read_things v_read_dreams v_read_sleepers v_read_listeners v_read_names v_read_name v_read_nameNumber v_read_isTold v_read_nameSort v_read_act v_read_what v_read_then v_read_met)) (As := [.int 5]) (rest := []) C (ctX12_wrong l E h h_tape h_far h_from h_real h_other h_kept h_set h_w h_book h_noteSort h_whose h_what h_noteIs h_fitting h_dawn h_likes h_walked h_came v_thrown v_trouble v_where v_inn (some h_read) v_taped v_size v_at_1 x51_sort v_place_1 v_sign_1 v_number_1 x51_fault x51_wrongAt v_word_1 v_marks v_notes N 5 (v_sort_69, v_fault_69, v_wrongAt_69) hc_69) ml_X12_145 ⟨Nat.le_of_ble_eq_true rfl, Nat.le_of_ble_eq_true rfl⟩ hP hD hS 0 rfl rfl rfl [0] [11, 1, 2, 3, 4, 5, 6, 7, 8, 9, 10] 11 rfl rfl rfl rfl rfl rfl rfl hl.1 rfl (Nat.le_of_ble_eq_true rfl) ⟨Nat.zero_le _, Nat.zero_le _⟩ dX12_readDream_69 ?_
          clear hP hD hS; intro H locs hP hD hS
          exact hj72 v_sort_69 v_fault_69 v_wrongAt_69 hf _ _ _ (lv_sub hl [0, 1] rfl) hP hD hS
    clear ej51
    refine lv_icmp_eq (pc := 30) (tgt := 51) hx hb dX12_readDream_30 (by decide) (fun c_30 => ?_) (fun c_30 => ?_)
    · replace hf := it_t c_30 hf
      exact hj51 x16_sort x16_fault x16_wrongAt hf _ _ _ (lv_sub hl [1, 0] rfl) hP hD hS
    · replace hf := it_f c_30 hf
      refine lv_aload_n (pc := 33) hx hb dX12_readDream_33 rfl (lv_at hl 1 rfl) ?_
      refine r_get (pc := 34) C hP 0 rfl fl_X12_202 rfl dX12_readDream_34 ?_
      refine r_get (pc := 37) C hP 2 rfl fl_X12_214 rfl dX12_readDream_37 ?_
      refine lv_iload_n (pc := 40) hx hb dX12_readDream_40 rfl (lv_at hl 0 rfl) ?_
      obtain ⟨hi_41, hf⟩ := gd_s hf
      refine r_iald (pc := 41) C hP 6 rfl hi_41 dX12_readDream_41 ?_
      refine lv_iconst (pc := 42) (v := 2) hx hb dX12_readDream_42 (by decide) ?_
      refine lv_icmp_eq (pc := 43) (tgt := 51) hx hb dX12_readDream_43 (by decide) (fun c_43 => ?_) (fun c_43 => ?_)
      · replace hf := it_t c_43 hf
        exact hj51 x16_sort x16_fault x16_wrongAt hf _ _ _ (lv_sub hl [1, 0] rfl) hP hD hS
      · replace hf := it_f c_43 hf
        refine lv_aload_n (pc := 46) hx hb dX12_readDream_46 rfl (lv_at hl 1 rfl) ?_
        refine lv_iconst (pc := 47) (v := 3) hx hb dX12_readDream_47 (by decide) ?_
        obtain ⟨v_sort_48, v_fault_48, v_wrongAt_48, hc_48, hf⟩ := bd3 hf
        refine r_dalVv (pc := 48) (ws' := (wX12_readDream E h h_read h_tape h_far h_from h_real h_other h_kept h_set h_w h_book h_noteSort h_whose h_what h_noteIs h_fitting h_dawn h_likes h_walked h_came h_read_creak h_read_doorA h_read_doorB h_read_how h_read_lies h_read_isCold h_read_falls h_read_isFull h_read_isTold h_read_act h_read_what h_read_then h_read_met h_read_bed h_read_dream h_read_listens h_read_name h_read_nameSort h_read_nameNumber v_thrown v_trouble v_where v_inn v_taped v_size v_at_1 v_sort_48 v_place_1 v_sign_1 v_number_1 v_fault_48 v_wrongAt_48 v_word_1 v_marks v_notes v_tape v_read_minutes v_read_rooms v_read_doors v_read_things v_read_dreams v_read_sleepers v_read_listeners v_read_names v_read_name v_read_nameNumber v_read_isTold v_read_nameSort v_read_act v_read_what v_read_then v_read_met)) (As := [.int 3]) (rest := []) C (ctX12_wrong l E h h_tape h_far h_from h_real h_other h_kept h_set h_w h_book h_noteSort h_whose h_what h_noteIs h_fitting h_dawn h_likes h_walked h_came v_thrown v_trouble v_where v_inn (some h_read) v_taped v_size v_at_1 x16_sort v_place_1 v_sign_1 v_number_1 x16_fault x16_wrongAt v_word_1 v_marks v_notes N 3 (v_sort_48, v_fault_48, v_wrongAt_48) hc_48) ml_X12_145 ⟨Nat.le_of_ble_eq_true rfl, Nat.le_of_ble_eq_true rfl⟩ hP hD hS 0 rfl rfl rfl [0] [11, 1, 2, 3, 4, 5, 6, 7, 8, 9, 10] 11 rfl rfl rfl rfl rfl rfl rfl hl.1 rfl (Nat.le_of_ble_eq_true rfl) ⟨Nat.zero_le _, Nat.zero_le _⟩ dX12_readDream_48 ?_
        clear hP hD hS; intro H locs hP hD hS
        exact hj51 v_sort_48 v_fault_48 v_wrongAt_48 hf _ _ _ (lv_sub hl [1, 0] rfl) hP hD hS
  clear ej16
  refine lv_if_ne (pc := 8) (tgt := 16) hx hb dX12_readDream_8 (by decide) (fun c_8 => ?_) (fun c_8 => ?_)
  · replace hf := it_f c_8 hf
    exact hj16 v_sort_1 v_fault v_wrongAt hf _ _ _ (lv_sub hl [0] rfl) hP hD hS
  · replace hf := it_t c_8 hf
    refine lv_aload_n (pc := 11) hx hb dX12_readDream_11 rfl (lv_at hl 0 rfl) ?_
    refine lv_iconst (pc := 12) (v := 1) hx hb dX12_readDream_12 (by decide) ?_
    obtain ⟨v_sort_13, v_fault_13, v_wrongAt_13, hc_13, hf⟩ := bd3 hf
    refine r_dalVv (pc := 13) (ws' := (wX12_readDream E h h_read h_tape h_far h_from h_real h_other h_kept h_set h_w h_book h_noteSort h_whose h_what h_noteIs h_fitting h_dawn h_likes h_walked h_came h_read_creak h_read_doorA h_read_doorB h_read_how h_read_lies h_read_isCold h_read_falls h_read_isFull h_read_isTold h_read_act h_read_what h_read_then h_read_met h_read_bed h_read_dream h_read_listens h_read_name h_read_nameSort h_read_nameNumber v_thrown v_trouble v_where v_inn v_taped v_size v_at_1 v_sort_13 v_place_1 v_sign_1 v_number_1 v_fault_13 v_wrongAt_13 v_word_1 v_marks v_notes v_tape v_read_minutes v_read_rooms v_read_doors v_read_things v_read_dreams v_read_sleepers v_read_listeners v_read_names v_read_name v_read_nameNumber v_read_isTold v_read_nameSort v_read_act v_read_what v_read_then v_read_met)) (As := [.int 1]) (rest := []) C (ctX12_wrong l E h h_tape h_far h_from h_real h_other h_kept h_set h_w h_book h_noteSort h_whose h_what h_noteIs h_fitting h_dawn h_likes h_walked h_came v_thrown v_trouble v_where v_inn (some h_read) v_taped v_size v_at_1 v_sort_1 v_place_1 v_sign_1 v_number_1 v_fault v_wrongAt v_word_1 v_marks v_notes N 1 (v_sort_13, v_fault_13, v_wrongAt_13) hc_13) ml_X12_145 ⟨Nat.le_of_ble_eq_true rfl, Nat.le_of_ble_eq_true rfl⟩ hP hD hS 0 rfl rfl rfl [0] [11, 1, 2, 3, 4, 5, 6, 7, 8, 9, 10] 11 rfl rfl rfl rfl rfl rfl rfl hl.1 rfl (Nat.le_of_ble_eq_true rfl) ⟨Nat.zero_le _, Nat.zero_le _⟩ dX12_readDream_13 ?_
    clear hP hD hS; intro H locs hP hD hS
    exact hj16 v_sort_13 v_fault_13 v_wrongAt_13 hf _ _ _ (lv_sub hl [0] rfl) hP hD hS
def wX12_readSleeper (E : EN) (h h_read h_tape h_far h_from h_real h_other h_kept h_set h_w h_book h_noteSort h_whose h_what h_noteIs h_fitting h_dawn h_likes h_walked h_came h_read_creak h_read_doorA h_read_doorB h_read_how h_read_lies h_read_isCold h_read_falls h_read_isFull h_read_isTold h_read_act h_read_what h_read_then h_read_met h_read_bed h_read_dream h_read_listens h_read_name h_read_nameSort h_read_nameNumber : Nat) (v_thrown : Int32) (v_trouble : Int32) (v_where : Int32) (v_inn : Option Nat) (v_taped : Int32) (v_size : Int32) (v_at : Int32) (v_sort : Int32) (v_place : Int32) (v_sign : Int32) (v_number : Int32) (v_fault : Int32) (v_wrongAt : Int32) (v_word : Int64) (v_marks : Int32) (v_notes : Int32) (v_read_minutes : Int32) (v_read_rooms : Int32) (v_read_doors : Int32) (v_read_things : Int32) (v_read_dreams : Int32) (v_read_sleepers : Int32) (v_read_listeners : Int32) (v_read_names : Int32) (v_tape : Nat → Int32) (v_read_name : Nat → Int64) (v_read_nameSort : Nat → Int32) (v_read_nameNumber : Nat → Int32) (v_read_bed : Nat → Int32) (v_read_dream : Nat → Int32) : va_W := [(h, .inr (11, [.int v_thrown, .int v_trouble, .int v_where, va_rf v_inn, .ref h_read, .ref h_tape, .int v_taped, .int v_size, .int v_at, .int v_sort, .int v_place, .int v_sign, .int v_number, .int v_fault, .int v_wrongAt, .long v_word, .ref h_far, .ref h_from, .ref h_real, .ref h_other, .ref h_kept, .ref h_set, .ref h_w, .int v_marks, .int v_notes, .ref h_book, .ref h_noteSort, .ref h_whose, .ref h_what, .ref h_noteIs, .ref h_fitting, .ref h_dawn, .ref h_likes, .ref h_walked, .ref h_came])), (h_read, .inr (10, [.int v_read_minutes, .int v_read_rooms, .int v_read_doors, .int v_read_things, .int v_read_dreams, .int v_read_sleepers, .int v_read_listeners, .int v_read_names, .ref h_read_creak, .ref h_read_doorA, .ref h_read_doorB, .ref h_read_how, .ref h_read_lies, .ref h_read_isCold, .ref h_read_falls, .ref h_read_isFull, .ref h_read_isTold, .ref h_read_act, .ref h_read_what, .ref h_read_then, .ref h_read_met, .ref h_read_bed, .ref h_read_dream, .ref h_read_listens, .ref h_read_name, .ref h_read_nameSort, .ref h_read_nameNumber])), (h_tape, aB E 900 v_tape), (h_read_name, aJ E 19 v_read_name), (h_read_nameSort, aI E 19 v_read_nameSort), (h_read_nameNumber, aI E 19 v_read_nameNumber), (h_read_bed, aI E 3 v_read_bed), (h_read_dream, aI E 3 v_read_dream)]
def fX12_readSleeper (N : Nat) (v_size : Int32) (v_at : Int32) (v_sort : Int32) (v_place : Int32) (v_sign : Int32) (v_number : Int32) (v_fault : Int32) (v_wrongAt : Int32) (v_word : Int64) (v_read_sleepers : Int32) (v_read_names : Int32) (v_tape : Nat → Int32) (v_read_name : Nat → Int64) (v_read_nameSort : Nat → Int32) (v_read_nameNumber : Nat → Int32) (v_read_bed : Nat → Int32) (v_read_dream : Nat → Int32) : Option (Int32 × Int32 × Int32 × Int32 × Int32 × Int32 × Int32 × Int64 × Int32 × Int32 × (Nat → Int64) × (Nat → Int32) × (Nat → Int32) × (Nat → Int32) × (Nat → Int32)) := (fX12_begins N v_read_sleepers 3 v_size v_at v_sort v_place v_sign v_number v_fault v_wrongAt v_word v_tape).bind (un8 fun (v_at_9 : Int32) (v_sort_9 : Int32) (v_place_9 : Int32) (v_sign_9 : Int32) (v_number_9 : Int32) (v_fault_9 : Int32) (v_wrongAt_9 : Int32) (v_word_9 : Int64) => (fX12_readFresh N 3 v_read_sleepers v_size v_at_9 v_sort_9 v_place_9 v_sign_9 v_number_9 v_fault_9 v_wrongAt_9 v_word_9 v_read_names v_read_name v_read_nameSort v_read_nameNumber v_tape).bind (un12 fun (v_at_21 : Int32) (v_sort_21 : Int32) (v_place_21 : Int32) (v_sign_21 : Int32) (v_number_21 : Int32) (v_fault_21 : Int32) (v_wrongAt_21 : Int32) (v_word_21 : Int64) (v_read_names_21 : Int32) (v_read_name_21 : Nat → Int64) (v_read_nameSort_21 : Nat → Int32) (v_read_nameNumber_21 : Nat → Int32) => (fX12_needs N 22 v_size v_at_21 v_sort_21 v_place_21 v_sign_21 v_number_21 v_fault_21 v_wrongAt_21 v_word_21 v_tape).bind (un8 fun (v_at_28 : Int32) (v_sort_28 : Int32) (v_place_28 : Int32) (v_sign_28 : Int32) (v_number_28 : Int32) (v_fault_28 : Int32) (v_wrongAt_28 : Int32) (v_word_28 : Int64) => (fX12_readKnown N 0 v_size v_at_28 v_sort_28 v_place_28 v_sign_28 v_number_28 v_fault_28 v_wrongAt_28 v_word_28 v_read_names_21 v_read_name_21 v_read_nameNumber_21 v_read_nameSort_21 v_tape).bind (un9 fun (r_33 : Int32) (v_at_33 : Int32) (v_sort_33 : Int32) (v_place_33 : Int32) (v_sign_33 : Int32) (v_number_33 : Int32) (v_fault_33 : Int32) (v_wrongAt_33 : Int32) (v_word_33 : Int64) => (fX12_needs N 23 v_size v_at_33 v_sort_33 v_place_33 v_sign_33 v_number_33 v_fault_33 v_wrongAt_33 v_word_33 v_tape).bind (un8 fun (v_at_41 : Int32) (v_sort_41 : Int32) (v_place_41 : Int32) (v_sign_41 : Int32) (v_number_41 : Int32) (v_fault_41 : Int32) (v_wrongAt_41 : Int32) (v_word_41 : Int64) => (fX12_readKnown N 2 v_size v_at_41 v_sort_41 v_place_41 v_sign_41 v_number_41 v_fault_41 v_wrongAt_41 v_word_41 v_read_names_21 v_read_name_21 v_read_nameNumber_21 v_read_nameSort_21 v_tape).bind (un9 fun (r_46 : Int32) (v_at_46 : Int32) (v_sort_46 : Int32) (v_place_46 : Int32) (v_sign_46 : Int32) (v_number_46 : Int32) (v_fault_46 : Int32) (v_wrongAt_46 : Int32) (v_word_46 : Int64) => if v_sort_46 = 5 then (some (v_at_46, v_sort_46, v_place_46, v_sign_46, v_number_46, v_fault_46, v_wrongAt_46, v_word_46, v_read_sleepers, v_read_names_21, v_read_name_21, v_read_nameSort_21, v_read_nameNumber_21, v_read_bed, v_read_dream)) else (gd v_read_sleepers 3 (gd v_read_sleepers 3 (some (v_at_46, v_sort_46, v_place_46, v_sign_46, v_number_46, v_fault_46, v_wrongAt_46, v_word_46, v_read_sleepers + 1, v_read_names_21, v_read_name_21, v_read_nameSort_21, v_read_nameNumber_21, upd v_read_bed v_read_sleepers.toNatClampNeg r_33, upd v_read_dream v_read_sleepers.toNatClampNeg r_46))))))))))
set_option maxHeartbeats 4000000 in
set_option maxRecDepth 100000 in
theorem ctX12_readSleeper (l : Launch) (E : EN) (h h_read h_tape h_far h_from h_real h_other h_kept h_set h_w h_book h_noteSort h_whose h_what h_noteIs h_fitting h_dawn h_likes h_walked h_came h_read_creak h_read_doorA h_read_doorB h_read_how h_read_lies h_read_isCold h_read_falls h_read_isFull h_read_isTold h_read_act h_read_what h_read_then h_read_met h_read_bed h_read_dream h_read_listens h_read_name h_read_nameSort h_read_nameNumber : Nat) (v_thrown : Int32) (v_trouble : Int32) (v_where : Int32) (v_inn : Option Nat) (v_taped : Int32) (v_size : Int32) (v_at : Int32) (v_sort : Int32) (v_place : Int32) (v_sign : Int32) (v_number : Int32) (v_fault : Int32) (v_wrongAt : Int32) (v_word : Int64) (v_marks : Int32) (v_notes : Int32) (v_read_minutes : Int32) (v_read_rooms : Int32) (v_read_doors : Int32) (v_read_things : Int32) (v_read_dreams : Int32) (v_read_sleepers : Int32) (v_read_listeners : Int32) (v_read_names : Int32) (v_tape : Nat → Int32) (v_read_name : Nat → Int64) (v_read_nameSort : Nat → Int32) (v_read_nameNumber : Nat → Int32) (v_read_bed : Nat → Int32) (v_read_dream : Nat → Int32) (N : Nat) (z : Int32 × Int32 × Int32 × Int32 × Int32 × Int32 × Int32 × Int64 × Int32 × Int32 × (Nat → Int64) × (Nat → Int32) × (Nat → Int32) × (Nat → Int32) × (Nat → Int32)) (hf : fX12_readSleeper N v_size v_at v_sort v_place v_sign v_number v_fault v_wrongAt v_word v_read_sleepers v_read_names v_tape v_read_name v_read_nameSort v_read_nameNumber v_read_bed v_read_dream = some z) : CTv l E yX12_readSleeper cX12_readSleeper 3 9 193 [.ref h] (wX12_readSleeper E h h_read h_tape h_far h_from h_real h_other h_kept h_set h_w h_book h_noteSort h_whose h_what h_noteIs h_fitting h_dawn h_likes h_walked h_came h_read_creak h_read_doorA h_read_doorB h_read_how h_read_lies h_read_isCold h_read_falls h_read_isFull h_read_isTold h_read_act h_read_what h_read_then h_read_met h_read_bed h_read_dream h_read_listens h_read_name h_read_nameSort h_read_nameNumber v_thrown v_trouble v_where v_inn v_taped v_size v_at v_sort v_place v_sign v_number v_fault v_wrongAt v_word v_marks v_notes v_read_minutes v_read_rooms v_read_doors v_read_things v_read_dreams v_read_sleepers v_read_listeners v_read_names v_tape v_read_name v_read_nameSort v_read_nameNumber v_read_bed v_read_dream) (wX12_readSleeper E h h_read h_tape h_far h_from h_real h_other h_kept h_set h_w h_book h_noteSort h_whose h_what h_noteIs h_fitting h_dawn h_likes h_walked h_came h_read_creak h_read_doorA h_read_doorB h_read_how h_read_lies h_read_isCold h_read_falls h_read_isFull h_read_isTold h_read_act h_read_what h_read_then h_read_met h_read_bed h_read_dream h_read_listens h_read_name h_read_nameSort h_read_nameNumber v_thrown v_trouble v_where v_inn v_taped v_size z.1 z.2.1 z.2.2.1 z.2.2.2.1 z.2.2.2.2.1 z.2.2.2.2.2.1 z.2.2.2.2.2.2.1 z.2.2.2.2.2.2.2.1 v_marks v_notes v_read_minutes v_read_rooms v_read_doors v_read_things v_read_dreams z.2.2.2.2.2.2.2.2.1 v_read_listeners z.2.2.2.2.2.2.2.2.2.1 v_tape z.2.2.2.2.2.2.2.2.2.2.1 z.2.2.2.2.2.2.2.2.2.2.2.1 z.2.2.2.2.2.2.2.2.2.2.2.2.1 z.2.2.2.2.2.2.2.2.2.2.2.2.2.1 z.2.2.2.2.2.2.2.2.2.2.2.2.2.2) := by
  intro sz
  refine ct_body (by decide) (Nat.le_of_ble_eq_true rfl) ?_
  intro p e s m args below meth c A ls hAe C hr hin hP hD hS hl
  have C : CX p s m args meth c cX12_readSleeper RX12 3 E A := C
  have hl : lv_has ls 3 [(0, .ref h)] := hl
  have hx := C.1
  have hb := C.2.1
  rw [hAe]
  clear hAe
  obtain ⟨Q, hQ⟩ : ∃ Q, Q = MQ below (Qv E A (wX12_readSleeper E h h_read h_tape h_far h_from h_real h_other h_kept h_set h_w h_book h_noteSort h_whose h_what h_noteIs h_fitting h_dawn h_likes h_walked h_came h_read_creak h_read_doorA h_read_doorB h_read_how h_read_lies h_read_isCold h_read_falls h_read_isFull h_read_isTold h_read_act h_read_what h_read_then h_read_met h_read_bed h_read_dream h_read_listens h_read_name h_read_nameSort h_read_nameNumber v_thrown v_trouble v_where v_inn v_taped v_size z.1 z.2.1 z.2.2.1 z.2.2.2.1 z.2.2.2.2.1 z.2.2.2.2.2.1 z.2.2.2.2.2.2.1 z.2.2.2.2.2.2.2.1 v_marks v_notes v_read_minutes v_read_rooms v_read_doors v_read_things v_read_dreams z.2.2.2.2.2.2.2.2.1 v_read_listeners z.2.2.2.2.2.2.2.2.2.1 v_tape z.2.2.2.2.2.2.2.2.2.2.1 z.2.2.2.2.2.2.2.2.2.2.2.1 z.2.2.2.2.2.2.2.2.2.2.2.2.1 z.2.2.2.2.2.2.2.2.2.2.2.2.2.1 z.2.2.2.2.2.2.2.2.2.2.2.2.2.2)) args s 0 0 A := ⟨_, rfl⟩
  rw [← hQ]
  unfold fX12_readSleeper at hf
  refine lv_aload_n (pc := 0) hx hb dX12_readSleeper_0 rfl (lv_at hl 0 rfl) ?_
  refine lv_aload_n (pc := 1) hx hb dX12_readSleeper_1 rfl (lv_at hl 0 rfl) ?_
  refine r_get (pc := 2) C hP 0 rfl fl_X12_202 rfl dX12_readSleeper_2 ?_
  refine r_get (pc := 5) C hP 1 rfl fl_X12_247 rfl dX12_readSleeper_5 ?_
  refine lv_iconst (pc := 8) (v := 3) hx hb dX12_readSleeper_8 (by decide) ?_
  obtain ⟨v_at_9, v_sort_9, v_place_9, v_sign_9, v_number_9, v_fault_9, v_wrongAt_9, v_word_9, hc_9, hf⟩ := bd8 hf
  refine r_dalVv (pc := 9) (ws' := (wX12_readSleeper E h h_read h_tape h_far h_from h_real h_other h_kept h_set h_w h_book h_noteSort h_whose h_what h_noteIs h_fitting h_dawn h_likes h_walked h_came h_read_creak h_read_doorA h_read_doorB h_read_how h_read_lies h_read_isCold h_read_falls h_read_isFull h_read_isTold h_read_act h_read_what h_read_then h_read_met h_read_bed h_read_dream h_read_listens h_read_name h_read_nameSort h_read_nameNumber v_thrown v_trouble v_where v_inn v_taped v_size v_at_9 v_sort_9 v_place_9 v_sign_9 v_number_9 v_fault_9 v_wrongAt_9 v_word_9 v_marks v_notes v_read_minutes v_read_rooms v_read_doors v_read_things v_read_dreams v_read_sleepers v_read_listeners v_read_names v_tape v_read_name v_read_nameSort v_read_nameNumber v_read_bed v_read_dream)) (As := [.int v_read_sleepers, .int 3]) (rest := []) C (ctX12_begins l E h h_tape h_far h_from h_real h_other h_kept h_set h_w h_book h_noteSort h_whose h_what h_noteIs h_fitting h_dawn h_likes h_walked h_came v_thrown v_trouble v_where v_inn (some h_read) v_taped v_size v_at v_sort v_place v_sign v_number v_fault v_wrongAt v_word v_marks v_notes v_tape N v_read_sleepers 3 (v_at_9, v_sort_9, v_place_9, v_sign_9, v_number_9, v_fault_9, v_wrongAt_9, v_word_9) hc_9) ml_X12_276 ⟨Nat.le_of_ble_eq_true rfl, Nat.le_of_ble_eq_true rfl⟩ hP hD hS 0 rfl rfl rfl [0, 2] [8, 1, 9, 3, 4, 5, 6, 7] 8 rfl rfl rfl rfl rfl rfl rfl hl.1 rfl (Nat.le_of_ble_eq_true rfl) ⟨Nat.zero_le _, Nat.zero_le _⟩ dX12_readSleeper_9 ?_
  clear hP hD hS; intro H locs hP hD hS
  refine lv_aload_n (pc := 12) hx hb dX12_readSleeper_12 rfl (lv_at hl 0 rfl) ?_
  refine lv_iconst (pc := 13) (v := 3) hx hb dX12_readSleeper_13 (by decide) ?_
  refine lv_aload_n (pc := 14) hx hb dX12_readSleeper_14 rfl (lv_at hl 0 rfl) ?_
  refine r_get (pc := 15) C hP 0 rfl fl_X12_202 rfl dX12_readSleeper_15 ?_
  refine r_get (pc := 18) C hP 1 rfl fl_X12_247 rfl dX12_readSleeper_18 ?_
  obtain ⟨v_at_21, v_sort_21, v_place_21, v_sign_21, v_number_21, v_fault_21, v_wrongAt_21, v_word_21, v_read_names_21, v_read_name_21, v_read_nameSort_21, v_read_nameNumber_21, hc_21, hf⟩ := bd12 hf
  refine r_dalVv (pc := 21) (ws' := (wX12_readSleeper E h h_read h_tape h_far h_from h_real h_other h_kept h_set h_w h_book h_noteSort h_whose h_what h_noteIs h_fitting h_dawn h_likes h_walked h_came h_read_creak h_read_doorA h_read_doorB h_read_how h_read_lies h_read_isCold h_read_falls h_read_isFull h_read_isTold h_read_act h_read_what h_read_then h_read_met h_read_bed h_read_dream h_read_listens h_read_name h_read_nameSort h_read_nameNumber v_thrown v_trouble v_where v_inn v_taped v_size v_at_21 v_sort_21 v_place_21 v_sign_21 v_number_21 v_fault_21 v_wrongAt_21 v_word_21 v_marks v_notes v_read_minutes v_read_rooms v_read_doors v_read_things v_read_dreams v_read_sleepers v_read_listeners v_read_names_21 v_tape v_read_name_21 v_read_nameSort_21 v_read_nameNumber_21 v_read_bed v_read_dream)) (As := [.int 3, .int v_read_sleepers]) (rest := []) C (ctX12_readFresh l E h h_read h_tape h_far h_from h_real h_other h_kept h_set h_w h_book h_noteSort h_whose h_what h_noteIs h_fitting h_dawn h_likes h_walked h_came h_read_creak h_read_doorA h_read_doorB h_read_how h_read_lies h_read_isCold h_read_falls h_read_isFull h_read_isTold h_read_act h_read_what h_read_then h_read_met h_read_bed h_read_dream h_read_listens h_read_name h_read_nameSort h_read_nameNumber v_thrown v_trouble v_where v_inn v_taped v_size v_at_9 v_sort_9 v_place_9 v_sign_9 v_number_9 v_fault_9 v_wrongAt_9 v_word_9 v_marks v_notes v_read_minutes v_read_rooms v_read_doors v_read_things v_read_dreams v_read_sleepers v_read_listeners v_read_names v_read_name v_read_nameSort v_read_nameNumber v_tape N 3 v_read_sleepers (v_at_21, v_sort_21, v_place_21, v_sign_21, v_number_21, v_fault_21, v_wrongAt_21, v_word_21, v_read_names_21, v_read_name_21, v_read_nameSort_21, v_read_nameNumber_21) hc_21) ml_X12_279 ⟨Nat.le_of_ble_eq_true rfl, Nat.le_of_ble_eq_true rfl⟩ hP hD hS 0 rfl rfl rfl [0, 1, 3, 4, 5, 2] [8, 9, 13, 10, 11, 12, 6, 7] 8 rfl rfl rfl rfl rfl rfl rfl hl.1 rfl (Nat.le_of_ble_eq_true rfl) ⟨Nat.zero_le _, Nat.zero_le _⟩ dX12_readSleeper_21 ?_
  clear hP hD hS; intro H locs hP hD hS
  refine lv_aload_n (pc := 24) hx hb dX12_readSleeper_24 rfl (lv_at hl 0 rfl) ?_
  refine r_ldcSw (pc := 25) C (C.kx.2.2.2.2.2 22 (by decide)).2.2.2.2 dX12_readSleeper_25 ?_
  obtain ⟨v_at_28, v_sort_28, v_place_28, v_sign_28, v_number_28, v_fault_28, v_wrongAt_28, v_word_28, hc_28, hf⟩ := bd8 hf
  refine r_dalVv (pc := 28) (ws' := (wX12_readSleeper E h h_read h_tape h_far h_from h_real h_other h_kept h_set h_w h_book h_noteSort h_whose h_what h_noteIs h_fitting h_dawn h_likes h_walked h_came h_read_creak h_read_doorA h_read_doorB h_read_how h_read_lies h_read_isCold h_read_falls h_read_isFull h_read_isTold h_read_act h_read_what h_read_then h_read_met h_read_bed h_read_dream h_read_listens h_read_name h_read_nameSort h_read_nameNumber v_thrown v_trouble v_where v_inn v_taped v_size v_at_28 v_sort_28 v_place_28 v_sign_28 v_number_28 v_fault_28 v_wrongAt_28 v_word_28 v_marks v_notes v_read_minutes v_read_rooms v_read_doors v_read_things v_read_dreams v_read_sleepers v_read_listeners v_read_names_21 v_tape v_read_name_21 v_read_nameSort_21 v_read_nameNumber_21 v_read_bed v_read_dream)) (As := [.ref (E.2.2.2.2.1 22)]) (rest := []) C (ctX12_needs l E h h_tape h_far h_from h_real h_other h_kept h_set h_w h_book h_noteSort h_whose h_what h_noteIs h_fitting h_dawn h_likes h_walked h_came v_thrown v_trouble v_where v_inn (some h_read) v_taped v_size v_at_21 v_sort_21 v_place_21 v_sign_21 v_number_21 v_fault_21 v_wrongAt_21 v_word_21 v_marks v_notes v_tape 22 (by decide) N (v_at_28, v_sort_28, v_place_28, v_sign_28, v_number_28, v_fault_28, v_wrongAt_28, v_word_28) hc_28) ml_X12_157 ⟨Nat.le_of_ble_eq_true rfl, Nat.le_of_ble_eq_true rfl⟩ hP hD hS 0 rfl rfl rfl [0, 2] [8, 1, 9, 3, 4, 5, 6, 7] 8 rfl rfl rfl rfl rfl rfl rfl hl.1 rfl (Nat.le_of_ble_eq_true rfl) ⟨Nat.zero_le _, Nat.zero_le _⟩ dX12_readSleeper_28 ?_
  clear hP hD hS; intro H locs hP hD hS
  refine lv_aload_n (pc := 31) hx hb dX12_readSleeper_31 rfl (lv_at hl 0 rfl) ?_
  refine lv_iconst (pc := 32) (v := 0) hx hb dX12_readSleeper_32 (by decide) ?_
  obtain ⟨r_33, v_at_33, v_sort_33, v_place_33, v_sign_33, v_number_33, v_fault_33, v_wrongAt_33, v_word_33, hc_33, hf⟩ := bd9 hf
  refine r_dalVi (pc := 33) (ws' := (wX12_readSleeper E h h_read h_tape h_far h_from h_real h_other h_kept h_set h_w h_book h_noteSort h_whose h_what h_noteIs h_fitting h_dawn h_likes h_walked h_came h_read_creak h_read_doorA h_read_doorB h_read_how h_read_lies h_read_isCold h_read_falls h_read_isFull h_read_isTold h_read_act h_read_what h_read_then h_read_met h_read_bed h_read_dream h_read_listens h_read_name h_read_nameSort h_read_nameNumber v_thrown v_trouble v_where v_inn v_taped v_size v_at_33 v_sort_33 v_place_33 v_sign_33 v_number_33 v_fault_33 v_wrongAt_33 v_word_33 v_marks v_notes v_read_minutes v_read_rooms v_read_doors v_read_things v_read_dreams v_read_sleepers v_read_listeners v_read_names_21 v_tape v_read_name_21 v_read_nameSort_21 v_read_nameNumber_21 v_read_bed v_read_dream)) (As := [.int 0]) (rest := []) C (ctX12_readKnown l E h h_read h_tape h_far h_from h_real h_other h_kept h_set h_w h_book h_noteSort h_whose h_what h_noteIs h_fitting h_dawn h_likes h_walked h_came h_read_creak h_read_doorA h_read_doorB h_read_how h_read_lies h_read_isCold h_read_falls h_read_isFull h_read_isTold h_read_act h_read_what h_read_then h_read_met h_read_bed h_read_dream h_read_listens h_read_name h_read_nameSort h_read_nameNumber v_thrown v_trouble v_where v_inn v_taped v_size v_at_28 v_sort_28 v_place_28 v_sign_28 v_number_28 v_fault_28 v_wrongAt_28 v_word_28 v_marks v_notes v_read_minutes v_read_rooms v_read_doors v_read_things v_read_dreams v_read_sleepers v_read_listeners v_read_names_21 v_read_name_21 v_read_nameNumber_21 v_read_nameSort_21 v_tape N 0 (r_33, v_at_33, v_sort_33, v_place_33, v_sign_33, v_number_33, v_fault_33, v_wrongAt_33, v_word_33) hc_33) ml_X12_295 ⟨Nat.le_of_ble_eq_true rfl, Nat.le_of_ble_eq_true rfl⟩ hP hD hS 0 rfl rfl rfl [0, 1, 3, 5, 4, 2] [8, 9, 13, 10, 12, 11, 6, 7] 8 rfl rfl rfl rfl rfl rfl rfl hl.1 rfl (Nat.le_of_ble_eq_true rfl) ⟨Nat.zero_le _, Nat.zero_le _⟩ dX12_readSleeper_33 ?_
  clear hP hD hS; intro H locs hP hD hS
  refine lv_istore_n (pc := 36) (lv' := [(1, .int r_33), (0, .ref h)]) hx hb dX12_readSleeper_36 rfl hl (by decide) rfl (fun ls hl => ?_)
  refine lv_aload_n (pc := 37) hx hb dX12_readSleeper_37 rfl (lv_at hl 1 rfl) ?_
  refine r_ldcSw (pc := 38) C (C.kx.2.2.2.2.2 23 (by decide)).2.2.2.2 dX12_readSleeper_38 ?_
  obtain ⟨v_at_41, v_sort_41, v_place_41, v_sign_41, v_number_41, v_fault_41, v_wrongAt_41, v_word_41, hc_41, hf⟩ := bd8 hf
  refine r_dalVv (pc := 41) (ws' := (wX12_readSleeper E h h_read h_tape h_far h_from h_real h_other h_kept h_set h_w h_book h_noteSort h_whose h_what h_noteIs h_fitting h_dawn h_likes h_walked h_came h_read_creak h_read_doorA h_read_doorB h_read_how h_read_lies h_read_isCold h_read_falls h_read_isFull h_read_isTold h_read_act h_read_what h_read_then h_read_met h_read_bed h_read_dream h_read_listens h_read_name h_read_nameSort h_read_nameNumber v_thrown v_trouble v_where v_inn v_taped v_size v_at_41 v_sort_41 v_place_41 v_sign_41 v_number_41 v_fault_41 v_wrongAt_41 v_word_41 v_marks v_notes v_read_minutes v_read_rooms v_read_doors v_read_things v_read_dreams v_read_sleepers v_read_listeners v_read_names_21 v_tape v_read_name_21 v_read_nameSort_21 v_read_nameNumber_21 v_read_bed v_read_dream)) (As := [.ref (E.2.2.2.2.1 23)]) (rest := []) C (ctX12_needs l E h h_tape h_far h_from h_real h_other h_kept h_set h_w h_book h_noteSort h_whose h_what h_noteIs h_fitting h_dawn h_likes h_walked h_came v_thrown v_trouble v_where v_inn (some h_read) v_taped v_size v_at_33 v_sort_33 v_place_33 v_sign_33 v_number_33 v_fault_33 v_wrongAt_33 v_word_33 v_marks v_notes v_tape 23 (by decide) N (v_at_41, v_sort_41, v_place_41, v_sign_41, v_number_41, v_fault_41, v_wrongAt_41, v_word_41) hc_41) ml_X12_157 ⟨Nat.le_of_ble_eq_true rfl, Nat.le_of_ble_eq_true rfl⟩ hP hD hS 0 rfl rfl rfl [0, 2] [8, 1, 9, 3, 4, 5, 6, 7] 8 rfl rfl rfl rfl rfl rfl rfl hl.1 rfl (Nat.le_of_ble_eq_true rfl) ⟨Nat.zero_le _, Nat.zero_le _⟩ dX12_readSleeper_41 ?_
  clear hP hD hS; intro H locs hP hD hS
  refine lv_aload_n (pc := 44) hx hb dX12_readSleeper_44 rfl (lv_at hl 1 rfl) ?_
  refine lv_iconst (pc := 45) (v := 2) hx hb dX12_readSleeper_45 (by decide) ?_
  obtain ⟨r_46, v_at_46, v_sort_46, v_place_46, v_sign_46, v_number_46, v_fault_46, v_wrongAt_46, v_word_46, hc_46, hf⟩ := bd9 hf
  refine r_dalVi (pc := 46) (ws' := (wX12_readSleeper E h h_read h_tape h_far h_from h_real h_other h_kept h_set h_w h_book h_noteSort h_whose h_what h_noteIs h_fitting h_dawn h_likes h_walked h_came h_read_creak h_read_doorA h_read_doorB h_read_how h_read_lies h_read_isCold h_read_falls h_read_isFull h_read_isTold h_read_act h_read_what h_read_then h_read_met h_read_bed h_read_dream h_read_listens h_read_name h_read_nameSort h_read_nameNumber v_thrown v_trouble v_where v_inn v_taped v_size v_at_46 v_sort_46 v_place_46 v_sign_46 v_number_46 v_fault_46 v_wrongAt_46 v_word_46 v_marks v_notes v_read_minutes v_read_rooms v_read_doors v_read_things v_read_dreams v_read_sleepers v_read_listeners v_read_names_21 v_tape v_read_name_21 v_read_nameSort_21 v_read_nameNumber_21 v_read_bed v_read_dream)) (As := [.int 2]) (rest := []) C (ctX12_readKnown l E h h_read h_tape h_far h_from h_real h_other h_kept h_set h_w h_book h_noteSort h_whose h_what h_noteIs h_fitting h_dawn h_likes h_walked h_came h_read_creak h_read_doorA h_read_doorB h_read_how h_read_lies h_read_isCold h_read_falls h_read_isFull h_read_isTold h_read_act h_read_what h_read_then h_read_met h_read_bed h_read_dream h_read_listens h_read_name h_read_nameSort h_read_nameNumber v_thrown v_trouble v_where v_inn v_taped v_size v_at_41 v_sort_41 v_place_41 v_sign_41 v_number_41 v_fault_41 v_wrongAt_41 v_word_41 v_marks v_notes v_read_minutes v_read_rooms v_read_doors v_read_things v_read_dreams v_read_sleepers v_read_listeners v_read_names_21 v_read_name_21 v_read_nameNumber_21 v_read_nameSort_21 v_tape N 2 (r_46, v_at_46, v_sort_46, v_place_46, v_sign_46, v_number_46, v_fault_46, v_wrongAt_46, v_word_46) hc_46) ml_X12_295 ⟨Nat.le_of_ble_eq_true rfl, Nat.le_of_ble_eq_true rfl⟩ hP hD hS 0 rfl rfl rfl [0, 1, 3, 5, 4, 2] [8, 9, 13, 10, 12, 11, 6, 7] 8 rfl rfl rfl rfl rfl rfl rfl hl.1 rfl (Nat.le_of_ble_eq_true rfl) ⟨Nat.zero_le _, Nat.zero_le _⟩ dX12_readSleeper_46 ?_
  clear hP hD hS; intro H locs hP hD hS
  refine lv_istore_n (pc := 49) (lv' := [(2, .int r_46), (1, .int r_33), (0, .ref h)]) hx hb dX12_readSleeper_49 rfl hl (by decide) rfl (fun ls hl => ?_)
  refine lv_aload_n (pc := 50) hx hb dX12_readSleeper_50 rfl (lv_at hl 2 rfl) ?_
  refine r_get (pc := 51) C hP 0 rfl fl_X12_99 rfl dX12_readSleeper_51 ?_
  refine lv_iconst (pc := 54) (v := 5) hx hb dX12_readSleeper_54 (by decide) ?_
  refine lv_icmp_ne (pc := 55) (tgt := 59) hx hb dX12_readSleeper_55 (by decide) (fun c_55 => ?_) (fun c_55 => ?_)
  · replace hf := it_f c_55 hf
    refine lv_aload_n (pc := 59) hx hb dX12_readSleeper_59 rfl (lv_at hl 2 rfl) ?_
    refine r_get (pc := 60) C hP 0 rfl fl_X12_202 rfl dX12_readSleeper_60 ?_
    refine r_get (pc := 63) C hP 1 rfl fl_X12_342 rfl dX12_readSleeper_63 ?_
    refine lv_aload_n (pc := 66) hx hb dX12_readSleeper_66 rfl (lv_at hl 2 rfl) ?_
    refine r_get (pc := 67) C hP 0 rfl fl_X12_202 rfl dX12_readSleeper_67 ?_
    refine r_get (pc := 70) C hP 1 rfl fl_X12_247 rfl dX12_readSleeper_70 ?_
    refine lv_iload_n (pc := 73) hx hb dX12_readSleeper_73 rfl (lv_at hl 1 rfl) ?_
    obtain ⟨hi_74, hf⟩ := gd_s hf
    refine r_iast (pc := 74) (ws' := (wX12_readSleeper E h h_read h_tape h_far h_from h_real h_other h_kept h_set h_w h_book h_noteSort h_whose h_what h_noteIs h_fitting h_dawn h_likes h_walked h_came h_read_creak h_read_doorA h_read_doorB h_read_how h_read_lies h_read_isCold h_read_falls h_read_isFull h_read_isTold h_read_act h_read_what h_read_then h_read_met h_read_bed h_read_dream h_read_listens h_read_name h_read_nameSort h_read_nameNumber v_thrown v_trouble v_where v_inn v_taped v_size v_at_46 v_sort_46 v_place_46 v_sign_46 v_number_46 v_fault_46 v_wrongAt_46 v_word_46 v_marks v_notes v_read_minutes v_read_rooms v_read_doors v_read_things v_read_dreams v_read_sleepers v_read_listeners v_read_names_21 v_tape v_read_name_21 v_read_nameSort_21 v_read_nameNumber_21 (upd v_read_bed v_read_sleepers.toNatClampNeg r_33) v_read_dream)) C hP hD hS 6 rfl hi_74 rfl dX12_readSleeper_74 ?_
    clear hP hD hS; intro H locs hP hD hS
    refine lv_aload_n (pc := 75) hx hb dX12_readSleeper_75 rfl (lv_at hl 2 rfl) ?_
    refine r_get (pc := 76) C hP 0 rfl fl_X12_202 rfl dX12_readSleeper_76 ?_
    refine r_get (pc := 79) C hP 1 rfl fl_X12_344 rfl dX12_readSleeper_79 ?_
    refine lv_aload_n (pc := 82) hx hb dX12_readSleeper_82 rfl (lv_at hl 2 rfl) ?_
    refine r_get (pc := 83) C hP 0 rfl fl_X12_202 rfl dX12_readSleeper_83 ?_
    refine r_get (pc := 86) C hP 1 rfl fl_X12_247 rfl dX12_readSleeper_86 ?_
    refine lv_iload_n (pc := 89) hx hb dX12_readSleeper_89 rfl (lv_at hl 0 rfl) ?_
    obtain ⟨hi_90, hf⟩ := gd_s hf
    refine r_iast (pc := 90) (ws' := (wX12_readSleeper E h h_read h_tape h_far h_from h_real h_other h_kept h_set h_w h_book h_noteSort h_whose h_what h_noteIs h_fitting h_dawn h_likes h_walked h_came h_read_creak h_read_doorA h_read_doorB h_read_how h_read_lies h_read_isCold h_read_falls h_read_isFull h_read_isTold h_read_act h_read_what h_read_then h_read_met h_read_bed h_read_dream h_read_listens h_read_name h_read_nameSort h_read_nameNumber v_thrown v_trouble v_where v_inn v_taped v_size v_at_46 v_sort_46 v_place_46 v_sign_46 v_number_46 v_fault_46 v_wrongAt_46 v_word_46 v_marks v_notes v_read_minutes v_read_rooms v_read_doors v_read_things v_read_dreams v_read_sleepers v_read_listeners v_read_names_21 v_tape v_read_name_21 v_read_nameSort_21 v_read_nameNumber_21 (upd v_read_bed v_read_sleepers.toNatClampNeg r_33) (upd v_read_dream v_read_sleepers.toNatClampNeg r_46))) C hP hD hS 7 rfl hi_90 rfl dX12_readSleeper_90 ?_
    clear hP hD hS; intro H locs hP hD hS
    refine lv_aload_n (pc := 91) hx hb dX12_readSleeper_91 rfl (lv_at hl 2 rfl) ?_
    refine r_get (pc := 92) C hP 0 rfl fl_X12_202 rfl dX12_readSleeper_92 ?_
    refine lv_dup (pc := 95) hx hb dX12_readSleeper_95 rfl ?_
    refine r_get (pc := 96) C hP 1 rfl fl_X12_247 rfl dX12_readSleeper_96 ?_
    refine lv_iconst (pc := 99) (v := 1) hx hb dX12_readSleeper_99 (by decide) ?_
    refine lv_iadd (pc := 100) hx hb dX12_readSleeper_100 ?_
    refine r_put (pc := 101) (ws' := (wX12_readSleeper E h h_read h_tape h_far h_from h_real h_other h_kept h_set h_w h_book h_noteSort h_whose h_what h_noteIs h_fitting h_dawn h_likes h_walked h_came h_read_creak h_read_doorA h_read_doorB h_read_how h_read_lies h_read_isCold h_read_falls h_read_isFull h_read_isTold h_read_act h_read_what h_read_then h_read_met h_read_bed h_read_dream h_read_listens h_read_name h_read_nameSort h_read_nameNumber v_thrown v_trouble v_where v_inn v_taped v_size v_at_46 v_sort_46 v_place_46 v_sign_46 v_number_46 v_fault_46 v_wrongAt_46 v_word_46 v_marks v_notes v_read_minutes v_read_rooms v_read_doors v_read_things v_read_dreams (v_read_sleepers + 1) v_read_listeners v_read_names_21 v_tape v_read_name_21 v_read_nameSort_21 v_read_nameNumber_21 (upd v_read_bed v_read_sleepers.toNatClampNeg r_33) (upd v_read_dream v_read_sleepers.toNatClampNeg r_46))) C hP hD hS 1 rfl fl_X12_247 rfl rfl (Nat.le_of_ble_eq_true rfl) rfl dX12_readSleeper_101 ?_
    clear hP hD hS; intro H locs hP hD hS
    cases hf
    rw [hQ]
    exact r_vret C hr hP hD hS dX12_readSleeper_104
  · replace hf := it_t c_55 hf
    cases hf
    rw [hQ]
    exact r_vret C hr hP hD hS dX12_readSleeper_58
def wX12_readListens (E : EN) (h h_read h_tape h_far h_from h_real h_other h_kept h_set h_w h_book h_noteSort h_whose h_what h_noteIs h_fitting h_dawn h_likes h_walked h_came h_read_creak h_read_doorA h_read_doorB h_read_how h_read_lies h_read_isCold h_read_falls h_read_isFull h_read_isTold h_read_act h_read_what h_read_then h_read_met h_read_bed h_read_dream h_read_listens h_read_name h_read_nameSort h_read_nameNumber : Nat) (v_thrown : Int32) (v_trouble : Int32) (v_where : Int32) (v_inn : Option Nat) (v_taped : Int32) (v_size : Int32) (v_at : Int32) (v_sort : Int32) (v_place : Int32) (v_sign : Int32) (v_number : Int32) (v_fault : Int32) (v_wrongAt : Int32) (v_word : Int64) (v_marks : Int32) (v_notes : Int32) (v_read_minutes : Int32) (v_read_rooms : Int32) (v_read_doors : Int32) (v_read_things : Int32) (v_read_dreams : Int32) (v_read_sleepers : Int32) (v_read_listeners : Int32) (v_read_names : Int32) (v_tape : Nat → Int32) (v_read_name : Nat → Int64) (v_read_nameNumber : Nat → Int32) (v_read_nameSort : Nat → Int32) (v_read_listens : Nat → Int32) : va_W := [(h, .inr (11, [.int v_thrown, .int v_trouble, .int v_where, va_rf v_inn, .ref h_read, .ref h_tape, .int v_taped, .int v_size, .int v_at, .int v_sort, .int v_place, .int v_sign, .int v_number, .int v_fault, .int v_wrongAt, .long v_word, .ref h_far, .ref h_from, .ref h_real, .ref h_other, .ref h_kept, .ref h_set, .ref h_w, .int v_marks, .int v_notes, .ref h_book, .ref h_noteSort, .ref h_whose, .ref h_what, .ref h_noteIs, .ref h_fitting, .ref h_dawn, .ref h_likes, .ref h_walked, .ref h_came])), (h_read, .inr (10, [.int v_read_minutes, .int v_read_rooms, .int v_read_doors, .int v_read_things, .int v_read_dreams, .int v_read_sleepers, .int v_read_listeners, .int v_read_names, .ref h_read_creak, .ref h_read_doorA, .ref h_read_doorB, .ref h_read_how, .ref h_read_lies, .ref h_read_isCold, .ref h_read_falls, .ref h_read_isFull, .ref h_read_isTold, .ref h_read_act, .ref h_read_what, .ref h_read_then, .ref h_read_met, .ref h_read_bed, .ref h_read_dream, .ref h_read_listens, .ref h_read_name, .ref h_read_nameSort, .ref h_read_nameNumber])), (h_tape, aB E 900 v_tape), (h_read_name, aJ E 19 v_read_name), (h_read_nameNumber, aI E 19 v_read_nameNumber), (h_read_nameSort, aI E 19 v_read_nameSort), (h_read_listens, aI E 3 v_read_listens)]
def BX12_readListens_20 (v_read_listeners : Int32) (v_read_listens : Nat → Int32) (r_14 : Int32) (N : Nat) (v_place_9 : Int32) (K63 : (Int32 × Int32 × Int32) → Option (Int32 × Int32 × Int32 × Int32 × Int32 × Int32 × Int32 × Int64 × Int32 × (Nat → Int32))) (rec20 : (Int32 × Int32 × Int32 × Int32) → Option (Int32 × Int32 × Int32 × Int32 × Int32 × Int32 × Int32 × Int64 × Int32 × (Nat → Int32))) : (Int32 × Int32 × Int32 × Int32) → Option (Int32 × Int32 × Int32 × Int32 × Int32 × Int32 × Int32 × Int64 × Int32 × (Nat → Int32)) := un4 fun (x20_2 : Int32) (x20_sort : Int32) (x20_fault : Int32) (x20_wrongAt : Int32) => if v_read_listeners ≤ x20_2 then (K63 (x20_sort, x20_fault, x20_wrongAt)) else (jn (un3 fun (x57_sort : Int32) (x57_fault : Int32) (x57_wrongAt : Int32) => rec20 (x20_2 + 1, x57_sort, x57_fault, x57_wrongAt)) (fun j57 => if x20_sort = 5 then (j57 (x20_sort, x20_fault, x20_wrongAt)) else (gd x20_2 3 (if (v_read_listens x20_2.toNatClampNeg) = r_14 then ((fX12_wrong N 3 x20_sort v_place_9 x20_fault x20_wrongAt).bind (un3 fun (v_sort_54 : Int32) (v_fault_54 : Int32) (v_wrongAt_54 : Int32) => j57 (v_sort_54, v_fault_54, v_wrongAt_54))) else (j57 (x20_sort, x20_fault, x20_wrongAt))))))
def fX12_readListens (N : Nat) (v_size : Int32) (v_at : Int32) (v_sort : Int32) (v_place : Int32) (v_sign : Int32) (v_number : Int32) (v_fault : Int32) (v_wrongAt : Int32) (v_word : Int64) (v_read_listeners : Int32) (v_read_names : Int32) (v_tape : Nat → Int32) (v_read_name : Nat → Int64) (v_read_nameNumber : Nat → Int32) (v_read_nameSort : Nat → Int32) (v_read_listens : Nat → Int32) : Option (Int32 × Int32 × Int32 × Int32 × Int32 × Int32 × Int32 × Int64 × Int32 × (Nat → Int32)) := (fX12_begins N v_read_listeners 3 v_size v_at v_sort v_place v_sign v_number v_fault v_wrongAt v_word v_tape).bind (un8 fun (v_at_9 : Int32) (v_sort_9 : Int32) (v_place_9 : Int32) (v_sign_9 : Int32) (v_number_9 : Int32) (v_fault_9 : Int32) (v_wrongAt_9 : Int32) (v_word_9 : Int64) => (fX12_known N 0 v_sort_9 v_place_9 v_fault_9 v_wrongAt_9 v_word_9 v_read_names v_read_name v_read_nameNumber v_read_nameSort).bind (un4 fun (r_14 : Int32) (v_sort_14 : Int32) (v_fault_14 : Int32) (v_wrongAt_14 : Int32) => lp (BX12_readListens_20 v_read_listeners v_read_listens r_14 N v_place_9 (un3 fun (x63_sort : Int32) (x63_fault : Int32) (x63_wrongAt : Int32) => (fX12_goesOn N v_size v_at_9 x63_sort v_place_9 v_sign_9 v_number_9 v_word_9 v_tape).bind (un6 fun (v_at_64 : Int32) (v_sort_64 : Int32) (v_place_64 : Int32) (v_sign_64 : Int32) (v_number_64 : Int32) (v_word_64 : Int64) => if v_sort_64 = 5 then (some (v_at_64, v_sort_64, v_place_64, v_sign_64, v_number_64, x63_fault, x63_wrongAt, v_word_64, v_read_listeners, v_read_listens)) else (gd v_read_listeners 3 (some (v_at_64, v_sort_64, v_place_64, v_sign_64, v_number_64, x63_fault, x63_wrongAt, v_word_64, v_read_listeners + 1, upd v_read_listens v_read_listeners.toNatClampNeg r_14)))))) N (0, v_sort_14, v_fault_14, v_wrongAt_14)))
set_option maxHeartbeats 4000000 in
set_option maxRecDepth 100000 in
theorem ctX12_readListens (l : Launch) (E : EN) (h h_read h_tape h_far h_from h_real h_other h_kept h_set h_w h_book h_noteSort h_whose h_what h_noteIs h_fitting h_dawn h_likes h_walked h_came h_read_creak h_read_doorA h_read_doorB h_read_how h_read_lies h_read_isCold h_read_falls h_read_isFull h_read_isTold h_read_act h_read_what h_read_then h_read_met h_read_bed h_read_dream h_read_listens h_read_name h_read_nameSort h_read_nameNumber : Nat) (v_thrown : Int32) (v_trouble : Int32) (v_where : Int32) (v_inn : Option Nat) (v_taped : Int32) (v_size : Int32) (v_at : Int32) (v_sort : Int32) (v_place : Int32) (v_sign : Int32) (v_number : Int32) (v_fault : Int32) (v_wrongAt : Int32) (v_word : Int64) (v_marks : Int32) (v_notes : Int32) (v_read_minutes : Int32) (v_read_rooms : Int32) (v_read_doors : Int32) (v_read_things : Int32) (v_read_dreams : Int32) (v_read_sleepers : Int32) (v_read_listeners : Int32) (v_read_names : Int32) (v_tape : Nat → Int32) (v_read_name : Nat → Int64) (v_read_nameNumber : Nat → Int32) (v_read_nameSort : Nat → Int32) (v_read_listens : Nat → Int32) (N : Nat) (z : Int32 × Int32 × Int32 × Int32 × Int32 × Int32 × Int32 × Int64 × Int32 × (Nat → Int32)) (hf : fX12_readListens N v_size v_at v_sort v_place v_sign v_number v_fault v_wrongAt v_word v_read_listeners v_read_names v_tape v_read_name v_read_nameNumber v_read_nameSort v_read_listens = some z) : CTv l E yX12_readListens cX12_readListens 3 8 171 [.ref h] (wX12_readListens E h h_read h_tape h_far h_from h_real h_other h_kept h_set h_w h_book h_noteSort h_whose h_what h_noteIs h_fitting h_dawn h_likes h_walked h_came h_read_creak h_read_doorA h_read_doorB h_read_how h_read_lies h_read_isCold h_read_falls h_read_isFull h_read_isTold h_read_act h_read_what h_read_then h_read_met h_read_bed h_read_dream h_read_listens h_read_name h_read_nameSort h_read_nameNumber v_thrown v_trouble v_where v_inn v_taped v_size v_at v_sort v_place v_sign v_number v_fault v_wrongAt v_word v_marks v_notes v_read_minutes v_read_rooms v_read_doors v_read_things v_read_dreams v_read_sleepers v_read_listeners v_read_names v_tape v_read_name v_read_nameNumber v_read_nameSort v_read_listens) (wX12_readListens E h h_read h_tape h_far h_from h_real h_other h_kept h_set h_w h_book h_noteSort h_whose h_what h_noteIs h_fitting h_dawn h_likes h_walked h_came h_read_creak h_read_doorA h_read_doorB h_read_how h_read_lies h_read_isCold h_read_falls h_read_isFull h_read_isTold h_read_act h_read_what h_read_then h_read_met h_read_bed h_read_dream h_read_listens h_read_name h_read_nameSort h_read_nameNumber v_thrown v_trouble v_where v_inn v_taped v_size z.1 z.2.1 z.2.2.1 z.2.2.2.1 z.2.2.2.2.1 z.2.2.2.2.2.1 z.2.2.2.2.2.2.1 z.2.2.2.2.2.2.2.1 v_marks v_notes v_read_minutes v_read_rooms v_read_doors v_read_things v_read_dreams v_read_sleepers z.2.2.2.2.2.2.2.2.1 v_read_names v_tape v_read_name v_read_nameNumber v_read_nameSort z.2.2.2.2.2.2.2.2.2) := by
  intro sz
  refine ct_body (by decide) (Nat.le_of_ble_eq_true rfl) ?_
  intro p e s m args below meth c A ls hAe C hr hin hP hD hS hl
  have C : CX p s m args meth c cX12_readListens RX12 3 E A := C
  have hl : lv_has ls 3 [(0, .ref h)] := hl
  have hx := C.1
  have hb := C.2.1
  rw [hAe]
  clear hAe
  obtain ⟨Q, hQ⟩ : ∃ Q, Q = MQ below (Qv E A (wX12_readListens E h h_read h_tape h_far h_from h_real h_other h_kept h_set h_w h_book h_noteSort h_whose h_what h_noteIs h_fitting h_dawn h_likes h_walked h_came h_read_creak h_read_doorA h_read_doorB h_read_how h_read_lies h_read_isCold h_read_falls h_read_isFull h_read_isTold h_read_act h_read_what h_read_then h_read_met h_read_bed h_read_dream h_read_listens h_read_name h_read_nameSort h_read_nameNumber v_thrown v_trouble v_where v_inn v_taped v_size z.1 z.2.1 z.2.2.1 z.2.2.2.1 z.2.2.2.2.1 z.2.2.2.2.2.1 z.2.2.2.2.2.2.1 z.2.2.2.2.2.2.2.1 v_marks v_notes v_read_minutes v_read_rooms v_read_doors v_read_things v_read_dreams v_read_sleepers z.2.2.2.2.2.2.2.2.1 v_read_names v_tape v_read_name v_read_nameNumber v_read_nameSort z.2.2.2.2.2.2.2.2.2)) args s 0 0 A := ⟨_, rfl⟩
  rw [← hQ]
  unfold fX12_readListens at hf
  refine lv_aload_n (pc := 0) hx hb dX12_readListens_0 rfl (lv_at hl 0 rfl) ?_
  refine lv_aload_n (pc := 1) hx hb dX12_readListens_1 rfl (lv_at hl 0 rfl) ?_
  refine r_get (pc := 2) C hP 0 rfl fl_X12_202 rfl dX12_readListens_2 ?_
  refine r_get (pc := 5) C hP 1 rfl fl_X12_346 rfl dX12_readListens_5 ?_
  refine lv_iconst (pc := 8) (v := 3) hx hb dX12_readListens_8 (by decide) ?_
  obtain ⟨v_at_9, v_sort_9, v_place_9, v_sign_9, v_number_9, v_fault_9, v_wrongAt_9, v_word_9, hc_9, hf⟩ := bd8 hf
  refine r_dalVv (pc := 9) (ws' := (wX12_readListens E h h_read h_tape h_far h_from h_real h_other h_kept h_set h_w h_book h_noteSort h_whose h_what h_noteIs h_fitting h_dawn h_likes h_walked h_came h_read_creak h_read_doorA h_read_doorB h_read_how h_read_lies h_read_isCold h_read_falls h_read_isFull h_read_isTold h_read_act h_read_what h_read_then h_read_met h_read_bed h_read_dream h_read_listens h_read_name h_read_nameSort h_read_nameNumber v_thrown v_trouble v_where v_inn v_taped v_size v_at_9 v_sort_9 v_place_9 v_sign_9 v_number_9 v_fault_9 v_wrongAt_9 v_word_9 v_marks v_notes v_read_minutes v_read_rooms v_read_doors v_read_things v_read_dreams v_read_sleepers v_read_listeners v_read_names v_tape v_read_name v_read_nameNumber v_read_nameSort v_read_listens)) (As := [.int v_read_listeners, .int 3]) (rest := []) C (ctX12_begins l E h h_tape h_far h_from h_real h_other h_kept h_set h_w h_book h_noteSort h_whose h_what h_noteIs h_fitting h_dawn h_likes h_walked h_came v_thrown v_trouble v_where v_inn (some h_read) v_taped v_size v_at v_sort v_place v_sign v_number v_fault v_wrongAt v_word v_marks v_notes v_tape N v_read_listeners 3 (v_at_9, v_sort_9, v_place_9, v_sign_9, v_number_9, v_fault_9, v_wrongAt_9, v_word_9) hc_9) ml_X12_276 ⟨Nat.le_of_ble_eq_true rfl, Nat.le_of_ble_eq_true rfl⟩ hP hD hS 0 rfl rfl rfl [0, 2] [7, 1, 8, 3, 4, 5, 6] 7 rfl rfl rfl rfl rfl rfl rfl hl.1 rfl (Nat.le_of_ble_eq_true rfl) ⟨Nat.zero_le _, Nat.zero_le _⟩ dX12_readListens_9 ?_
  clear hP hD hS; intro H locs hP hD hS
  refine lv_aload_n (pc := 12) hx hb dX12_readListens_12 rfl (lv_at hl 0 rfl) ?_
  refine lv_iconst (pc := 13) (v := 0) hx hb dX12_readListens_13 (by decide) ?_
  obtain ⟨r_14, v_sort_14, v_fault_14, v_wrongAt_14, hc_14, hf⟩ := bd4 hf
  refine r_dalVi (pc := 14) (ws' := (wX12_readListens E h h_read h_tape h_far h_from h_real h_other h_kept h_set h_w h_book h_noteSort h_whose h_what h_noteIs h_fitting h_dawn h_likes h_walked h_came h_read_creak h_read_doorA h_read_doorB h_read_how h_read_lies h_read_isCold h_read_falls h_read_isFull h_read_isTold h_read_act h_read_what h_read_then h_read_met h_read_bed h_read_dream h_read_listens h_read_name h_read_nameSort h_read_nameNumber v_thrown v_trouble v_where v_inn v_taped v_size v_at_9 v_sort_14 v_place_9 v_sign_9 v_number_9 v_fault_14 v_wrongAt_14 v_word_9 v_marks v_notes v_read_minutes v_read_rooms v_read_doors v_read_things v_read_dreams v_read_sleepers v_read_listeners v_read_names v_tape v_read_name v_read_nameNumber v_read_nameSort v_read_listens)) (As := [.int 0]) (rest := []) C (ctX12_known l E h h_read h_tape h_far h_from h_real h_other h_kept h_set h_w h_book h_noteSort h_whose h_what h_noteIs h_fitting h_dawn h_likes h_walked h_came h_read_creak h_read_doorA h_read_doorB h_read_how h_read_lies h_read_isCold h_read_falls h_read_isFull h_read_isTold h_read_act h_read_what h_read_then h_read_met h_read_bed h_read_dream h_read_listens h_read_name h_read_nameSort h_read_nameNumber v_thrown v_trouble v_where v_inn v_taped v_size v_at_9 v_sort_9 v_place_9 v_sign_9 v_number_9 v_fault_9 v_wrongAt_9 v_word_9 v_marks v_notes v_read_minutes v_read_rooms v_read_doors v_read_things v_read_dreams v_read_sleepers v_read_listeners v_read_names v_read_name v_read_nameNumber v_read_nameSort N 0 (r_14, v_sort_14, v_fault_14, v_wrongAt_14) hc_14) ml_X12_232 ⟨Nat.le_of_ble_eq_true rfl, Nat.le_of_ble_eq_true rfl⟩ hP hD hS 0 rfl rfl rfl [0, 1, 3, 4, 5] [7, 8, 2, 9, 10, 11, 6] 7 rfl rfl rfl rfl rfl rfl rfl hl.1 rfl (Nat.le_of_ble_eq_true rfl) ⟨Nat.zero_le _, Nat.zero_le _⟩ dX12_readListens_14 ?_
  clear hP hD hS; intro H locs hP hD hS
  refine lv_istore_n (pc := 17) (lv' := [(1, .int r_14), (0, .ref h)]) hx hb dX12_readListens_17 rfl hl (by decide) rfl (fun ls hl => ?_)
  refine lv_iconst (pc := 18) (v := 0) hx hb dX12_readListens_18 (by decide) ?_
  refine lv_istore_n (pc := 19) (lv' := [(2, .int 0), (1, .int r_14), (0, .ref h)]) hx hb dX12_readListens_19 rfl hl (by decide) rfl (fun ls hl => ?_)
  refine lpK hf (fun K63 eK63 hf => ?_)
  have hK63 : ∀ (x63_sort : Int32) (x63_fault : Int32) (x63_wrongAt : Int32) , K63 (x63_sort, x63_fault, x63_wrongAt) = some z → AT p l e (rmOf 8 171) s m args below meth c E A Q 0 0 3 [(0, .ref h), (1, .int r_14)] (wX12_readListens E h h_read h_tape h_far h_from h_real h_other h_kept h_set h_w h_book h_noteSort h_whose h_what h_noteIs h_fitting h_dawn h_likes h_walked h_came h_read_creak h_read_doorA h_read_doorB h_read_how h_read_lies h_read_isCold h_read_falls h_read_isFull h_read_isTold h_read_act h_read_what h_read_then h_read_met h_read_bed h_read_dream h_read_listens h_read_name h_read_nameSort h_read_nameNumber v_thrown v_trouble v_where v_inn v_taped v_size v_at_9 x63_sort v_place_9 v_sign_9 v_number_9 x63_fault x63_wrongAt v_word_9 v_marks v_notes v_read_minutes v_read_rooms v_read_doors v_read_things v_read_dreams v_read_sleepers v_read_listeners v_read_names v_tape v_read_name v_read_nameNumber v_read_nameSort v_read_listens) 63 [] := by
    intro x63_sort x63_fault x63_wrongAt hf H locs ls hl hP hD hS
    rw [eK63] at hf
    replace hf := un3_s hf
    refine lv_aload_n (pc := 63) hx hb dX12_readListens_63 rfl (lv_at hl 0 rfl) ?_
    obtain ⟨v_at_64, v_sort_64, v_place_64, v_sign_64, v_number_64, v_word_64, hc_64, hf⟩ := bd6 hf
    refine r_dalVv (pc := 64) (ws' := (wX12_readListens E h h_read h_tape h_far h_from h_real h_other h_kept h_set h_w h_book h_noteSort h_whose h_what h_noteIs h_fitting h_dawn h_likes h_walked h_came h_read_creak h_read_doorA h_read_doorB h_read_how h_read_lies h_read_isCold h_read_falls h_read_isFull h_read_isTold h_read_act h_read_what h_read_then h_read_met h_read_bed h_read_dream h_read_listens h_read_name h_read_nameSort h_read_nameNumber v_thrown v_trouble v_where v_inn v_taped v_size v_at_64 v_sort_64 v_place_64 v_sign_64 v_number_64 x63_fault x63_wrongAt v_word_64 v_marks v_notes v_read_minutes v_read_rooms v_read_doors v_read_things v_read_dreams v_read_sleepers v_read_listeners v_read_names v_tape v_read_name v_read_nameNumber v_read_nameSort v_read_listens)) (As := []) (rest := []) C (ctX12_goesOn l E h h_tape h_far h_from h_real h_other h_kept h_set h_w h_book h_noteSort h_whose h_what h_noteIs h_fitting h_dawn h_likes h_walked h_came v_thrown v_trouble v_where v_inn (some h_read) v_taped v_size v_at_9 x63_sort v_place_9 v_sign_9 v_number_9 x63_fault x63_wrongAt v_word_9 v_marks v_notes v_tape N (v_at_64, v_sort_64, v_place_64, v_sign_64, v_number_64, v_word_64) hc_64) ml_X12_142 ⟨Nat.le_of_ble_eq_true rfl, Nat.le_of_ble_eq_true rfl⟩ hP hD hS 0 rfl rfl rfl [0, 2] [7, 1, 8, 3, 4, 5, 6] 7 rfl rfl rfl rfl rfl rfl rfl hl.1 rfl (Nat.le_of_ble_eq_true rfl) ⟨Nat.zero_le _, Nat.zero_le _⟩ dX12_readListens_64 ?_
    clear hP hD hS; intro H locs hP hD hS
    refine lv_aload_n (pc := 67) hx hb dX12_readListens_67 rfl (lv_at hl 0 rfl) ?_
    refine r_get (pc := 68) C hP 0 rfl fl_X12_99 rfl dX12_readListens_68 ?_
    refine lv_iconst (pc := 71) (v := 5) hx hb dX12_readListens_71 (by decide) ?_
    refine lv_icmp_ne (pc := 72) (tgt := 76) hx hb dX12_readListens_72 (by decide) (fun c_72 => ?_) (fun c_72 => ?_)
    · replace hf := it_f c_72 hf
      refine lv_aload_n (pc := 76) hx hb dX12_readListens_76 rfl (lv_at hl 0 rfl) ?_
      refine r_get (pc := 77) C hP 0 rfl fl_X12_202 rfl dX12_readListens_77 ?_
      refine r_get (pc := 80) C hP 1 rfl fl_X12_349 rfl dX12_readListens_80 ?_
      refine lv_aload_n (pc := 83) hx hb dX12_readListens_83 rfl (lv_at hl 0 rfl) ?_
      refine r_get (pc := 84) C hP 0 rfl fl_X12_202 rfl dX12_readListens_84 ?_
      refine r_get (pc := 87) C hP 1 rfl fl_X12_346 rfl dX12_readListens_87 ?_
      refine lv_iload_n (pc := 90) hx hb dX12_readListens_90 rfl (lv_at hl 1 rfl) ?_
      obtain ⟨hi_91, hf⟩ := gd_s hf
      refine r_iast (pc := 91) (ws' := (wX12_readListens E h h_read h_tape h_far h_from h_real h_other h_kept h_set h_w h_book h_noteSort h_whose h_what h_noteIs h_fitting h_dawn h_likes h_walked h_came h_read_creak h_read_doorA h_read_doorB h_read_how h_read_lies h_read_isCold h_read_falls h_read_isFull h_read_isTold h_read_act h_read_what h_read_then h_read_met h_read_bed h_read_dream h_read_listens h_read_name h_read_nameSort h_read_nameNumber v_thrown v_trouble v_where v_inn v_taped v_size v_at_64 v_sort_64 v_place_64 v_sign_64 v_number_64 x63_fault x63_wrongAt v_word_64 v_marks v_notes v_read_minutes v_read_rooms v_read_doors v_read_things v_read_dreams v_read_sleepers v_read_listeners v_read_names v_tape v_read_name v_read_nameNumber v_read_nameSort (upd v_read_listens v_read_listeners.toNatClampNeg r_14))) C hP hD hS 6 rfl hi_91 rfl dX12_readListens_91 ?_
      clear hP hD hS; intro H locs hP hD hS
      refine lv_aload_n (pc := 92) hx hb dX12_readListens_92 rfl (lv_at hl 0 rfl) ?_
      refine r_get (pc := 93) C hP 0 rfl fl_X12_202 rfl dX12_readListens_93 ?_
      refine lv_dup (pc := 96) hx hb dX12_readListens_96 rfl ?_
      refine r_get (pc := 97) C hP 1 rfl fl_X12_346 rfl dX12_readListens_97 ?_
      refine lv_iconst (pc := 100) (v := 1) hx hb dX12_readListens_100 (by decide) ?_
      refine lv_iadd (pc := 101) hx hb dX12_readListens_101 ?_
      refine r_put (pc := 102) (ws' := (wX12_readListens E h h_read h_tape h_far h_from h_real h_other h_kept h_set h_w h_book h_noteSort h_whose h_what h_noteIs h_fitting h_dawn h_likes h_walked h_came h_read_creak h_read_doorA h_read_doorB h_read_how h_read_lies h_read_isCold h_read_falls h_read_isFull h_read_isTold h_read_act h_read_what h_read_then h_read_met h_read_bed h_read_dream h_read_listens h_read_name h_read_nameSort h_read_nameNumber v_thrown v_trouble v_where v_inn v_taped v_size v_at_64 v_sort_64 v_place_64 v_sign_64 v_number_64 x63_fault x63_wrongAt v_word_64 v_marks v_notes v_read_minutes v_read_rooms v_read_doors v_read_things v_read_dreams v_read_sleepers (v_read_listeners + 1) v_read_names v_tape v_read_name v_read_nameNumber v_read_nameSort (upd v_read_listens v_read_listeners.toNatClampNeg r_14))) C hP hD hS 1 rfl fl_X12_346 rfl rfl (Nat.le_of_ble_eq_true rfl) rfl dX12_readListens_102 ?_
      clear hP hD hS; intro H locs hP hD hS
      cases hf
      rw [hQ]
      exact r_vret C hr hP hD hS dX12_readListens_105
    · replace hf := it_t c_72 hf
      cases hf
      rw [hQ]
      exact r_vret C hr hP hD hS dX12_readListens_75
  clear eK63
  have key20 : ∀ (n : Nat) (x20_2 : Int32) (x20_sort : Int32) (x20_fault : Int32) (x20_wrongAt : Int32) , lp (BX12_readListens_20 v_read_listeners v_read_listens r_14 N v_place_9 K63) n (x20_2, x20_sort, x20_fault, x20_wrongAt) = some z → AT p l e (rmOf 8 171) s m args below meth c E A Q 0 0 3 [(0, .ref h), (1, .int r_14), (2, .int x20_2)] (wX12_readListens E h h_read h_tape h_far h_from h_real h_other h_kept h_set h_w h_book h_noteSort h_whose h_what h_noteIs h_fitting h_dawn h_likes h_walked h_came h_read_creak h_read_doorA h_read_doorB h_read_how h_read_lies h_read_isCold h_read_falls h_read_isFull h_read_isTold h_read_act h_read_what h_read_then h_read_met h_read_bed h_read_dream h_read_listens h_read_name h_read_nameSort h_read_nameNumber v_thrown v_trouble v_where v_inn v_taped v_size v_at_9 x20_sort v_place_9 v_sign_9 v_number_9 x20_fault x20_wrongAt v_word_9 v_marks v_notes v_read_minutes v_read_rooms v_read_doors v_read_things v_read_dreams v_read_sleepers v_read_listeners v_read_names v_tape v_read_name v_read_nameNumber v_read_nameSort v_read_listens) 20 [] := by
    intro n
    induction n with
    | zero => intro x20_2 x20_sort x20_fault x20_wrongAt hf; exact (lp_0 hf).elim
    | succ n ih20 =>
      intro x20_2 x20_sort x20_fault x20_wrongAt hf H locs ls hl hP hD hS
      replace hf := lp_s hf
      generalize lp (BX12_readListens_20 v_read_listeners v_read_listens r_14 N v_place_9 K63) n = rec20 at ih20 hf
      unfold BX12_readListens_20 at hf
      replace hf := un4_s hf
      refine lv_iload_n (pc := 20) hx hb dX12_readListens_20 rfl (lv_at hl 2 rfl) ?_
      refine lv_aload_n (pc := 21) hx hb dX12_readListens_21 rfl (lv_at hl 0 rfl) ?_
      refine r_get (pc := 22) C hP 0 rfl fl_X12_202 rfl dX12_readListens_22 ?_
      refine r_get (pc := 25) C hP 1 rfl fl_X12_346 rfl dX12_readListens_25 ?_
      refine lv_icmp_ge (pc := 28) (tgt := 63) hx hb dX12_readListens_28 (by decide) (fun c_28 => ?_) (fun c_28 => ?_)
      · replace hf := it_t c_28 hf
        exact hK63 x20_sort x20_fault x20_wrongAt hf _ _ _ (lv_sub hl [0, 1] rfl) hP hD hS
      · replace hf := it_f c_28 hf
        refine lv_aload_n (pc := 31) hx hb dX12_readListens_31 rfl (lv_at hl 0 rfl) ?_
        refine r_get (pc := 32) C hP 0 rfl fl_X12_99 rfl dX12_readListens_32 ?_
        refine lv_iconst (pc := 35) (v := 5) hx hb dX12_readListens_35 (by decide) ?_
        refine jnK hf (fun j57 ej57 hf => ?_)
        have hj57 : ∀ (x57_sort : Int32) (x57_fault : Int32) (x57_wrongAt : Int32) , j57 (x57_sort, x57_fault, x57_wrongAt) = some z → AT p l e (rmOf 8 171) s m args below meth c E A Q 0 0 3 [(0, .ref h), (1, .int r_14), (2, .int x20_2)] (wX12_readListens E h h_read h_tape h_far h_from h_real h_other h_kept h_set h_w h_book h_noteSort h_whose h_what h_noteIs h_fitting h_dawn h_likes h_walked h_came h_read_creak h_read_doorA h_read_doorB h_read_how h_read_lies h_read_isCold h_read_falls h_read_isFull h_read_isTold h_read_act h_read_what h_read_then h_read_met h_read_bed h_read_dream h_read_listens h_read_name h_read_nameSort h_read_nameNumber v_thrown v_trouble v_where v_inn v_taped v_size v_at_9 x57_sort v_place_9 v_sign_9 v_number_9 x57_fault x57_wrongAt v_word_9 v_marks v_notes v_read_minutes v_read_rooms v_read_doors v_read_things v_read_dreams v_read_sleepers v_read_listeners v_read_names v_tape v_read_name v_read_nameNumber v_read_nameSort v_read_listens) 57 [] := by
          intro x57_sort x57_fault x57_wrongAt hf H locs ls hl hP hD hS
          rw [ej57] at hf
          replace hf := un3_s hf
          refine lv_iinc (pc := 57) (v := x20_2 + 1) (lv' := [(2, .int (x20_2 + 1)), (0, .ref h), (1, .int r_14)]) hx hb dX12_readListens_57 hl (k := 2) rfl rfl (by decide) rfl (fun ls hl => ?_)
          refine lv_goto (pc := 60) (tgt := 20) hx hb dX12_readListens_60 (by decide) ?_
          exact ih20 (x20_2 + 1) x57_sort x57_fault x57_wrongAt hf _ _ _ (lv_sub hl [1, 2, 0] rfl) hP hD hS
        clear ej57
        refine lv_icmp_eq (pc := 36) (tgt := 57) hx hb dX12_readListens_36 (by decide) (fun c_36 => ?_) (fun c_36 => ?_)
        · replace hf := it_t c_36 hf
          exact hj57 x20_sort x20_fault x20_wrongAt hf _ _ _ (lv_sub hl [0, 1, 2] rfl) hP hD hS
        · replace hf := it_f c_36 hf
          refine lv_aload_n (pc := 39) hx hb dX12_readListens_39 rfl (lv_at hl 0 rfl) ?_
          refine r_get (pc := 40) C hP 0 rfl fl_X12_202 rfl dX12_readListens_40 ?_
          refine r_get (pc := 43) C hP 1 rfl fl_X12_349 rfl dX12_readListens_43 ?_
          refine lv_iload_n (pc := 46) hx hb dX12_readListens_46 rfl (lv_at hl 2 rfl) ?_
          obtain ⟨hi_47, hf⟩ := gd_s hf
          refine r_iald (pc := 47) C hP 6 rfl hi_47 dX12_readListens_47 ?_
          refine lv_iload_n (pc := 48) hx hb dX12_readListens_48 rfl (lv_at hl 1 rfl) ?_
          refine lv_icmp_ne (pc := 49) (tgt := 57) hx hb dX12_readListens_49 (by decide) (fun c_49 => ?_) (fun c_49 => ?_)
          · replace hf := it_f c_49 hf
            exact hj57 x20_sort x20_fault x20_wrongAt hf _ _ _ (lv_sub hl [0, 1, 2] rfl) hP hD hS
          · replace hf := it_t c_49 hf
            refine lv_aload_n (pc := 52) hx hb dX12_readListens_52 rfl (lv_at hl 0 rfl) ?_
            refine lv_iconst (pc := 53) (v := 3) hx hb dX12_readListens_53 (by decide) ?_
            obtain ⟨v_sort_54, v_fault_54, v_wrongAt_54, hc_54, hf⟩ := bd3 hf
            refine r_dalVv (pc := 54) (ws' := (wX12_readListens E h h_read h_tape h_far h_from h_real h_other h_kept h_set h_w h_book h_noteSort h_whose h_what h_noteIs h_fitting h_dawn h_likes h_walked h_came h_read_creak h_read_doorA h_read_doorB h_read_how h_read_lies h_read_isCold h_read_falls h_read_isFull h_read_isTold h_read_act h_read_what h_read_then h_read_met h_read_bed h_read_dream h_read_listens h_read_name h_read_nameSort h_read_nameNumber v_thrown v_trouble v_where v_inn v_taped v_size v_at_9 v_sort_54 v_place_9 v_sign_9 v_number_9 v_fault_54 v_wrongAt_54 v_word_9 v_marks v_notes v_read_minutes v_read_rooms v_read_doors v_read_things v_read_dreams v_read_sleepers v_read_listeners v_read_names v_tape v_read_name v_read_nameNumber v_read_nameSort v_read_listens)) (As := [.int 3]) (rest := []) C (ctX12_wrong l E h h_tape h_far h_from h_real h_other h_kept h_set h_w h_book h_noteSort h_whose h_what h_noteIs h_fitting h_dawn h_likes h_walked h_came v_thrown v_trouble v_where v_inn (some h_read) v_taped v_size v_at_9 x20_sort v_place_9 v_sign_9 v_number_9 x20_fault x20_wrongAt v_word_9 v_marks v_notes N 3 (v_sort_54, v_fault_54, v_wrongAt_54) hc_54) ml_X12_145 ⟨Nat.le_of_ble_eq_true rfl, Nat.le_of_ble_eq_true rfl⟩ hP hD hS 0 rfl rfl rfl [0] [7, 1, 2, 3, 4, 5, 6] 7 rfl rfl rfl rfl rfl rfl rfl hl.1 rfl (Nat.le_of_ble_eq_true rfl) ⟨Nat.zero_le _, Nat.zero_le _⟩ dX12_readListens_54 ?_
            clear hP hD hS; intro H locs hP hD hS
            exact hj57 v_sort_54 v_fault_54 v_wrongAt_54 hf _ _ _ (lv_sub hl [0, 1, 2] rfl) hP hD hS
  exact key20 _ 0 v_sort_14 v_fault_14 v_wrongAt_14 hf _ _ _ (lv_sub hl [2, 1, 0] rfl) hP hD hS
def wX12_readLine (E : EN) (h h_read h_tape h_far h_from h_real h_other h_kept h_set h_w h_book h_noteSort h_whose h_what h_noteIs h_fitting h_dawn h_likes h_walked h_came h_read_creak h_read_doorA h_read_doorB h_read_how h_read_lies h_read_isCold h_read_falls h_read_isFull h_read_isTold h_read_act h_read_what h_read_then h_read_met h_read_bed h_read_dream h_read_listens h_read_name h_read_nameSort h_read_nameNumber : Nat) (v_thrown : Int32) (v_trouble : Int32) (v_where : Int32) (v_inn : Option Nat) (v_taped : Int32) (v_size : Int32) (v_at : Int32) (v_sort : Int32) (v_place : Int32) (v_sign : Int32) (v_number : Int32) (v_fault : Int32) (v_wrongAt : Int32) (v_word : Int64) (v_marks : Int32) (v_notes : Int32) (v_read_minutes : Int32) (v_read_rooms : Int32) (v_read_doors : Int32) (v_read_things : Int32) (v_read_dreams : Int32) (v_read_sleepers : Int32) (v_read_listeners : Int32) (v_read_names : Int32) (v_tape : Nat → Int32) (v_read_name : Nat → Int64) (v_read_nameNumber : Nat → Int32) (v_read_nameSort : Nat → Int32) (v_read_listens : Nat → Int32) (v_read_bed : Nat → Int32) (v_read_dream : Nat → Int32) (v_read_isTold : Nat → Int32) (v_read_act : Nat → Int32) (v_read_what : Nat → Int32) (v_read_then : Nat → Int32) (v_read_met : Nat → Int32) (v_read_lies : Nat → Int32) (v_read_isFull : Nat → Int32) (v_read_doorA : Nat → Int32) (v_read_doorB : Nat → Int32) (v_read_how : Nat → Int32) (v_read_falls : Nat → Int32) (v_read_creak : Nat → Int32) (v_read_isCold : Nat → Int32) : va_W := [(h, .inr (11, [.int v_thrown, .int v_trouble, .int v_where, va_rf v_inn, .ref h_read, .ref h_tape, .int v_taped, .int v_size, .int v_at, .int v_sort, .int v_place, .int v_sign, .int v_number, .int v_fault, .int v_wrongAt, .long v_word, .ref h_far, .ref h_from, .ref h_real, .ref h_other, .ref h_kept, .ref h_set, .ref h_w, .int v_marks, .int v_notes, .ref h_book, .ref h_noteSort, .ref h_whose, .ref h_what, .ref h_noteIs, .ref h_fitting, .ref h_dawn, .ref h_likes, .ref h_walked, .ref h_came])), (h_read, .inr (10, [.int v_read_minutes, .int v_read_rooms, .int v_read_doors, .int v_read_things, .int v_read_dreams, .int v_read_sleepers, .int v_read_listeners, .int v_read_names, .ref h_read_creak, .ref h_read_doorA, .ref h_read_doorB, .ref h_read_how, .ref h_read_lies, .ref h_read_isCold, .ref h_read_falls, .ref h_read_isFull, .ref h_read_isTold, .ref h_read_act, .ref h_read_what, .ref h_read_then, .ref h_read_met, .ref h_read_bed, .ref h_read_dream, .ref h_read_listens, .ref h_read_name, .ref h_read_nameSort, .ref h_read_nameNumber])), (h_tape, aB E 900 v_tape), (h_read_name, aJ E 19 v_read_name), (h_read_nameNumber, aI E 19 v_read_nameNumber), (h_read_nameSort, aI E 19 v_read_nameSort), (h_read_listens, aI E 3 v_read_listens), (h_read_bed, aI E 3 v_read_bed), (h_read_dream, aI E 3 v_read_dream), (h_read_isTold, aZ E 16 v_read_isTold), (h_read_act, aI E 16 v_read_act), (h_read_what, aI E 16 v_read_what), (h_read_then, aI E 16 v_read_then), (h_read_met, aI E 16 v_read_met), (h_read_lies, aI E 4 v_read_lies), (h_read_isFull, aZ E 4 v_read_isFull), (h_read_doorA, aI E 10 v_read_doorA), (h_read_doorB, aI E 10 v_read_doorB), (h_read_how, aI E 10 v_read_how), (h_read_falls, aZ E 10 v_read_falls), (h_read_creak, aI E 8 v_read_creak), (h_read_isCold, aZ E 8 v_read_isCold)]
def fX12_readLine (N : Nat) (v_size : Int32) (v_at : Int32) (v_sort : Int32) (v_place : Int32) (v_sign : Int32) (v_number : Int32) (v_fault : Int32) (v_wrongAt : Int32) (v_word : Int64) (v_read_minutes : Int32) (v_read_rooms : Int32) (v_read_doors : Int32) (v_read_things : Int32) (v_read_dreams : Int32) (v_read_sleepers : Int32) (v_read_listeners : Int32) (v_read_names : Int32) (v_tape : Nat → Int32) (v_read_name : Nat → Int64) (v_read_nameNumber : Nat → Int32) (v_read_nameSort : Nat → Int32) (v_read_listens : Nat → Int32) (v_read_bed : Nat → Int32) (v_read_dream : Nat → Int32) (v_read_isTold : Nat → Int32) (v_read_act : Nat → Int32) (v_read_what : Nat → Int32) (v_read_then : Nat → Int32) (v_read_met : Nat → Int32) (v_read_lies : Nat → Int32) (v_read_isFull : Nat → Int32) (v_read_doorA : Nat → Int32) (v_read_doorB : Nat → Int32) (v_read_how : Nat → Int32) (v_read_falls : Nat → Int32) (v_read_creak : Nat → Int32) (v_read_isCold : Nat → Int32) : Option (Int32 × Int32 × Int32 × Int32 × Int32 × Int32 × Int32 × Int64 × Int32 × Int32 × Int32 × Int32 × Int32 × Int32 × Int32 × Int32 × (Nat → Int64) × (Nat → Int32) × (Nat → Int32) × (Nat → Int32) × (Nat → Int32) × (Nat → Int32) × (Nat → Int32) × (Nat → Int32) × (Nat → Int32) × (Nat → Int32) × (Nat → Int32) × (Nat → Int32) × (Nat → Int32) × (Nat → Int32) × (Nat → Int32) × (Nat → Int32) × (Nat → Int32) × (Nat → Int32) × (Nat → Int32)) := (fX12_isWord N 0 v_sort v_word).bind (un1 fun (r_3 : Int32) => if r_3 = 0 then ((fX12_isWord N 1 v_sort v_word).bind (un1 fun (r_19 : Int32) => if r_19 = 0 then ((fX12_isWord N 2 v_sort v_word).bind (un1 fun (r_35 : Int32) => if r_35 = 0 then ((fX12_isWord N 3 v_sort v_word).bind (un1 fun (r_51 : Int32) => if r_51 = 0 then ((fX12_isWord N 4 v_sort v_word).bind (un1 fun (r_67 : Int32) => if r_67 = 0 then ((fX12_isWord N 5 v_sort v_word).bind (un1 fun (r_83 : Int32) => if r_83 = 0 then ((fX12_isWord N 6 v_sort v_word).bind (un1 fun (r_99 : Int32) => if r_99 = 0 then ((fX12_wrong N 1 v_sort v_place v_fault v_wrongAt).bind (un3 fun (v_sort_114 : Int32) (v_fault_114 : Int32) (v_wrongAt_114 : Int32) => some (v_at, v_sort_114, v_place, v_sign, v_number, v_fault_114, v_wrongAt_114, v_word, v_read_minutes, v_read_rooms, v_read_doors, v_read_things, v_read_dreams, v_read_sleepers, v_read_listeners, v_read_names, v_read_name, v_read_nameNumber, v_read_nameSort, v_read_listens, v_read_bed, v_read_dream, v_read_isTold, v_read_act, v_read_what, v_read_then, v_read_met, v_read_lies, v_read_isFull, v_read_doorA, v_read_doorB, v_read_how, v_read_falls, v_read_creak, v_read_isCold))) else ((fX12_readListens N v_size v_at v_sort v_place v_sign v_number v_fault v_wrongAt v_word v_read_listeners v_read_names v_tape v_read_name v_read_nameNumber v_read_nameSort v_read_listens).bind (un10 fun (v_at_106 : Int32) (v_sort_106 : Int32) (v_place_106 : Int32) (v_sign_106 : Int32) (v_number_106 : Int32) (v_fault_106 : Int32) (v_wrongAt_106 : Int32) (v_word_106 : Int64) (v_read_listeners_106 : Int32) (v_read_listens_106 : Nat → Int32) => some (v_at_106, v_sort_106, v_place_106, v_sign_106, v_number_106, v_fault_106, v_wrongAt_106, v_word_106, v_read_minutes, v_read_rooms, v_read_doors, v_read_things, v_read_dreams, v_read_sleepers, v_read_listeners_106, v_read_names, v_read_name, v_read_nameNumber, v_read_nameSort, v_read_listens_106, v_read_bed, v_read_dream, v_read_isTold, v_read_act, v_read_what, v_read_then, v_read_met, v_read_lies, v_read_isFull, v_read_doorA, v_read_doorB, v_read_how, v_read_falls, v_read_creak, v_read_isCold))))) else ((fX12_readSleeper N v_size v_at v_sort v_place v_sign v_number v_fault v_wrongAt v_word v_read_sleepers v_read_names v_tape v_read_name v_read_nameSort v_read_nameNumber v_read_bed v_read_dream).bind (un15 fun (v_at_90 : Int32) (v_sort_90 : Int32) (v_place_90 : Int32) (v_sign_90 : Int32) (v_number_90 : Int32) (v_fault_90 : Int32) (v_wrongAt_90 : Int32) (v_word_90 : Int64) (v_read_sleepers_90 : Int32) (v_read_names_90 : Int32) (v_read_name_90 : Nat → Int64) (v_read_nameSort_90 : Nat → Int32) (v_read_nameNumber_90 : Nat → Int32) (v_read_bed_90 : Nat → Int32) (v_read_dream_90 : Nat → Int32) => some (v_at_90, v_sort_90, v_place_90, v_sign_90, v_number_90, v_fault_90, v_wrongAt_90, v_word_90, v_read_minutes, v_read_rooms, v_read_doors, v_read_things, v_read_dreams, v_read_sleepers_90, v_read_listeners, v_read_names_90, v_read_name_90, v_read_nameNumber_90, v_read_nameSort_90, v_read_listens, v_read_bed_90, v_read_dream_90, v_read_isTold, v_read_act, v_read_what, v_read_then, v_read_met, v_read_lies, v_read_isFull, v_read_doorA, v_read_doorB, v_read_how, v_read_falls, v_read_creak, v_read_isCold))))) else ((fX12_readDream N v_size v_at v_sort v_place v_sign v_number v_fault v_wrongAt v_word v_tape v_read_dreams v_read_names v_read_name v_read_nameNumber v_read_isTold v_read_nameSort v_read_act v_read_what v_read_then v_read_met).bind (un18 fun (v_at_74 : Int32) (v_sort_74 : Int32) (v_place_74 : Int32) (v_sign_74 : Int32) (v_number_74 : Int32) (v_fault_74 : Int32) (v_wrongAt_74 : Int32) (v_word_74 : Int64) (v_read_dreams_74 : Int32) (v_read_names_74 : Int32) (v_read_name_74 : Nat → Int64) (v_read_nameNumber_74 : Nat → Int32) (v_read_isTold_74 : Nat → Int32) (v_read_nameSort_74 : Nat → Int32) (v_read_act_74 : Nat → Int32) (v_read_what_74 : Nat → Int32) (v_read_then_74 : Nat → Int32) (v_read_met_74 : Nat → Int32) => some (v_at_74, v_sort_74, v_place_74, v_sign_74, v_number_74, v_fault_74, v_wrongAt_74, v_word_74, v_read_minutes, v_read_rooms, v_read_doors, v_read_things, v_read_dreams_74, v_read_sleepers, v_read_listeners, v_read_names_74, v_read_name_74, v_read_nameNumber_74, v_read_nameSort_74, v_read_listens, v_read_bed, v_read_dream, v_read_isTold_74, v_read_act_74, v_read_what_74, v_read_then_74, v_read_met_74, v_read_lies, v_read_isFull, v_read_doorA, v_read_doorB, v_read_how, v_read_falls, v_read_creak, v_read_isCold))))) else ((fX12_readThing N v_size v_at v_sort v_place v_sign v_number v_fault v_wrongAt v_word v_read_things v_read_names v_tape v_read_name v_read_nameSort v_read_nameNumber v_read_lies v_read_isFull).bind (un15 fun (v_at_58 : Int32) (v_sort_58 : Int32) (v_place_58 : Int32) (v_sign_58 : Int32) (v_number_58 : Int32) (v_fault_58 : Int32) (v_wrongAt_58 : Int32) (v_word_58 : Int64) (v_read_things_58 : Int32) (v_read_names_58 : Int32) (v_read_name_58 : Nat → Int64) (v_read_nameSort_58 : Nat → Int32) (v_read_nameNumber_58 : Nat → Int32) (v_read_lies_58 : Nat → Int32) (v_read_isFull_58 : Nat → Int32) => some (v_at_58, v_sort_58, v_place_58, v_sign_58, v_number_58, v_fault_58, v_wrongAt_58, v_word_58, v_read_minutes, v_read_rooms, v_read_doors, v_read_things_58, v_read_dreams, v_read_sleepers, v_read_listeners, v_read_names_58, v_read_name_58, v_read_nameNumber_58, v_read_nameSort_58, v_read_listens, v_read_bed, v_read_dream, v_read_isTold, v_read_act, v_read_what, v_read_then, v_read_met, v_read_lies_58, v_read_isFull_58, v_read_doorA, v_read_doorB, v_read_how, v_read_falls, v_read_creak, v_read_isCold))))) else ((fX12_readDoor N v_size v_at v_sort v_place v_sign v_number v_fault v_wrongAt v_word v_read_doors v_read_names v_tape v_read_name v_read_nameNumber v_read_nameSort v_read_doorA v_read_doorB v_read_how v_read_falls).bind (un13 fun (v_at_42 : Int32) (v_sort_42 : Int32) (v_place_42 : Int32) (v_sign_42 : Int32) (v_number_42 : Int32) (v_fault_42 : Int32) (v_wrongAt_42 : Int32) (v_word_42 : Int64) (v_read_doors_42 : Int32) (v_read_doorA_42 : Nat → Int32) (v_read_doorB_42 : Nat → Int32) (v_read_how_42 : Nat → Int32) (v_read_falls_42 : Nat → Int32) => some (v_at_42, v_sort_42, v_place_42, v_sign_42, v_number_42, v_fault_42, v_wrongAt_42, v_word_42, v_read_minutes, v_read_rooms, v_read_doors_42, v_read_things, v_read_dreams, v_read_sleepers, v_read_listeners, v_read_names, v_read_name, v_read_nameNumber, v_read_nameSort, v_read_listens, v_read_bed, v_read_dream, v_read_isTold, v_read_act, v_read_what, v_read_then, v_read_met, v_read_lies, v_read_isFull, v_read_doorA_42, v_read_doorB_42, v_read_how_42, v_read_falls_42, v_read_creak, v_read_isCold))))) else ((fX12_readRoom N v_size v_at v_sort v_place v_sign v_number v_fault v_wrongAt v_word v_read_rooms v_read_names v_tape v_read_name v_read_nameSort v_read_nameNumber v_read_creak v_read_isCold).bind (un15 fun (v_at_26 : Int32) (v_sort_26 : Int32) (v_place_26 : Int32) (v_sign_26 : Int32) (v_number_26 : Int32) (v_fault_26 : Int32) (v_wrongAt_26 : Int32) (v_word_26 : Int64) (v_read_rooms_26 : Int32) (v_read_names_26 : Int32) (v_read_name_26 : Nat → Int64) (v_read_nameSort_26 : Nat → Int32) (v_read_nameNumber_26 : Nat → Int32) (v_read_creak_26 : Nat → Int32) (v_read_isCold_26 : Nat → Int32) => some (v_at_26, v_sort_26, v_place_26, v_sign_26, v_number_26, v_fault_26, v_wrongAt_26, v_word_26, v_read_minutes, v_read_rooms_26, v_read_doors, v_read_things, v_read_dreams, v_read_sleepers, v_read_listeners, v_read_names_26, v_read_name_26, v_read_nameNumber_26, v_read_nameSort_26, v_read_listens, v_read_bed, v_read_dream, v_read_isTold, v_read_act, v_read_what, v_read_then, v_read_met, v_read_lies, v_read_isFull, v_read_doorA, v_read_doorB, v_read_how, v_read_falls, v_read_creak_26, v_read_isCold_26))))) else ((fX12_readHouse N v_size v_at v_sort v_place v_sign v_number v_fault v_wrongAt v_word v_read_minutes v_tape).bind (un9 fun (v_at_10 : Int32) (v_sort_10 : Int32) (v_place_10 : Int32) (v_sign_10 : Int32) (v_number_10 : Int32) (v_fault_10 : Int32) (v_wrongAt_10 : Int32) (v_word_10 : Int64) (v_read_minutes_10 : Int32) => some (v_at_10, v_sort_10, v_place_10, v_sign_10, v_number_10, v_fault_10, v_wrongAt_10, v_word_10, v_read_minutes_10, v_read_rooms, v_read_doors, v_read_things, v_read_dreams, v_read_sleepers, v_read_listeners, v_read_names, v_read_name, v_read_nameNumber, v_read_nameSort, v_read_listens, v_read_bed, v_read_dream, v_read_isTold, v_read_act, v_read_what, v_read_then, v_read_met, v_read_lies, v_read_isFull, v_read_doorA, v_read_doorB, v_read_how, v_read_falls, v_read_creak, v_read_isCold))))
set_option maxHeartbeats 4000000 in
set_option maxRecDepth 100000 in
theorem ctX12_readLine (l : Launch) (E : EN) (h h_read h_tape h_far h_from h_real h_other h_kept h_set h_w h_book h_noteSort h_whose h_what h_noteIs h_fitting h_dawn h_likes h_walked h_came h_read_creak h_read_doorA h_read_doorB h_read_how h_read_lies h_read_isCold h_read_falls h_read_isFull h_read_isTold h_read_act h_read_what h_read_then h_read_met h_read_bed h_read_dream h_read_listens h_read_name h_read_nameSort h_read_nameNumber : Nat) (v_thrown : Int32) (v_trouble : Int32) (v_where : Int32) (v_inn : Option Nat) (v_taped : Int32) (v_size : Int32) (v_at : Int32) (v_sort : Int32) (v_place : Int32) (v_sign : Int32) (v_number : Int32) (v_fault : Int32) (v_wrongAt : Int32) (v_word : Int64) (v_marks : Int32) (v_notes : Int32) (v_read_minutes : Int32) (v_read_rooms : Int32) (v_read_doors : Int32) (v_read_things : Int32) (v_read_dreams : Int32) (v_read_sleepers : Int32) (v_read_listeners : Int32) (v_read_names : Int32) (v_tape : Nat → Int32) (v_read_name : Nat → Int64) (v_read_nameNumber : Nat → Int32) (v_read_nameSort : Nat → Int32) (v_read_listens : Nat → Int32) (v_read_bed : Nat → Int32) (v_read_dream : Nat → Int32) (v_read_isTold : Nat → Int32) (v_read_act : Nat → Int32) (v_read_what : Nat → Int32) (v_read_then : Nat → Int32) (v_read_met : Nat → Int32) (v_read_lies : Nat → Int32) (v_read_isFull : Nat → Int32) (v_read_doorA : Nat → Int32) (v_read_doorB : Nat → Int32) (v_read_how : Nat → Int32) (v_read_falls : Nat → Int32) (v_read_creak : Nat → Int32) (v_read_isCold : Nat → Int32) (N : Nat) (z : Int32 × Int32 × Int32 × Int32 × Int32 × Int32 × Int32 × Int64 × Int32 × Int32 × Int32 × Int32 × Int32 × Int32 × Int32 × Int32 × (Nat → Int64) × (Nat → Int32) × (Nat → Int32) × (Nat → Int32) × (Nat → Int32) × (Nat → Int32) × (Nat → Int32) × (Nat → Int32) × (Nat → Int32) × (Nat → Int32) × (Nat → Int32) × (Nat → Int32) × (Nat → Int32) × (Nat → Int32) × (Nat → Int32) × (Nat → Int32) × (Nat → Int32) × (Nat → Int32) × (Nat → Int32)) (hf : fX12_readLine N v_size v_at v_sort v_place v_sign v_number v_fault v_wrongAt v_word v_read_minutes v_read_rooms v_read_doors v_read_things v_read_dreams v_read_sleepers v_read_listeners v_read_names v_tape v_read_name v_read_nameNumber v_read_nameSort v_read_listens v_read_bed v_read_dream v_read_isTold v_read_act v_read_what v_read_then v_read_met v_read_lies v_read_isFull v_read_doorA v_read_doorB v_read_how v_read_falls v_read_creak v_read_isCold = some z) : CTv l E yX12_readLine cX12_readLine 1 10 221 [.ref h] (wX12_readLine E h h_read h_tape h_far h_from h_real h_other h_kept h_set h_w h_book h_noteSort h_whose h_what h_noteIs h_fitting h_dawn h_likes h_walked h_came h_read_creak h_read_doorA h_read_doorB h_read_how h_read_lies h_read_isCold h_read_falls h_read_isFull h_read_isTold h_read_act h_read_what h_read_then h_read_met h_read_bed h_read_dream h_read_listens h_read_name h_read_nameSort h_read_nameNumber v_thrown v_trouble v_where v_inn v_taped v_size v_at v_sort v_place v_sign v_number v_fault v_wrongAt v_word v_marks v_notes v_read_minutes v_read_rooms v_read_doors v_read_things v_read_dreams v_read_sleepers v_read_listeners v_read_names v_tape v_read_name v_read_nameNumber v_read_nameSort v_read_listens v_read_bed v_read_dream v_read_isTold v_read_act v_read_what v_read_then v_read_met v_read_lies v_read_isFull v_read_doorA v_read_doorB v_read_how v_read_falls v_read_creak v_read_isCold) (wX12_readLine E h h_read h_tape h_far h_from h_real h_other h_kept h_set h_w h_book h_noteSort h_whose h_what h_noteIs h_fitting h_dawn h_likes h_walked h_came h_read_creak h_read_doorA h_read_doorB h_read_how h_read_lies h_read_isCold h_read_falls h_read_isFull h_read_isTold h_read_act h_read_what h_read_then h_read_met h_read_bed h_read_dream h_read_listens h_read_name h_read_nameSort h_read_nameNumber v_thrown v_trouble v_where v_inn v_taped v_size z.1 z.2.1 z.2.2.1 z.2.2.2.1 z.2.2.2.2.1 z.2.2.2.2.2.1 z.2.2.2.2.2.2.1 z.2.2.2.2.2.2.2.1 v_marks v_notes z.2.2.2.2.2.2.2.2.1 z.2.2.2.2.2.2.2.2.2.1 z.2.2.2.2.2.2.2.2.2.2.1 z.2.2.2.2.2.2.2.2.2.2.2.1 z.2.2.2.2.2.2.2.2.2.2.2.2.1 z.2.2.2.2.2.2.2.2.2.2.2.2.2.1 z.2.2.2.2.2.2.2.2.2.2.2.2.2.2.1 z.2.2.2.2.2.2.2.2.2.2.2.2.2.2.2.1 v_tape z.2.2.2.2.2.2.2.2.2.2.2.2.2.2.2.2.1 z.2.2.2.2.2.2.2.2.2.2.2.2.2.2.2.2.2.1 z.2.2.2.2.2.2.2.2.2.2.2.2.2.2.2.2.2.2.1 z.2.2.2.2.2.2.2.2.2.2.2.2.2.2.2.2.2.2.2.1 z.2.2.2.2.2.2.2.2.2.2.2.2.2.2.2.2.2.2.2.2.1 z.2.2.2.2.2.2.2.2.2.2.2.2.2.2.2.2.2.2.2.2.2.1 z.2.2.2.2.2.2.2.2.2.2.2.2.2.2.2.2.2.2.2.2.2.2.1 z.2.2.2.2.2.2.2.2.2.2.2.2.2.2.2.2.2.2.2.2.2.2.2.1 z.2.2.2.2.2.2.2.2.2.2.2.2.2.2.2.2.2.2.2.2.2.2.2.2.1 z.2.2.2.2.2.2.2.2.2.2.2.2.2.2.2.2.2.2.2.2.2.2.2.2.2.1 z.2.2.2.2.2.2.2.2.2.2.2.2.2.2.2.2.2.2.2.2.2.2.2.2.2.2.1 z.2.2.2.2.2.2.2.2.2.2.2.2.2.2.2.2.2.2.2.2.2.2.2.2.2.2.2.1 z.2.2.2.2.2.2.2.2.2.2.2.2.2.2.2.2.2.2.2.2.2.2.2.2.2.2.2.2.1 z.2.2.2.2.2.2.2.2.2.2.2.2.2.2.2.2.2.2.2.2.2.2.2.2.2.2.2.2.2.1 z.2.2.2.2.2.2.2.2.2.2.2.2.2.2.2.2.2.2.2.2.2.2.2.2.2.2.2.2.2.2.1 z.2.2.2.2.2.2.2.2.2.2.2.2.2.2.2.2.2.2.2.2.2.2.2.2.2.2.2.2.2.2.2.1 z.2.2.2.2.2.2.2.2.2.2.2.2.2.2.2.2.2.2.2.2.2.2.2.2.2.2.2.2.2.2.2.2.1 z.2.2.2.2.2.2.2.2.2.2.2.2.2.2.2.2.2.2.2.2.2.2.2.2.2.2.2.2.2.2.2.2.2.1 z.2.2.2.2.2.2.2.2.2.2.2.2.2.2.2.2.2.2.2.2.2.2.2.2.2.2.2.2.2.2.2.2.2.2) := by
  intro sz
  refine ct_body (by decide) (Nat.le_of_ble_eq_true rfl) ?_
  intro p e s m args below meth c A ls hAe C hr hin hP hD hS hl
  have C : CX p s m args meth c cX12_readLine RX12 1 E A := C
  have hl : lv_has ls 1 [(0, .ref h)] := hl
  have hx := C.1
  have hb := C.2.1
  rw [hAe]
  clear hAe
  obtain ⟨Q, hQ⟩ : ∃ Q, Q = MQ below (Qv E A (wX12_readLine E h h_read h_tape h_far h_from h_real h_other h_kept h_set h_w h_book h_noteSort h_whose h_what h_noteIs h_fitting h_dawn h_likes h_walked h_came h_read_creak h_read_doorA h_read_doorB h_read_how h_read_lies h_read_isCold h_read_falls h_read_isFull h_read_isTold h_read_act h_read_what h_read_then h_read_met h_read_bed h_read_dream h_read_listens h_read_name h_read_nameSort h_read_nameNumber v_thrown v_trouble v_where v_inn v_taped v_size z.1 z.2.1 z.2.2.1 z.2.2.2.1 z.2.2.2.2.1 z.2.2.2.2.2.1 z.2.2.2.2.2.2.1 z.2.2.2.2.2.2.2.1 v_marks v_notes z.2.2.2.2.2.2.2.2.1 z.2.2.2.2.2.2.2.2.2.1 z.2.2.2.2.2.2.2.2.2.2.1 z.2.2.2.2.2.2.2.2.2.2.2.1 z.2.2.2.2.2.2.2.2.2.2.2.2.1 z.2.2.2.2.2.2.2.2.2.2.2.2.2.1 z.2.2.2.2.2.2.2.2.2.2.2.2.2.2.1 z.2.2.2.2.2.2.2.2.2.2.2.2.2.2.2.1 v_tape z.2.2.2.2.2.2.2.2.2.2.2.2.2.2.2.2.1 z.2.2.2.2.2.2.2.2.2.2.2.2.2.2.2.2.2.1 z.2.2.2.2.2.2.2.2.2.2.2.2.2.2.2.2.2.2.1 z.2.2.2.2.2.2.2.2.2.2.2.2.2.2.2.2.2.2.2.1 z.2.2.2.2.2.2.2.2.2.2.2.2.2.2.2.2.2.2.2.2.1 z.2.2.2.2.2.2.2.2.2.2.2.2.2.2.2.2.2.2.2.2.2.1 z.2.2.2.2.2.2.2.2.2.2.2.2.2.2.2.2.2.2.2.2.2.2.1 z.2.2.2.2.2.2.2.2.2.2.2.2.2.2.2.2.2.2.2.2.2.2.2.1 z.2.2.2.2.2.2.2.2.2.2.2.2.2.2.2.2.2.2.2.2.2.2.2.2.1 z.2.2.2.2.2.2.2.2.2.2.2.2.2.2.2.2.2.2.2.2.2.2.2.2.2.1 z.2.2.2.2.2.2.2.2.2.2.2.2.2.2.2.2.2.2.2.2.2.2.2.2.2.2.1 z.2.2.2.2.2.2.2.2.2.2.2.2.2.2.2.2.2.2.2.2.2.2.2.2.2.2.2.1 z.2.2.2.2.2.2.2.2.2.2.2.2.2.2.2.2.2.2.2.2.2.2.2.2.2.2.2.2.1 z.2.2.2.2.2.2.2.2.2.2.2.2.2.2.2.2.2.2.2.2.2.2.2.2.2.2.2.2.2.1 z.2.2.2.2.2.2.2.2.2.2.2.2.2.2.2.2.2.2.2.2.2.2.2.2.2.2.2.2.2.2.1 z.2.2.2.2.2.2.2.2.2.2.2.2.2.2.2.2.2.2.2.2.2.2.2.2.2.2.2.2.2.2.2.1 z.2.2.2.2.2.2.2.2.2.2.2.2.2.2.2.2.2.2.2.2.2.2.2.2.2.2.2.2.2.2.2.2.1 z.2.2.2.2.2.2.2.2.2.2.2.2.2.2.2.2.2.2.2.2.2.2.2.2.2.2.2.2.2.2.2.2.2.1 z.2.2.2.2.2.2.2.2.2.2.2.2.2.2.2.2.2.2.2.2.2.2.2.2.2.2.2.2.2.2.2.2.2.2)) args s 0 0 A := ⟨_, rfl⟩
  rw [← hQ]
  unfold fX12_readLine at hf
  refine lv_aload_n (pc := 0) hx hb dX12_readLine_0 rfl (lv_at hl 0 rfl) ?_
  refine r_ldcS (pc := 1) C (C.kx.2.2.2.2.2 0 (by decide)).2.2.2.2 dX12_readLine_1 ?_
  obtain ⟨r_3, hc_3, hf⟩ := bd1 hf
  refine r_dalVi (pc := 3) (ws' := (wX12_readLine E h h_read h_tape h_far h_from h_real h_other h_kept h_set h_w h_book h_noteSort h_whose h_what h_noteIs h_fitting h_dawn h_likes h_walked h_came h_read_creak h_read_doorA h_read_doorB h_read_how h_read_lies h_read_isCold h_read_falls h_read_isFull h_read_isTold h_read_act h_read_what h_read_then h_read_met h_read_bed h_read_dream h_read_listens h_read_name h_read_nameSort h_read_nameNumber v_thrown v_trouble v_where v_inn v_taped v_size v_at v_sort v_place v_sign v_number v_fault v_wrongAt v_word v_marks v_notes v_read_minutes v_read_rooms v_read_doors v_read_things v_read_dreams v_read_sleepers v_read_listeners v_read_names v_tape v_read_name v_read_nameNumber v_read_nameSort v_read_listens v_read_bed v_read_dream v_read_isTold v_read_act v_read_what v_read_then v_read_met v_read_lies v_read_isFull v_read_doorA v_read_doorB v_read_how v_read_falls v_read_creak v_read_isCold)) (As := [.ref (E.2.2.2.2.1 0)]) (rest := []) C (ctX12_isWord l E h h_tape h_far h_from h_real h_other h_kept h_set h_w h_book h_noteSort h_whose h_what h_noteIs h_fitting h_dawn h_likes h_walked h_came v_thrown v_trouble v_where v_inn (some h_read) v_taped v_size v_at v_sort v_place v_sign v_number v_fault v_wrongAt v_word v_marks v_notes 0 (by decide) N r_3 hc_3) ml_X12_138 ⟨Nat.le_of_ble_eq_true rfl, Nat.le_of_ble_eq_true rfl⟩ hP hD hS 0 rfl rfl rfl [0] [22, 1, 2, 3, 4, 5, 6, 7, 8, 9, 10, 11, 12, 13, 14, 15, 16, 17, 18, 19, 20, 21] 22 rfl rfl rfl rfl rfl rfl rfl hl.1 rfl (Nat.le_of_ble_eq_true rfl) ⟨Nat.zero_le _, Nat.zero_le _⟩ dX12_readLine_3 ?_
  clear hP hD hS; intro H locs hP hD hS
  refine lv_if_eq (pc := 6) (tgt := 16) hx hb dX12_readLine_6 (by decide) (fun c_6 => ?_) (fun c_6 => ?_)
  · replace hf := it_t c_6 hf
    refine lv_aload_n (pc := 16) hx hb dX12_readLine_16 rfl (lv_at hl 0 rfl) ?_
    refine r_ldcS (pc := 17) C (C.kx.2.2.2.2.2 1 (by decide)).2.2.2.2 dX12_readLine_17 ?_
    obtain ⟨r_19, hc_19, hf⟩ := bd1 hf
    refine r_dalVi (pc := 19) (ws' := (wX12_readLine E h h_read h_tape h_far h_from h_real h_other h_kept h_set h_w h_book h_noteSort h_whose h_what h_noteIs h_fitting h_dawn h_likes h_walked h_came h_read_creak h_read_doorA h_read_doorB h_read_how h_read_lies h_read_isCold h_read_falls h_read_isFull h_read_isTold h_read_act h_read_what h_read_then h_read_met h_read_bed h_read_dream h_read_listens h_read_name h_read_nameSort h_read_nameNumber v_thrown v_trouble v_where v_inn v_taped v_size v_at v_sort v_place v_sign v_number v_fault v_wrongAt v_word v_marks v_notes v_read_minutes v_read_rooms v_read_doors v_read_things v_read_dreams v_read_sleepers v_read_listeners v_read_names v_tape v_read_name v_read_nameNumber v_read_nameSort v_read_listens v_read_bed v_read_dream v_read_isTold v_read_act v_read_what v_read_then v_read_met v_read_lies v_read_isFull v_read_doorA v_read_doorB v_read_how v_read_falls v_read_creak v_read_isCold)) (As := [.ref (E.2.2.2.2.1 1)]) (rest := []) C (ctX12_isWord l E h h_tape h_far h_from h_real h_other h_kept h_set h_w h_book h_noteSort h_whose h_what h_noteIs h_fitting h_dawn h_likes h_walked h_came v_thrown v_trouble v_where v_inn (some h_read) v_taped v_size v_at v_sort v_place v_sign v_number v_fault v_wrongAt v_word v_marks v_notes 1 (by decide) N r_19 hc_19) ml_X12_138 ⟨Nat.le_of_ble_eq_true rfl, Nat.le_of_ble_eq_true rfl⟩ hP hD hS 0 rfl rfl rfl [0] [22, 1, 2, 3, 4, 5, 6, 7, 8, 9, 10, 11, 12, 13, 14, 15, 16, 17, 18, 19, 20, 21] 22 rfl rfl rfl rfl rfl rfl rfl hl.1 rfl (Nat.le_of_ble_eq_true rfl) ⟨Nat.zero_le _, Nat.zero_le _⟩ dX12_readLine_19 ?_
    clear hP hD hS; intro H locs hP hD hS
    refine lv_if_eq (pc := 22) (tgt := 32) hx hb dX12_readLine_22 (by decide) (fun c_22 => ?_) (fun c_22 => ?_)
    · replace hf := it_t c_22 hf
      refine lv_aload_n (pc := 32) hx hb dX12_readLine_32 rfl (lv_at hl 0 rfl) ?_
      refine r_ldcS (pc := 33) C (C.kx.2.2.2.2.2 2 (by decide)).2.2.2.2 dX12_readLine_33 ?_
      obtain ⟨r_35, hc_35, hf⟩ := bd1 hf
      refine r_dalVi (pc := 35) (ws' := (wX12_readLine E h h_read h_tape h_far h_from h_real h_other h_kept h_set h_w h_book h_noteSort h_whose h_what h_noteIs h_fitting h_dawn h_likes h_walked h_came h_read_creak h_read_doorA h_read_doorB h_read_how h_read_lies h_read_isCold h_read_falls h_read_isFull h_read_isTold h_read_act h_read_what h_read_then h_read_met h_read_bed h_read_dream h_read_listens h_read_name h_read_nameSort h_read_nameNumber v_thrown v_trouble v_where v_inn v_taped v_size v_at v_sort v_place v_sign v_number v_fault v_wrongAt v_word v_marks v_notes v_read_minutes v_read_rooms v_read_doors v_read_things v_read_dreams v_read_sleepers v_read_listeners v_read_names v_tape v_read_name v_read_nameNumber v_read_nameSort v_read_listens v_read_bed v_read_dream v_read_isTold v_read_act v_read_what v_read_then v_read_met v_read_lies v_read_isFull v_read_doorA v_read_doorB v_read_how v_read_falls v_read_creak v_read_isCold)) (As := [.ref (E.2.2.2.2.1 2)]) (rest := []) C (ctX12_isWord l E h h_tape h_far h_from h_real h_other h_kept h_set h_w h_book h_noteSort h_whose h_what h_noteIs h_fitting h_dawn h_likes h_walked h_came v_thrown v_trouble v_where v_inn (some h_read) v_taped v_size v_at v_sort v_place v_sign v_number v_fault v_wrongAt v_word v_marks v_notes 2 (by decide) N r_35 hc_35) ml_X12_138 ⟨Nat.le_of_ble_eq_true rfl, Nat.le_of_ble_eq_true rfl⟩ hP hD hS 0 rfl rfl rfl [0] [22, 1, 2, 3, 4, 5, 6, 7, 8, 9, 10, 11, 12, 13, 14, 15, 16, 17, 18, 19, 20, 21] 22 rfl rfl rfl rfl rfl rfl rfl hl.1 rfl (Nat.le_of_ble_eq_true rfl) ⟨Nat.zero_le _, Nat.zero_le _⟩ dX12_readLine_35 ?_
      clear hP hD hS; intro H locs hP hD hS
      refine lv_if_eq (pc := 38) (tgt := 48) hx hb dX12_readLine_38 (by decide) (fun c_38 => ?_) (fun c_38 => ?_)
      · replace hf := it_t c_38 hf
        refine lv_aload_n (pc := 48) hx hb dX12_readLine_48 rfl (lv_at hl 0 rfl) ?_
        refine r_ldcS (pc := 49) C (C.kx.2.2.2.2.2 3 (by decide)).2.2.2.2 dX12_readLine_49 ?_
        obtain ⟨r_51, hc_51, hf⟩ := bd1 hf
        refine r_dalVi (pc := 51) (ws' := (wX12_readLine E h h_read h_tape h_far h_from h_real h_other h_kept h_set h_w h_book h_noteSort h_whose h_what h_noteIs h_fitting h_dawn h_likes h_walked h_came h_read_creak h_read_doorA h_read_doorB h_read_how h_read_lies h_read_isCold h_read_falls h_read_isFull h_read_isTold h_read_act h_read_what h_read_then h_read_met h_read_bed h_read_dream h_read_listens h_read_name h_read_nameSort h_read_nameNumber v_thrown v_trouble v_where v_inn v_taped v_size v_at v_sort v_place v_sign v_number v_fault v_wrongAt v_word v_marks v_notes v_read_minutes v_read_rooms v_read_doors v_read_things v_read_dreams v_read_sleepers v_read_listeners v_read_names v_tape v_read_name v_read_nameNumber v_read_nameSort v_read_listens v_read_bed v_read_dream v_read_isTold v_read_act v_read_what v_read_then v_read_met v_read_lies v_read_isFull v_read_doorA v_read_doorB v_read_how v_read_falls v_read_creak v_read_isCold)) (As := [.ref (E.2.2.2.2.1 3)]) (rest := []) C (ctX12_isWord l E h h_tape h_far h_from h_real h_other h_kept h_set h_w h_book h_noteSort h_whose h_what h_noteIs h_fitting h_dawn h_likes h_walked h_came v_thrown v_trouble v_where v_inn (some h_read) v_taped v_size v_at v_sort v_place v_sign v_number v_fault v_wrongAt v_word v_marks v_notes 3 (by decide) N r_51 hc_51) ml_X12_138 ⟨Nat.le_of_ble_eq_true rfl, Nat.le_of_ble_eq_true rfl⟩ hP hD hS 0 rfl rfl rfl [0] [22, 1, 2, 3, 4, 5, 6, 7, 8, 9, 10, 11, 12, 13, 14, 15, 16, 17, 18, 19, 20, 21] 22 rfl rfl rfl rfl rfl rfl rfl hl.1 rfl (Nat.le_of_ble_eq_true rfl) ⟨Nat.zero_le _, Nat.zero_le _⟩ dX12_readLine_51 ?_
        clear hP hD hS; intro H locs hP hD hS
        refine lv_if_eq (pc := 54) (tgt := 64) hx hb dX12_readLine_54 (by decide) (fun c_54 => ?_) (fun c_54 => ?_)
        · replace hf := it_t c_54 hf
          refine lv_aload_n (pc := 64) hx hb dX12_readLine_64 rfl (lv_at hl 0 rfl) ?_
          refine r_ldcS (pc := 65) C (C.kx.2.2.2.2.2 4 (by decide)).2.2.2.2 dX12_readLine_65 ?_
          obtain ⟨r_67, hc_67, hf⟩ := bd1 hf
          refine r_dalVi (pc := 67) (ws' := (wX12_readLine E h h_read h_tape h_far h_from h_real h_other h_kept h_set h_w h_book h_noteSort h_whose h_what h_noteIs h_fitting h_dawn h_likes h_walked h_came h_read_creak h_read_doorA h_read_doorB h_read_how h_read_lies h_read_isCold h_read_falls h_read_isFull h_read_isTold h_read_act h_read_what h_read_then h_read_met h_read_bed h_read_dream h_read_listens h_read_name h_read_nameSort h_read_nameNumber v_thrown v_trouble v_where v_inn v_taped v_size v_at v_sort v_place v_sign v_number v_fault v_wrongAt v_word v_marks v_notes v_read_minutes v_read_rooms v_read_doors v_read_things v_read_dreams v_read_sleepers v_read_listeners v_read_names v_tape v_read_name v_read_nameNumber v_read_nameSort v_read_listens v_read_bed v_read_dream v_read_isTold v_read_act v_read_what v_read_then v_read_met v_read_lies v_read_isFull v_read_doorA v_read_doorB v_read_how v_read_falls v_read_creak v_read_isCold)) (As := [.ref (E.2.2.2.2.1 4)]) (rest := []) C (ctX12_isWord l E h h_tape h_far h_from h_real h_other h_kept h_set h_w h_book h_noteSort h_whose h_what h_noteIs h_fitting h_dawn h_likes h_walked h_came v_thrown v_trouble v_where v_inn (some h_read) v_taped v_size v_at v_sort v_place v_sign v_number v_fault v_wrongAt v_word v_marks v_notes 4 (by decide) N r_67 hc_67) ml_X12_138 ⟨Nat.le_of_ble_eq_true rfl, Nat.le_of_ble_eq_true rfl⟩ hP hD hS 0 rfl rfl rfl [0] [22, 1, 2, 3, 4, 5, 6, 7, 8, 9, 10, 11, 12, 13, 14, 15, 16, 17, 18, 19, 20, 21] 22 rfl rfl rfl rfl rfl rfl rfl hl.1 rfl (Nat.le_of_ble_eq_true rfl) ⟨Nat.zero_le _, Nat.zero_le _⟩ dX12_readLine_67 ?_
          clear hP hD hS; intro H locs hP hD hS
          refine lv_if_eq (pc := 70) (tgt := 80) hx hb dX12_readLine_70 (by decide) (fun c_70 => ?_) (fun c_70 => ?_)
          · replace hf := it_t c_70 hf
            refine lv_aload_n (pc := 80) hx hb dX12_readLine_80 rfl (lv_at hl 0 rfl) ?_
            refine r_ldcS (pc := 81) C (C.kx.2.2.2.2.2 5 (by decide)).2.2.2.2 dX12_readLine_81 ?_
            obtain ⟨r_83, hc_83, hf⟩ := bd1 hf
            refine r_dalVi (pc := 83) (ws' := (wX12_readLine E h h_read h_tape h_far h_from h_real h_other h_kept h_set h_w h_book h_noteSort h_whose h_what h_noteIs h_fitting h_dawn h_likes h_walked h_came h_read_creak h_read_doorA h_read_doorB h_read_how h_read_lies h_read_isCold h_read_falls h_read_isFull h_read_isTold h_read_act h_read_what h_read_then h_read_met h_read_bed h_read_dream h_read_listens h_read_name h_read_nameSort h_read_nameNumber v_thrown v_trouble v_where v_inn v_taped v_size v_at v_sort v_place v_sign v_number v_fault v_wrongAt v_word v_marks v_notes v_read_minutes v_read_rooms v_read_doors v_read_things v_read_dreams v_read_sleepers v_read_listeners v_read_names v_tape v_read_name v_read_nameNumber v_read_nameSort v_read_listens v_read_bed v_read_dream v_read_isTold v_read_act v_read_what v_read_then v_read_met v_read_lies v_read_isFull v_read_doorA v_read_doorB v_read_how v_read_falls v_read_creak v_read_isCold)) (As := [.ref (E.2.2.2.2.1 5)]) (rest := []) C (ctX12_isWord l E h h_tape h_far h_from h_real h_other h_kept h_set h_w h_book h_noteSort h_whose h_what h_noteIs h_fitting h_dawn h_likes h_walked h_came v_thrown v_trouble v_where v_inn (some h_read) v_taped v_size v_at v_sort v_place v_sign v_number v_fault v_wrongAt v_word v_marks v_notes 5 (by decide) N r_83 hc_83) ml_X12_138 ⟨Nat.le_of_ble_eq_true rfl, Nat.le_of_ble_eq_true rfl⟩ hP hD hS 0 rfl rfl rfl [0] [22, 1, 2, 3, 4, 5, 6, 7, 8, 9, 10, 11, 12, 13, 14, 15, 16, 17, 18, 19, 20, 21] 22 rfl rfl rfl rfl rfl rfl rfl hl.1 rfl (Nat.le_of_ble_eq_true rfl) ⟨Nat.zero_le _, Nat.zero_le _⟩ dX12_readLine_83 ?_
            clear hP hD hS; intro H locs hP hD hS
            refine lv_if_eq (pc := 86) (tgt := 96) hx hb dX12_readLine_86 (by decide) (fun c_86 => ?_) (fun c_86 => ?_)
            · replace hf := it_t c_86 hf
              refine lv_aload_n (pc := 96) hx hb dX12_readLine_96 rfl (lv_at hl 0 rfl) ?_
              refine r_ldcS (pc := 97) C (C.kx.2.2.2.2.2 6 (by decide)).2.2.2.2 dX12_readLine_97 ?_
              obtain ⟨r_99, hc_99, hf⟩ := bd1 hf
              refine r_dalVi (pc := 99) (ws' := (wX12_readLine E h h_read h_tape h_far h_from h_real h_other h_kept h_set h_w h_book h_noteSort h_whose h_what h_noteIs h_fitting h_dawn h_likes h_walked h_came h_read_creak h_read_doorA h_read_doorB h_read_how h_read_lies h_read_isCold h_read_falls h_read_isFull h_read_isTold h_read_act h_read_what h_read_then h_read_met h_read_bed h_read_dream h_read_listens h_read_name h_read_nameSort h_read_nameNumber v_thrown v_trouble v_where v_inn v_taped v_size v_at v_sort v_place v_sign v_number v_fault v_wrongAt v_word v_marks v_notes v_read_minutes v_read_rooms v_read_doors v_read_things v_read_dreams v_read_sleepers v_read_listeners v_read_names v_tape v_read_name v_read_nameNumber v_read_nameSort v_read_listens v_read_bed v_read_dream v_read_isTold v_read_act v_read_what v_read_then v_read_met v_read_lies v_read_isFull v_read_doorA v_read_doorB v_read_how v_read_falls v_read_creak v_read_isCold)) (As := [.ref (E.2.2.2.2.1 6)]) (rest := []) C (ctX12_isWord l E h h_tape h_far h_from h_real h_other h_kept h_set h_w h_book h_noteSort h_whose h_what h_noteIs h_fitting h_dawn h_likes h_walked h_came v_thrown v_trouble v_where v_inn (some h_read) v_taped v_size v_at v_sort v_place v_sign v_number v_fault v_wrongAt v_word v_marks v_notes 6 (by decide) N r_99 hc_99) ml_X12_138 ⟨Nat.le_of_ble_eq_true rfl, Nat.le_of_ble_eq_true rfl⟩ hP hD hS 0 rfl rfl rfl [0] [22, 1, 2, 3, 4, 5, 6, 7, 8, 9, 10, 11, 12, 13, 14, 15, 16, 17, 18, 19, 20, 21] 22 rfl rfl rfl rfl rfl rfl rfl hl.1 rfl (Nat.le_of_ble_eq_true rfl) ⟨Nat.zero_le _, Nat.zero_le _⟩ dX12_readLine_99 ?_
              clear hP hD hS; intro H locs hP hD hS
              refine lv_if_eq (pc := 102) (tgt := 112) hx hb dX12_readLine_102 (by decide) (fun c_102 => ?_) (fun c_102 => ?_)
              · replace hf := it_t c_102 hf
                refine lv_aload_n (pc := 112) hx hb dX12_readLine_112 rfl (lv_at hl 0 rfl) ?_
                refine lv_iconst (pc := 113) (v := 1) hx hb dX12_readLine_113 (by decide) ?_
                obtain ⟨v_sort_114, v_fault_114, v_wrongAt_114, hc_114, hf⟩ := bd3 hf
                refine r_dalVv (pc := 114) (ws' := (wX12_readLine E h h_read h_tape h_far h_from h_real h_other h_kept h_set h_w h_book h_noteSort h_whose h_what h_noteIs h_fitting h_dawn h_likes h_walked h_came h_read_creak h_read_doorA h_read_doorB h_read_how h_read_lies h_read_isCold h_read_falls h_read_isFull h_read_isTold h_read_act h_read_what h_read_then h_read_met h_read_bed h_read_dream h_read_listens h_read_name h_read_nameSort h_read_nameNumber v_thrown v_trouble v_where v_inn v_taped v_size v_at v_sort_114 v_place v_sign v_number v_fault_114 v_wrongAt_114 v_word v_marks v_notes v_read_minutes v_read_rooms v_read_doors v_read_things v_read_dreams v_read_sleepers v_read_listeners v_read_names v_tape v_read_name v_read_nameNumber v_read_nameSort v_read_listens v_read_bed v_read_dream v_read_isTold v_read_act v_read_what v_read_then v_read_met v_read_lies v_read_isFull v_read_doorA v_read_doorB v_read_how v_read_falls v_read_creak v_read_isCold)) (As := [.int 1]) (rest := []) C (ctX12_wrong l E h h_tape h_far h_from h_real h_other h_kept h_set h_w h_book h_noteSort h_whose h_what h_noteIs h_fitting h_dawn h_likes h_walked h_came v_thrown v_trouble v_where v_inn (some h_read) v_taped v_size v_at v_sort v_place v_sign v_number v_fault v_wrongAt v_word v_marks v_notes N 1 (v_sort_114, v_fault_114, v_wrongAt_114) hc_114) ml_X12_145 ⟨Nat.le_of_ble_eq_true rfl, Nat.le_of_ble_eq_true rfl⟩ hP hD hS 0 rfl rfl rfl [0] [22, 1, 2, 3, 4, 5, 6, 7, 8, 9, 10, 11, 12, 13, 14, 15, 16, 17, 18, 19, 20, 21] 22 rfl rfl rfl rfl rfl rfl rfl hl.1 rfl (Nat.le_of_ble_eq_true rfl) ⟨Nat.zero_le _, Nat.zero_le _⟩ dX12_readLine_114 ?_
                clear hP hD hS; intro H locs hP hD hS
                cases hf
                rw [hQ]
                exact r_vret C hr hP hD hS dX12_readLine_117
              · replace hf := it_f c_102 hf
                refine lv_aload_n (pc := 105) hx hb dX12_readLine_105 rfl (lv_at hl 0 rfl) ?_
                obtain ⟨v_at_106, v_sort_106, v_place_106, v_sign_106, v_number_106, v_fault_106, v_wrongAt_106, v_word_106, v_read_listeners_106, v_read_listens_106, hc_106, hf⟩ := bd10 hf
                refine r_dalVv (pc := 106) (ws' := (wX12_readLine E h h_read h_tape h_far h_from h_real h_other h_kept h_set h_w h_book h_noteSort h_whose h_what h_noteIs h_fitting h_dawn h_likes h_walked h_came h_read_creak h_read_doorA h_read_doorB h_read_how h_read_lies h_read_isCold h_read_falls h_read_isFull h_read_isTold h_read_act h_read_what h_read_then h_read_met h_read_bed h_read_dream h_read_listens h_read_name h_read_nameSort h_read_nameNumber v_thrown v_trouble v_where v_inn v_taped v_size v_at_106 v_sort_106 v_place_106 v_sign_106 v_number_106 v_fault_106 v_wrongAt_106 v_word_106 v_marks v_notes v_read_minutes v_read_rooms v_read_doors v_read_things v_read_dreams v_read_sleepers v_read_listeners_106 v_read_names v_tape v_read_name v_read_nameNumber v_read_nameSort v_read_listens_106 v_read_bed v_read_dream v_read_isTold v_read_act v_read_what v_read_then v_read_met v_read_lies v_read_isFull v_read_doorA v_read_doorB v_read_how v_read_falls v_read_creak v_read_isCold)) (As := []) (rest := []) C (ctX12_readListens l E h h_read h_tape h_far h_from h_real h_other h_kept h_set h_w h_book h_noteSort h_whose h_what h_noteIs h_fitting h_dawn h_likes h_walked h_came h_read_creak h_read_doorA h_read_doorB h_read_how h_read_lies h_read_isCold h_read_falls h_read_isFull h_read_isTold h_read_act h_read_what h_read_then h_read_met h_read_bed h_read_dream h_read_listens h_read_name h_read_nameSort h_read_nameNumber v_thrown v_trouble v_where v_inn v_taped v_size v_at v_sort v_place v_sign v_number v_fault v_wrongAt v_word v_marks v_notes v_read_minutes v_read_rooms v_read_doors v_read_things v_read_dreams v_read_sleepers v_read_listeners v_read_names v_tape v_read_name v_read_nameNumber v_read_nameSort v_read_listens N (v_at_106, v_sort_106, v_place_106, v_sign_106, v_number_106, v_fault_106, v_wrongAt_106, v_word_106, v_read_listeners_106, v_read_listens_106) hc_106) ml_X12_268 ⟨Nat.le_of_ble_eq_true rfl, Nat.le_of_ble_eq_true rfl⟩ hP hD hS 0 rfl rfl rfl [0, 1, 2, 3, 4, 5, 6] [22, 23, 24, 25, 26, 27, 28, 7, 8, 9, 10, 11, 12, 13, 14, 15, 16, 17, 18, 19, 20, 21] 22 rfl rfl rfl rfl rfl rfl rfl hl.1 rfl (Nat.le_of_ble_eq_true rfl) ⟨Nat.zero_le _, Nat.zero_le _⟩ dX12_readLine_106 ?_
                clear hP hD hS; intro H locs hP hD hS
                refine lv_goto (pc := 109) (tgt := 117) hx hb dX12_readLine_109 (by decide) ?_
                cases hf
                rw [hQ]
                exact r_vret C hr hP hD hS dX12_readLine_117
            · replace hf := it_f c_86 hf
              refine lv_aload_n (pc := 89) hx hb dX12_readLine_89 rfl (lv_at hl 0 rfl) ?_
              obtain ⟨v_at_90, v_sort_90, v_place_90, v_sign_90, v_number_90, v_fault_90, v_wrongAt_90, v_word_90, v_read_sleepers_90, v_read_names_90, v_read_name_90, v_read_nameSort_90, v_read_nameNumber_90, v_read_bed_90, v_read_dream_90, hc_90, hf⟩ := bd15 hf
              refine r_dalVv (pc := 90) (ws' := (wX12_readLine E h h_read h_tape h_far h_from h_real h_other h_kept h_set h_w h_book h_noteSort h_whose h_what h_noteIs h_fitting h_dawn h_likes h_walked h_came h_read_creak h_read_doorA h_read_doorB h_read_how h_read_lies h_read_isCold h_read_falls h_read_isFull h_read_isTold h_read_act h_read_what h_read_then h_read_met h_read_bed h_read_dream h_read_listens h_read_name h_read_nameSort h_read_nameNumber v_thrown v_trouble v_where v_inn v_taped v_size v_at_90 v_sort_90 v_place_90 v_sign_90 v_number_90 v_fault_90 v_wrongAt_90 v_word_90 v_marks v_notes v_read_minutes v_read_rooms v_read_doors v_read_things v_read_dreams v_read_sleepers_90 v_read_listeners v_read_names_90 v_tape v_read_name_90 v_read_nameNumber_90 v_read_nameSort_90 v_read_listens v_read_bed_90 v_read_dream_90 v_read_isTold v_read_act v_read_what v_read_then v_read_met v_read_lies v_read_isFull v_read_doorA v_read_doorB v_read_how v_read_falls v_read_creak v_read_isCold)) (As := []) (rest := []) C (ctX12_readSleeper l E h h_read h_tape h_far h_from h_real h_other h_kept h_set h_w h_book h_noteSort h_whose h_what h_noteIs h_fitting h_dawn h_likes h_walked h_came h_read_creak h_read_doorA h_read_doorB h_read_how h_read_lies h_read_isCold h_read_falls h_read_isFull h_read_isTold h_read_act h_read_what h_read_then h_read_met h_read_bed h_read_dream h_read_listens h_read_name h_read_nameSort h_read_nameNumber v_thrown v_trouble v_where v_inn v_taped v_size v_at v_sort v_place v_sign v_number v_fault v_wrongAt v_word v_marks v_notes v_read_minutes v_read_rooms v_read_doors v_read_things v_read_dreams v_read_sleepers v_read_listeners v_read_names v_tape v_read_name v_read_nameSort v_read_nameNumber v_read_bed v_read_dream N (v_at_90, v_sort_90, v_place_90, v_sign_90, v_number_90, v_fault_90, v_wrongAt_90, v_word_90, v_read_sleepers_90, v_read_names_90, v_read_name_90, v_read_nameSort_90, v_read_nameNumber_90, v_read_bed_90, v_read_dream_90) hc_90) ml_X12_265 ⟨Nat.le_of_ble_eq_true rfl, Nat.le_of_ble_eq_true rfl⟩ hP hD hS 0 rfl rfl rfl [0, 1, 2, 3, 5, 4, 7, 8] [22, 23, 24, 25, 27, 26, 6, 28, 29, 9, 10, 11, 12, 13, 14, 15, 16, 17, 18, 19, 20, 21] 22 rfl rfl rfl rfl rfl rfl rfl hl.1 rfl (Nat.le_of_ble_eq_true rfl) ⟨Nat.zero_le _, Nat.zero_le _⟩ dX12_readLine_90 ?_
              clear hP hD hS; intro H locs hP hD hS
              refine lv_goto (pc := 93) (tgt := 117) hx hb dX12_readLine_93 (by decide) ?_
              cases hf
              rw [hQ]
              exact r_vret C hr hP hD hS dX12_readLine_117
          · replace hf := it_f c_70 hf
            refine lv_aload_n (pc := 73) hx hb dX12_readLine_73 rfl (lv_at hl 0 rfl) ?_
            obtain ⟨v_at_74, v_sort_74, v_place_74, v_sign_74, v_number_74, v_fault_74, v_wrongAt_74, v_word_74, v_read_dreams_74, v_read_names_74, v_read_name_74, v_read_nameNumber_74, v_read_isTold_74, v_read_nameSort_74, v_read_act_74, v_read_what_74, v_read_then_74, v_read_met_74, hc_74, hf⟩ := bd18 hf
            refine r_dalVv (pc := 74) (ws' := (wX12_readLine E h h_read h_tape h_far h_from h_real h_other h_kept h_set h_w h_book h_noteSort h_whose h_what h_noteIs h_fitting h_dawn h_likes h_walked h_came h_read_creak h_read_doorA h_read_doorB h_read_how h_read_lies h_read_isCold h_read_falls h_read_isFull h_read_isTold h_read_act h_read_what h_read_then h_read_met h_read_bed h_read_dream h_read_listens h_read_name h_read_nameSort h_read_nameNumber v_thrown v_trouble v_where v_inn v_taped v_size v_at_74 v_sort_74 v_place_74 v_sign_74 v_number_74 v_fault_74 v_wrongAt_74 v_word_74 v_marks v_notes v_read_minutes v_read_rooms v_read_doors v_read_things v_read_dreams_74 v_read_sleepers v_read_listeners v_read_names_74 v_tape v_read_name_74 v_read_nameNumber_74 v_read_nameSort_74 v_read_listens v_read_bed v_read_dream v_read_isTold_74 v_read_act_74 v_read_what_74 v_read_then_74 v_read_met_74 v_read_lies v_read_isFull v_read_doorA v_read_doorB v_read_how v_read_falls v_read_creak v_read_isCold)) (As := []) (rest := []) C (ctX12_readDream l E h h_read h_tape h_far h_from h_real h_other h_kept h_set h_w h_book h_noteSort h_whose h_what h_noteIs h_fitting h_dawn h_likes h_walked h_came h_read_creak h_read_doorA h_read_doorB h_read_how h_read_lies h_read_isCold h_read_falls h_read_isFull h_read_isTold h_read_act h_read_what h_read_then h_read_met h_read_bed h_read_dream h_read_listens h_read_name h_read_nameSort h_read_nameNumber v_thrown v_trouble v_where v_inn v_taped v_size v_at v_sort v_place v_sign v_number v_fault v_wrongAt v_word v_marks v_notes v_tape v_read_minutes v_read_rooms v_read_doors v_read_things v_read_dreams v_read_sleepers v_read_listeners v_read_names v_read_name v_read_nameNumber v_read_isTold v_read_nameSort v_read_act v_read_what v_read_then v_read_met N (v_at_74, v_sort_74, v_place_74, v_sign_74, v_number_74, v_fault_74, v_wrongAt_74, v_word_74, v_read_dreams_74, v_read_names_74, v_read_name_74, v_read_nameNumber_74, v_read_isTold_74, v_read_nameSort_74, v_read_act_74, v_read_what_74, v_read_then_74, v_read_met_74) hc_74) ml_X12_262 ⟨Nat.le_of_ble_eq_true rfl, Nat.le_of_ble_eq_true rfl⟩ hP hD hS 0 rfl rfl rfl [0, 2, 1, 3, 4, 9, 5, 10, 11, 12, 13] [22, 24, 23, 25, 26, 28, 6, 7, 8, 27, 29, 30, 31, 32, 14, 15, 16, 17, 18, 19, 20, 21] 22 rfl rfl rfl rfl rfl rfl rfl hl.1 rfl (Nat.le_of_ble_eq_true rfl) ⟨Nat.zero_le _, Nat.zero_le _⟩ dX12_readLine_74 ?_
            clear hP hD hS; intro H locs hP hD hS
            refine lv_goto (pc := 77) (tgt := 117) hx hb dX12_readLine_77 (by decide) ?_
            cases hf
            rw [hQ]
            exact r_vret C hr hP hD hS dX12_readLine_117
        · replace hf := it_f c_54 hf
          refine lv_aload_n (pc := 57) hx hb dX12_readLine_57 rfl (lv_at hl 0 rfl) ?_
          obtain ⟨v_at_58, v_sort_58, v_place_58, v_sign_58, v_number_58, v_fault_58, v_wrongAt_58, v_word_58, v_read_things_58, v_read_names_58, v_read_name_58, v_read_nameSort_58, v_read_nameNumber_58, v_read_lies_58, v_read_isFull_58, hc_58, hf⟩ := bd15 hf
          refine r_dalVv (pc := 58) (ws' := (wX12_readLine E h h_read h_tape h_far h_from h_real h_other h_kept h_set h_w h_book h_noteSort h_whose h_what h_noteIs h_fitting h_dawn h_likes h_walked h_came h_read_creak h_read_doorA h_read_doorB h_read_how h_read_lies h_read_isCold h_read_falls h_read_isFull h_read_isTold h_read_act h_read_what h_read_then h_read_met h_read_bed h_read_dream h_read_listens h_read_name h_read_nameSort h_read_nameNumber v_thrown v_trouble v_where v_inn v_taped v_size v_at_58 v_sort_58 v_place_58 v_sign_58 v_number_58 v_fault_58 v_wrongAt_58 v_word_58 v_marks v_notes v_read_minutes v_read_rooms v_read_doors v_read_things_58 v_read_dreams v_read_sleepers v_read_listeners v_read_names_58 v_tape v_read_name_58 v_read_nameNumber_58 v_read_nameSort_58 v_read_listens v_read_bed v_read_dream v_read_isTold v_read_act v_read_what v_read_then v_read_met v_read_lies_58 v_read_isFull_58 v_read_doorA v_read_doorB v_read_how v_read_falls v_read_creak v_read_isCold)) (As := []) (rest := []) C (ctX12_readThing l E h h_read h_tape h_far h_from h_real h_other h_kept h_set h_w h_book h_noteSort h_whose h_what h_noteIs h_fitting h_dawn h_likes h_walked h_came h_read_creak h_read_doorA h_read_doorB h_read_how h_read_lies h_read_isCold h_read_falls h_read_isFull h_read_isTold h_read_act h_read_what h_read_then h_read_met h_read_bed h_read_dream h_read_listens h_read_name h_read_nameSort h_read_nameNumber v_thrown v_trouble v_where v_inn v_taped v_size v_at v_sort v_place v_sign v_number v_fault v_wrongAt v_word v_marks v_notes v_read_minutes v_read_rooms v_read_doors v_read_things v_read_dreams v_read_sleepers v_read_listeners v_read_names v_tape v_read_name v_read_nameSort v_read_nameNumber v_read_lies v_read_isFull N (v_at_58, v_sort_58, v_place_58, v_sign_58, v_number_58, v_fault_58, v_wrongAt_58, v_word_58, v_read_things_58, v_read_names_58, v_read_name_58, v_read_nameSort_58, v_read_nameNumber_58, v_read_lies_58, v_read_isFull_58) hc_58) ml_X12_259 ⟨Nat.le_of_ble_eq_true rfl, Nat.le_of_ble_eq_true rfl⟩ hP hD hS 0 rfl rfl rfl [0, 1, 2, 3, 5, 4, 14, 15] [22, 23, 24, 25, 27, 26, 6, 7, 8, 9, 10, 11, 12, 13, 28, 29, 16, 17, 18, 19, 20, 21] 22 rfl rfl rfl rfl rfl rfl rfl hl.1 rfl (Nat.le_of_ble_eq_true rfl) ⟨Nat.zero_le _, Nat.zero_le _⟩ dX12_readLine_58 ?_
          clear hP hD hS; intro H locs hP hD hS
          refine lv_goto (pc := 61) (tgt := 117) hx hb dX12_readLine_61 (by decide) ?_
          cases hf
          rw [hQ]
          exact r_vret C hr hP hD hS dX12_readLine_117
      · replace hf := it_f c_38 hf
        refine lv_aload_n (pc := 41) hx hb dX12_readLine_41 rfl (lv_at hl 0 rfl) ?_
        obtain ⟨v_at_42, v_sort_42, v_place_42, v_sign_42, v_number_42, v_fault_42, v_wrongAt_42, v_word_42, v_read_doors_42, v_read_doorA_42, v_read_doorB_42, v_read_how_42, v_read_falls_42, hc_42, hf⟩ := bd13 hf
        refine r_dalVv (pc := 42) (ws' := (wX12_readLine E h h_read h_tape h_far h_from h_real h_other h_kept h_set h_w h_book h_noteSort h_whose h_what h_noteIs h_fitting h_dawn h_likes h_walked h_came h_read_creak h_read_doorA h_read_doorB h_read_how h_read_lies h_read_isCold h_read_falls h_read_isFull h_read_isTold h_read_act h_read_what h_read_then h_read_met h_read_bed h_read_dream h_read_listens h_read_name h_read_nameSort h_read_nameNumber v_thrown v_trouble v_where v_inn v_taped v_size v_at_42 v_sort_42 v_place_42 v_sign_42 v_number_42 v_fault_42 v_wrongAt_42 v_word_42 v_marks v_notes v_read_minutes v_read_rooms v_read_doors_42 v_read_things v_read_dreams v_read_sleepers v_read_listeners v_read_names v_tape v_read_name v_read_nameNumber v_read_nameSort v_read_listens v_read_bed v_read_dream v_read_isTold v_read_act v_read_what v_read_then v_read_met v_read_lies v_read_isFull v_read_doorA_42 v_read_doorB_42 v_read_how_42 v_read_falls_42 v_read_creak v_read_isCold)) (As := []) (rest := []) C (ctX12_readDoor l E h h_read h_tape h_far h_from h_real h_other h_kept h_set h_w h_book h_noteSort h_whose h_what h_noteIs h_fitting h_dawn h_likes h_walked h_came h_read_creak h_read_doorA h_read_doorB h_read_how h_read_lies h_read_isCold h_read_falls h_read_isFull h_read_isTold h_read_act h_read_what h_read_then h_read_met h_read_bed h_read_dream h_read_listens h_read_name h_read_nameSort h_read_nameNumber v_thrown v_trouble v_where v_inn v_taped v_size v_at v_sort v_place v_sign v_number v_fault v_wrongAt v_word v_marks v_notes v_read_minutes v_read_rooms v_read_doors v_read_things v_read_dreams v_read_sleepers v_read_listeners v_read_names v_tape v_read_name v_read_nameNumber v_read_nameSort v_read_doorA v_read_doorB v_read_how v_read_falls N (v_at_42, v_sort_42, v_place_42, v_sign_42, v_number_42, v_fault_42, v_wrongAt_42, v_word_42, v_read_doors_42, v_read_doorA_42, v_read_doorB_42, v_read_how_42, v_read_falls_42) hc_42) ml_X12_256 ⟨Nat.le_of_ble_eq_true rfl, Nat.le_of_ble_eq_true rfl⟩ hP hD hS 0 rfl rfl rfl [0, 1, 2, 3, 4, 5, 16, 17, 18, 19] [22, 23, 24, 25, 26, 27, 6, 7, 8, 9, 10, 11, 12, 13, 14, 15, 28, 29, 30, 31, 20, 21] 22 rfl rfl rfl rfl rfl rfl rfl hl.1 rfl (Nat.le_of_ble_eq_true rfl) ⟨Nat.zero_le _, Nat.zero_le _⟩ dX12_readLine_42 ?_
        clear hP hD hS; intro H locs hP hD hS
        refine lv_goto (pc := 45) (tgt := 117) hx hb dX12_readLine_45 (by decide) ?_
        cases hf
        rw [hQ]
        exact r_vret C hr hP hD hS dX12_readLine_117
    · replace hf := it_f c_22 hf
      refine lv_aload_n (pc := 25) hx hb dX12_readLine_25 rfl (lv_at hl 0 rfl) ?_
      obtain ⟨v_at_26, v_sort_26, v_place_26, v_sign_26, v_number_26, v_fault_26, v_wrongAt_26, v_word_26, v_read_rooms_26, v_read_names_26, v_read_name_26, v_read_nameSort_26, v_read_nameNumber_26, v_read_creak_26, v_read_isCold_26, hc_26, hf⟩ := bd15 hf
      refine r_dalVv (pc := 26) (ws' := (wX12_readLine E h h_read h_tape h_far h_from h_real h_other h_kept h_set h_w h_book h_noteSort h_whose h_what h_noteIs h_fitting h_dawn h_likes h_walked h_came h_read_creak h_read_doorA h_read_doorB h_read_how h_read_lies h_read_isCold h_read_falls h_read_isFull h_read_isTold h_read_act h_read_what h_read_then h_read_met h_read_bed h_read_dream h_read_listens h_read_name h_read_nameSort h_read_nameNumber v_thrown v_trouble v_where v_inn v_taped v_size v_at_26 v_sort_26 v_place_26 v_sign_26 v_number_26 v_fault_26 v_wrongAt_26 v_word_26 v_marks v_notes v_read_minutes v_read_rooms_26 v_read_doors v_read_things v_read_dreams v_read_sleepers v_read_listeners v_read_names_26 v_tape v_read_name_26 v_read_nameNumber_26 v_read_nameSort_26 v_read_listens v_read_bed v_read_dream v_read_isTold v_read_act v_read_what v_read_then v_read_met v_read_lies v_read_isFull v_read_doorA v_read_doorB v_read_how v_read_falls v_read_creak_26 v_read_isCold_26)) (As := []) (rest := []) C (ctX12_readRoom l E h h_read h_tape h_far h_from h_real h_other h_kept h_set h_w h_book h_noteSort h_whose h_what h_noteIs h_fitting h_dawn h_likes h_walked h_came h_read_creak h_read_doorA h_read_doorB h_read_how h_read_lies h_read_isCold h_read_falls h_read_isFull h_read_isTold h_read_act h_read_what h_read_then h_read_met h_read_bed h_read_dream h_read_listens h_read_name h_read_nameSort h_read_nameNumber v_thrown v_trouble v_where v_inn v_taped v_size v_at v_sort v_place v_sign v_number v_fault v_wrongAt v_word v_marks v_notes v_read_minutes v_read_rooms v_read_doors v_read_things v_read_dreams v_read_sleepers v_read_listeners v_read_names v_tape v_read_name v_read_nameSort v_read_nameNumber v_read_creak v_read_isCold N (v_at_26, v_sort_26, v_place_26, v_sign_26, v_number_26, v_fault_26, v_wrongAt_26, v_word_26, v_read_rooms_26, v_read_names_26, v_read_name_26, v_read_nameSort_26, v_read_nameNumber_26, v_read_creak_26, v_read_isCold_26) hc_26) ml_X12_253 ⟨Nat.le_of_ble_eq_true rfl, Nat.le_of_ble_eq_true rfl⟩ hP hD hS 0 rfl rfl rfl [0, 1, 2, 3, 5, 4, 20, 21] [22, 23, 24, 25, 27, 26, 6, 7, 8, 9, 10, 11, 12, 13, 14, 15, 16, 17, 18, 19, 28, 29] 22 rfl rfl rfl rfl rfl rfl rfl hl.1 rfl (Nat.le_of_ble_eq_true rfl) ⟨Nat.zero_le _, Nat.zero_le _⟩ dX12_readLine_26 ?_
      clear hP hD hS; intro H locs hP hD hS
      refine lv_goto (pc := 29) (tgt := 117) hx hb dX12_readLine_29 (by decide) ?_
      cases hf
      rw [hQ]
      exact r_vret C hr hP hD hS dX12_readLine_117
  · replace hf := it_f c_6 hf
    refine lv_aload_n (pc := 9) hx hb dX12_readLine_9 rfl (lv_at hl 0 rfl) ?_
    obtain ⟨v_at_10, v_sort_10, v_place_10, v_sign_10, v_number_10, v_fault_10, v_wrongAt_10, v_word_10, v_read_minutes_10, hc_10, hf⟩ := bd9 hf
    refine r_dalVv (pc := 10) (ws' := (wX12_readLine E h h_read h_tape h_far h_from h_real h_other h_kept h_set h_w h_book h_noteSort h_whose h_what h_noteIs h_fitting h_dawn h_likes h_walked h_came h_read_creak h_read_doorA h_read_doorB h_read_how h_read_lies h_read_isCold h_read_falls h_read_isFull h_read_isTold h_read_act h_read_what h_read_then h_read_met h_read_bed h_read_dream h_read_listens h_read_name h_read_nameSort h_read_nameNumber v_thrown v_trouble v_where v_inn v_taped v_size v_at_10 v_sort_10 v_place_10 v_sign_10 v_number_10 v_fault_10 v_wrongAt_10 v_word_10 v_marks v_notes v_read_minutes_10 v_read_rooms v_read_doors v_read_things v_read_dreams v_read_sleepers v_read_listeners v_read_names v_tape v_read_name v_read_nameNumber v_read_nameSort v_read_listens v_read_bed v_read_dream v_read_isTold v_read_act v_read_what v_read_then v_read_met v_read_lies v_read_isFull v_read_doorA v_read_doorB v_read_how v_read_falls v_read_creak v_read_isCold)) (As := []) (rest := []) C (ctX12_readHouse l E h h_read h_tape h_far h_from h_real h_other h_kept h_set h_w h_book h_noteSort h_whose h_what h_noteIs h_fitting h_dawn h_likes h_walked h_came h_read_creak h_read_doorA h_read_doorB h_read_how h_read_lies h_read_isCold h_read_falls h_read_isFull h_read_isTold h_read_act h_read_what h_read_then h_read_met h_read_bed h_read_dream h_read_listens h_read_name h_read_nameSort h_read_nameNumber v_thrown v_trouble v_where v_inn v_taped v_size v_at v_sort v_place v_sign v_number v_fault v_wrongAt v_word v_marks v_notes v_read_minutes v_read_rooms v_read_doors v_read_things v_read_dreams v_read_sleepers v_read_listeners v_read_names v_tape N (v_at_10, v_sort_10, v_place_10, v_sign_10, v_number_10, v_fault_10, v_wrongAt_10, v_word_10, v_read_minutes_10) hc_10) ml_X12_250 ⟨Nat.le_of_ble_eq_true rfl, Nat.le_of_ble_eq_true rfl⟩ hP hD hS 0 rfl rfl rfl [0, 1, 2] [22, 23, 24, 3, 4, 5, 6, 7, 8, 9, 10, 11, 12, 13, 14, 15, 16, 17, 18, 19, 20, 21] 22 rfl rfl rfl rfl rfl rfl rfl hl.1 rfl (Nat.le_of_ble_eq_true rfl) ⟨Nat.zero_le _, Nat.zero_le _⟩ dX12_readLine_10 ?_
    clear hP hD hS; intro H locs hP hD hS
    refine lv_goto (pc := 13) (tgt := 117) hx hb dX12_readLine_13 (by decide) ?_
    cases hf
    rw [hQ]
    exact r_vret C hr hP hD hS dX12_readLine_117
def wX12_readInn (E : EN) (h h_read h_tape h_far h_from h_real h_other h_kept h_set h_w h_book h_noteSort h_whose h_what h_noteIs h_fitting h_dawn h_likes h_walked h_came h_read_creak h_read_doorA h_read_doorB h_read_how h_read_lies h_read_isCold h_read_falls h_read_isFull h_read_isTold h_read_act h_read_what h_read_then h_read_met h_read_bed h_read_dream h_read_listens h_read_name h_read_nameSort h_read_nameNumber : Nat) (v_thrown : Int32) (v_trouble : Int32) (v_where : Int32) (v_inn : Option Nat) (v_taped : Int32) (v_size : Int32) (v_at : Int32) (v_sort : Int32) (v_place : Int32) (v_sign : Int32) (v_number : Int32) (v_fault : Int32) (v_wrongAt : Int32) (v_word : Int64) (v_marks : Int32) (v_notes : Int32) (v_read_minutes : Int32) (v_read_rooms : Int32) (v_read_doors : Int32) (v_read_things : Int32) (v_read_dreams : Int32) (v_read_sleepers : Int32) (v_read_listeners : Int32) (v_read_names : Int32) (v_tape : Nat → Int32) (v_read_name : Nat → Int64) (v_read_nameNumber : Nat → Int32) (v_read_nameSort : Nat → Int32) (v_read_listens : Nat → Int32) (v_read_bed : Nat → Int32) (v_read_dream : Nat → Int32) (v_read_isTold : Nat → Int32) (v_read_act : Nat → Int32) (v_read_what : Nat → Int32) (v_read_then : Nat → Int32) (v_read_met : Nat → Int32) (v_read_lies : Nat → Int32) (v_read_isFull : Nat → Int32) (v_read_doorA : Nat → Int32) (v_read_doorB : Nat → Int32) (v_read_how : Nat → Int32) (v_read_falls : Nat → Int32) (v_read_creak : Nat → Int32) (v_read_isCold : Nat → Int32) : va_W := [(h, .inr (11, [.int v_thrown, .int v_trouble, .int v_where, va_rf v_inn, .ref h_read, .ref h_tape, .int v_taped, .int v_size, .int v_at, .int v_sort, .int v_place, .int v_sign, .int v_number, .int v_fault, .int v_wrongAt, .long v_word, .ref h_far, .ref h_from, .ref h_real, .ref h_other, .ref h_kept, .ref h_set, .ref h_w, .int v_marks, .int v_notes, .ref h_book, .ref h_noteSort, .ref h_whose, .ref h_what, .ref h_noteIs, .ref h_fitting, .ref h_dawn, .ref h_likes, .ref h_walked, .ref h_came])), (h_read, .inr (10, [.int v_read_minutes, .int v_read_rooms, .int v_read_doors, .int v_read_things, .int v_read_dreams, .int v_read_sleepers, .int v_read_listeners, .int v_read_names, .ref h_read_creak, .ref h_read_doorA, .ref h_read_doorB, .ref h_read_how, .ref h_read_lies, .ref h_read_isCold, .ref h_read_falls, .ref h_read_isFull, .ref h_read_isTold, .ref h_read_act, .ref h_read_what, .ref h_read_then, .ref h_read_met, .ref h_read_bed, .ref h_read_dream, .ref h_read_listens, .ref h_read_name, .ref h_read_nameSort, .ref h_read_nameNumber])), (h_tape, aB E 900 v_tape), (h_read_name, aJ E 19 v_read_name), (h_read_nameNumber, aI E 19 v_read_nameNumber), (h_read_nameSort, aI E 19 v_read_nameSort), (h_read_listens, aI E 3 v_read_listens), (h_read_bed, aI E 3 v_read_bed), (h_read_dream, aI E 3 v_read_dream), (h_read_isTold, aZ E 16 v_read_isTold), (h_read_act, aI E 16 v_read_act), (h_read_what, aI E 16 v_read_what), (h_read_then, aI E 16 v_read_then), (h_read_met, aI E 16 v_read_met), (h_read_lies, aI E 4 v_read_lies), (h_read_isFull, aZ E 4 v_read_isFull), (h_read_doorA, aI E 10 v_read_doorA), (h_read_doorB, aI E 10 v_read_doorB), (h_read_how, aI E 10 v_read_how), (h_read_falls, aZ E 10 v_read_falls), (h_read_creak, aI E 8 v_read_creak), (h_read_isCold, aZ E 8 v_read_isCold)]
def BX12_readInn_2 (N : Nat) (v_size : Int32) (v_tape : Nat → Int32) (K20 : (Int32 × Int32 × Int32 × Int32 × Int32 × Int32 × Int32 × Int64 × Int32 × Int32 × Int32 × Int32 × Int32 × Int32 × Int32 × Int32 × (Nat → Int64) × (Nat → Int32) × (Nat → Int32) × (Nat → Int32) × (Nat → Int32) × (Nat → Int32) × (Nat → Int32) × (Nat → Int32) × (Nat → Int32) × (Nat → Int32) × (Nat → Int32) × (Nat → Int32) × (Nat → Int32) × (Nat → Int32) × (Nat → Int32) × (Nat → Int32) × (Nat → Int32) × (Nat → Int32) × (Nat → Int32)) → Option (Int32 × Int32 × Int32 × Int32 × Int32 × Int32 × Int32 × Int64 × Int32 × Int32 × Int32 × Int32 × Int32 × Int32 × Int32 × Int32 × (Nat → Int64) × (Nat → Int32) × (Nat → Int32) × (Nat → Int32) × (Nat → Int32) × (Nat → Int32) × (Nat → Int32) × (Nat → Int32) × (Nat → Int32) × (Nat → Int32) × (Nat → Int32) × (Nat → Int32) × (Nat → Int32) × (Nat → Int32) × (Nat → Int32) × (Nat → Int32) × (Nat → Int32) × (Nat → Int32) × (Nat → Int32))) (rec2 : (Int32 × Int32 × Int32 × Int32 × Int32 × Int32 × Int32 × Int32 × Int64 × Int32 × Int32 × Int32 × Int32 × Int32 × Int32 × Int32 × Int32 × (Nat → Int64) × (Nat → Int32) × (Nat → Int32) × (Nat → Int32) × (Nat → Int32) × (Nat → Int32) × (Nat → Int32) × (Nat → Int32) × (Nat → Int32) × (Nat → Int32) × (Nat → Int32) × (Nat → Int32) × (Nat → Int32) × (Nat → Int32) × (Nat → Int32) × (Nat → Int32) × (Nat → Int32) × (Nat → Int32) × (Nat → Int32)) → Option (Int32 × Int32 × Int32 × Int32 × Int32 × Int32 × Int32 × Int64 × Int32 × Int32 × Int32 × Int32 × Int32 × Int32 × Int32 × Int32 × (Nat → Int64) × (Nat → Int32) × (Nat → Int32) × (Nat → Int32) × (Nat → Int32) × (Nat → Int32) × (Nat → Int32) × (Nat → Int32) × (Nat → Int32) × (Nat → Int32) × (Nat → Int32) × (Nat → Int32) × (Nat → Int32) × (Nat → Int32) × (Nat → Int32) × (Nat → Int32) × (Nat → Int32) × (Nat → Int32) × (Nat → Int32))) : (Int32 × Int32 × Int32 × Int32 × Int32 × Int32 × Int32 × Int32 × Int64 × Int32 × Int32 × Int32 × Int32 × Int32 × Int32 × Int32 × Int32 × (Nat → Int64) × (Nat → Int32) × (Nat → Int32) × (Nat → Int32) × (Nat → Int32) × (Nat → Int32) × (Nat → Int32) × (Nat → Int32) × (Nat → Int32) × (Nat → Int32) × (Nat → Int32) × (Nat → Int32) × (Nat → Int32) × (Nat → Int32) × (Nat → Int32) × (Nat → Int32) × (Nat → Int32) × (Nat → Int32) × (Nat → Int32)) → Option (Int32 × Int32 × Int32 × Int32 × Int32 × Int32 × Int32 × Int64 × Int32 × Int32 × Int32 × Int32 × Int32 × Int32 × Int32 × Int32 × (Nat → Int64) × (Nat → Int32) × (Nat → Int32) × (Nat → Int32) × (Nat → Int32) × (Nat → Int32) × (Nat → Int32) × (Nat → Int32) × (Nat → Int32) × (Nat → Int32) × (Nat → Int32) × (Nat → Int32) × (Nat → Int32) × (Nat → Int32) × (Nat → Int32) × (Nat → Int32) × (Nat → Int32) × (Nat → Int32) × (Nat → Int32)) := un36 fun (x2_1 : Int32) (x2_at : Int32) (x2_sort : Int32) (x2_place : Int32) (x2_sign : Int32) (x2_number : Int32) (x2_fault : Int32) (x2_wrongAt : Int32) (x2_word : Int64) (x2_read_minutes : Int32) (x2_read_rooms : Int32) (x2_read_doors : Int32) (x2_read_things : Int32) (x2_read_dreams : Int32) (x2_read_sleepers : Int32) (x2_read_listeners : Int32) (x2_read_names : Int32) (x2_read_name : Nat → Int64) (x2_read_nameNumber : Nat → Int32) (x2_read_nameSort : Nat → Int32) (x2_read_listens : Nat → Int32) (x2_read_bed : Nat → Int32) (x2_read_dream : Nat → Int32) (x2_read_isTold : Nat → Int32) (x2_read_act : Nat → Int32) (x2_read_what : Nat → Int32) (x2_read_then : Nat → Int32) (x2_read_met : Nat → Int32) (x2_read_lies : Nat → Int32) (x2_read_isFull : Nat → Int32) (x2_read_doorA : Nat → Int32) (x2_read_doorB : Nat → Int32) (x2_read_how : Nat → Int32) (x2_read_falls : Nat → Int32) (x2_read_creak : Nat → Int32) (x2_read_isCold : Nat → Int32) => if x2_1 = 0 then (K20 (x2_at, x2_sort, x2_place, x2_sign, x2_number, x2_fault, x2_wrongAt, x2_word, x2_read_minutes, x2_read_rooms, x2_read_doors, x2_read_things, x2_read_dreams, x2_read_sleepers, x2_read_listeners, x2_read_names, x2_read_name, x2_read_nameNumber, x2_read_nameSort, x2_read_listens, x2_read_bed, x2_read_dream, x2_read_isTold, x2_read_act, x2_read_what, x2_read_then, x2_read_met, x2_read_lies, x2_read_isFull, x2_read_doorA, x2_read_doorB, x2_read_how, x2_read_falls, x2_read_creak, x2_read_isCold)) else ((fX12_readLine N v_size x2_at x2_sort x2_place x2_sign x2_number x2_fault x2_wrongAt x2_word x2_read_minutes x2_read_rooms x2_read_doors x2_read_things x2_read_dreams x2_read_sleepers x2_read_listeners x2_read_names v_tape x2_read_name x2_read_nameNumber x2_read_nameSort x2_read_listens x2_read_bed x2_read_dream x2_read_isTold x2_read_act x2_read_what x2_read_then x2_read_met x2_read_lies x2_read_isFull x2_read_doorA x2_read_doorB x2_read_how x2_read_falls x2_read_creak x2_read_isCold).bind (un35 fun (v_at_7 : Int32) (v_sort_7 : Int32) (v_place_7 : Int32) (v_sign_7 : Int32) (v_number_7 : Int32) (v_fault_7 : Int32) (v_wrongAt_7 : Int32) (v_word_7 : Int64) (v_read_minutes_7 : Int32) (v_read_rooms_7 : Int32) (v_read_doors_7 : Int32) (v_read_things_7 : Int32) (v_read_dreams_7 : Int32) (v_read_sleepers_7 : Int32) (v_read_listeners_7 : Int32) (v_read_names_7 : Int32) (v_read_name_7 : Nat → Int64) (v_read_nameNumber_7 : Nat → Int32) (v_read_nameSort_7 : Nat → Int32) (v_read_listens_7 : Nat → Int32) (v_read_bed_7 : Nat → Int32) (v_read_dream_7 : Nat → Int32) (v_read_isTold_7 : Nat → Int32) (v_read_act_7 : Nat → Int32) (v_read_what_7 : Nat → Int32) (v_read_then_7 : Nat → Int32) (v_read_met_7 : Nat → Int32) (v_read_lies_7 : Nat → Int32) (v_read_isFull_7 : Nat → Int32) (v_read_doorA_7 : Nat → Int32) (v_read_doorB_7 : Nat → Int32) (v_read_how_7 : Nat → Int32) (v_read_falls_7 : Nat → Int32) (v_read_creak_7 : Nat → Int32) (v_read_isCold_7 : Nat → Int32) => (fX12_eatsSign N 59 v_size v_at_7 v_sort_7 v_place_7 v_sign_7 v_number_7 v_word_7 v_tape).bind (un7 fun (r_13 : Int32) (v_at_13 : Int32) (v_sort_13 : Int32) (v_place_13 : Int32) (v_sign_13 : Int32) (v_number_13 : Int32) (v_word_13 : Int64) => rec2 (r_13, v_at_13, v_sort_13, v_place_13, v_sign_13, v_number_13, v_fault_7, v_wrongAt_7, v_word_13, v_read_minutes_7, v_read_rooms_7, v_read_doors_7, v_read_things_7, v_read_dreams_7, v_read_sleepers_7, v_read_listeners_7, v_read_names_7, v_read_name_7, v_read_nameNumber_7, v_read_nameSort_7, v_read_listens_7, v_read_bed_7, v_read_dream_7, v_read_isTold_7, v_read_act_7, v_read_what_7, v_read_then_7, v_read_met_7, v_read_lies_7, v_read_isFull_7, v_read_doorA_7, v_read_doorB_7, v_read_how_7, v_read_falls_7, v_read_creak_7, v_read_isCold_7))))
def fX12_readInn (N : Nat) (v_size : Int32) (v_at : Int32) (v_sort : Int32) (v_place : Int32) (v_sign : Int32) (v_number : Int32) (v_fault : Int32) (v_wrongAt : Int32) (v_word : Int64) (v_read_minutes : Int32) (v_read_rooms : Int32) (v_read_doors : Int32) (v_read_things : Int32) (v_read_dreams : Int32) (v_read_sleepers : Int32) (v_read_listeners : Int32) (v_read_names : Int32) (v_tape : Nat → Int32) (v_read_name : Nat → Int64) (v_read_nameNumber : Nat → Int32) (v_read_nameSort : Nat → Int32) (v_read_listens : Nat → Int32) (v_read_bed : Nat → Int32) (v_read_dream : Nat → Int32) (v_read_isTold : Nat → Int32) (v_read_act : Nat → Int32) (v_read_what : Nat → Int32) (v_read_then : Nat → Int32) (v_read_met : Nat → Int32) (v_read_lies : Nat → Int32) (v_read_isFull : Nat → Int32) (v_read_doorA : Nat → Int32) (v_read_doorB : Nat → Int32) (v_read_how : Nat → Int32) (v_read_falls : Nat → Int32) (v_read_creak : Nat → Int32) (v_read_isCold : Nat → Int32) : Option (Int32 × Int32 × Int32 × Int32 × Int32 × Int32 × Int32 × Int64 × Int32 × Int32 × Int32 × Int32 × Int32 × Int32 × Int32 × Int32 × (Nat → Int64) × (Nat → Int32) × (Nat → Int32) × (Nat → Int32) × (Nat → Int32) × (Nat → Int32) × (Nat → Int32) × (Nat → Int32) × (Nat → Int32) × (Nat → Int32) × (Nat → Int32) × (Nat → Int32) × (Nat → Int32) × (Nat → Int32) × (Nat → Int32) × (Nat → Int32) × (Nat → Int32) × (Nat → Int32) × (Nat → Int32)) := lp (BX12_readInn_2 N v_size v_tape (un35 fun (x20_at : Int32) (x20_sort : Int32) (x20_place : Int32) (x20_sign : Int32) (x20_number : Int32) (x20_fault : Int32) (x20_wrongAt : Int32) (x20_word : Int64) (x20_read_minutes : Int32) (x20_read_rooms : Int32) (x20_read_doors : Int32) (x20_read_things : Int32) (x20_read_dreams : Int32) (x20_read_sleepers : Int32) (x20_read_listeners : Int32) (x20_read_names : Int32) (x20_read_name : Nat → Int64) (x20_read_nameNumber : Nat → Int32) (x20_read_nameSort : Nat → Int32) (x20_read_listens : Nat → Int32) (x20_read_bed : Nat → Int32) (x20_read_dream : Nat → Int32) (x20_read_isTold : Nat → Int32) (x20_read_act : Nat → Int32) (x20_read_what : Nat → Int32) (x20_read_then : Nat → Int32) (x20_read_met : Nat → Int32) (x20_read_lies : Nat → Int32) (x20_read_isFull : Nat → Int32) (x20_read_doorA : Nat → Int32) (x20_read_doorB : Nat → Int32) (x20_read_how : Nat → Int32) (x20_read_falls : Nat → Int32) (x20_read_creak : Nat → Int32) (x20_read_isCold : Nat → Int32) => jn (un3 fun (x33_sort : Int32) (x33_fault : Int32) (x33_wrongAt : Int32) => jn (un0 ((fX12_wrong N 6 x33_sort x20_place x33_fault x33_wrongAt).bind (un3 fun (v_sort_66 : Int32) (v_fault_66 : Int32) (v_wrongAt_66 : Int32) => some (x20_at, v_sort_66, x20_place, x20_sign, x20_number, v_fault_66, v_wrongAt_66, x20_word, x20_read_minutes, x20_read_rooms, x20_read_doors, x20_read_things, x20_read_dreams, x20_read_sleepers, x20_read_listeners, x20_read_names, x20_read_name, x20_read_nameNumber, x20_read_nameSort, x20_read_listens, x20_read_bed, x20_read_dream, x20_read_isTold, x20_read_act, x20_read_what, x20_read_then, x20_read_met, x20_read_lies, x20_read_isFull, x20_read_doorA, x20_read_doorB, x20_read_how, x20_read_falls, x20_read_creak, x20_read_isCold)))) (fun j63 => if x20_read_minutes = 0 then (j63 ()) else (if x20_read_rooms = 0 then (j63 ()) else (if x20_read_sleepers = 0 then (j63 ()) else (some (x20_at, x33_sort, x20_place, x20_sign, x20_number, x33_fault, x33_wrongAt, x20_word, x20_read_minutes, x20_read_rooms, x20_read_doors, x20_read_things, x20_read_dreams, x20_read_sleepers, x20_read_listeners, x20_read_names, x20_read_name, x20_read_nameNumber, x20_read_nameSort, x20_read_listens, x20_read_bed, x20_read_dream, x20_read_isTold, x20_read_act, x20_read_what, x20_read_then, x20_read_met, x20_read_lies, x20_read_isFull, x20_read_doorA, x20_read_doorB, x20_read_how, x20_read_falls, x20_read_creak, x20_read_isCold)))))) (fun j33 => if x20_sort = 1 then (j33 (x20_sort, x20_fault, x20_wrongAt)) else ((fX12_wrong N 1 x20_sort x20_place x20_fault x20_wrongAt).bind (un3 fun (v_sort_30 : Int32) (v_fault_30 : Int32) (v_wrongAt_30 : Int32) => j33 (v_sort_30, v_fault_30, v_wrongAt_30)))))) N (1, v_at, v_sort, v_place, v_sign, v_number, v_fault, v_wrongAt, v_word, v_read_minutes, v_read_rooms, v_read_doors, v_read_things, v_read_dreams, v_read_sleepers, v_read_listeners, v_read_names, v_read_name, v_read_nameNumber, v_read_nameSort, v_read_listens, v_read_bed, v_read_dream, v_read_isTold, v_read_act, v_read_what, v_read_then, v_read_met, v_read_lies, v_read_isFull, v_read_doorA, v_read_doorB, v_read_how, v_read_falls, v_read_creak, v_read_isCold)
set_option maxHeartbeats 4000000 in
set_option maxRecDepth 100000 in
theorem ctX12_readInn (l : Launch) (E : EN) (h h_read h_tape h_far h_from h_real h_other h_kept h_set h_w h_book h_noteSort h_whose h_what h_noteIs h_fitting h_dawn h_likes h_walked h_came h_read_creak h_read_doorA h_read_doorB h_read_how h_read_lies h_read_isCold h_read_falls h_read_isFull h_read_isTold h_read_act h_read_what h_read_then h_read_met h_read_bed h_read_dream h_read_listens h_read_name h_read_nameSort h_read_nameNumber : Nat) (v_thrown : Int32) (v_trouble : Int32) (v_where : Int32) (v_inn : Option Nat) (v_taped : Int32) (v_size : Int32) (v_at : Int32) (v_sort : Int32) (v_place : Int32) (v_sign : Int32) (v_number : Int32) (v_fault : Int32) (v_wrongAt : Int32) (v_word : Int64) (v_marks : Int32) (v_notes : Int32) (v_read_minutes : Int32) (v_read_rooms : Int32) (v_read_doors : Int32) (v_read_things : Int32) (v_read_dreams : Int32) (v_read_sleepers : Int32) (v_read_listeners : Int32) (v_read_names : Int32) (v_tape : Nat → Int32) (v_read_name : Nat → Int64) (v_read_nameNumber : Nat → Int32) (v_read_nameSort : Nat → Int32) (v_read_listens : Nat → Int32) (v_read_bed : Nat → Int32) (v_read_dream : Nat → Int32) (v_read_isTold : Nat → Int32) (v_read_act : Nat → Int32) (v_read_what : Nat → Int32) (v_read_then : Nat → Int32) (v_read_met : Nat → Int32) (v_read_lies : Nat → Int32) (v_read_isFull : Nat → Int32) (v_read_doorA : Nat → Int32) (v_read_doorB : Nat → Int32) (v_read_how : Nat → Int32) (v_read_falls : Nat → Int32) (v_read_creak : Nat → Int32) (v_read_isCold : Nat → Int32) (N : Nat) (z : Int32 × Int32 × Int32 × Int32 × Int32 × Int32 × Int32 × Int64 × Int32 × Int32 × Int32 × Int32 × Int32 × Int32 × Int32 × Int32 × (Nat → Int64) × (Nat → Int32) × (Nat → Int32) × (Nat → Int32) × (Nat → Int32) × (Nat → Int32) × (Nat → Int32) × (Nat → Int32) × (Nat → Int32) × (Nat → Int32) × (Nat → Int32) × (Nat → Int32) × (Nat → Int32) × (Nat → Int32) × (Nat → Int32) × (Nat → Int32) × (Nat → Int32) × (Nat → Int32) × (Nat → Int32)) (hf : fX12_readInn N v_size v_at v_sort v_place v_sign v_number v_fault v_wrongAt v_word v_read_minutes v_read_rooms v_read_doors v_read_things v_read_dreams v_read_sleepers v_read_listeners v_read_names v_tape v_read_name v_read_nameNumber v_read_nameSort v_read_listens v_read_bed v_read_dream v_read_isTold v_read_act v_read_what v_read_then v_read_met v_read_lies v_read_isFull v_read_doorA v_read_doorB v_read_how v_read_falls v_read_creak v_read_isCold = some z) : CTv l E yX12_readInn cX12_readInn 2 11 241 [.ref h] (wX12_readInn E h h_read h_tape h_far h_from h_real h_other h_kept h_set h_w h_book h_noteSort h_whose h_what h_noteIs h_fitting h_dawn h_likes h_walked h_came h_read_creak h_read_doorA h_read_doorB h_read_how h_read_lies h_read_isCold h_read_falls h_read_isFull h_read_isTold h_read_act h_read_what h_read_then h_read_met h_read_bed h_read_dream h_read_listens h_read_name h_read_nameSort h_read_nameNumber v_thrown v_trouble v_where v_inn v_taped v_size v_at v_sort v_place v_sign v_number v_fault v_wrongAt v_word v_marks v_notes v_read_minutes v_read_rooms v_read_doors v_read_things v_read_dreams v_read_sleepers v_read_listeners v_read_names v_tape v_read_name v_read_nameNumber v_read_nameSort v_read_listens v_read_bed v_read_dream v_read_isTold v_read_act v_read_what v_read_then v_read_met v_read_lies v_read_isFull v_read_doorA v_read_doorB v_read_how v_read_falls v_read_creak v_read_isCold) (wX12_readInn E h h_read h_tape h_far h_from h_real h_other h_kept h_set h_w h_book h_noteSort h_whose h_what h_noteIs h_fitting h_dawn h_likes h_walked h_came h_read_creak h_read_doorA h_read_doorB h_read_how h_read_lies h_read_isCold h_read_falls h_read_isFull h_read_isTold h_read_act h_read_what h_read_then h_read_met h_read_bed h_read_dream h_read_listens h_read_name h_read_nameSort h_read_nameNumber v_thrown v_trouble v_where v_inn v_taped v_size z.1 z.2.1 z.2.2.1 z.2.2.2.1 z.2.2.2.2.1 z.2.2.2.2.2.1 z.2.2.2.2.2.2.1 z.2.2.2.2.2.2.2.1 v_marks v_notes z.2.2.2.2.2.2.2.2.1 z.2.2.2.2.2.2.2.2.2.1 z.2.2.2.2.2.2.2.2.2.2.1 z.2.2.2.2.2.2.2.2.2.2.2.1 z.2.2.2.2.2.2.2.2.2.2.2.2.1 z.2.2.2.2.2.2.2.2.2.2.2.2.2.1 z.2.2.2.2.2.2.2.2.2.2.2.2.2.2.1 z.2.2.2.2.2.2.2.2.2.2.2.2.2.2.2.1 v_tape z.2.2.2.2.2.2.2.2.2.2.2.2.2.2.2.2.1 z.2.2.2.2.2.2.2.2.2.2.2.2.2.2.2.2.2.1 z.2.2.2.2.2.2.2.2.2.2.2.2.2.2.2.2.2.2.1 z.2.2.2.2.2.2.2.2.2.2.2.2.2.2.2.2.2.2.2.1 z.2.2.2.2.2.2.2.2.2.2.2.2.2.2.2.2.2.2.2.2.1 z.2.2.2.2.2.2.2.2.2.2.2.2.2.2.2.2.2.2.2.2.2.1 z.2.2.2.2.2.2.2.2.2.2.2.2.2.2.2.2.2.2.2.2.2.2.1 z.2.2.2.2.2.2.2.2.2.2.2.2.2.2.2.2.2.2.2.2.2.2.2.1 z.2.2.2.2.2.2.2.2.2.2.2.2.2.2.2.2.2.2.2.2.2.2.2.2.1 z.2.2.2.2.2.2.2.2.2.2.2.2.2.2.2.2.2.2.2.2.2.2.2.2.2.1 z.2.2.2.2.2.2.2.2.2.2.2.2.2.2.2.2.2.2.2.2.2.2.2.2.2.2.1 z.2.2.2.2.2.2.2.2.2.2.2.2.2.2.2.2.2.2.2.2.2.2.2.2.2.2.2.1 z.2.2.2.2.2.2.2.2.2.2.2.2.2.2.2.2.2.2.2.2.2.2.2.2.2.2.2.2.1 z.2.2.2.2.2.2.2.2.2.2.2.2.2.2.2.2.2.2.2.2.2.2.2.2.2.2.2.2.2.1 z.2.2.2.2.2.2.2.2.2.2.2.2.2.2.2.2.2.2.2.2.2.2.2.2.2.2.2.2.2.2.1 z.2.2.2.2.2.2.2.2.2.2.2.2.2.2.2.2.2.2.2.2.2.2.2.2.2.2.2.2.2.2.2.1 z.2.2.2.2.2.2.2.2.2.2.2.2.2.2.2.2.2.2.2.2.2.2.2.2.2.2.2.2.2.2.2.2.1 z.2.2.2.2.2.2.2.2.2.2.2.2.2.2.2.2.2.2.2.2.2.2.2.2.2.2.2.2.2.2.2.2.2.1 z.2.2.2.2.2.2.2.2.2.2.2.2.2.2.2.2.2.2.2.2.2.2.2.2.2.2.2.2.2.2.2.2.2.2) := by
  intro sz
  refine ct_body (by decide) (Nat.le_of_ble_eq_true rfl) ?_
  intro p e s m args below meth c A ls hAe C hr hin hP hD hS hl
  have C : CX p s m args meth c cX12_readInn RX12 2 E A := C
  have hl : lv_has ls 2 [(0, .ref h)] := hl
  have hx := C.1
  have hb := C.2.1
  rw [hAe]
  clear hAe
  obtain ⟨Q, hQ⟩ : ∃ Q, Q = MQ below (Qv E A (wX12_readInn E h h_read h_tape h_far h_from h_real h_other h_kept h_set h_w h_book h_noteSort h_whose h_what h_noteIs h_fitting h_dawn h_likes h_walked h_came h_read_creak h_read_doorA h_read_doorB h_read_how h_read_lies h_read_isCold h_read_falls h_read_isFull h_read_isTold h_read_act h_read_what h_read_then h_read_met h_read_bed h_read_dream h_read_listens h_read_name h_read_nameSort h_read_nameNumber v_thrown v_trouble v_where v_inn v_taped v_size z.1 z.2.1 z.2.2.1 z.2.2.2.1 z.2.2.2.2.1 z.2.2.2.2.2.1 z.2.2.2.2.2.2.1 z.2.2.2.2.2.2.2.1 v_marks v_notes z.2.2.2.2.2.2.2.2.1 z.2.2.2.2.2.2.2.2.2.1 z.2.2.2.2.2.2.2.2.2.2.1 z.2.2.2.2.2.2.2.2.2.2.2.1 z.2.2.2.2.2.2.2.2.2.2.2.2.1 z.2.2.2.2.2.2.2.2.2.2.2.2.2.1 z.2.2.2.2.2.2.2.2.2.2.2.2.2.2.1 z.2.2.2.2.2.2.2.2.2.2.2.2.2.2.2.1 v_tape z.2.2.2.2.2.2.2.2.2.2.2.2.2.2.2.2.1 z.2.2.2.2.2.2.2.2.2.2.2.2.2.2.2.2.2.1 z.2.2.2.2.2.2.2.2.2.2.2.2.2.2.2.2.2.2.1 z.2.2.2.2.2.2.2.2.2.2.2.2.2.2.2.2.2.2.2.1 z.2.2.2.2.2.2.2.2.2.2.2.2.2.2.2.2.2.2.2.2.1 z.2.2.2.2.2.2.2.2.2.2.2.2.2.2.2.2.2.2.2.2.2.1 z.2.2.2.2.2.2.2.2.2.2.2.2.2.2.2.2.2.2.2.2.2.2.1 z.2.2.2.2.2.2.2.2.2.2.2.2.2.2.2.2.2.2.2.2.2.2.2.1 z.2.2.2.2.2.2.2.2.2.2.2.2.2.2.2.2.2.2.2.2.2.2.2.2.1 z.2.2.2.2.2.2.2.2.2.2.2.2.2.2.2.2.2.2.2.2.2.2.2.2.2.1 z.2.2.2.2.2.2.2.2.2.2.2.2.2.2.2.2.2.2.2.2.2.2.2.2.2.2.1 z.2.2.2.2.2.2.2.2.2.2.2.2.2.2.2.2.2.2.2.2.2.2.2.2.2.2.2.1 z.2.2.2.2.2.2.2.2.2.2.2.2.2.2.2.2.2.2.2.2.2.2.2.2.2.2.2.2.1 z.2.2.2.2.2.2.2.2.2.2.2.2.2.2.2.2.2.2.2.2.2.2.2.2.2.2.2.2.2.1 z.2.2.2.2.2.2.2.2.2.2.2.2.2.2.2.2.2.2.2.2.2.2.2.2.2.2.2.2.2.2.1 z.2.2.2.2.2.2.2.2.2.2.2.2.2.2.2.2.2.2.2.2.2.2.2.2.2.2.2.2.2.2.2.1 z.2.2.2.2.2.2.2.2.2.2.2.2.2.2.2.2.2.2.2.2.2.2.2.2.2.2.2.2.2.2.2.2.1 z.2.2.2.2.2.2.2.2.2.2.2.2.2.2.2.2.2.2.2.2.2.2.2.2.2.2.2.2.2.2.2.2.2.1 z.2.2.2.2.2.2.2.2.2.2.2.2.2.2.2.2.2.2.2.2.2.2.2.2.2.2.2.2.2.2.2.2.2.2)) args s 0 0 A := ⟨_, rfl⟩
  rw [← hQ]
  unfold fX12_readInn at hf
  refine lv_iconst (pc := 0) (v := 1) hx hb dX12_readInn_0 (by decide) ?_
  refine lv_istore_n (pc := 1) (lv' := [(1, .int 1), (0, .ref h)]) hx hb dX12_readInn_1 rfl hl (by decide) rfl (fun ls hl => ?_)
  refine lpK hf (fun K20 eK20 hf => ?_)
  have hK20 : ∀ (x20_at : Int32) (x20_sort : Int32) (x20_place : Int32) (x20_sign : Int32) (x20_number : Int32) (x20_fault : Int32) (x20_wrongAt : Int32) (x20_word : Int64) (x20_read_minutes : Int32) (x20_read_rooms : Int32) (x20_read_doors : Int32) (x20_read_things : Int32) (x20_read_dreams : Int32) (x20_read_sleepers : Int32) (x20_read_listeners : Int32) (x20_read_names : Int32) (x20_read_name : Nat → Int64) (x20_read_nameNumber : Nat → Int32) (x20_read_nameSort : Nat → Int32) (x20_read_listens : Nat → Int32) (x20_read_bed : Nat → Int32) (x20_read_dream : Nat → Int32) (x20_read_isTold : Nat → Int32) (x20_read_act : Nat → Int32) (x20_read_what : Nat → Int32) (x20_read_then : Nat → Int32) (x20_read_met : Nat → Int32) (x20_read_lies : Nat → Int32) (x20_read_isFull : Nat → Int32) (x20_read_doorA : Nat → Int32) (x20_read_doorB : Nat → Int32) (x20_read_how : Nat → Int32) (x20_read_falls : Nat → Int32) (x20_read_creak : Nat → Int32) (x20_read_isCold : Nat → Int32) , K20 (x20_at, x20_sort, x20_place, x20_sign, x20_number, x20_fault, x20_wrongAt, x20_word, x20_read_minutes, x20_read_rooms, x20_read_doors, x20_read_things, x20_read_dreams, x20_read_sleepers, x20_read_listeners, x20_read_names, x20_read_name, x20_read_nameNumber, x20_read_nameSort, x20_read_listens, x20_read_bed, x20_read_dream, x20_read_isTold, x20_read_act, x20_read_what, x20_read_then, x20_read_met, x20_read_lies, x20_read_isFull, x20_read_doorA, x20_read_doorB, x20_read_how, x20_read_falls, x20_read_creak, x20_read_isCold) = some z → AT p l e (rmOf 11 241) s m args below meth c E A Q 0 0 2 [(0, .ref h)] (wX12_readInn E h h_read h_tape h_far h_from h_real h_other h_kept h_set h_w h_book h_noteSort h_whose h_what h_noteIs h_fitting h_dawn h_likes h_walked h_came h_read_creak h_read_doorA h_read_doorB h_read_how h_read_lies h_read_isCold h_read_falls h_read_isFull h_read_isTold h_read_act h_read_what h_read_then h_read_met h_read_bed h_read_dream h_read_listens h_read_name h_read_nameSort h_read_nameNumber v_thrown v_trouble v_where v_inn v_taped v_size x20_at x20_sort x20_place x20_sign x20_number x20_fault x20_wrongAt x20_word v_marks v_notes x20_read_minutes x20_read_rooms x20_read_doors x20_read_things x20_read_dreams x20_read_sleepers x20_read_listeners x20_read_names v_tape x20_read_name x20_read_nameNumber x20_read_nameSort x20_read_listens x20_read_bed x20_read_dream x20_read_isTold x20_read_act x20_read_what x20_read_then x20_read_met x20_read_lies x20_read_isFull x20_read_doorA x20_read_doorB x20_read_how x20_read_falls x20_read_creak x20_read_isCold) 20 [] := by
    intro x20_at x20_sort x20_place x20_sign x20_number x20_fault x20_wrongAt x20_word x20_read_minutes x20_read_rooms x20_read_doors x20_read_things x20_read_dreams x20_read_sleepers x20_read_listeners x20_read_names x20_read_name x20_read_nameNumber x20_read_nameSort x20_read_listens x20_read_bed x20_read_dream x20_read_isTold x20_read_act x20_read_what x20_read_then x20_read_met x20_read_lies x20_read_isFull x20_read_doorA x20_read_doorB x20_read_how x20_read_falls x20_read_creak x20_read_isCold hf H locs ls hl hP hD hS
    rw [eK20] at hf
    replace hf := un35_s hf
    refine lv_aload_n (pc := 20) hx hb dX12_readInn_20 rfl (lv_at hl 0 rfl) ?_
    refine r_get (pc := 21) C hP 0 rfl fl_X12_99 rfl dX12_readInn_21 ?_
    refine lv_iconst (pc := 24) (v := 1) hx hb dX12_readInn_24 (by decide) ?_
    refine jnK hf (fun j33 ej33 hf => ?_)
    have hj33 : ∀ (x33_sort : Int32) (x33_fault : Int32) (x33_wrongAt : Int32) , j33 (x33_sort, x33_fault, x33_wrongAt) = some z → AT p l e (rmOf 11 241) s m args below meth c E A Q 0 0 2 [(0, .ref h)] (wX12_readInn E h h_read h_tape h_far h_from h_real h_other h_kept h_set h_w h_book h_noteSort h_whose h_what h_noteIs h_fitting h_dawn h_likes h_walked h_came h_read_creak h_read_doorA h_read_doorB h_read_how h_read_lies h_read_isCold h_read_falls h_read_isFull h_read_isTold h_read_act h_read_what h_read_then h_read_met h_read_bed h_read_dream h_read_listens h_read_name h_read_nameSort h_read_nameNumber v_thrown v_trouble v_where v_inn v_taped v_size x20_at x33_sort x20_place x20_sign x20_number x33_fault x33_wrongAt x20_word v_marks v_notes x20_read_minutes x20_read_rooms x20_read_doors x20_read_things x20_read_dreams x20_read_sleepers x20_read_listeners x20_read_names v_tape x20_read_name x20_read_nameNumber x20_read_nameSort x20_read_listens x20_read_bed x20_read_dream x20_read_isTold x20_read_act x20_read_what x20_read_then x20_read_met x20_read_lies x20_read_isFull x20_read_doorA x20_read_doorB x20_read_how x20_read_falls x20_read_creak x20_read_isCold) 33 [] := by
      intro x33_sort x33_fault x33_wrongAt hf H locs ls hl hP hD hS
      rw [ej33] at hf
      replace hf := un3_s hf
      refine lv_aload_n (pc := 33) hx hb dX12_readInn_33 rfl (lv_at hl 0 rfl) ?_
      refine r_get (pc := 34) C hP 0 rfl fl_X12_202 rfl dX12_readInn_34 ?_
      refine r_get (pc := 37) C hP 1 rfl fl_X12_241 rfl dX12_readInn_37 ?_
      refine jnK hf (fun j63 ej63 hf => ?_)
      have hj63 : j63 () = some z → AT p l e (rmOf 11 241) s m args below meth c E A Q 0 0 2 [(0, .ref h)] (wX12_readInn E h h_read h_tape h_far h_from h_real h_other h_kept h_set h_w h_book h_noteSort h_whose h_what h_noteIs h_fitting h_dawn h_likes h_walked h_came h_read_creak h_read_doorA h_read_doorB h_read_how h_read_lies h_read_isCold h_read_falls h_read_isFull h_read_isTold h_read_act h_read_what h_read_then h_read_met h_read_bed h_read_dream h_read_listens h_read_name h_read_nameSort h_read_nameNumber v_thrown v_trouble v_where v_inn v_taped v_size x20_at x33_sort x20_place x20_sign x20_number x33_fault x33_wrongAt x20_word v_marks v_notes x20_read_minutes x20_read_rooms x20_read_doors x20_read_things x20_read_dreams x20_read_sleepers x20_read_listeners x20_read_names v_tape x20_read_name x20_read_nameNumber x20_read_nameSort x20_read_listens x20_read_bed x20_read_dream x20_read_isTold x20_read_act x20_read_what x20_read_then x20_read_met x20_read_lies x20_read_isFull x20_read_doorA x20_read_doorB x20_read_how x20_read_falls x20_read_creak x20_read_isCold) 63 [] := by
        intro  hf H locs ls hl hP hD hS
        rw [ej63] at hf
        replace hf := un0_s hf
        refine lv_aload_n (pc := 63) hx hb dX12_readInn_63 rfl (lv_at hl 0 rfl) ?_
        refine lv_bipush (pc := 64) (v := 6) hx hb dX12_readInn_64 (by decide) ?_
        obtain ⟨v_sort_66, v_fault_66, v_wrongAt_66, hc_66, hf⟩ := bd3 hf
        refine r_dalVv (pc := 66) (ws' := (wX12_readInn E h h_read h_tape h_far h_from h_real h_other h_kept h_set h_w h_book h_noteSort h_whose h_what h_noteIs h_fitting h_dawn h_likes h_walked h_came h_read_creak h_read_doorA h_read_doorB h_read_how h_read_lies h_read_isCold h_read_falls h_read_isFull h_read_isTold h_read_act h_read_what h_read_then h_read_met h_read_bed h_read_dream h_read_listens h_read_name h_read_nameSort h_read_nameNumber v_thrown v_trouble v_where v_inn v_taped v_size x20_at v_sort_66 x20_place x20_sign x20_number v_fault_66 v_wrongAt_66 x20_word v_marks v_notes x20_read_minutes x20_read_rooms x20_read_doors x20_read_things x20_read_dreams x20_read_sleepers x20_read_listeners x20_read_names v_tape x20_read_name x20_read_nameNumber x20_read_nameSort x20_read_listens x20_read_bed x20_read_dream x20_read_isTold x20_read_act x20_read_what x20_read_then x20_read_met x20_read_lies x20_read_isFull x20_read_doorA x20_read_doorB x20_read_how x20_read_falls x20_read_creak x20_read_isCold)) (As := [.int 6]) (rest := []) C (ctX12_wrong l E h h_tape h_far h_from h_real h_other h_kept h_set h_w h_book h_noteSort h_whose h_what h_noteIs h_fitting h_dawn h_likes h_walked h_came v_thrown v_trouble v_where v_inn (some h_read) v_taped v_size x20_at x33_sort x20_place x20_sign x20_number x33_fault x33_wrongAt x20_word v_marks v_notes N 6 (v_sort_66, v_fault_66, v_wrongAt_66) hc_66) ml_X12_145 ⟨Nat.le_of_ble_eq_true rfl, Nat.le_of_ble_eq_true rfl⟩ hP hD hS 0 rfl rfl rfl [0] [22, 1, 2, 3, 4, 5, 6, 7, 8, 9, 10, 11, 12, 13, 14, 15, 16, 17, 18, 19, 20, 21] 22 rfl rfl rfl rfl rfl rfl rfl hl.1 rfl (Nat.le_of_ble_eq_true rfl) ⟨Nat.zero_le _, Nat.zero_le _⟩ dX12_readInn_66 ?_
        clear hP hD hS; intro H locs hP hD hS
        cases hf
        rw [hQ]
        exact r_vret C hr hP hD hS dX12_readInn_69
      clear ej63
      refine lv_if_eq (pc := 40) (tgt := 63) hx hb dX12_readInn_40 (by decide) (fun c_40 => ?_) (fun c_40 => ?_)
      · replace hf := it_t c_40 hf
        exact hj63  hf _ _ _ (lv_sub hl [0] rfl) hP hD hS
      · replace hf := it_f c_40 hf
        refine lv_aload_n (pc := 43) hx hb dX12_readInn_43 rfl (lv_at hl 0 rfl) ?_
        refine r_get (pc := 44) C hP 0 rfl fl_X12_202 rfl dX12_readInn_44 ?_
        refine r_get (pc := 47) C hP 1 rfl fl_X12_244 rfl dX12_readInn_47 ?_
        refine lv_if_eq (pc := 50) (tgt := 63) hx hb dX12_readInn_50 (by decide) (fun c_50 => ?_) (fun c_50 => ?_)
        · replace hf := it_t c_50 hf
          exact hj63  hf _ _ _ (lv_sub hl [0] rfl) hP hD hS
        · replace hf := it_f c_50 hf
          refine lv_aload_n (pc := 53) hx hb dX12_readInn_53 rfl (lv_at hl 0 rfl) ?_
          refine r_get (pc := 54) C hP 0 rfl fl_X12_202 rfl dX12_readInn_54 ?_
          refine r_get (pc := 57) C hP 1 rfl fl_X12_247 rfl dX12_readInn_57 ?_
          refine lv_if_ne (pc := 60) (tgt := 69) hx hb dX12_readInn_60 (by decide) (fun c_60 => ?_) (fun c_60 => ?_)
          · replace hf := it_f c_60 hf
            cases hf
            rw [hQ]
            exact r_vret C hr hP hD hS dX12_readInn_69
          · replace hf := it_t c_60 hf
            exact hj63  hf _ _ _ (lv_sub hl [0] rfl) hP hD hS
    clear ej33
    refine lv_icmp_eq (pc := 25) (tgt := 33) hx hb dX12_readInn_25 (by decide) (fun c_25 => ?_) (fun c_25 => ?_)
    · replace hf := it_t c_25 hf
      exact hj33 x20_sort x20_fault x20_wrongAt hf _ _ _ (lv_sub hl [0] rfl) hP hD hS
    · replace hf := it_f c_25 hf
      refine lv_aload_n (pc := 28) hx hb dX12_readInn_28 rfl (lv_at hl 0 rfl) ?_
      refine lv_iconst (pc := 29) (v := 1) hx hb dX12_readInn_29 (by decide) ?_
      obtain ⟨v_sort_30, v_fault_30, v_wrongAt_30, hc_30, hf⟩ := bd3 hf
      refine r_dalVv (pc := 30) (ws' := (wX12_readInn E h h_read h_tape h_far h_from h_real h_other h_kept h_set h_w h_book h_noteSort h_whose h_what h_noteIs h_fitting h_dawn h_likes h_walked h_came h_read_creak h_read_doorA h_read_doorB h_read_how h_read_lies h_read_isCold h_read_falls h_read_isFull h_read_isTold h_read_act h_read_what h_read_then h_read_met h_read_bed h_read_dream h_read_listens h_read_name h_read_nameSort h_read_nameNumber v_thrown v_trouble v_where v_inn v_taped v_size x20_at v_sort_30 x20_place x20_sign x20_number v_fault_30 v_wrongAt_30 x20_word v_marks v_notes x20_read_minutes x20_read_rooms x20_read_doors x20_read_things x20_read_dreams x20_read_sleepers x20_read_listeners x20_read_names v_tape x20_read_name x20_read_nameNumber x20_read_nameSort x20_read_listens x20_read_bed x20_read_dream x20_read_isTold x20_read_act x20_read_what x20_read_then x20_read_met x20_read_lies x20_read_isFull x20_read_doorA x20_read_doorB x20_read_how x20_read_falls x20_read_creak x20_read_isCold)) (As := [.int 1]) (rest := []) C (ctX12_wrong l E h h_tape h_far h_from h_real h_other h_kept h_set h_w h_book h_noteSort h_whose h_what h_noteIs h_fitting h_dawn h_likes h_walked h_came v_thrown v_trouble v_where v_inn (some h_read) v_taped v_size x20_at x20_sort x20_place x20_sign x20_number x20_fault x20_wrongAt x20_word v_marks v_notes N 1 (v_sort_30, v_fault_30, v_wrongAt_30) hc_30) ml_X12_145 ⟨Nat.le_of_ble_eq_true rfl, Nat.le_of_ble_eq_true rfl⟩ hP hD hS 0 rfl rfl rfl [0] [22, 1, 2, 3, 4, 5, 6, 7, 8, 9, 10, 11, 12, 13, 14, 15, 16, 17, 18, 19, 20, 21] 22 rfl rfl rfl rfl rfl rfl rfl hl.1 rfl (Nat.le_of_ble_eq_true rfl) ⟨Nat.zero_le _, Nat.zero_le _⟩ dX12_readInn_30 ?_
      clear hP hD hS; intro H locs hP hD hS
      exact hj33 v_sort_30 v_fault_30 v_wrongAt_30 hf _ _ _ (lv_sub hl [0] rfl) hP hD hS
  clear eK20
  have key2 : ∀ (n : Nat) (x2_1 : Int32) (x2_at : Int32) (x2_sort : Int32) (x2_place : Int32) (x2_sign : Int32) (x2_number : Int32) (x2_fault : Int32) (x2_wrongAt : Int32) (x2_word : Int64) (x2_read_minutes : Int32) (x2_read_rooms : Int32) (x2_read_doors : Int32) (x2_read_things : Int32) (x2_read_dreams : Int32) (x2_read_sleepers : Int32) (x2_read_listeners : Int32) (x2_read_names : Int32) (x2_read_name : Nat → Int64) (x2_read_nameNumber : Nat → Int32) (x2_read_nameSort : Nat → Int32) (x2_read_listens : Nat → Int32) (x2_read_bed : Nat → Int32) (x2_read_dream : Nat → Int32) (x2_read_isTold : Nat → Int32) (x2_read_act : Nat → Int32) (x2_read_what : Nat → Int32) (x2_read_then : Nat → Int32) (x2_read_met : Nat → Int32) (x2_read_lies : Nat → Int32) (x2_read_isFull : Nat → Int32) (x2_read_doorA : Nat → Int32) (x2_read_doorB : Nat → Int32) (x2_read_how : Nat → Int32) (x2_read_falls : Nat → Int32) (x2_read_creak : Nat → Int32) (x2_read_isCold : Nat → Int32) , lp (BX12_readInn_2 N v_size v_tape K20) n (x2_1, x2_at, x2_sort, x2_place, x2_sign, x2_number, x2_fault, x2_wrongAt, x2_word, x2_read_minutes, x2_read_rooms, x2_read_doors, x2_read_things, x2_read_dreams, x2_read_sleepers, x2_read_listeners, x2_read_names, x2_read_name, x2_read_nameNumber, x2_read_nameSort, x2_read_listens, x2_read_bed, x2_read_dream, x2_read_isTold, x2_read_act, x2_read_what, x2_read_then, x2_read_met, x2_read_lies, x2_read_isFull, x2_read_doorA, x2_read_doorB, x2_read_how, x2_read_falls, x2_read_creak, x2_read_isCold) = some z → AT p l e (rmOf 11 241) s m args below meth c E A Q 0 0 2 [(0, .ref h), (1, .int x2_1)] (wX12_readInn E h h_read h_tape h_far h_from h_real h_other h_kept h_set h_w h_book h_noteSort h_whose h_what h_noteIs h_fitting h_dawn h_likes h_walked h_came h_read_creak h_read_doorA h_read_doorB h_read_how h_read_lies h_read_isCold h_read_falls h_read_isFull h_read_isTold h_read_act h_read_what h_read_then h_read_met h_read_bed h_read_dream h_read_listens h_read_name h_read_nameSort h_read_nameNumber v_thrown v_trouble v_where v_inn v_taped v_size x2_at x2_sort x2_place x2_sign x2_number x2_fault x2_wrongAt x2_word v_marks v_notes x2_read_minutes x2_read_rooms x2_read_doors x2_read_things x2_read_dreams x2_read_sleepers x2_read_listeners x2_read_names v_tape x2_read_name x2_read_nameNumber x2_read_nameSort x2_read_listens x2_read_bed x2_read_dream x2_read_isTold x2_read_act x2_read_what x2_read_then x2_read_met x2_read_lies x2_read_isFull x2_read_doorA x2_read_doorB x2_read_how x2_read_falls x2_read_creak x2_read_isCold) 2 [] := by
    intro n
    induction n with
    | zero => intro x2_1 x2_at x2_sort x2_place x2_sign x2_number x2_fault x2_wrongAt x2_word x2_read_minutes x2_read_rooms x2_read_doors x2_read_things x2_read_dreams x2_read_sleepers x2_read_listeners x2_read_names x2_read_name x2_read_nameNumber x2_read_nameSort x2_read_listens x2_read_bed x2_read_dream x2_read_isTold x2_read_act x2_read_what x2_read_then x2_read_met x2_read_lies x2_read_isFull x2_read_doorA x2_read_doorB x2_read_how x2_read_falls x2_read_creak x2_read_isCold hf; exact (lp_0 hf).elim
    | succ n ih2 =>
      intro x2_1 x2_at x2_sort x2_place x2_sign x2_number x2_fault x2_wrongAt x2_word x2_read_minutes x2_read_rooms x2_read_doors x2_read_things x2_read_dreams x2_read_sleepers x2_read_listeners x2_read_names x2_read_name x2_read_nameNumber x2_read_nameSort x2_read_listens x2_read_bed x2_read_dream x2_read_isTold x2_read_act x2_read_what x2_read_then x2_read_met x2_read_lies x2_read_isFull x2_read_doorA x2_read_doorB x2_read_how x2_read_falls x2_read_creak x2_read_isCold hf H locs ls hl hP hD hS
      replace hf := lp_s hf
      generalize lp (BX12_readInn_2 N v_size v_tape K20) n = rec2 at ih2 hf
      unfold BX12_readInn_2 at hf
      replace hf := un36_s hf
      refine lv_iload_n (pc := 2) hx hb dX12_readInn_2 rfl (lv_at hl 1 rfl) ?_
      refine lv_if_eq (pc := 3) (tgt := 20) hx hb dX12_readInn_3 (by decide) (fun c_3 => ?_) (fun c_3 => ?_)
      · replace hf := it_t c_3 hf
        exact hK20 x2_at x2_sort x2_place x2_sign x2_number x2_fault x2_wrongAt x2_word x2_read_minutes x2_read_rooms x2_read_doors x2_read_things x2_read_dreams x2_read_sleepers x2_read_listeners x2_read_names x2_read_name x2_read_nameNumber x2_read_nameSort x2_read_listens x2_read_bed x2_read_dream x2_read_isTold x2_read_act x2_read_what x2_read_then x2_read_met x2_read_lies x2_read_isFull x2_read_doorA x2_read_doorB x2_read_how x2_read_falls x2_read_creak x2_read_isCold hf _ _ _ (lv_sub hl [0] rfl) hP hD hS
      · replace hf := it_f c_3 hf
        refine lv_aload_n (pc := 6) hx hb dX12_readInn_6 rfl (lv_at hl 0 rfl) ?_
        obtain ⟨v_at_7, v_sort_7, v_place_7, v_sign_7, v_number_7, v_fault_7, v_wrongAt_7, v_word_7, v_read_minutes_7, v_read_rooms_7, v_read_doors_7, v_read_things_7, v_read_dreams_7, v_read_sleepers_7, v_read_listeners_7, v_read_names_7, v_read_name_7, v_read_nameNumber_7, v_read_nameSort_7, v_read_listens_7, v_read_bed_7, v_read_dream_7, v_read_isTold_7, v_read_act_7, v_read_what_7, v_read_then_7, v_read_met_7, v_read_lies_7, v_read_isFull_7, v_read_doorA_7, v_read_doorB_7, v_read_how_7, v_read_falls_7, v_read_creak_7, v_read_isCold_7, hc_7, hf⟩ := bd35 hf
        refine r_dalVv (pc := 7) (ws' := (wX12_readInn E h h_read h_tape h_far h_from h_real h_other h_kept h_set h_w h_book h_noteSort h_whose h_what h_noteIs h_fitting h_dawn h_likes h_walked h_came h_read_creak h_read_doorA h_read_doorB h_read_how h_read_lies h_read_isCold h_read_falls h_read_isFull h_read_isTold h_read_act h_read_what h_read_then h_read_met h_read_bed h_read_dream h_read_listens h_read_name h_read_nameSort h_read_nameNumber v_thrown v_trouble v_where v_inn v_taped v_size v_at_7 v_sort_7 v_place_7 v_sign_7 v_number_7 v_fault_7 v_wrongAt_7 v_word_7 v_marks v_notes v_read_minutes_7 v_read_rooms_7 v_read_doors_7 v_read_things_7 v_read_dreams_7 v_read_sleepers_7 v_read_listeners_7 v_read_names_7 v_tape v_read_name_7 v_read_nameNumber_7 v_read_nameSort_7 v_read_listens_7 v_read_bed_7 v_read_dream_7 v_read_isTold_7 v_read_act_7 v_read_what_7 v_read_then_7 v_read_met_7 v_read_lies_7 v_read_isFull_7 v_read_doorA_7 v_read_doorB_7 v_read_how_7 v_read_falls_7 v_read_creak_7 v_read_isCold_7)) (As := []) (rest := []) C (ctX12_readLine l E h h_read h_tape h_far h_from h_real h_other h_kept h_set h_w h_book h_noteSort h_whose h_what h_noteIs h_fitting h_dawn h_likes h_walked h_came h_read_creak h_read_doorA h_read_doorB h_read_how h_read_lies h_read_isCold h_read_falls h_read_isFull h_read_isTold h_read_act h_read_what h_read_then h_read_met h_read_bed h_read_dream h_read_listens h_read_name h_read_nameSort h_read_nameNumber v_thrown v_trouble v_where v_inn v_taped v_size x2_at x2_sort x2_place x2_sign x2_number x2_fault x2_wrongAt x2_word v_marks v_notes x2_read_minutes x2_read_rooms x2_read_doors x2_read_things x2_read_dreams x2_read_sleepers x2_read_listeners x2_read_names v_tape x2_read_name x2_read_nameNumber x2_read_nameSort x2_read_listens x2_read_bed x2_read_dream x2_read_isTold x2_read_act x2_read_what x2_read_then x2_read_met x2_read_lies x2_read_isFull x2_read_doorA x2_read_doorB x2_read_how x2_read_falls x2_read_creak x2_read_isCold N (v_at_7, v_sort_7, v_place_7, v_sign_7, v_number_7, v_fault_7, v_wrongAt_7, v_word_7, v_read_minutes_7, v_read_rooms_7, v_read_doors_7, v_read_things_7, v_read_dreams_7, v_read_sleepers_7, v_read_listeners_7, v_read_names_7, v_read_name_7, v_read_nameNumber_7, v_read_nameSort_7, v_read_listens_7, v_read_bed_7, v_read_dream_7, v_read_isTold_7, v_read_act_7, v_read_what_7, v_read_then_7, v_read_met_7, v_read_lies_7, v_read_isFull_7, v_read_doorA_7, v_read_doorB_7, v_read_how_7, v_read_falls_7, v_read_creak_7, v_read_isCold_7) hc_7) ml_X12_235 ⟨Nat.le_of_ble_eq_true rfl, Nat.le_of_ble_eq_true rfl⟩ hP hD hS 0 rfl rfl rfl [0, 1, 2, 3, 4, 5, 6, 7, 8, 9, 10, 11, 12, 13, 14, 15, 16, 17, 18, 19, 20, 21] [22, 23, 24, 25, 26, 27, 28, 29, 30, 31, 32, 33, 34, 35, 36, 37, 38, 39, 40, 41, 42, 43] 22 rfl rfl rfl rfl rfl rfl rfl hl.1 rfl (Nat.le_of_ble_eq_true rfl) ⟨Nat.zero_le _, Nat.zero_le _⟩ dX12_readInn_7 ?_
        clear hP hD hS; intro H locs hP hD hS
        refine lv_aload_n (pc := 10) hx hb dX12_readInn_10 rfl (lv_at hl 0 rfl) ?_
        refine lv_bipush (pc := 11) (v := 59) hx hb dX12_readInn_11 (by decide) ?_
        obtain ⟨r_13, v_at_13, v_sort_13, v_place_13, v_sign_13, v_number_13, v_word_13, hc_13, hf⟩ := bd7 hf
        refine r_dalVi (pc := 13) (ws' := (wX12_readInn E h h_read h_tape h_far h_from h_real h_other h_kept h_set h_w h_book h_noteSort h_whose h_what h_noteIs h_fitting h_dawn h_likes h_walked h_came h_read_creak h_read_doorA h_read_doorB h_read_how h_read_lies h_read_isCold h_read_falls h_read_isFull h_read_isTold h_read_act h_read_what h_read_then h_read_met h_read_bed h_read_dream h_read_listens h_read_name h_read_nameSort h_read_nameNumber v_thrown v_trouble v_where v_inn v_taped v_size v_at_13 v_sort_13 v_place_13 v_sign_13 v_number_13 v_fault_7 v_wrongAt_7 v_word_13 v_marks v_notes v_read_minutes_7 v_read_rooms_7 v_read_doors_7 v_read_things_7 v_read_dreams_7 v_read_sleepers_7 v_read_listeners_7 v_read_names_7 v_tape v_read_name_7 v_read_nameNumber_7 v_read_nameSort_7 v_read_listens_7 v_read_bed_7 v_read_dream_7 v_read_isTold_7 v_read_act_7 v_read_what_7 v_read_then_7 v_read_met_7 v_read_lies_7 v_read_isFull_7 v_read_doorA_7 v_read_doorB_7 v_read_how_7 v_read_falls_7 v_read_creak_7 v_read_isCold_7)) (As := [.int 59]) (rest := []) C (ctX12_eatsSign l E h h_tape h_far h_from h_real h_other h_kept h_set h_w h_book h_noteSort h_whose h_what h_noteIs h_fitting h_dawn h_likes h_walked h_came v_thrown v_trouble v_where v_inn (some h_read) v_taped v_size v_at_7 v_sort_7 v_place_7 v_sign_7 v_number_7 v_fault_7 v_wrongAt_7 v_word_7 v_marks v_notes v_tape N 59 (r_13, v_at_13, v_sort_13, v_place_13, v_sign_13, v_number_13, v_word_13) hc_13) ml_X12_238 ⟨Nat.le_of_ble_eq_true rfl, Nat.le_of_ble_eq_true rfl⟩ hP hD hS 0 rfl rfl rfl [0, 2] [22, 1, 23, 3, 4, 5, 6, 7, 8, 9, 10, 11, 12, 13, 14, 15, 16, 17, 18, 19, 20, 21] 22 rfl rfl rfl rfl rfl rfl rfl hl.1 rfl (Nat.le_of_ble_eq_true rfl) ⟨Nat.zero_le _, Nat.zero_le _⟩ dX12_readInn_13 ?_
        clear hP hD hS; intro H locs hP hD hS
        refine lv_istore_n (pc := 16) (lv' := [(1, .int r_13), (0, .ref h)]) hx hb dX12_readInn_16 rfl hl (by decide) rfl (fun ls hl => ?_)
        refine lv_goto (pc := 17) (tgt := 2) hx hb dX12_readInn_17 (by decide) ?_
        exact ih2 r_13 v_at_13 v_sort_13 v_place_13 v_sign_13 v_number_13 v_fault_7 v_wrongAt_7 v_word_13 v_read_minutes_7 v_read_rooms_7 v_read_doors_7 v_read_things_7 v_read_dreams_7 v_read_sleepers_7 v_read_listeners_7 v_read_names_7 v_read_name_7 v_read_nameNumber_7 v_read_nameSort_7 v_read_listens_7 v_read_bed_7 v_read_dream_7 v_read_isTold_7 v_read_act_7 v_read_what_7 v_read_then_7 v_read_met_7 v_read_lies_7 v_read_isFull_7 v_read_doorA_7 v_read_doorB_7 v_read_how_7 v_read_falls_7 v_read_creak_7 v_read_isCold_7 hf _ _ _ (lv_sub hl [1, 0] rfl) hP hD hS
  exact key2 _ 1 v_at v_sort v_place v_sign v_number v_fault v_wrongAt v_word v_read_minutes v_read_rooms v_read_doors v_read_things v_read_dreams v_read_sleepers v_read_listeners v_read_names v_read_name v_read_nameNumber v_read_nameSort v_read_listens v_read_bed v_read_dream v_read_isTold v_read_act v_read_what v_read_then v_read_met v_read_lies v_read_isFull v_read_doorA v_read_doorB v_read_how v_read_falls v_read_creak v_read_isCold hf _ _ _ (lv_sub hl [1, 0] rfl) hP hD hS
def wX12_feed (E : EN) (h h_tape h_far h_from h_real h_other h_kept h_set h_w h_book h_noteSort h_whose h_what h_noteIs h_fitting h_dawn h_likes h_walked h_came : Nat) (v_thrown : Int32) (v_trouble : Int32) (v_where : Int32) (v_inn : Option Nat) (v_read : Option Nat) (v_taped : Int32) (v_size : Int32) (v_at : Int32) (v_sort : Int32) (v_place : Int32) (v_sign : Int32) (v_number : Int32) (v_fault : Int32) (v_wrongAt : Int32) (v_word : Int64) (v_marks : Int32) (v_notes : Int32) (v_tape : Nat → Int32) : va_W := [(h, .inr (11, [.int v_thrown, .int v_trouble, .int v_where, va_rf v_inn, va_rf v_read, .ref h_tape, .int v_taped, .int v_size, .int v_at, .int v_sort, .int v_place, .int v_sign, .int v_number, .int v_fault, .int v_wrongAt, .long v_word, .ref h_far, .ref h_from, .ref h_real, .ref h_other, .ref h_kept, .ref h_set, .ref h_w, .int v_marks, .int v_notes, .ref h_book, .ref h_noteSort, .ref h_whose, .ref h_what, .ref h_noteIs, .ref h_fitting, .ref h_dawn, .ref h_likes, .ref h_walked, .ref h_came])), (h_tape, aB E 900 v_tape)]
def BX12_feed_23 (p4 : Int32) (p3 : Int32) (p2 : Int32) (p1 : Int32) (p0 : Int32) (rec23 : (Int32 × Int32 × (Nat → Int32)) → Option (Int32 × Int32 × Int32 × (Nat → Int32))) : (Int32 × Int32 × (Nat → Int32)) → Option (Int32 × Int32 × Int32 × (Nat → Int32)) := un3 fun (x23_6 : Int32) (x23_taped : Int32) (x23_tape : Nat → Int32) => if 20 ≤ x23_6 then (some (x23_taped, 0, x23_taped, x23_tape)) else (jn (un1 fun (x76_s0 : Int32) => gd x23_taped 900 (rec23 (x23_6 + 1, x23_taped + 1, upd x23_tape x23_taped.toNatClampNeg (vp_nar .byte ((x76_s0 >>> ((24 - (8 * (x23_6 - x23_6 / 4 * 4))) &&& 31)).toInt8.toInt32))))) (fun j76 => if 4 ≤ x23_6 then (if 8 ≤ x23_6 then (if 12 ≤ x23_6 then (if 16 ≤ x23_6 then (j76 p4) else (j76 p3)) else (j76 p2)) else (j76 p1)) else (j76 p0)))
def fX12_feed (N : Nat) (p0 : Int32) (p1 : Int32) (p2 : Int32) (p3 : Int32) (p4 : Int32) (v_taped : Int32) (v_tape : Nat → Int32) : Option (Int32 × Int32 × Int32 × (Nat → Int32)) := if (v_taped + 20) ≤ 900 then (lp (BX12_feed_23 p4 p3 p2 p1 p0) N (0, v_taped, v_tape)) else (some ((-1), 0, v_taped, v_tape))
set_option maxHeartbeats 4000000 in
set_option maxRecDepth 100000 in
theorem ctX12_feed (l : Launch) (E : EN) (h h_tape h_far h_from h_real h_other h_kept h_set h_w h_book h_noteSort h_whose h_what h_noteIs h_fitting h_dawn h_likes h_walked h_came : Nat) (v_thrown : Int32) (v_trouble : Int32) (v_where : Int32) (v_inn : Option Nat) (v_read : Option Nat) (v_taped : Int32) (v_size : Int32) (v_at : Int32) (v_sort : Int32) (v_place : Int32) (v_sign : Int32) (v_number : Int32) (v_fault : Int32) (v_wrongAt : Int32) (v_word : Int64) (v_marks : Int32) (v_notes : Int32) (v_tape : Nat → Int32) (N : Nat) (p0 : Int32) (p1 : Int32) (p2 : Int32) (p3 : Int32) (p4 : Int32) (z : Int32 × Int32 × Int32 × (Nat → Int32)) (hf : fX12_feed N p0 p1 p2 p3 p4 v_taped v_tape = some z) : CTi l E yX12_feed cX12_feed 8 .int 0 0 [.ref h, .int p0, .int p1, .int p2, .int p3, .int p4] (wX12_feed E h h_tape h_far h_from h_real h_other h_kept h_set h_w h_book h_noteSort h_whose h_what h_noteIs h_fitting h_dawn h_likes h_walked h_came v_thrown v_trouble v_where v_inn v_read v_taped v_size v_at v_sort v_place v_sign v_number v_fault v_wrongAt v_word v_marks v_notes v_tape) (z.1) (wX12_feed E h h_tape h_far h_from h_real h_other h_kept h_set h_w h_book h_noteSort h_whose h_what h_noteIs h_fitting h_dawn h_likes h_walked h_came z.2.1 v_trouble v_where v_inn v_read z.2.2.1 v_size v_at v_sort v_place v_sign v_number v_fault v_wrongAt v_word v_marks v_notes z.2.2.2) := by
  intro sz
  refine ct_body (by decide) (Nat.le_of_ble_eq_true rfl) ?_
  intro p e s m args below meth c A ls hAe C hr hin hP hD hS hl
  have C : CX p s m args meth c cX12_feed RX12 8 E A := C
  have hl : lv_has ls 8 [(0, .ref h), (1, .int p0), (2, .int p1), (3, .int p2), (4, .int p3), (5, .int p4)] := hl
  have hx := C.1
  have hb := C.2.1
  rw [hAe]
  clear hAe
  obtain ⟨Q, hQ⟩ : ∃ Q, Q = MQ below (Qi E A (z.1) (wX12_feed E h h_tape h_far h_from h_real h_other h_kept h_set h_w h_book h_noteSort h_whose h_what h_noteIs h_fitting h_dawn h_likes h_walked h_came z.2.1 v_trouble v_where v_inn v_read z.2.2.1 v_size v_at v_sort v_place v_sign v_number v_fault v_wrongAt v_word v_marks v_notes z.2.2.2)) args s 0 0 A := ⟨_, rfl⟩
  rw [← hQ]
  unfold fX12_feed at hf
  refine lv_aload_n (pc := 0) hx hb dX12_feed_0 rfl (lv_at hl 0 rfl) ?_
  refine lv_iconst (pc := 1) (v := 0) hx hb dX12_feed_1 (by decide) ?_
  refine r_put (pc := 2) (ws' := (wX12_feed E h h_tape h_far h_from h_real h_other h_kept h_set h_w h_book h_noteSort h_whose h_what h_noteIs h_fitting h_dawn h_likes h_walked h_came 0 v_trouble v_where v_inn v_read v_taped v_size v_at v_sort v_place v_sign v_number v_fault v_wrongAt v_word v_marks v_notes v_tape)) C hP hD hS 0 rfl fl_X12_71 rfl rfl (Nat.le_of_ble_eq_true rfl) rfl dX12_feed_2 ?_
  clear hP hD hS; intro H locs hP hD hS
  refine lv_aload_n (pc := 5) hx hb dX12_feed_5 rfl (lv_at hl 0 rfl) ?_
  refine r_get (pc := 6) C hP 0 rfl fl_X12_351 rfl dX12_feed_6 ?_
  refine lv_bipush (pc := 9) (v := 20) hx hb dX12_feed_9 (by decide) ?_
  refine lv_iadd (pc := 11) hx hb dX12_feed_11 ?_
  refine lv_sipush (pc := 12) (v := 900) hx hb dX12_feed_12 (by decide) ?_
  refine lv_icmp_le (pc := 15) (tgt := 20) hx hb dX12_feed_15 (by decide) (fun c_15 => ?_) (fun c_15 => ?_)
  · replace hf := it_t c_15 hf
    refine lv_iconst (pc := 20) (v := 0) hx hb dX12_feed_20 (by decide) ?_
    refine lv_istore (pc := 21) (lv' := [(6, .int 0), (0, .ref h), (1, .int p0), (2, .int p1), (3, .int p2), (4, .int p3), (5, .int p4)]) hx hb dX12_feed_21 hl (by decide) rfl (fun ls hl => ?_)
    have key23 : ∀ (n : Nat) (x23_6 : Int32) (x23_taped : Int32) (x23_tape : Nat → Int32) , lp (BX12_feed_23 p4 p3 p2 p1 p0) n (x23_6, x23_taped, x23_tape) = some z → AT p l e (rmOf 0 0) s m args below meth c E A Q 0 0 8 [(0, .ref h), (1, .int p0), (2, .int p1), (3, .int p2), (4, .int p3), (5, .int p4), (6, .int x23_6)] (wX12_feed E h h_tape h_far h_from h_real h_other h_kept h_set h_w h_book h_noteSort h_whose h_what h_noteIs h_fitting h_dawn h_likes h_walked h_came 0 v_trouble v_where v_inn v_read x23_taped v_size v_at v_sort v_place v_sign v_number v_fault v_wrongAt v_word v_marks v_notes x23_tape) 23 [] := by
      intro n
      induction n with
      | zero => intro x23_6 x23_taped x23_tape hf; exact (lp_0 hf).elim
      | succ n ih23 =>
        intro x23_6 x23_taped x23_tape hf H locs ls hl hP hD hS
        replace hf := lp_s hf
        generalize lp (BX12_feed_23 p4 p3 p2 p1 p0) n = rec23 at ih23 hf
        unfold BX12_feed_23 at hf
        replace hf := un3_s hf
        refine lv_iload (pc := 23) hx hb dX12_feed_23 (lv_at hl 6 rfl) ?_
        refine lv_bipush (pc := 25) (v := 20) hx hb dX12_feed_25 (by decide) ?_
        refine lv_icmp_ge (pc := 27) (tgt := 117) hx hb dX12_feed_27 (by decide) (fun c_27 => ?_) (fun c_27 => ?_)
        · replace hf := it_t c_27 hf
          refine lv_aload_n (pc := 117) hx hb dX12_feed_117 rfl (lv_at hl 0 rfl) ?_
          refine r_get (pc := 118) C hP 0 rfl fl_X12_351 rfl dX12_feed_118 ?_
          cases hf
          rw [hQ]
          exact r_iret C hr hP hD hS rfl dX12_feed_121
        · replace hf := it_f c_27 hf
          refine lv_iload (pc := 30) hx hb dX12_feed_30 (lv_at hl 6 rfl) ?_
          refine lv_iconst (pc := 32) (v := 4) hx hb dX12_feed_32 (by decide) ?_
          refine jnK hf (fun j76 ej76 hf => ?_)
          have hj76 : ∀ (x76_s0 : Int32) , j76 x76_s0 = some z → AT p l e (rmOf 0 0) s m args below meth c E A Q 0 0 8 [(0, .ref h), (1, .int p0), (2, .int p1), (3, .int p2), (4, .int p3), (5, .int p4), (6, .int x23_6)] (wX12_feed E h h_tape h_far h_from h_real h_other h_kept h_set h_w h_book h_noteSort h_whose h_what h_noteIs h_fitting h_dawn h_likes h_walked h_came 0 v_trouble v_where v_inn v_read x23_taped v_size v_at v_sort v_place v_sign v_number v_fault v_wrongAt v_word v_marks v_notes x23_tape) 76 [.int x76_s0] := by
            intro x76_s0 hf H locs ls hl hP hD hS
            rw [ej76] at hf
            replace hf := un1_s hf
            refine lv_istore (pc := 76) (lv' := [(7, .int x76_s0), (0, .ref h), (1, .int p0), (2, .int p1), (3, .int p2), (4, .int p3), (5, .int p4), (6, .int x23_6)]) hx hb dX12_feed_76 hl (by decide) rfl (fun ls hl => ?_)
            refine lv_aload_n (pc := 78) hx hb dX12_feed_78 rfl (lv_at hl 1 rfl) ?_
            refine r_get (pc := 79) C hP 0 rfl fl_X12_13 rfl dX12_feed_79 ?_
            refine lv_aload_n (pc := 82) hx hb dX12_feed_82 rfl (lv_at hl 1 rfl) ?_
            refine r_get (pc := 83) C hP 0 rfl fl_X12_351 rfl dX12_feed_83 ?_
            refine lv_iload (pc := 86) hx hb dX12_feed_86 (lv_at hl 0 rfl) ?_
            refine lv_bipush (pc := 88) (v := 24) hx hb dX12_feed_88 (by decide) ?_
            refine lv_bipush (pc := 90) (v := 8) hx hb dX12_feed_90 (by decide) ?_
            refine lv_iload (pc := 92) hx hb dX12_feed_92 (lv_at hl 7 rfl) ?_
            refine lv_iconst (pc := 94) (v := 4) hx hb dX12_feed_94 (by decide) ?_
            refine lv_irem (pc := 95) hx hb dX12_feed_95 (by decide) ?_
            refine lv_imul (pc := 96) hx hb dX12_feed_96 ?_
            refine lv_isub (pc := 97) hx hb dX12_feed_97 ?_
            refine lv_ishr (pc := 98) hx hb dX12_feed_98 ?_
            refine lv_i2b (pc := 99) (v := (x76_s0 >>> ((24 - (8 * (x23_6 - x23_6 / 4 * 4))) &&& 31)).toInt8.toInt32) hx hb dX12_feed_99 rfl ?_
            obtain ⟨hi_100, hf⟩ := gd_s hf
            refine r_bast (pc := 100) (ws' := (wX12_feed E h h_tape h_far h_from h_real h_other h_kept h_set h_w h_book h_noteSort h_whose h_what h_noteIs h_fitting h_dawn h_likes h_walked h_came 0 v_trouble v_where v_inn v_read x23_taped v_size v_at v_sort v_place v_sign v_number v_fault v_wrongAt v_word v_marks v_notes (upd x23_tape x23_taped.toNatClampNeg (vp_nar .byte ((x76_s0 >>> ((24 - (8 * (x23_6 - x23_6 / 4 * 4))) &&& 31)).toInt8.toInt32))))) C hP hD hS 1 rfl hi_100 rfl dX12_feed_100 ?_
            clear hP hD hS; intro H locs hP hD hS
            refine lv_aload_n (pc := 101) hx hb dX12_feed_101 rfl (lv_at hl 1 rfl) ?_
            refine lv_dup (pc := 102) hx hb dX12_feed_102 rfl ?_
            refine r_get (pc := 103) C hP 0 rfl fl_X12_351 rfl dX12_feed_103 ?_
            refine lv_iconst (pc := 106) (v := 1) hx hb dX12_feed_106 (by decide) ?_
            refine lv_iadd (pc := 107) hx hb dX12_feed_107 ?_
            refine r_put (pc := 108) (ws' := (wX12_feed E h h_tape h_far h_from h_real h_other h_kept h_set h_w h_book h_noteSort h_whose h_what h_noteIs h_fitting h_dawn h_likes h_walked h_came 0 v_trouble v_where v_inn v_read (x23_taped + 1) v_size v_at v_sort v_place v_sign v_number v_fault v_wrongAt v_word v_marks v_notes (upd x23_tape x23_taped.toNatClampNeg (vp_nar .byte ((x76_s0 >>> ((24 - (8 * (x23_6 - x23_6 / 4 * 4))) &&& 31)).toInt8.toInt32))))) C hP hD hS 0 rfl fl_X12_351 rfl rfl (Nat.le_of_ble_eq_true rfl) rfl dX12_feed_108 ?_
            clear hP hD hS; intro H locs hP hD hS
            refine lv_iinc (pc := 111) (v := x23_6 + 1) (lv' := [(6, .int (x23_6 + 1)), (7, .int x76_s0), (0, .ref h), (1, .int p0), (2, .int p1), (3, .int p2), (4, .int p3), (5, .int p4)]) hx hb dX12_feed_111 hl (k := 7) rfl rfl (by decide) rfl (fun ls hl => ?_)
            refine lv_goto (pc := 114) (tgt := 23) hx hb dX12_feed_114 (by decide) ?_
            exact ih23 (x23_6 + 1) (x23_taped + 1) (upd x23_tape x23_taped.toNatClampNeg (vp_nar .byte ((x76_s0 >>> ((24 - (8 * (x23_6 - x23_6 / 4 * 4))) &&& 31)).toInt8.toInt32))) hf _ _ _ (lv_sub hl [2, 3, 4, 5, 6, 7, 0] rfl) hP hD hS
          clear ej76
          refine lv_icmp_ge (pc := 33) (tgt := 40) hx hb dX12_feed_33 (by decide) (fun c_33 => ?_) (fun c_33 => ?_)
          · replace hf := it_t c_33 hf
            refine lv_iload (pc := 40) hx hb dX12_feed_40 (lv_at hl 6 rfl) ?_
            refine lv_bipush (pc := 42) (v := 8) hx hb dX12_feed_42 (by decide) ?_
            refine lv_icmp_ge (pc := 44) (tgt := 51) hx hb dX12_feed_44 (by decide) (fun c_44 => ?_) (fun c_44 => ?_)
            · replace hf := it_t c_44 hf
              refine lv_iload (pc := 51) hx hb dX12_feed_51 (lv_at hl 6 rfl) ?_
              refine lv_bipush (pc := 53) (v := 12) hx hb dX12_feed_53 (by decide) ?_
              refine lv_icmp_ge (pc := 55) (tgt := 62) hx hb dX12_feed_55 (by decide) (fun c_55 => ?_) (fun c_55 => ?_)
              · replace hf := it_t c_55 hf
                refine lv_iload (pc := 62) hx hb dX12_feed_62 (lv_at hl 6 rfl) ?_
                refine lv_bipush (pc := 64) (v := 16) hx hb dX12_feed_64 (by decide) ?_
                refine lv_icmp_ge (pc := 66) (tgt := 74) hx hb dX12_feed_66 (by decide) (fun c_66 => ?_) (fun c_66 => ?_)
                · replace hf := it_t c_66 hf
                  refine lv_iload (pc := 74) hx hb dX12_feed_74 (lv_at hl 5 rfl) ?_
                  exact hj76 p4 hf _ _ _ (lv_sub hl [0, 1, 2, 3, 4, 5, 6] rfl) hP hD hS
                · replace hf := it_f c_66 hf
                  refine lv_iload (pc := 69) hx hb dX12_feed_69 (lv_at hl 4 rfl) ?_
                  refine lv_goto (pc := 71) (tgt := 76) hx hb dX12_feed_71 (by decide) ?_
                  exact hj76 p3 hf _ _ _ (lv_sub hl [0, 1, 2, 3, 4, 5, 6] rfl) hP hD hS
              · replace hf := it_f c_55 hf
                refine lv_iload_n (pc := 58) hx hb dX12_feed_58 rfl (lv_at hl 3 rfl) ?_
                refine lv_goto (pc := 59) (tgt := 76) hx hb dX12_feed_59 (by decide) ?_
                exact hj76 p2 hf _ _ _ (lv_sub hl [0, 1, 2, 3, 4, 5, 6] rfl) hP hD hS
            · replace hf := it_f c_44 hf
              refine lv_iload_n (pc := 47) hx hb dX12_feed_47 rfl (lv_at hl 2 rfl) ?_
              refine lv_goto (pc := 48) (tgt := 76) hx hb dX12_feed_48 (by decide) ?_
              exact hj76 p1 hf _ _ _ (lv_sub hl [0, 1, 2, 3, 4, 5, 6] rfl) hP hD hS
          · replace hf := it_f c_33 hf
            refine lv_iload_n (pc := 36) hx hb dX12_feed_36 rfl (lv_at hl 1 rfl) ?_
            refine lv_goto (pc := 37) (tgt := 76) hx hb dX12_feed_37 (by decide) ?_
            exact hj76 p0 hf _ _ _ (lv_sub hl [0, 1, 2, 3, 4, 5, 6] rfl) hP hD hS
    exact key23 _ 0 v_taped v_tape hf _ _ _ (lv_sub hl [1, 2, 3, 4, 5, 6, 0] rfl) hP hD hS
  · replace hf := it_f c_15 hf
    refine lv_iconst (pc := 18) (v := (-1)) hx hb dX12_feed_18 (by decide) ?_
    cases hf
    rw [hQ]
    exact r_iret C hr hP hD hS rfl dX12_feed_19
def wX12_measures (E : EN) (h h_inn h_tape h_far h_from h_real h_other h_kept h_set h_w h_book h_noteSort h_whose h_what h_noteIs h_fitting h_dawn h_likes h_walked h_came h_inn_creak h_inn_doorA h_inn_doorB h_inn_how h_inn_lies h_inn_isCold h_inn_falls h_inn_isFull h_inn_isTold h_inn_act h_inn_what h_inn_then h_inn_met h_inn_bed h_inn_dream h_inn_listens h_inn_name h_inn_nameSort h_inn_nameNumber : Nat) (v_thrown : Int32) (v_trouble : Int32) (v_where : Int32) (v_read : Option Nat) (v_taped : Int32) (v_size : Int32) (v_at : Int32) (v_sort : Int32) (v_place : Int32) (v_sign : Int32) (v_number : Int32) (v_fault : Int32) (v_wrongAt : Int32) (v_word : Int64) (v_marks : Int32) (v_notes : Int32) (v_inn_minutes : Int32) (v_inn_rooms : Int32) (v_inn_doors : Int32) (v_inn_things : Int32) (v_inn_dreams : Int32) (v_inn_sleepers : Int32) (v_inn_listeners : Int32) (v_inn_names : Int32) (v_inn_doorA : Nat → Int32) (v_from : Nat → Int32) (v_inn_doorB : Nat → Int32) : va_W := [(h, .inr (11, [.int v_thrown, .int v_trouble, .int v_where, .ref h_inn, va_rf v_read, .ref h_tape, .int v_taped, .int v_size, .int v_at, .int v_sort, .int v_place, .int v_sign, .int v_number, .int v_fault, .int v_wrongAt, .long v_word, .ref h_far, .ref h_from, .ref h_real, .ref h_other, .ref h_kept, .ref h_set, .ref h_w, .int v_marks, .int v_notes, .ref h_book, .ref h_noteSort, .ref h_whose, .ref h_what, .ref h_noteIs, .ref h_fitting, .ref h_dawn, .ref h_likes, .ref h_walked, .ref h_came])), (h_inn, .inr (10, [.int v_inn_minutes, .int v_inn_rooms, .int v_inn_doors, .int v_inn_things, .int v_inn_dreams, .int v_inn_sleepers, .int v_inn_listeners, .int v_inn_names, .ref h_inn_creak, .ref h_inn_doorA, .ref h_inn_doorB, .ref h_inn_how, .ref h_inn_lies, .ref h_inn_isCold, .ref h_inn_falls, .ref h_inn_isFull, .ref h_inn_isTold, .ref h_inn_act, .ref h_inn_what, .ref h_inn_then, .ref h_inn_met, .ref h_inn_bed, .ref h_inn_dream, .ref h_inn_listens, .ref h_inn_name, .ref h_inn_nameSort, .ref h_inn_nameNumber])), (h_inn_doorA, aI E 10 v_inn_doorA), (h_from, aI E 8 v_from), (h_inn_doorB, aI E 10 v_inn_doorB)]
def BX12_measures_47 (v_inn_doors : Int32) (N : Nat) (p1 : Int32) (v_inn_doorA : Nat → Int32) (v_inn_doorB : Nat → Int32) (x33_3 : Int32) (K194 : ((Nat → Int32)) → Option (Nat → Int32)) (rec47 : (Int32 × (Nat → Int32)) → Option (Nat → Int32)) : (Int32 × (Nat → Int32)) → Option (Nat → Int32) := un2 fun (x47_4 : Int32) (x47_from : Nat → Int32) => if v_inn_doors ≤ x47_4 then (K194 x47_from) else ((fX12_has N p1 x47_4).bind (un1 fun (r_62 : Int32) => jn (un1 fun (x188_from : Nat → Int32) => rec47 (x47_4 + 1, x188_from)) (fun j188 => if r_62 = 0 then (gd x47_4 10 (gd (v_inn_doorA x47_4.toNatClampNeg) 8 (jn (un0 (gd x47_4 10 (gd (v_inn_doorB x47_4.toNatClampNeg) 8 (if (x47_from (v_inn_doorB x47_4.toNatClampNeg).toNatClampNeg) = x33_3 then (gd x47_4 10 (gd (v_inn_doorA x47_4.toNatClampNeg) 8 (if (x47_from (v_inn_doorA x47_4.toNatClampNeg).toNatClampNeg) = 99 then (gd x47_4 10 (gd (v_inn_doorA x47_4.toNatClampNeg) 8 (j188 (upd x47_from (v_inn_doorA x47_4.toNatClampNeg).toNatClampNeg (x33_3 + 1))))) else (j188 x47_from)))) else (j188 x47_from))))) (fun j131 => if (x47_from (v_inn_doorA x47_4.toNatClampNeg).toNatClampNeg) = x33_3 then (gd x47_4 10 (gd (v_inn_doorB x47_4.toNatClampNeg) 8 (if (x47_from (v_inn_doorB x47_4.toNatClampNeg).toNatClampNeg) = 99 then (gd x47_4 10 (gd (v_inn_doorB x47_4.toNatClampNeg) 8 (j188 (upd x47_from (v_inn_doorB x47_4.toNatClampNeg).toNatClampNeg (x33_3 + 1))))) else (j131 ())))) else (j131 ()))))) else (j188 x47_from))))
def BX12_measures_33 (v_inn_rooms : Int32) (v_inn_doors : Int32) (N : Nat) (p1 : Int32) (v_inn_doorA : Nat → Int32) (v_inn_doorB : Nat → Int32) (rec33 : (Int32 × (Nat → Int32)) → Option (Nat → Int32)) : (Int32 × (Nat → Int32)) → Option (Nat → Int32) := un2 fun (x33_3 : Int32) (x33_from : Nat → Int32) => if v_inn_rooms ≤ x33_3 then (some x33_from) else (lp (BX12_measures_47 v_inn_doors N p1 v_inn_doorA v_inn_doorB x33_3 (un1 fun (x194_from : Nat → Int32) => rec33 (x33_3 + 1, x194_from))) N (0, x33_from))
def BX12_measures_2 (p0 : Int32) (K31 : ((Nat → Int32)) → Option (Nat → Int32)) (rec2 : (Int32 × (Nat → Int32)) → Option (Nat → Int32)) : (Int32 × (Nat → Int32)) → Option (Nat → Int32) := un2 fun (x2_3 : Int32) (x2_from : Nat → Int32) => if 8 ≤ x2_3 then (K31 x2_from) else (jn (un2 fun (x24_s1 : Int32) (x24_s2 : Int32) => gd x24_s1 8 (rec2 (x2_3 + 1, upd x2_from x24_s1.toNatClampNeg x24_s2))) (fun j24 => if x2_3 = p0 then (j24 (x2_3, 0)) else (j24 (x2_3, 99))))
def fX12_measures (N : Nat) (p0 : Int32) (p1 : Int32) (v_inn_rooms : Int32) (v_inn_doors : Int32) (v_inn_doorA : Nat → Int32) (v_from : Nat → Int32) (v_inn_doorB : Nat → Int32) : Option (Nat → Int32) := lp (BX12_measures_2 p0 (un1 fun (x31_from : Nat → Int32) => lp (BX12_measures_33 v_inn_rooms v_inn_doors N p1 v_inn_doorA v_inn_doorB) N (0, x31_from))) N (0, v_from)
set_option maxHeartbeats 4000000 in
set_option maxRecDepth 100000 in
theorem ctX12_measures (l : Launch) (E : EN) (h h_inn h_tape h_far h_from h_real h_other h_kept h_set h_w h_book h_noteSort h_whose h_what h_noteIs h_fitting h_dawn h_likes h_walked h_came h_inn_creak h_inn_doorA h_inn_doorB h_inn_how h_inn_lies h_inn_isCold h_inn_falls h_inn_isFull h_inn_isTold h_inn_act h_inn_what h_inn_then h_inn_met h_inn_bed h_inn_dream h_inn_listens h_inn_name h_inn_nameSort h_inn_nameNumber : Nat) (v_thrown : Int32) (v_trouble : Int32) (v_where : Int32) (v_read : Option Nat) (v_taped : Int32) (v_size : Int32) (v_at : Int32) (v_sort : Int32) (v_place : Int32) (v_sign : Int32) (v_number : Int32) (v_fault : Int32) (v_wrongAt : Int32) (v_word : Int64) (v_marks : Int32) (v_notes : Int32) (v_inn_minutes : Int32) (v_inn_rooms : Int32) (v_inn_doors : Int32) (v_inn_things : Int32) (v_inn_dreams : Int32) (v_inn_sleepers : Int32) (v_inn_listeners : Int32) (v_inn_names : Int32) (v_inn_doorA : Nat → Int32) (v_from : Nat → Int32) (v_inn_doorB : Nat → Int32) (N : Nat) (p0 : Int32) (p1 : Int32) (z : Nat → Int32) (hf : fX12_measures N p0 p1 v_inn_rooms v_inn_doors v_inn_doorA v_from v_inn_doorB = some z) : CTv l E yX12_measures cX12_measures 5 1 21 [.ref h, .int p0, .int p1] (wX12_measures E h h_inn h_tape h_far h_from h_real h_other h_kept h_set h_w h_book h_noteSort h_whose h_what h_noteIs h_fitting h_dawn h_likes h_walked h_came h_inn_creak h_inn_doorA h_inn_doorB h_inn_how h_inn_lies h_inn_isCold h_inn_falls h_inn_isFull h_inn_isTold h_inn_act h_inn_what h_inn_then h_inn_met h_inn_bed h_inn_dream h_inn_listens h_inn_name h_inn_nameSort h_inn_nameNumber v_thrown v_trouble v_where v_read v_taped v_size v_at v_sort v_place v_sign v_number v_fault v_wrongAt v_word v_marks v_notes v_inn_minutes v_inn_rooms v_inn_doors v_inn_things v_inn_dreams v_inn_sleepers v_inn_listeners v_inn_names v_inn_doorA v_from v_inn_doorB) (wX12_measures E h h_inn h_tape h_far h_from h_real h_other h_kept h_set h_w h_book h_noteSort h_whose h_what h_noteIs h_fitting h_dawn h_likes h_walked h_came h_inn_creak h_inn_doorA h_inn_doorB h_inn_how h_inn_lies h_inn_isCold h_inn_falls h_inn_isFull h_inn_isTold h_inn_act h_inn_what h_inn_then h_inn_met h_inn_bed h_inn_dream h_inn_listens h_inn_name h_inn_nameSort h_inn_nameNumber v_thrown v_trouble v_where v_read v_taped v_size v_at v_sort v_place v_sign v_number v_fault v_wrongAt v_word v_marks v_notes v_inn_minutes v_inn_rooms v_inn_doors v_inn_things v_inn_dreams v_inn_sleepers v_inn_listeners v_inn_names v_inn_doorA z v_inn_doorB) := by
  intro sz
  refine ct_body (by decide) (Nat.le_of_ble_eq_true rfl) ?_
  intro p e s m args below meth c A ls hAe C hr hin hP hD hS hl
  have C : CX p s m args meth c cX12_measures RX12 5 E A := C
  have hl : lv_has ls 5 [(0, .ref h), (1, .int p0), (2, .int p1)] := hl
  have hx := C.1
  have hb := C.2.1
  rw [hAe]
  clear hAe
  obtain ⟨Q, hQ⟩ : ∃ Q, Q = MQ below (Qv E A (wX12_measures E h h_inn h_tape h_far h_from h_real h_other h_kept h_set h_w h_book h_noteSort h_whose h_what h_noteIs h_fitting h_dawn h_likes h_walked h_came h_inn_creak h_inn_doorA h_inn_doorB h_inn_how h_inn_lies h_inn_isCold h_inn_falls h_inn_isFull h_inn_isTold h_inn_act h_inn_what h_inn_then h_inn_met h_inn_bed h_inn_dream h_inn_listens h_inn_name h_inn_nameSort h_inn_nameNumber v_thrown v_trouble v_where v_read v_taped v_size v_at v_sort v_place v_sign v_number v_fault v_wrongAt v_word v_marks v_notes v_inn_minutes v_inn_rooms v_inn_doors v_inn_things v_inn_dreams v_inn_sleepers v_inn_listeners v_inn_names v_inn_doorA z v_inn_doorB)) args s 0 0 A := ⟨_, rfl⟩
  rw [← hQ]
  unfold fX12_measures at hf
  refine lv_iconst (pc := 0) (v := 0) hx hb dX12_measures_0 (by decide) ?_
  refine lv_istore_n (pc := 1) (lv' := [(3, .int 0), (0, .ref h), (1, .int p0), (2, .int p1)]) hx hb dX12_measures_1 rfl hl (by decide) rfl (fun ls hl => ?_)
  refine lpK hf (fun K31 eK31 hf => ?_)
  have hK31 : ∀ (x31_from : Nat → Int32) , K31 x31_from = some z → AT p l e (rmOf 1 21) s m args below meth c E A Q 0 0 5 [(0, .ref h), (2, .int p1)] (wX12_measures E h h_inn h_tape h_far h_from h_real h_other h_kept h_set h_w h_book h_noteSort h_whose h_what h_noteIs h_fitting h_dawn h_likes h_walked h_came h_inn_creak h_inn_doorA h_inn_doorB h_inn_how h_inn_lies h_inn_isCold h_inn_falls h_inn_isFull h_inn_isTold h_inn_act h_inn_what h_inn_then h_inn_met h_inn_bed h_inn_dream h_inn_listens h_inn_name h_inn_nameSort h_inn_nameNumber v_thrown v_trouble v_where v_read v_taped v_size v_at v_sort v_place v_sign v_number v_fault v_wrongAt v_word v_marks v_notes v_inn_minutes v_inn_rooms v_inn_doors v_inn_things v_inn_dreams v_inn_sleepers v_inn_listeners v_inn_names v_inn_doorA x31_from v_inn_doorB) 31 [] := by
    intro x31_from hf H locs ls hl hP hD hS
    rw [eK31] at hf
    replace hf := un1_s hf
    refine lv_iconst (pc := 31) (v := 0) hx hb dX12_measures_31 (by decide) ?_
    refine lv_istore_n (pc := 32) (lv' := [(3, .int 0), (0, .ref h), (2, .int p1)]) hx hb dX12_measures_32 rfl hl (by decide) rfl (fun ls hl => ?_)
    have key33 : ∀ (n : Nat) (x33_3 : Int32) (x33_from : Nat → Int32) , lp (BX12_measures_33 v_inn_rooms v_inn_doors N p1 v_inn_doorA v_inn_doorB) n (x33_3, x33_from) = some z → AT p l e (rmOf 1 21) s m args below meth c E A Q 0 0 5 [(0, .ref h), (2, .int p1), (3, .int x33_3)] (wX12_measures E h h_inn h_tape h_far h_from h_real h_other h_kept h_set h_w h_book h_noteSort h_whose h_what h_noteIs h_fitting h_dawn h_likes h_walked h_came h_inn_creak h_inn_doorA h_inn_doorB h_inn_how h_inn_lies h_inn_isCold h_inn_falls h_inn_isFull h_inn_isTold h_inn_act h_inn_what h_inn_then h_inn_met h_inn_bed h_inn_dream h_inn_listens h_inn_name h_inn_nameSort h_inn_nameNumber v_thrown v_trouble v_where v_read v_taped v_size v_at v_sort v_place v_sign v_number v_fault v_wrongAt v_word v_marks v_notes v_inn_minutes v_inn_rooms v_inn_doors v_inn_things v_inn_dreams v_inn_sleepers v_inn_listeners v_inn_names v_inn_doorA x33_from v_inn_doorB) 33 [] := by
      intro n
      induction n with
      | zero => intro x33_3 x33_from hf; exact (lp_0 hf).elim
      | succ n ih33 =>
        intro x33_3 x33_from hf H locs ls hl hP hD hS
        replace hf := lp_s hf
        generalize lp (BX12_measures_33 v_inn_rooms v_inn_doors N p1 v_inn_doorA v_inn_doorB) n = rec33 at ih33 hf
        unfold BX12_measures_33 at hf
        replace hf := un2_s hf
        refine lv_iload_n (pc := 33) hx hb dX12_measures_33 rfl (lv_at hl 2 rfl) ?_
        refine lv_aload_n (pc := 34) hx hb dX12_measures_34 rfl (lv_at hl 0 rfl) ?_
        refine r_get (pc := 35) C hP 0 rfl fl_X12_358 rfl dX12_measures_35 ?_
        refine r_get (pc := 38) C hP 1 rfl fl_X12_244 rfl dX12_measures_38 ?_
        refine lv_icmp_ge (pc := 41) (tgt := 200) hx hb dX12_measures_41 (by decide) (fun c_41 => ?_) (fun c_41 => ?_)
        · replace hf := it_t c_41 hf
          cases hf
          rw [hQ]
          exact r_vret C hr hP hD hS dX12_measures_200
        · replace hf := it_f c_41 hf
          refine lv_iconst (pc := 44) (v := 0) hx hb dX12_measures_44 (by decide) ?_
          refine lv_istore (pc := 45) (lv' := [(4, .int 0), (0, .ref h), (2, .int p1), (3, .int x33_3)]) hx hb dX12_measures_45 hl (by decide) rfl (fun ls hl => ?_)
          refine lpK hf (fun K194 eK194 hf => ?_)
          have hK194 : ∀ (x194_from : Nat → Int32) , K194 x194_from = some z → AT p l e (rmOf 1 21) s m args below meth c E A Q 0 0 5 [(0, .ref h), (2, .int p1), (3, .int x33_3)] (wX12_measures E h h_inn h_tape h_far h_from h_real h_other h_kept h_set h_w h_book h_noteSort h_whose h_what h_noteIs h_fitting h_dawn h_likes h_walked h_came h_inn_creak h_inn_doorA h_inn_doorB h_inn_how h_inn_lies h_inn_isCold h_inn_falls h_inn_isFull h_inn_isTold h_inn_act h_inn_what h_inn_then h_inn_met h_inn_bed h_inn_dream h_inn_listens h_inn_name h_inn_nameSort h_inn_nameNumber v_thrown v_trouble v_where v_read v_taped v_size v_at v_sort v_place v_sign v_number v_fault v_wrongAt v_word v_marks v_notes v_inn_minutes v_inn_rooms v_inn_doors v_inn_things v_inn_dreams v_inn_sleepers v_inn_listeners v_inn_names v_inn_doorA x194_from v_inn_doorB) 194 [] := by
            intro x194_from hf H locs ls hl hP hD hS
            rw [eK194] at hf
            replace hf := un1_s hf
            refine lv_iinc (pc := 194) (v := x33_3 + 1) (lv' := [(3, .int (x33_3 + 1)), (0, .ref h), (2, .int p1)]) hx hb dX12_measures_194 hl (k := 2) rfl rfl (by decide) rfl (fun ls hl => ?_)
            refine lv_goto (pc := 197) (tgt := 33) hx hb dX12_measures_197 (by decide) ?_
            exact ih33 (x33_3 + 1) x194_from hf _ _ _ (lv_sub hl [1, 2, 0] rfl) hP hD hS
          clear eK194
          have key47 : ∀ (n : Nat) (x47_4 : Int32) (x47_from : Nat → Int32) , lp (BX12_measures_47 v_inn_doors N p1 v_inn_doorA v_inn_doorB x33_3 K194) n (x47_4, x47_from) = some z → AT p l e (rmOf 1 21) s m args below meth c E A Q 0 0 5 [(0, .ref h), (2, .int p1), (3, .int x33_3), (4, .int x47_4)] (wX12_measures E h h_inn h_tape h_far h_from h_real h_other h_kept h_set h_w h_book h_noteSort h_whose h_what h_noteIs h_fitting h_dawn h_likes h_walked h_came h_inn_creak h_inn_doorA h_inn_doorB h_inn_how h_inn_lies h_inn_isCold h_inn_falls h_inn_isFull h_inn_isTold h_inn_act h_inn_what h_inn_then h_inn_met h_inn_bed h_inn_dream h_inn_listens h_inn_name h_inn_nameSort h_inn_nameNumber v_thrown v_trouble v_where v_read v_taped v_size v_at v_sort v_place v_sign v_number v_fault v_wrongAt v_word v_marks v_notes v_inn_minutes v_inn_rooms v_inn_doors v_inn_things v_inn_dreams v_inn_sleepers v_inn_listeners v_inn_names v_inn_doorA x47_from v_inn_doorB) 47 [] := by
            intro n
            induction n with
            | zero => intro x47_4 x47_from hf; exact (lp_0 hf).elim
            | succ n ih47 =>
              intro x47_4 x47_from hf H locs ls hl hP hD hS
              replace hf := lp_s hf
              generalize lp (BX12_measures_47 v_inn_doors N p1 v_inn_doorA v_inn_doorB x33_3 K194) n = rec47 at ih47 hf
              unfold BX12_measures_47 at hf
              replace hf := un2_s hf
              refine lv_iload (pc := 47) hx hb dX12_measures_47 (lv_at hl 3 rfl) ?_
              refine lv_aload_n (pc := 49) hx hb dX12_measures_49 rfl (lv_at hl 0 rfl) ?_
              refine r_get (pc := 50) C hP 0 rfl fl_X12_358 rfl dX12_measures_50 ?_
              refine r_get (pc := 53) C hP 1 rfl fl_X12_292 rfl dX12_measures_53 ?_
              refine lv_icmp_ge (pc := 56) (tgt := 194) hx hb dX12_measures_56 (by decide) (fun c_56 => ?_) (fun c_56 => ?_)
              · replace hf := it_t c_56 hf
                exact hK194 x47_from hf _ _ _ (lv_sub hl [0, 1, 2] rfl) hP hD hS
              · replace hf := it_f c_56 hf
                refine lv_iload_n (pc := 59) hx hb dX12_measures_59 rfl (lv_at hl 1 rfl) ?_
                refine lv_iload (pc := 60) hx hb dX12_measures_60 (lv_at hl 3 rfl) ?_
                obtain ⟨r_62, hc_62, hf⟩ := bd1 hf
                refine r_dalSi (pc := 62) (Cn := "") (h := 0) (ws' := (wX12_measures E h h_inn h_tape h_far h_from h_real h_other h_kept h_set h_w h_book h_noteSort h_whose h_what h_noteIs h_fitting h_dawn h_likes h_walked h_came h_inn_creak h_inn_doorA h_inn_doorB h_inn_how h_inn_lies h_inn_isCold h_inn_falls h_inn_isFull h_inn_isTold h_inn_act h_inn_what h_inn_then h_inn_met h_inn_bed h_inn_dream h_inn_listens h_inn_name h_inn_nameSort h_inn_nameNumber v_thrown v_trouble v_where v_read v_taped v_size v_at v_sort v_place v_sign v_number v_fault v_wrongAt v_word v_marks v_notes v_inn_minutes v_inn_rooms v_inn_doors v_inn_things v_inn_dreams v_inn_sleepers v_inn_listeners v_inn_names v_inn_doorA x47_from v_inn_doorB)) (As := [.int p1, .int x47_4]) (rest := []) C (ctX12_has l E N p1 x47_4 r_62 hc_62) ml_X12_372 ⟨Nat.le_of_ble_eq_true rfl, Nat.le_of_ble_eq_true rfl⟩ hP hD hS [] [0, 1, 2, 3, 4] 5 rfl rfl rfl rfl rfl rfl rfl hl.1 rfl (Nat.le_of_ble_eq_true rfl) ⟨Nat.zero_le _, Nat.zero_le _⟩ dX12_measures_62 ?_
                clear hP hD hS; intro H locs hP hD hS
                refine jnK hf (fun j188 ej188 hf => ?_)
                have hj188 : ∀ (x188_from : Nat → Int32) , j188 x188_from = some z → AT p l e (rmOf 1 21) s m args below meth c E A Q 0 0 5 [(0, .ref h), (2, .int p1), (3, .int x33_3), (4, .int x47_4)] (wX12_measures E h h_inn h_tape h_far h_from h_real h_other h_kept h_set h_w h_book h_noteSort h_whose h_what h_noteIs h_fitting h_dawn h_likes h_walked h_came h_inn_creak h_inn_doorA h_inn_doorB h_inn_how h_inn_lies h_inn_isCold h_inn_falls h_inn_isFull h_inn_isTold h_inn_act h_inn_what h_inn_then h_inn_met h_inn_bed h_inn_dream h_inn_listens h_inn_name h_inn_nameSort h_inn_nameNumber v_thrown v_trouble v_where v_read v_taped v_size v_at v_sort v_place v_sign v_number v_fault v_wrongAt v_word v_marks v_notes v_inn_minutes v_inn_rooms v_inn_doors v_inn_things v_inn_dreams v_inn_sleepers v_inn_listeners v_inn_names v_inn_doorA x188_from v_inn_doorB) 188 [] := by
                  intro x188_from hf H locs ls hl hP hD hS
                  rw [ej188] at hf
                  replace hf := un1_s hf
                  refine lv_iinc (pc := 188) (v := x47_4 + 1) (lv' := [(4, .int (x47_4 + 1)), (0, .ref h), (2, .int p1), (3, .int x33_3)]) hx hb dX12_measures_188 hl (k := 3) rfl rfl (by decide) rfl (fun ls hl => ?_)
                  refine lv_goto (pc := 191) (tgt := 47) hx hb dX12_measures_191 (by decide) ?_
                  exact ih47 (x47_4 + 1) x188_from hf _ _ _ (lv_sub hl [1, 2, 3, 0] rfl) hP hD hS
                clear ej188
                refine lv_if_eq (pc := 65) (tgt := 71) hx hb dX12_measures_65 (by decide) (fun c_65 => ?_) (fun c_65 => ?_)
                · replace hf := it_t c_65 hf
                  refine lv_aload_n (pc := 71) hx hb dX12_measures_71 rfl (lv_at hl 0 rfl) ?_
                  refine r_get (pc := 72) C hP 0 rfl fl_X12_21 rfl dX12_measures_72 ?_
                  refine lv_aload_n (pc := 75) hx hb dX12_measures_75 rfl (lv_at hl 0 rfl) ?_
                  refine r_get (pc := 76) C hP 0 rfl fl_X12_358 rfl dX12_measures_76 ?_
                  refine r_get (pc := 79) C hP 1 rfl fl_X12_304 rfl dX12_measures_79 ?_
                  refine lv_iload (pc := 82) hx hb dX12_measures_82 (lv_at hl 3 rfl) ?_
                  obtain ⟨hi_84, hf⟩ := gd_s hf
                  refine r_iald (pc := 84) C hP 2 rfl hi_84 dX12_measures_84 ?_
                  obtain ⟨hi_85, hf⟩ := gd_s hf
                  refine r_iald (pc := 85) C hP 3 rfl hi_85 dX12_measures_85 ?_
                  refine lv_iload_n (pc := 86) hx hb dX12_measures_86 rfl (lv_at hl 2 rfl) ?_
                  refine jnK hf (fun j131 ej131 hf => ?_)
                  have hj131 : j131 () = some z → AT p l e (rmOf 1 21) s m args below meth c E A Q 0 0 5 [(0, .ref h), (2, .int p1), (3, .int x33_3), (4, .int x47_4)] (wX12_measures E h h_inn h_tape h_far h_from h_real h_other h_kept h_set h_w h_book h_noteSort h_whose h_what h_noteIs h_fitting h_dawn h_likes h_walked h_came h_inn_creak h_inn_doorA h_inn_doorB h_inn_how h_inn_lies h_inn_isCold h_inn_falls h_inn_isFull h_inn_isTold h_inn_act h_inn_what h_inn_then h_inn_met h_inn_bed h_inn_dream h_inn_listens h_inn_name h_inn_nameSort h_inn_nameNumber v_thrown v_trouble v_where v_read v_taped v_size v_at v_sort v_place v_sign v_number v_fault v_wrongAt v_word v_marks v_notes v_inn_minutes v_inn_rooms v_inn_doors v_inn_things v_inn_dreams v_inn_sleepers v_inn_listeners v_inn_names v_inn_doorA x47_from v_inn_doorB) 131 [] := by
                    intro  hf H locs ls hl hP hD hS
                    rw [ej131] at hf
                    replace hf := un0_s hf
                    refine lv_aload_n (pc := 131) hx hb dX12_measures_131 rfl (lv_at hl 0 rfl) ?_
                    refine r_get (pc := 132) C hP 0 rfl fl_X12_21 rfl dX12_measures_132 ?_
                    refine lv_aload_n (pc := 135) hx hb dX12_measures_135 rfl (lv_at hl 0 rfl) ?_
                    refine r_get (pc := 136) C hP 0 rfl fl_X12_358 rfl dX12_measures_136 ?_
                    refine r_get (pc := 139) C hP 1 rfl fl_X12_307 rfl dX12_measures_139 ?_
                    refine lv_iload (pc := 142) hx hb dX12_measures_142 (lv_at hl 3 rfl) ?_
                    obtain ⟨hi_144, hf⟩ := gd_s hf
                    refine r_iald (pc := 144) C hP 4 rfl hi_144 dX12_measures_144 ?_
                    obtain ⟨hi_145, hf⟩ := gd_s hf
                    refine r_iald (pc := 145) C hP 3 rfl hi_145 dX12_measures_145 ?_
                    refine lv_iload_n (pc := 146) hx hb dX12_measures_146 rfl (lv_at hl 2 rfl) ?_
                    refine lv_icmp_ne (pc := 147) (tgt := 188) hx hb dX12_measures_147 (by decide) (fun c_147 => ?_) (fun c_147 => ?_)
                    · replace hf := it_f c_147 hf
                      exact hj188 x47_from hf _ _ _ (lv_sub hl [0, 1, 2, 3] rfl) hP hD hS
                    · replace hf := it_t c_147 hf
                      refine lv_aload_n (pc := 150) hx hb dX12_measures_150 rfl (lv_at hl 0 rfl) ?_
                      refine r_get (pc := 151) C hP 0 rfl fl_X12_21 rfl dX12_measures_151 ?_
                      refine lv_aload_n (pc := 154) hx hb dX12_measures_154 rfl (lv_at hl 0 rfl) ?_
                      refine r_get (pc := 155) C hP 0 rfl fl_X12_358 rfl dX12_measures_155 ?_
                      refine r_get (pc := 158) C hP 1 rfl fl_X12_304 rfl dX12_measures_158 ?_
                      refine lv_iload (pc := 161) hx hb dX12_measures_161 (lv_at hl 3 rfl) ?_
                      obtain ⟨hi_163, hf⟩ := gd_s hf
                      refine r_iald (pc := 163) C hP 2 rfl hi_163 dX12_measures_163 ?_
                      obtain ⟨hi_164, hf⟩ := gd_s hf
                      refine r_iald (pc := 164) C hP 3 rfl hi_164 dX12_measures_164 ?_
                      refine lv_bipush (pc := 165) (v := 99) hx hb dX12_measures_165 (by decide) ?_
                      refine lv_icmp_ne (pc := 167) (tgt := 188) hx hb dX12_measures_167 (by decide) (fun c_167 => ?_) (fun c_167 => ?_)
                      · replace hf := it_f c_167 hf
                        exact hj188 x47_from hf _ _ _ (lv_sub hl [0, 1, 2, 3] rfl) hP hD hS
                      · replace hf := it_t c_167 hf
                        refine lv_aload_n (pc := 170) hx hb dX12_measures_170 rfl (lv_at hl 0 rfl) ?_
                        refine r_get (pc := 171) C hP 0 rfl fl_X12_21 rfl dX12_measures_171 ?_
                        refine lv_aload_n (pc := 174) hx hb dX12_measures_174 rfl (lv_at hl 0 rfl) ?_
                        refine r_get (pc := 175) C hP 0 rfl fl_X12_358 rfl dX12_measures_175 ?_
                        refine r_get (pc := 178) C hP 1 rfl fl_X12_304 rfl dX12_measures_178 ?_
                        refine lv_iload (pc := 181) hx hb dX12_measures_181 (lv_at hl 3 rfl) ?_
                        obtain ⟨hi_183, hf⟩ := gd_s hf
                        refine r_iald (pc := 183) C hP 2 rfl hi_183 dX12_measures_183 ?_
                        refine lv_iload_n (pc := 184) hx hb dX12_measures_184 rfl (lv_at hl 2 rfl) ?_
                        refine lv_iconst (pc := 185) (v := 1) hx hb dX12_measures_185 (by decide) ?_
                        refine lv_iadd (pc := 186) hx hb dX12_measures_186 ?_
                        obtain ⟨hi_187, hf⟩ := gd_s hf
                        refine r_iast (pc := 187) (ws' := (wX12_measures E h h_inn h_tape h_far h_from h_real h_other h_kept h_set h_w h_book h_noteSort h_whose h_what h_noteIs h_fitting h_dawn h_likes h_walked h_came h_inn_creak h_inn_doorA h_inn_doorB h_inn_how h_inn_lies h_inn_isCold h_inn_falls h_inn_isFull h_inn_isTold h_inn_act h_inn_what h_inn_then h_inn_met h_inn_bed h_inn_dream h_inn_listens h_inn_name h_inn_nameSort h_inn_nameNumber v_thrown v_trouble v_where v_read v_taped v_size v_at v_sort v_place v_sign v_number v_fault v_wrongAt v_word v_marks v_notes v_inn_minutes v_inn_rooms v_inn_doors v_inn_things v_inn_dreams v_inn_sleepers v_inn_listeners v_inn_names v_inn_doorA (upd x47_from (v_inn_doorA x47_4.toNatClampNeg).toNatClampNeg (x33_3 + 1)) v_inn_doorB)) C hP hD hS 3 rfl hi_187 rfl dX12_measures_187 ?_
                        clear hP hD hS; intro H locs hP hD hS
                        exact hj188 (upd x47_from (v_inn_doorA x47_4.toNatClampNeg).toNatClampNeg (x33_3 + 1)) hf _ _ _ (lv_sub hl [0, 1, 2, 3] rfl) hP hD hS
                  clear ej131
                  refine lv_icmp_ne (pc := 87) (tgt := 131) hx hb dX12_measures_87 (by decide) (fun c_87 => ?_) (fun c_87 => ?_)
                  · replace hf := it_f c_87 hf
                    exact hj131  hf _ _ _ (lv_sub hl [0, 1, 2, 3] rfl) hP hD hS
                  · replace hf := it_t c_87 hf
                    refine lv_aload_n (pc := 90) hx hb dX12_measures_90 rfl (lv_at hl 0 rfl) ?_
                    refine r_get (pc := 91) C hP 0 rfl fl_X12_21 rfl dX12_measures_91 ?_
                    refine lv_aload_n (pc := 94) hx hb dX12_measures_94 rfl (lv_at hl 0 rfl) ?_
                    refine r_get (pc := 95) C hP 0 rfl fl_X12_358 rfl dX12_measures_95 ?_
                    refine r_get (pc := 98) C hP 1 rfl fl_X12_307 rfl dX12_measures_98 ?_
                    refine lv_iload (pc := 101) hx hb dX12_measures_101 (lv_at hl 3 rfl) ?_
                    obtain ⟨hi_103, hf⟩ := gd_s hf
                    refine r_iald (pc := 103) C hP 4 rfl hi_103 dX12_measures_103 ?_
                    obtain ⟨hi_104, hf⟩ := gd_s hf
                    refine r_iald (pc := 104) C hP 3 rfl hi_104 dX12_measures_104 ?_
                    refine lv_bipush (pc := 105) (v := 99) hx hb dX12_measures_105 (by decide) ?_
                    refine lv_icmp_ne (pc := 107) (tgt := 131) hx hb dX12_measures_107 (by decide) (fun c_107 => ?_) (fun c_107 => ?_)
                    · replace hf := it_f c_107 hf
                      exact hj131  hf _ _ _ (lv_sub hl [0, 1, 2, 3] rfl) hP hD hS
                    · replace hf := it_t c_107 hf
                      refine lv_aload_n (pc := 110) hx hb dX12_measures_110 rfl (lv_at hl 0 rfl) ?_
                      refine r_get (pc := 111) C hP 0 rfl fl_X12_21 rfl dX12_measures_111 ?_
                      refine lv_aload_n (pc := 114) hx hb dX12_measures_114 rfl (lv_at hl 0 rfl) ?_
                      refine r_get (pc := 115) C hP 0 rfl fl_X12_358 rfl dX12_measures_115 ?_
                      refine r_get (pc := 118) C hP 1 rfl fl_X12_307 rfl dX12_measures_118 ?_
                      refine lv_iload (pc := 121) hx hb dX12_measures_121 (lv_at hl 3 rfl) ?_
                      obtain ⟨hi_123, hf⟩ := gd_s hf
                      refine r_iald (pc := 123) C hP 4 rfl hi_123 dX12_measures_123 ?_
                      refine lv_iload_n (pc := 124) hx hb dX12_measures_124 rfl (lv_at hl 2 rfl) ?_
                      refine lv_iconst (pc := 125) (v := 1) hx hb dX12_measures_125 (by decide) ?_
                      refine lv_iadd (pc := 126) hx hb dX12_measures_126 ?_
                      obtain ⟨hi_127, hf⟩ := gd_s hf
                      refine r_iast (pc := 127) (ws' := (wX12_measures E h h_inn h_tape h_far h_from h_real h_other h_kept h_set h_w h_book h_noteSort h_whose h_what h_noteIs h_fitting h_dawn h_likes h_walked h_came h_inn_creak h_inn_doorA h_inn_doorB h_inn_how h_inn_lies h_inn_isCold h_inn_falls h_inn_isFull h_inn_isTold h_inn_act h_inn_what h_inn_then h_inn_met h_inn_bed h_inn_dream h_inn_listens h_inn_name h_inn_nameSort h_inn_nameNumber v_thrown v_trouble v_where v_read v_taped v_size v_at v_sort v_place v_sign v_number v_fault v_wrongAt v_word v_marks v_notes v_inn_minutes v_inn_rooms v_inn_doors v_inn_things v_inn_dreams v_inn_sleepers v_inn_listeners v_inn_names v_inn_doorA (upd x47_from (v_inn_doorB x47_4.toNatClampNeg).toNatClampNeg (x33_3 + 1)) v_inn_doorB)) C hP hD hS 3 rfl hi_127 rfl dX12_measures_127 ?_
                      clear hP hD hS; intro H locs hP hD hS
                      refine lv_goto (pc := 128) (tgt := 188) hx hb dX12_measures_128 (by decide) ?_
                      exact hj188 (upd x47_from (v_inn_doorB x47_4.toNatClampNeg).toNatClampNeg (x33_3 + 1)) hf _ _ _ (lv_sub hl [0, 1, 2, 3] rfl) hP hD hS
                · replace hf := it_f c_65 hf
                  refine lv_goto (pc := 68) (tgt := 188) hx hb dX12_measures_68 (by decide) ?_
                  exact hj188 x47_from hf _ _ _ (lv_sub hl [0, 1, 2, 3] rfl) hP hD hS
          exact key47 _ 0 x33_from hf _ _ _ (lv_sub hl [1, 2, 3, 0] rfl) hP hD hS
    exact key33 _ 0 x31_from hf _ _ _ (lv_sub hl [1, 2, 0] rfl) hP hD hS
  clear eK31
  have key2 : ∀ (n : Nat) (x2_3 : Int32) (x2_from : Nat → Int32) , lp (BX12_measures_2 p0 K31) n (x2_3, x2_from) = some z → AT p l e (rmOf 1 21) s m args below meth c E A Q 0 0 5 [(0, .ref h), (1, .int p0), (2, .int p1), (3, .int x2_3)] (wX12_measures E h h_inn h_tape h_far h_from h_real h_other h_kept h_set h_w h_book h_noteSort h_whose h_what h_noteIs h_fitting h_dawn h_likes h_walked h_came h_inn_creak h_inn_doorA h_inn_doorB h_inn_how h_inn_lies h_inn_isCold h_inn_falls h_inn_isFull h_inn_isTold h_inn_act h_inn_what h_inn_then h_inn_met h_inn_bed h_inn_dream h_inn_listens h_inn_name h_inn_nameSort h_inn_nameNumber v_thrown v_trouble v_where v_read v_taped v_size v_at v_sort v_place v_sign v_number v_fault v_wrongAt v_word v_marks v_notes v_inn_minutes v_inn_rooms v_inn_doors v_inn_things v_inn_dreams v_inn_sleepers v_inn_listeners v_inn_names v_inn_doorA x2_from v_inn_doorB) 2 [] := by
    intro n
    induction n with
    | zero => intro x2_3 x2_from hf; exact (lp_0 hf).elim
    | succ n ih2 =>
      intro x2_3 x2_from hf H locs ls hl hP hD hS
      replace hf := lp_s hf
      generalize lp (BX12_measures_2 p0 K31) n = rec2 at ih2 hf
      unfold BX12_measures_2 at hf
      replace hf := un2_s hf
      refine lv_iload_n (pc := 2) hx hb dX12_measures_2 rfl (lv_at hl 3 rfl) ?_
      refine lv_bipush (pc := 3) (v := 8) hx hb dX12_measures_3 (by decide) ?_
      refine lv_icmp_ge (pc := 5) (tgt := 31) hx hb dX12_measures_5 (by decide) (fun c_5 => ?_) (fun c_5 => ?_)
      · replace hf := it_t c_5 hf
        exact hK31 x2_from hf _ _ _ (lv_sub hl [0, 2] rfl) hP hD hS
      · replace hf := it_f c_5 hf
        refine lv_aload_n (pc := 8) hx hb dX12_measures_8 rfl (lv_at hl 0 rfl) ?_
        refine r_get (pc := 9) C hP 0 rfl fl_X12_21 rfl dX12_measures_9 ?_
        refine lv_iload_n (pc := 12) hx hb dX12_measures_12 rfl (lv_at hl 3 rfl) ?_
        refine lv_iload_n (pc := 13) hx hb dX12_measures_13 rfl (lv_at hl 3 rfl) ?_
        refine lv_iload_n (pc := 14) hx hb dX12_measures_14 rfl (lv_at hl 1 rfl) ?_
        refine jnK hf (fun j24 ej24 hf => ?_)
        have hj24 : ∀ (x24_s1 : Int32) (x24_s2 : Int32) , j24 (x24_s1, x24_s2) = some z → AT p l e (rmOf 1 21) s m args below meth c E A Q 0 0 5 [(0, .ref h), (1, .int p0), (2, .int p1), (3, .int x2_3)] (wX12_measures E h h_inn h_tape h_far h_from h_real h_other h_kept h_set h_w h_book h_noteSort h_whose h_what h_noteIs h_fitting h_dawn h_likes h_walked h_came h_inn_creak h_inn_doorA h_inn_doorB h_inn_how h_inn_lies h_inn_isCold h_inn_falls h_inn_isFull h_inn_isTold h_inn_act h_inn_what h_inn_then h_inn_met h_inn_bed h_inn_dream h_inn_listens h_inn_name h_inn_nameSort h_inn_nameNumber v_thrown v_trouble v_where v_read v_taped v_size v_at v_sort v_place v_sign v_number v_fault v_wrongAt v_word v_marks v_notes v_inn_minutes v_inn_rooms v_inn_doors v_inn_things v_inn_dreams v_inn_sleepers v_inn_listeners v_inn_names v_inn_doorA x2_from v_inn_doorB) 24 [.int x24_s2, .int x24_s1, .ref h_from] := by
          intro x24_s1 x24_s2 hf H locs ls hl hP hD hS
          rw [ej24] at hf
          replace hf := un2_s hf
          obtain ⟨hi_24, hf⟩ := gd_s hf
          refine r_iast (pc := 24) (ws' := (wX12_measures E h h_inn h_tape h_far h_from h_real h_other h_kept h_set h_w h_book h_noteSort h_whose h_what h_noteIs h_fitting h_dawn h_likes h_walked h_came h_inn_creak h_inn_doorA h_inn_doorB h_inn_how h_inn_lies h_inn_isCold h_inn_falls h_inn_isFull h_inn_isTold h_inn_act h_inn_what h_inn_then h_inn_met h_inn_bed h_inn_dream h_inn_listens h_inn_name h_inn_nameSort h_inn_nameNumber v_thrown v_trouble v_where v_read v_taped v_size v_at v_sort v_place v_sign v_number v_fault v_wrongAt v_word v_marks v_notes v_inn_minutes v_inn_rooms v_inn_doors v_inn_things v_inn_dreams v_inn_sleepers v_inn_listeners v_inn_names v_inn_doorA (upd x2_from x24_s1.toNatClampNeg x24_s2) v_inn_doorB)) C hP hD hS 3 rfl hi_24 rfl dX12_measures_24 ?_
          clear hP hD hS; intro H locs hP hD hS
          refine lv_iinc (pc := 25) (v := x2_3 + 1) (lv' := [(3, .int (x2_3 + 1)), (0, .ref h), (1, .int p0), (2, .int p1)]) hx hb dX12_measures_25 hl (k := 3) rfl rfl (by decide) rfl (fun ls hl => ?_)
          refine lv_goto (pc := 28) (tgt := 2) hx hb dX12_measures_28 (by decide) ?_
          exact ih2 (x2_3 + 1) (upd x2_from x24_s1.toNatClampNeg x24_s2) hf _ _ _ (lv_sub hl [1, 2, 3, 0] rfl) hP hD hS
        clear ej24
        refine lv_icmp_ne (pc := 15) (tgt := 22) hx hb dX12_measures_15 (by decide) (fun c_15 => ?_) (fun c_15 => ?_)
        · replace hf := it_f c_15 hf
          refine lv_bipush (pc := 22) (v := 99) hx hb dX12_measures_22 (by decide) ?_
          exact hj24 x2_3 99 hf _ _ _ (lv_sub hl [0, 1, 2, 3] rfl) hP hD hS
        · replace hf := it_t c_15 hf
          refine lv_iconst (pc := 18) (v := 0) hx hb dX12_measures_18 (by decide) ?_
          refine lv_goto (pc := 19) (tgt := 24) hx hb dX12_measures_19 (by decide) ?_
          exact hj24 x2_3 0 hf _ _ _ (lv_sub hl [0, 1, 2, 3] rfl) hP hD hS
  exact key2 _ 0 v_from hf _ _ _ (lv_sub hl [1, 2, 3, 0] rfl) hP hD hS
def wX12_lays (E : EN) (h h_inn h_tape h_far h_from h_real h_other h_kept h_set h_w h_book h_noteSort h_whose h_what h_noteIs h_fitting h_dawn h_likes h_walked h_came h_inn_creak h_inn_doorA h_inn_doorB h_inn_how h_inn_lies h_inn_isCold h_inn_falls h_inn_isFull h_inn_isTold h_inn_act h_inn_what h_inn_then h_inn_met h_inn_bed h_inn_dream h_inn_listens h_inn_name h_inn_nameSort h_inn_nameNumber : Nat) (v_thrown : Int32) (v_trouble : Int32) (v_where : Int32) (v_read : Option Nat) (v_taped : Int32) (v_size : Int32) (v_at : Int32) (v_sort : Int32) (v_place : Int32) (v_sign : Int32) (v_number : Int32) (v_fault : Int32) (v_wrongAt : Int32) (v_word : Int64) (v_marks : Int32) (v_notes : Int32) (v_inn_minutes : Int32) (v_inn_rooms : Int32) (v_inn_doors : Int32) (v_inn_things : Int32) (v_inn_dreams : Int32) (v_inn_sleepers : Int32) (v_inn_listeners : Int32) (v_inn_names : Int32) (v_inn_doorA : Nat → Int32) (v_from : Nat → Int32) (v_inn_doorB : Nat → Int32) (v_far : Nat → Int32) : va_W := [(h, .inr (11, [.int v_thrown, .int v_trouble, .int v_where, .ref h_inn, va_rf v_read, .ref h_tape, .int v_taped, .int v_size, .int v_at, .int v_sort, .int v_place, .int v_sign, .int v_number, .int v_fault, .int v_wrongAt, .long v_word, .ref h_far, .ref h_from, .ref h_real, .ref h_other, .ref h_kept, .ref h_set, .ref h_w, .int v_marks, .int v_notes, .ref h_book, .ref h_noteSort, .ref h_whose, .ref h_what, .ref h_noteIs, .ref h_fitting, .ref h_dawn, .ref h_likes, .ref h_walked, .ref h_came])), (h_inn, .inr (10, [.int v_inn_minutes, .int v_inn_rooms, .int v_inn_doors, .int v_inn_things, .int v_inn_dreams, .int v_inn_sleepers, .int v_inn_listeners, .int v_inn_names, .ref h_inn_creak, .ref h_inn_doorA, .ref h_inn_doorB, .ref h_inn_how, .ref h_inn_lies, .ref h_inn_isCold, .ref h_inn_falls, .ref h_inn_isFull, .ref h_inn_isTold, .ref h_inn_act, .ref h_inn_what, .ref h_inn_then, .ref h_inn_met, .ref h_inn_bed, .ref h_inn_dream, .ref h_inn_listens, .ref h_inn_name, .ref h_inn_nameSort, .ref h_inn_nameNumber])), (h_inn_doorA, aI E 10 v_inn_doorA), (h_from, aI E 8 v_from), (h_inn_doorB, aI E 10 v_inn_doorB), (h_far, aI E 64 v_far)]
def BX12_lays_21 (x2_1 : Int32) (v_from_16 : Nat → Int32) (K50 : ((Nat → Int32)) → Option ((Nat → Int32) × (Nat → Int32))) (rec21 : (Int32 × (Nat → Int32)) → Option ((Nat → Int32) × (Nat → Int32))) : (Int32 × (Nat → Int32)) → Option ((Nat → Int32) × (Nat → Int32)) := un2 fun (x21_2 : Int32) (x21_far : Nat → Int32) => if 8 ≤ x21_2 then (K50 x21_far) else (gd x21_2 8 (gd ((8 * x2_1) + x21_2) 64 (rec21 (x21_2 + 1, upd x21_far ((8 * x2_1) + x21_2).toNatClampNeg (v_from_16 x21_2.toNatClampNeg)))))
def BX12_lays_2 (v_inn_rooms : Int32) (N : Nat) (v_inn_doors : Int32) (v_inn_doorA : Nat → Int32) (v_inn_doorB : Nat → Int32) (rec2 : (Int32 × (Nat → Int32) × (Nat → Int32)) → Option ((Nat → Int32) × (Nat → Int32))) : (Int32 × (Nat → Int32) × (Nat → Int32)) → Option ((Nat → Int32) × (Nat → Int32)) := un3 fun (x2_1 : Int32) (x2_from : Nat → Int32) (x2_far : Nat → Int32) => if v_inn_rooms ≤ x2_1 then (some (x2_from, x2_far)) else ((fX12_measures N x2_1 0 v_inn_rooms v_inn_doors v_inn_doorA x2_from v_inn_doorB).bind (un1 fun (v_from_16 : Nat → Int32) => lp (BX12_lays_21 x2_1 v_from_16 (un1 fun (x50_far : Nat → Int32) => rec2 (x2_1 + 1, v_from_16, x50_far))) N (0, x2_far)))
def fX12_lays (N : Nat) (v_inn_rooms : Int32) (v_inn_doors : Int32) (v_inn_doorA : Nat → Int32) (v_from : Nat → Int32) (v_inn_doorB : Nat → Int32) (v_far : Nat → Int32) : Option ((Nat → Int32) × (Nat → Int32)) := lp (BX12_lays_2 v_inn_rooms N v_inn_doors v_inn_doorA v_inn_doorB) N (0, v_from, v_far)
set_option maxHeartbeats 4000000 in
set_option maxRecDepth 100000 in
theorem ctX12_lays (l : Launch) (E : EN) (h h_inn h_tape h_far h_from h_real h_other h_kept h_set h_w h_book h_noteSort h_whose h_what h_noteIs h_fitting h_dawn h_likes h_walked h_came h_inn_creak h_inn_doorA h_inn_doorB h_inn_how h_inn_lies h_inn_isCold h_inn_falls h_inn_isFull h_inn_isTold h_inn_act h_inn_what h_inn_then h_inn_met h_inn_bed h_inn_dream h_inn_listens h_inn_name h_inn_nameSort h_inn_nameNumber : Nat) (v_thrown : Int32) (v_trouble : Int32) (v_where : Int32) (v_read : Option Nat) (v_taped : Int32) (v_size : Int32) (v_at : Int32) (v_sort : Int32) (v_place : Int32) (v_sign : Int32) (v_number : Int32) (v_fault : Int32) (v_wrongAt : Int32) (v_word : Int64) (v_marks : Int32) (v_notes : Int32) (v_inn_minutes : Int32) (v_inn_rooms : Int32) (v_inn_doors : Int32) (v_inn_things : Int32) (v_inn_dreams : Int32) (v_inn_sleepers : Int32) (v_inn_listeners : Int32) (v_inn_names : Int32) (v_inn_doorA : Nat → Int32) (v_from : Nat → Int32) (v_inn_doorB : Nat → Int32) (v_far : Nat → Int32) (N : Nat) (z : (Nat → Int32) × (Nat → Int32)) (hf : fX12_lays N v_inn_rooms v_inn_doors v_inn_doorA v_from v_inn_doorB v_far = some z) : CTv l E yX12_lays cX12_lays 3 2 45 [.ref h] (wX12_lays E h h_inn h_tape h_far h_from h_real h_other h_kept h_set h_w h_book h_noteSort h_whose h_what h_noteIs h_fitting h_dawn h_likes h_walked h_came h_inn_creak h_inn_doorA h_inn_doorB h_inn_how h_inn_lies h_inn_isCold h_inn_falls h_inn_isFull h_inn_isTold h_inn_act h_inn_what h_inn_then h_inn_met h_inn_bed h_inn_dream h_inn_listens h_inn_name h_inn_nameSort h_inn_nameNumber v_thrown v_trouble v_where v_read v_taped v_size v_at v_sort v_place v_sign v_number v_fault v_wrongAt v_word v_marks v_notes v_inn_minutes v_inn_rooms v_inn_doors v_inn_things v_inn_dreams v_inn_sleepers v_inn_listeners v_inn_names v_inn_doorA v_from v_inn_doorB v_far) (wX12_lays E h h_inn h_tape h_far h_from h_real h_other h_kept h_set h_w h_book h_noteSort h_whose h_what h_noteIs h_fitting h_dawn h_likes h_walked h_came h_inn_creak h_inn_doorA h_inn_doorB h_inn_how h_inn_lies h_inn_isCold h_inn_falls h_inn_isFull h_inn_isTold h_inn_act h_inn_what h_inn_then h_inn_met h_inn_bed h_inn_dream h_inn_listens h_inn_name h_inn_nameSort h_inn_nameNumber v_thrown v_trouble v_where v_read v_taped v_size v_at v_sort v_place v_sign v_number v_fault v_wrongAt v_word v_marks v_notes v_inn_minutes v_inn_rooms v_inn_doors v_inn_things v_inn_dreams v_inn_sleepers v_inn_listeners v_inn_names v_inn_doorA z.1 v_inn_doorB z.2) := by
  intro sz
  refine ct_body (by decide) (Nat.le_of_ble_eq_true rfl) ?_
  intro p e s m args below meth c A ls hAe C hr hin hP hD hS hl
  have C : CX p s m args meth c cX12_lays RX12 3 E A := C
  have hl : lv_has ls 3 [(0, .ref h)] := hl
  have hx := C.1
  have hb := C.2.1
  rw [hAe]
  clear hAe
  obtain ⟨Q, hQ⟩ : ∃ Q, Q = MQ below (Qv E A (wX12_lays E h h_inn h_tape h_far h_from h_real h_other h_kept h_set h_w h_book h_noteSort h_whose h_what h_noteIs h_fitting h_dawn h_likes h_walked h_came h_inn_creak h_inn_doorA h_inn_doorB h_inn_how h_inn_lies h_inn_isCold h_inn_falls h_inn_isFull h_inn_isTold h_inn_act h_inn_what h_inn_then h_inn_met h_inn_bed h_inn_dream h_inn_listens h_inn_name h_inn_nameSort h_inn_nameNumber v_thrown v_trouble v_where v_read v_taped v_size v_at v_sort v_place v_sign v_number v_fault v_wrongAt v_word v_marks v_notes v_inn_minutes v_inn_rooms v_inn_doors v_inn_things v_inn_dreams v_inn_sleepers v_inn_listeners v_inn_names v_inn_doorA z.1 v_inn_doorB z.2)) args s 0 0 A := ⟨_, rfl⟩
  rw [← hQ]
  unfold fX12_lays at hf
  refine lv_iconst (pc := 0) (v := 0) hx hb dX12_lays_0 (by decide) ?_
  refine lv_istore_n (pc := 1) (lv' := [(1, .int 0), (0, .ref h)]) hx hb dX12_lays_1 rfl hl (by decide) rfl (fun ls hl => ?_)
  have key2 : ∀ (n : Nat) (x2_1 : Int32) (x2_from : Nat → Int32) (x2_far : Nat → Int32) , lp (BX12_lays_2 v_inn_rooms N v_inn_doors v_inn_doorA v_inn_doorB) n (x2_1, x2_from, x2_far) = some z → AT p l e (rmOf 2 45) s m args below meth c E A Q 0 0 3 [(0, .ref h), (1, .int x2_1)] (wX12_lays E h h_inn h_tape h_far h_from h_real h_other h_kept h_set h_w h_book h_noteSort h_whose h_what h_noteIs h_fitting h_dawn h_likes h_walked h_came h_inn_creak h_inn_doorA h_inn_doorB h_inn_how h_inn_lies h_inn_isCold h_inn_falls h_inn_isFull h_inn_isTold h_inn_act h_inn_what h_inn_then h_inn_met h_inn_bed h_inn_dream h_inn_listens h_inn_name h_inn_nameSort h_inn_nameNumber v_thrown v_trouble v_where v_read v_taped v_size v_at v_sort v_place v_sign v_number v_fault v_wrongAt v_word v_marks v_notes v_inn_minutes v_inn_rooms v_inn_doors v_inn_things v_inn_dreams v_inn_sleepers v_inn_listeners v_inn_names v_inn_doorA x2_from v_inn_doorB x2_far) 2 [] := by
    intro n
    induction n with
    | zero => intro x2_1 x2_from x2_far hf; exact (lp_0 hf).elim
    | succ n ih2 =>
      intro x2_1 x2_from x2_far hf H locs ls hl hP hD hS
      replace hf := lp_s hf
      generalize lp (BX12_lays_2 v_inn_rooms N v_inn_doors v_inn_doorA v_inn_doorB) n = rec2 at ih2 hf
      unfold BX12_lays_2 at hf
      replace hf := un3_s hf
      refine lv_iload_n (pc := 2) hx hb dX12_lays_2 rfl (lv_at hl 1 rfl) ?_
      refine lv_aload_n (pc := 3) hx hb dX12_lays_3 rfl (lv_at hl 0 rfl) ?_
      refine r_get (pc := 4) C hP 0 rfl fl_X12_358 rfl dX12_lays_4 ?_
      refine r_get (pc := 7) C hP 1 rfl fl_X12_244 rfl dX12_lays_7 ?_
      refine lv_icmp_ge (pc := 10) (tgt := 56) hx hb dX12_lays_10 (by decide) (fun c_10 => ?_) (fun c_10 => ?_)
      · replace hf := it_t c_10 hf
        cases hf
        rw [hQ]
        exact r_vret C hr hP hD hS dX12_lays_56
      · replace hf := it_f c_10 hf
        refine lv_aload_n (pc := 13) hx hb dX12_lays_13 rfl (lv_at hl 0 rfl) ?_
        refine lv_iload_n (pc := 14) hx hb dX12_lays_14 rfl (lv_at hl 1 rfl) ?_
        refine lv_iconst (pc := 15) (v := 0) hx hb dX12_lays_15 (by decide) ?_
        obtain ⟨v_from_16, hc_16, hf⟩ := bd1 hf
        refine r_dalVv (pc := 16) (ws' := (wX12_lays E h h_inn h_tape h_far h_from h_real h_other h_kept h_set h_w h_book h_noteSort h_whose h_what h_noteIs h_fitting h_dawn h_likes h_walked h_came h_inn_creak h_inn_doorA h_inn_doorB h_inn_how h_inn_lies h_inn_isCold h_inn_falls h_inn_isFull h_inn_isTold h_inn_act h_inn_what h_inn_then h_inn_met h_inn_bed h_inn_dream h_inn_listens h_inn_name h_inn_nameSort h_inn_nameNumber v_thrown v_trouble v_where v_read v_taped v_size v_at v_sort v_place v_sign v_number v_fault v_wrongAt v_word v_marks v_notes v_inn_minutes v_inn_rooms v_inn_doors v_inn_things v_inn_dreams v_inn_sleepers v_inn_listeners v_inn_names v_inn_doorA v_from_16 v_inn_doorB x2_far)) (As := [.int x2_1, .int 0]) (rest := []) C (ctX12_measures l E h h_inn h_tape h_far h_from h_real h_other h_kept h_set h_w h_book h_noteSort h_whose h_what h_noteIs h_fitting h_dawn h_likes h_walked h_came h_inn_creak h_inn_doorA h_inn_doorB h_inn_how h_inn_lies h_inn_isCold h_inn_falls h_inn_isFull h_inn_isTold h_inn_act h_inn_what h_inn_then h_inn_met h_inn_bed h_inn_dream h_inn_listens h_inn_name h_inn_nameSort h_inn_nameNumber v_thrown v_trouble v_where v_read v_taped v_size v_at v_sort v_place v_sign v_number v_fault v_wrongAt v_word v_marks v_notes v_inn_minutes v_inn_rooms v_inn_doors v_inn_things v_inn_dreams v_inn_sleepers v_inn_listeners v_inn_names v_inn_doorA x2_from v_inn_doorB N x2_1 0 v_from_16 hc_16) ml_X12_376 ⟨Nat.le_of_ble_eq_true rfl, Nat.le_of_ble_eq_true rfl⟩ hP hD hS 0 rfl rfl rfl [0, 1, 2, 3, 4] [6, 7, 8, 9, 10, 5] 6 rfl rfl rfl rfl rfl rfl rfl hl.1 rfl (Nat.le_of_ble_eq_true rfl) ⟨Nat.zero_le _, Nat.zero_le _⟩ dX12_lays_16 ?_
        clear hP hD hS; intro H locs hP hD hS
        refine lv_iconst (pc := 19) (v := 0) hx hb dX12_lays_19 (by decide) ?_
        refine lv_istore_n (pc := 20) (lv' := [(2, .int 0), (0, .ref h), (1, .int x2_1)]) hx hb dX12_lays_20 rfl hl (by decide) rfl (fun ls hl => ?_)
        refine lpK hf (fun K50 eK50 hf => ?_)
        have hK50 : ∀ (x50_far : Nat → Int32) , K50 x50_far = some z → AT p l e (rmOf 2 45) s m args below meth c E A Q 0 0 3 [(0, .ref h), (1, .int x2_1)] (wX12_lays E h h_inn h_tape h_far h_from h_real h_other h_kept h_set h_w h_book h_noteSort h_whose h_what h_noteIs h_fitting h_dawn h_likes h_walked h_came h_inn_creak h_inn_doorA h_inn_doorB h_inn_how h_inn_lies h_inn_isCold h_inn_falls h_inn_isFull h_inn_isTold h_inn_act h_inn_what h_inn_then h_inn_met h_inn_bed h_inn_dream h_inn_listens h_inn_name h_inn_nameSort h_inn_nameNumber v_thrown v_trouble v_where v_read v_taped v_size v_at v_sort v_place v_sign v_number v_fault v_wrongAt v_word v_marks v_notes v_inn_minutes v_inn_rooms v_inn_doors v_inn_things v_inn_dreams v_inn_sleepers v_inn_listeners v_inn_names v_inn_doorA v_from_16 v_inn_doorB x50_far) 50 [] := by
          intro x50_far hf H locs ls hl hP hD hS
          rw [eK50] at hf
          replace hf := un1_s hf
          refine lv_iinc (pc := 50) (v := x2_1 + 1) (lv' := [(1, .int (x2_1 + 1)), (0, .ref h)]) hx hb dX12_lays_50 hl (k := 1) rfl rfl (by decide) rfl (fun ls hl => ?_)
          refine lv_goto (pc := 53) (tgt := 2) hx hb dX12_lays_53 (by decide) ?_
          exact ih2 (x2_1 + 1) v_from_16 x50_far hf _ _ _ (lv_sub hl [1, 0] rfl) hP hD hS
        clear eK50
        have key21 : ∀ (n : Nat) (x21_2 : Int32) (x21_far : Nat → Int32) , lp (BX12_lays_21 x2_1 v_from_16 K50) n (x21_2, x21_far) = some z → AT p l e (rmOf 2 45) s m args below meth c E A Q 0 0 3 [(0, .ref h), (1, .int x2_1), (2, .int x21_2)] (wX12_lays E h h_inn h_tape h_far h_from h_real h_other h_kept h_set h_w h_book h_noteSort h_whose h_what h_noteIs h_fitting h_dawn h_likes h_walked h_came h_inn_creak h_inn_doorA h_inn_doorB h_inn_how h_inn_lies h_inn_isCold h_inn_falls h_inn_isFull h_inn_isTold h_inn_act h_inn_what h_inn_then h_inn_met h_inn_bed h_inn_dream h_inn_listens h_inn_name h_inn_nameSort h_inn_nameNumber v_thrown v_trouble v_where v_read v_taped v_size v_at v_sort v_place v_sign v_number v_fault v_wrongAt v_word v_marks v_notes v_inn_minutes v_inn_rooms v_inn_doors v_inn_things v_inn_dreams v_inn_sleepers v_inn_listeners v_inn_names v_inn_doorA v_from_16 v_inn_doorB x21_far) 21 [] := by
          intro n
          induction n with
          | zero => intro x21_2 x21_far hf; exact (lp_0 hf).elim
          | succ n ih21 =>
            intro x21_2 x21_far hf H locs ls hl hP hD hS
            replace hf := lp_s hf
            generalize lp (BX12_lays_21 x2_1 v_from_16 K50) n = rec21 at ih21 hf
            unfold BX12_lays_21 at hf
            replace hf := un2_s hf
            refine lv_iload_n (pc := 21) hx hb dX12_lays_21 rfl (lv_at hl 2 rfl) ?_
            refine lv_bipush (pc := 22) (v := 8) hx hb dX12_lays_22 (by decide) ?_
            refine lv_icmp_ge (pc := 24) (tgt := 50) hx hb dX12_lays_24 (by decide) (fun c_24 => ?_) (fun c_24 => ?_)
            · replace hf := it_t c_24 hf
              exact hK50 x21_far hf _ _ _ (lv_sub hl [0, 1] rfl) hP hD hS
            · replace hf := it_f c_24 hf
              refine lv_aload_n (pc := 27) hx hb dX12_lays_27 rfl (lv_at hl 0 rfl) ?_
              refine r_get (pc := 28) C hP 0 rfl fl_X12_17 rfl dX12_lays_28 ?_
              refine lv_bipush (pc := 31) (v := 8) hx hb dX12_lays_31 (by decide) ?_
              refine lv_iload_n (pc := 33) hx hb dX12_lays_33 rfl (lv_at hl 1 rfl) ?_
              refine lv_imul (pc := 34) hx hb dX12_lays_34 ?_
              refine lv_iload_n (pc := 35) hx hb dX12_lays_35 rfl (lv_at hl 2 rfl) ?_
              refine lv_iadd (pc := 36) hx hb dX12_lays_36 ?_
              refine lv_aload_n (pc := 37) hx hb dX12_lays_37 rfl (lv_at hl 0 rfl) ?_
              refine r_get (pc := 38) C hP 0 rfl fl_X12_21 rfl dX12_lays_38 ?_
              refine lv_iload_n (pc := 41) hx hb dX12_lays_41 rfl (lv_at hl 2 rfl) ?_
              obtain ⟨hi_42, hf⟩ := gd_s hf
              refine r_iald (pc := 42) C hP 3 rfl hi_42 dX12_lays_42 ?_
              obtain ⟨hi_43, hf⟩ := gd_s hf
              refine r_iast (pc := 43) (ws' := (wX12_lays E h h_inn h_tape h_far h_from h_real h_other h_kept h_set h_w h_book h_noteSort h_whose h_what h_noteIs h_fitting h_dawn h_likes h_walked h_came h_inn_creak h_inn_doorA h_inn_doorB h_inn_how h_inn_lies h_inn_isCold h_inn_falls h_inn_isFull h_inn_isTold h_inn_act h_inn_what h_inn_then h_inn_met h_inn_bed h_inn_dream h_inn_listens h_inn_name h_inn_nameSort h_inn_nameNumber v_thrown v_trouble v_where v_read v_taped v_size v_at v_sort v_place v_sign v_number v_fault v_wrongAt v_word v_marks v_notes v_inn_minutes v_inn_rooms v_inn_doors v_inn_things v_inn_dreams v_inn_sleepers v_inn_listeners v_inn_names v_inn_doorA v_from_16 v_inn_doorB (upd x21_far ((8 * x2_1) + x21_2).toNatClampNeg (v_from_16 x21_2.toNatClampNeg)))) C hP hD hS 5 rfl hi_43 rfl dX12_lays_43 ?_
              clear hP hD hS; intro H locs hP hD hS
              refine lv_iinc (pc := 44) (v := x21_2 + 1) (lv' := [(2, .int (x21_2 + 1)), (0, .ref h), (1, .int x2_1)]) hx hb dX12_lays_44 hl (k := 2) rfl rfl (by decide) rfl (fun ls hl => ?_)
              refine lv_goto (pc := 47) (tgt := 21) hx hb dX12_lays_47 (by decide) ?_
              exact ih21 (x21_2 + 1) (upd x21_far ((8 * x2_1) + x21_2).toNatClampNeg (v_from_16 x21_2.toNatClampNeg)) hf _ _ _ (lv_sub hl [1, 2, 0] rfl) hP hD hS
        exact key21 _ 0 x2_far hf _ _ _ (lv_sub hl [1, 2, 0] rfl) hP hD hS
  exact key2 _ 0 v_from v_far hf _ _ _ (lv_sub hl [1, 0] rfl) hP hD hS
def wX12_fallsNight (E : EN) (h h_inn h_tape h_far h_from h_real h_other h_kept h_set h_w h_book h_noteSort h_whose h_what h_noteIs h_fitting h_dawn h_likes h_walked h_came h_inn_creak h_inn_doorA h_inn_doorB h_inn_how h_inn_lies h_inn_isCold h_inn_falls h_inn_isFull h_inn_isTold h_inn_act h_inn_what h_inn_then h_inn_met h_inn_bed h_inn_dream h_inn_listens h_inn_name h_inn_nameSort h_inn_nameNumber : Nat) (v_thrown : Int32) (v_trouble : Int32) (v_where : Int32) (v_read : Option Nat) (v_taped : Int32) (v_size : Int32) (v_at : Int32) (v_sort : Int32) (v_place : Int32) (v_sign : Int32) (v_number : Int32) (v_fault : Int32) (v_wrongAt : Int32) (v_word : Int64) (v_marks : Int32) (v_notes : Int32) (v_inn_minutes : Int32) (v_inn_rooms : Int32) (v_inn_doors : Int32) (v_inn_things : Int32) (v_inn_dreams : Int32) (v_inn_sleepers : Int32) (v_inn_listeners : Int32) (v_inn_names : Int32) (v_w : Nat → Int32) (v_inn_how : Nat → Int32) (v_inn_lies : Nat → Int32) (v_inn_isFull : Nat → Int32) (v_inn_bed : Nat → Int32) : va_W := [(h, .inr (11, [.int v_thrown, .int v_trouble, .int v_where, .ref h_inn, va_rf v_read, .ref h_tape, .int v_taped, .int v_size, .int v_at, .int v_sort, .int v_place, .int v_sign, .int v_number, .int v_fault, .int v_wrongAt, .long v_word, .ref h_far, .ref h_from, .ref h_real, .ref h_other, .ref h_kept, .ref h_set, .ref h_w, .int v_marks, .int v_notes, .ref h_book, .ref h_noteSort, .ref h_whose, .ref h_what, .ref h_noteIs, .ref h_fitting, .ref h_dawn, .ref h_likes, .ref h_walked, .ref h_came])), (h_inn, .inr (10, [.int v_inn_minutes, .int v_inn_rooms, .int v_inn_doors, .int v_inn_things, .int v_inn_dreams, .int v_inn_sleepers, .int v_inn_listeners, .int v_inn_names, .ref h_inn_creak, .ref h_inn_doorA, .ref h_inn_doorB, .ref h_inn_how, .ref h_inn_lies, .ref h_inn_isCold, .ref h_inn_falls, .ref h_inn_isFull, .ref h_inn_isTold, .ref h_inn_act, .ref h_inn_what, .ref h_inn_then, .ref h_inn_met, .ref h_inn_bed, .ref h_inn_dream, .ref h_inn_listens, .ref h_inn_name, .ref h_inn_nameSort, .ref h_inn_nameNumber])), (h_w, aI E 51 v_w), (h_inn_how, aI E 10 v_inn_how), (h_inn_lies, aI E 4 v_inn_lies), (h_inn_isFull, aZ E 4 v_inn_isFull), (h_inn_bed, aI E 3 v_inn_bed)]
def BX12_fallsNight_144 (v_inn_doors : Int32) (p0 : Int32) (v_inn_how : Nat → Int32) (rec144 : (Int32 × (Nat → Int32)) → Option (Nat → Int32)) : (Int32 × (Nat → Int32)) → Option (Nat → Int32) := un2 fun (x144_2 : Int32) (x144_w : Nat → Int32) => if v_inn_doors ≤ x144_2 then (gd 50 51 (some (upd x144_w (50 : Int32).toNatClampNeg p0))) else (jn (un2 fun (x198_s1 : Int32) (x198_s2 : Int32) => gd x198_s1 51 (rec144 (x144_2 + 1, upd x144_w x198_s1.toNatClampNeg x198_s2))) (fun j198 => if p0 = (1 + (2 * x144_2)) then (j198 (23 + x144_2, 1)) else (if p0 = (2 + (2 * x144_2)) then (j198 (23 + x144_2, 2)) else (gd x144_2 10 (j198 (23 + x144_2, v_inn_how x144_2.toNatClampNeg))))))
def BX12_fallsNight_81 (v_inn_things : Int32) (v_inn_lies : Nat → Int32) (v_inn_isFull : Nat → Int32) (K142 : ((Nat → Int32)) → Option (Nat → Int32)) (rec81 : (Int32 × (Nat → Int32)) → Option (Nat → Int32)) : (Int32 × (Nat → Int32)) → Option (Nat → Int32) := un2 fun (x81_2 : Int32) (x81_w : Nat → Int32) => if v_inn_things ≤ x81_2 then (K142 x81_w) else (gd x81_2 4 (gd (15 + x81_2) 51 (gd x81_2 4 (jn (un2 fun (x135_s1 : Int32) (x135_s2 : Int32) => gd x135_s1 51 (rec81 (x81_2 + 1, upd (upd x81_w (15 + x81_2).toNatClampNeg (v_inn_lies x81_2.toNatClampNeg)) x135_s1.toNatClampNeg x135_s2))) (fun j135 => if (v_inn_isFull x81_2.toNatClampNeg) = 0 then (j135 (19 + x81_2, 0)) else (j135 (19 + x81_2, 1)))))))
def BX12_fallsNight_34 (v_inn_sleepers : Int32) (v_inn_bed : Nat → Int32) (K79 : ((Nat → Int32)) → Option (Nat → Int32)) (rec34 : (Int32 × (Nat → Int32)) → Option (Nat → Int32)) : (Int32 × (Nat → Int32)) → Option (Nat → Int32) := un2 fun (x34_2 : Int32) (x34_w : Nat → Int32) => if v_inn_sleepers ≤ x34_2 then (K79 x34_w) else (gd x34_2 3 (gd (0 + x34_2) 51 (gd (6 + x34_2) 51 (rec34 (x34_2 + 1, upd (upd x34_w (0 + x34_2).toNatClampNeg (v_inn_bed x34_2.toNatClampNeg)) (6 + x34_2).toNatClampNeg (-2))))))
def BX12_fallsNight_2 (N : Nat) (K32 : ((Nat → Int32)) → Option (Nat → Int32)) (rec2 : (Int32 × (Nat → Int32)) → Option (Nat → Int32)) : (Int32 × (Nat → Int32)) → Option (Nat → Int32) := un2 fun (x2_2 : Int32) (x2_w : Nat → Int32) => if 51 ≤ x2_2 then (K32 x2_w) else ((fX12_in N x2_2 12 14).bind (un1 fun (r_13 : Int32) => jn (un1 fun (x26_w : Nat → Int32) => rec2 (x2_2 + 1, x26_w)) (fun j26 => if r_13 = 0 then (gd x2_2 51 (j26 (upd x2_w x2_2.toNatClampNeg 0))) else (j26 x2_w))))
def fX12_fallsNight (N : Nat) (p0 : Int32) (v_inn_doors : Int32) (v_inn_things : Int32) (v_inn_sleepers : Int32) (v_w : Nat → Int32) (v_inn_how : Nat → Int32) (v_inn_lies : Nat → Int32) (v_inn_isFull : Nat → Int32) (v_inn_bed : Nat → Int32) : Option (Nat → Int32) := lp (BX12_fallsNight_2 N (un1 fun (x32_w : Nat → Int32) => lp (BX12_fallsNight_34 v_inn_sleepers v_inn_bed (un1 fun (x79_w : Nat → Int32) => lp (BX12_fallsNight_81 v_inn_things v_inn_lies v_inn_isFull (un1 fun (x142_w : Nat → Int32) => lp (BX12_fallsNight_144 v_inn_doors p0 v_inn_how) N (0, x142_w))) N (0, x79_w))) N (0, x32_w))) N (0, v_w)
set_option maxHeartbeats 4000000 in
set_option maxRecDepth 100000 in
theorem ctX12_fallsNight (l : Launch) (E : EN) (h h_inn h_tape h_far h_from h_real h_other h_kept h_set h_w h_book h_noteSort h_whose h_what h_noteIs h_fitting h_dawn h_likes h_walked h_came h_inn_creak h_inn_doorA h_inn_doorB h_inn_how h_inn_lies h_inn_isCold h_inn_falls h_inn_isFull h_inn_isTold h_inn_act h_inn_what h_inn_then h_inn_met h_inn_bed h_inn_dream h_inn_listens h_inn_name h_inn_nameSort h_inn_nameNumber : Nat) (v_thrown : Int32) (v_trouble : Int32) (v_where : Int32) (v_read : Option Nat) (v_taped : Int32) (v_size : Int32) (v_at : Int32) (v_sort : Int32) (v_place : Int32) (v_sign : Int32) (v_number : Int32) (v_fault : Int32) (v_wrongAt : Int32) (v_word : Int64) (v_marks : Int32) (v_notes : Int32) (v_inn_minutes : Int32) (v_inn_rooms : Int32) (v_inn_doors : Int32) (v_inn_things : Int32) (v_inn_dreams : Int32) (v_inn_sleepers : Int32) (v_inn_listeners : Int32) (v_inn_names : Int32) (v_w : Nat → Int32) (v_inn_how : Nat → Int32) (v_inn_lies : Nat → Int32) (v_inn_isFull : Nat → Int32) (v_inn_bed : Nat → Int32) (N : Nat) (p0 : Int32) (z : Nat → Int32) (hf : fX12_fallsNight N p0 v_inn_doors v_inn_things v_inn_sleepers v_w v_inn_how v_inn_lies v_inn_isFull v_inn_bed = some z) : CTv l E yX12_fallsNight cX12_fallsNight 3 1 22 [.ref h, .int p0] (wX12_fallsNight E h h_inn h_tape h_far h_from h_real h_other h_kept h_set h_w h_book h_noteSort h_whose h_what h_noteIs h_fitting h_dawn h_likes h_walked h_came h_inn_creak h_inn_doorA h_inn_doorB h_inn_how h_inn_lies h_inn_isCold h_inn_falls h_inn_isFull h_inn_isTold h_inn_act h_inn_what h_inn_then h_inn_met h_inn_bed h_inn_dream h_inn_listens h_inn_name h_inn_nameSort h_inn_nameNumber v_thrown v_trouble v_where v_read v_taped v_size v_at v_sort v_place v_sign v_number v_fault v_wrongAt v_word v_marks v_notes v_inn_minutes v_inn_rooms v_inn_doors v_inn_things v_inn_dreams v_inn_sleepers v_inn_listeners v_inn_names v_w v_inn_how v_inn_lies v_inn_isFull v_inn_bed) (wX12_fallsNight E h h_inn h_tape h_far h_from h_real h_other h_kept h_set h_w h_book h_noteSort h_whose h_what h_noteIs h_fitting h_dawn h_likes h_walked h_came h_inn_creak h_inn_doorA h_inn_doorB h_inn_how h_inn_lies h_inn_isCold h_inn_falls h_inn_isFull h_inn_isTold h_inn_act h_inn_what h_inn_then h_inn_met h_inn_bed h_inn_dream h_inn_listens h_inn_name h_inn_nameSort h_inn_nameNumber v_thrown v_trouble v_where v_read v_taped v_size v_at v_sort v_place v_sign v_number v_fault v_wrongAt v_word v_marks v_notes v_inn_minutes v_inn_rooms v_inn_doors v_inn_things v_inn_dreams v_inn_sleepers v_inn_listeners v_inn_names z v_inn_how v_inn_lies v_inn_isFull v_inn_bed) := by
  intro sz
  refine ct_body (by decide) (Nat.le_of_ble_eq_true rfl) ?_
  intro p e s m args below meth c A ls hAe C hr hin hP hD hS hl
  have C : CX p s m args meth c cX12_fallsNight RX12 3 E A := C
  have hl : lv_has ls 3 [(0, .ref h), (1, .int p0)] := hl
  have hx := C.1
  have hb := C.2.1
  rw [hAe]
  clear hAe
  obtain ⟨Q, hQ⟩ : ∃ Q, Q = MQ below (Qv E A (wX12_fallsNight E h h_inn h_tape h_far h_from h_real h_other h_kept h_set h_w h_book h_noteSort h_whose h_what h_noteIs h_fitting h_dawn h_likes h_walked h_came h_inn_creak h_inn_doorA h_inn_doorB h_inn_how h_inn_lies h_inn_isCold h_inn_falls h_inn_isFull h_inn_isTold h_inn_act h_inn_what h_inn_then h_inn_met h_inn_bed h_inn_dream h_inn_listens h_inn_name h_inn_nameSort h_inn_nameNumber v_thrown v_trouble v_where v_read v_taped v_size v_at v_sort v_place v_sign v_number v_fault v_wrongAt v_word v_marks v_notes v_inn_minutes v_inn_rooms v_inn_doors v_inn_things v_inn_dreams v_inn_sleepers v_inn_listeners v_inn_names z v_inn_how v_inn_lies v_inn_isFull v_inn_bed)) args s 0 0 A := ⟨_, rfl⟩
  rw [← hQ]
  unfold fX12_fallsNight at hf
  refine lv_iconst (pc := 0) (v := 0) hx hb dX12_fallsNight_0 (by decide) ?_
  refine lv_istore_n (pc := 1) (lv' := [(2, .int 0), (0, .ref h), (1, .int p0)]) hx hb dX12_fallsNight_1 rfl hl (by decide) rfl (fun ls hl => ?_)
  refine lpK hf (fun K32 eK32 hf => ?_)
  have hK32 : ∀ (x32_w : Nat → Int32) , K32 x32_w = some z → AT p l e (rmOf 1 22) s m args below meth c E A Q 0 0 3 [(0, .ref h), (1, .int p0)] (wX12_fallsNight E h h_inn h_tape h_far h_from h_real h_other h_kept h_set h_w h_book h_noteSort h_whose h_what h_noteIs h_fitting h_dawn h_likes h_walked h_came h_inn_creak h_inn_doorA h_inn_doorB h_inn_how h_inn_lies h_inn_isCold h_inn_falls h_inn_isFull h_inn_isTold h_inn_act h_inn_what h_inn_then h_inn_met h_inn_bed h_inn_dream h_inn_listens h_inn_name h_inn_nameSort h_inn_nameNumber v_thrown v_trouble v_where v_read v_taped v_size v_at v_sort v_place v_sign v_number v_fault v_wrongAt v_word v_marks v_notes v_inn_minutes v_inn_rooms v_inn_doors v_inn_things v_inn_dreams v_inn_sleepers v_inn_listeners v_inn_names x32_w v_inn_how v_inn_lies v_inn_isFull v_inn_bed) 32 [] := by
    intro x32_w hf H locs ls hl hP hD hS
    rw [eK32] at hf
    replace hf := un1_s hf
    refine lv_iconst (pc := 32) (v := 0) hx hb dX12_fallsNight_32 (by decide) ?_
    refine lv_istore_n (pc := 33) (lv' := [(2, .int 0), (0, .ref h), (1, .int p0)]) hx hb dX12_fallsNight_33 rfl hl (by decide) rfl (fun ls hl => ?_)
    refine lpK hf (fun K79 eK79 hf => ?_)
    have hK79 : ∀ (x79_w : Nat → Int32) , K79 x79_w = some z → AT p l e (rmOf 1 22) s m args below meth c E A Q 0 0 3 [(0, .ref h), (1, .int p0)] (wX12_fallsNight E h h_inn h_tape h_far h_from h_real h_other h_kept h_set h_w h_book h_noteSort h_whose h_what h_noteIs h_fitting h_dawn h_likes h_walked h_came h_inn_creak h_inn_doorA h_inn_doorB h_inn_how h_inn_lies h_inn_isCold h_inn_falls h_inn_isFull h_inn_isTold h_inn_act h_inn_what h_inn_then h_inn_met h_inn_bed h_inn_dream h_inn_listens h_inn_name h_inn_nameSort h_inn_nameNumber v_thrown v_trouble v_where v_read v_taped v_size v_at v_sort v_place v_sign v_number v_fault v_wrongAt v_word v_marks v_notes v_inn_minutes v_inn_rooms v_inn_doors v_inn_things v_inn_dreams v_inn_sleepers v_inn_listeners v_inn_names x79_w v_inn_how v_inn_lies v_inn_isFull v_inn_bed) 79 [] := by
      intro x79_w hf H locs ls hl hP hD hS
      rw [eK79] at hf
      replace hf := un1_s hf
      refine lv_iconst (pc := 79) (v := 0) hx hb dX12_fallsNight_79 (by decide) ?_
      refine lv_istore_n (pc := 80) (lv' := [(2, .int 0), (0, .ref h), (1, .int p0)]) hx hb dX12_fallsNight_80 rfl hl (by decide) rfl (fun ls hl => ?_)
      refine lpK hf (fun K142 eK142 hf => ?_)
      have hK142 : ∀ (x142_w : Nat → Int32) , K142 x142_w = some z → AT p l e (rmOf 1 22) s m args below meth c E A Q 0 0 3 [(0, .ref h), (1, .int p0)] (wX12_fallsNight E h h_inn h_tape h_far h_from h_real h_other h_kept h_set h_w h_book h_noteSort h_whose h_what h_noteIs h_fitting h_dawn h_likes h_walked h_came h_inn_creak h_inn_doorA h_inn_doorB h_inn_how h_inn_lies h_inn_isCold h_inn_falls h_inn_isFull h_inn_isTold h_inn_act h_inn_what h_inn_then h_inn_met h_inn_bed h_inn_dream h_inn_listens h_inn_name h_inn_nameSort h_inn_nameNumber v_thrown v_trouble v_where v_read v_taped v_size v_at v_sort v_place v_sign v_number v_fault v_wrongAt v_word v_marks v_notes v_inn_minutes v_inn_rooms v_inn_doors v_inn_things v_inn_dreams v_inn_sleepers v_inn_listeners v_inn_names x142_w v_inn_how v_inn_lies v_inn_isFull v_inn_bed) 142 [] := by
        intro x142_w hf H locs ls hl hP hD hS
        rw [eK142] at hf
        replace hf := un1_s hf
        refine lv_iconst (pc := 142) (v := 0) hx hb dX12_fallsNight_142 (by decide) ?_
        refine lv_istore_n (pc := 143) (lv' := [(2, .int 0), (0, .ref h), (1, .int p0)]) hx hb dX12_fallsNight_143 rfl hl (by decide) rfl (fun ls hl => ?_)
        have key144 : ∀ (n : Nat) (x144_2 : Int32) (x144_w : Nat → Int32) , lp (BX12_fallsNight_144 v_inn_doors p0 v_inn_how) n (x144_2, x144_w) = some z → AT p l e (rmOf 1 22) s m args below meth c E A Q 0 0 3 [(0, .ref h), (1, .int p0), (2, .int x144_2)] (wX12_fallsNight E h h_inn h_tape h_far h_from h_real h_other h_kept h_set h_w h_book h_noteSort h_whose h_what h_noteIs h_fitting h_dawn h_likes h_walked h_came h_inn_creak h_inn_doorA h_inn_doorB h_inn_how h_inn_lies h_inn_isCold h_inn_falls h_inn_isFull h_inn_isTold h_inn_act h_inn_what h_inn_then h_inn_met h_inn_bed h_inn_dream h_inn_listens h_inn_name h_inn_nameSort h_inn_nameNumber v_thrown v_trouble v_where v_read v_taped v_size v_at v_sort v_place v_sign v_number v_fault v_wrongAt v_word v_marks v_notes v_inn_minutes v_inn_rooms v_inn_doors v_inn_things v_inn_dreams v_inn_sleepers v_inn_listeners v_inn_names x144_w v_inn_how v_inn_lies v_inn_isFull v_inn_bed) 144 [] := by
          intro n
          induction n with
          | zero => intro x144_2 x144_w hf; exact (lp_0 hf).elim
          | succ n ih144 =>
            intro x144_2 x144_w hf H locs ls hl hP hD hS
            replace hf := lp_s hf
            generalize lp (BX12_fallsNight_144 v_inn_doors p0 v_inn_how) n = rec144 at ih144 hf
            unfold BX12_fallsNight_144 at hf
            replace hf := un2_s hf
            refine lv_iload_n (pc := 144) hx hb dX12_fallsNight_144 rfl (lv_at hl 2 rfl) ?_
            refine lv_aload_n (pc := 145) hx hb dX12_fallsNight_145 rfl (lv_at hl 0 rfl) ?_
            refine r_get (pc := 146) C hP 0 rfl fl_X12_358 rfl dX12_fallsNight_146 ?_
            refine r_get (pc := 149) C hP 1 rfl fl_X12_292 rfl dX12_fallsNight_149 ?_
            refine lv_icmp_ge (pc := 152) (tgt := 205) hx hb dX12_fallsNight_152 (by decide) (fun c_152 => ?_) (fun c_152 => ?_)
            · replace hf := it_t c_152 hf
              refine lv_aload_n (pc := 205) hx hb dX12_fallsNight_205 rfl (lv_at hl 0 rfl) ?_
              refine r_get (pc := 206) C hP 0 rfl fl_X12_36 rfl dX12_fallsNight_206 ?_
              refine lv_bipush (pc := 209) (v := 50) hx hb dX12_fallsNight_209 (by decide) ?_
              refine lv_iload_n (pc := 211) hx hb dX12_fallsNight_211 rfl (lv_at hl 1 rfl) ?_
              obtain ⟨hi_212, hf⟩ := gd_s hf
              refine r_iast (pc := 212) (ws' := (wX12_fallsNight E h h_inn h_tape h_far h_from h_real h_other h_kept h_set h_w h_book h_noteSort h_whose h_what h_noteIs h_fitting h_dawn h_likes h_walked h_came h_inn_creak h_inn_doorA h_inn_doorB h_inn_how h_inn_lies h_inn_isCold h_inn_falls h_inn_isFull h_inn_isTold h_inn_act h_inn_what h_inn_then h_inn_met h_inn_bed h_inn_dream h_inn_listens h_inn_name h_inn_nameSort h_inn_nameNumber v_thrown v_trouble v_where v_read v_taped v_size v_at v_sort v_place v_sign v_number v_fault v_wrongAt v_word v_marks v_notes v_inn_minutes v_inn_rooms v_inn_doors v_inn_things v_inn_dreams v_inn_sleepers v_inn_listeners v_inn_names (upd x144_w (50 : Int32).toNatClampNeg p0) v_inn_how v_inn_lies v_inn_isFull v_inn_bed)) C hP hD hS 2 rfl hi_212 rfl dX12_fallsNight_212 ?_
              clear hP hD hS; intro H locs hP hD hS
              cases hf
              rw [hQ]
              exact r_vret C hr hP hD hS dX12_fallsNight_213
            · replace hf := it_f c_152 hf
              refine lv_aload_n (pc := 155) hx hb dX12_fallsNight_155 rfl (lv_at hl 0 rfl) ?_
              refine r_get (pc := 156) C hP 0 rfl fl_X12_36 rfl dX12_fallsNight_156 ?_
              refine lv_bipush (pc := 159) (v := 23) hx hb dX12_fallsNight_159 (by decide) ?_
              refine lv_iload_n (pc := 161) hx hb dX12_fallsNight_161 rfl (lv_at hl 2 rfl) ?_
              refine lv_iadd (pc := 162) hx hb dX12_fallsNight_162 ?_
              refine lv_iload_n (pc := 163) hx hb dX12_fallsNight_163 rfl (lv_at hl 1 rfl) ?_
              refine lv_iconst (pc := 164) (v := 1) hx hb dX12_fallsNight_164 (by decide) ?_
              refine lv_iconst (pc := 165) (v := 2) hx hb dX12_fallsNight_165 (by decide) ?_
              refine lv_iload_n (pc := 166) hx hb dX12_fallsNight_166 rfl (lv_at hl 2 rfl) ?_
              refine lv_imul (pc := 167) hx hb dX12_fallsNight_167 ?_
              refine lv_iadd (pc := 168) hx hb dX12_fallsNight_168 ?_
              refine jnK hf (fun j198 ej198 hf => ?_)
              have hj198 : ∀ (x198_s1 : Int32) (x198_s2 : Int32) , j198 (x198_s1, x198_s2) = some z → AT p l e (rmOf 1 22) s m args below meth c E A Q 0 0 3 [(0, .ref h), (1, .int p0), (2, .int x144_2)] (wX12_fallsNight E h h_inn h_tape h_far h_from h_real h_other h_kept h_set h_w h_book h_noteSort h_whose h_what h_noteIs h_fitting h_dawn h_likes h_walked h_came h_inn_creak h_inn_doorA h_inn_doorB h_inn_how h_inn_lies h_inn_isCold h_inn_falls h_inn_isFull h_inn_isTold h_inn_act h_inn_what h_inn_then h_inn_met h_inn_bed h_inn_dream h_inn_listens h_inn_name h_inn_nameSort h_inn_nameNumber v_thrown v_trouble v_where v_read v_taped v_size v_at v_sort v_place v_sign v_number v_fault v_wrongAt v_word v_marks v_notes v_inn_minutes v_inn_rooms v_inn_doors v_inn_things v_inn_dreams v_inn_sleepers v_inn_listeners v_inn_names x144_w v_inn_how v_inn_lies v_inn_isFull v_inn_bed) 198 [.int x198_s2, .int x198_s1, .ref h_w] := by
                intro x198_s1 x198_s2 hf H locs ls hl hP hD hS
                rw [ej198] at hf
                replace hf := un2_s hf
                obtain ⟨hi_198, hf⟩ := gd_s hf
                refine r_iast (pc := 198) (ws' := (wX12_fallsNight E h h_inn h_tape h_far h_from h_real h_other h_kept h_set h_w h_book h_noteSort h_whose h_what h_noteIs h_fitting h_dawn h_likes h_walked h_came h_inn_creak h_inn_doorA h_inn_doorB h_inn_how h_inn_lies h_inn_isCold h_inn_falls h_inn_isFull h_inn_isTold h_inn_act h_inn_what h_inn_then h_inn_met h_inn_bed h_inn_dream h_inn_listens h_inn_name h_inn_nameSort h_inn_nameNumber v_thrown v_trouble v_where v_read v_taped v_size v_at v_sort v_place v_sign v_number v_fault v_wrongAt v_word v_marks v_notes v_inn_minutes v_inn_rooms v_inn_doors v_inn_things v_inn_dreams v_inn_sleepers v_inn_listeners v_inn_names (upd x144_w x198_s1.toNatClampNeg x198_s2) v_inn_how v_inn_lies v_inn_isFull v_inn_bed)) C hP hD hS 2 rfl hi_198 rfl dX12_fallsNight_198 ?_
                clear hP hD hS; intro H locs hP hD hS
                refine lv_iinc (pc := 199) (v := x144_2 + 1) (lv' := [(2, .int (x144_2 + 1)), (0, .ref h), (1, .int p0)]) hx hb dX12_fallsNight_199 hl (k := 2) rfl rfl (by decide) rfl (fun ls hl => ?_)
                refine lv_goto (pc := 202) (tgt := 144) hx hb dX12_fallsNight_202 (by decide) ?_
                exact ih144 (x144_2 + 1) (upd x144_w x198_s1.toNatClampNeg x198_s2) hf _ _ _ (lv_sub hl [1, 2, 0] rfl) hP hD hS
              clear ej198
              refine lv_icmp_ne (pc := 169) (tgt := 176) hx hb dX12_fallsNight_169 (by decide) (fun c_169 => ?_) (fun c_169 => ?_)
              · replace hf := it_f c_169 hf
                refine lv_iload_n (pc := 176) hx hb dX12_fallsNight_176 rfl (lv_at hl 1 rfl) ?_
                refine lv_iconst (pc := 177) (v := 2) hx hb dX12_fallsNight_177 (by decide) ?_
                refine lv_iconst (pc := 178) (v := 2) hx hb dX12_fallsNight_178 (by decide) ?_
                refine lv_iload_n (pc := 179) hx hb dX12_fallsNight_179 rfl (lv_at hl 2 rfl) ?_
                refine lv_imul (pc := 180) hx hb dX12_fallsNight_180 ?_
                refine lv_iadd (pc := 181) hx hb dX12_fallsNight_181 ?_
                refine lv_icmp_ne (pc := 182) (tgt := 189) hx hb dX12_fallsNight_182 (by decide) (fun c_182 => ?_) (fun c_182 => ?_)
                · replace hf := it_f c_182 hf
                  refine lv_aload_n (pc := 189) hx hb dX12_fallsNight_189 rfl (lv_at hl 0 rfl) ?_
                  refine r_get (pc := 190) C hP 0 rfl fl_X12_358 rfl dX12_fallsNight_190 ?_
                  refine r_get (pc := 193) C hP 1 rfl fl_X12_310 rfl dX12_fallsNight_193 ?_
                  refine lv_iload_n (pc := 196) hx hb dX12_fallsNight_196 rfl (lv_at hl 2 rfl) ?_
                  obtain ⟨hi_197, hf⟩ := gd_s hf
                  refine r_iald (pc := 197) C hP 3 rfl hi_197 dX12_fallsNight_197 ?_
                  exact hj198 (23 + x144_2) (v_inn_how x144_2.toNatClampNeg) hf _ _ _ (lv_sub hl [0, 1, 2] rfl) hP hD hS
                · replace hf := it_t c_182 hf
                  refine lv_iconst (pc := 185) (v := 2) hx hb dX12_fallsNight_185 (by decide) ?_
                  refine lv_goto (pc := 186) (tgt := 198) hx hb dX12_fallsNight_186 (by decide) ?_
                  exact hj198 (23 + x144_2) 2 hf _ _ _ (lv_sub hl [0, 1, 2] rfl) hP hD hS
              · replace hf := it_t c_169 hf
                refine lv_iconst (pc := 172) (v := 1) hx hb dX12_fallsNight_172 (by decide) ?_
                refine lv_goto (pc := 173) (tgt := 198) hx hb dX12_fallsNight_173 (by decide) ?_
                exact hj198 (23 + x144_2) 1 hf _ _ _ (lv_sub hl [0, 1, 2] rfl) hP hD hS
        exact key144 _ 0 x142_w hf _ _ _ (lv_sub hl [1, 2, 0] rfl) hP hD hS
      clear eK142
      have key81 : ∀ (n : Nat) (x81_2 : Int32) (x81_w : Nat → Int32) , lp (BX12_fallsNight_81 v_inn_things v_inn_lies v_inn_isFull K142) n (x81_2, x81_w) = some z → AT p l e (rmOf 1 22) s m args below meth c E A Q 0 0 3 [(0, .ref h), (1, .int p0), (2, .int x81_2)] (wX12_fallsNight E h h_inn h_tape h_far h_from h_real h_other h_kept h_set h_w h_book h_noteSort h_whose h_what h_noteIs h_fitting h_dawn h_likes h_walked h_came h_inn_creak h_inn_doorA h_inn_doorB h_inn_how h_inn_lies h_inn_isCold h_inn_falls h_inn_isFull h_inn_isTold h_inn_act h_inn_what h_inn_then h_inn_met h_inn_bed h_inn_dream h_inn_listens h_inn_name h_inn_nameSort h_inn_nameNumber v_thrown v_trouble v_where v_read v_taped v_size v_at v_sort v_place v_sign v_number v_fault v_wrongAt v_word v_marks v_notes v_inn_minutes v_inn_rooms v_inn_doors v_inn_things v_inn_dreams v_inn_sleepers v_inn_listeners v_inn_names x81_w v_inn_how v_inn_lies v_inn_isFull v_inn_bed) 81 [] := by
        intro n
        induction n with
        | zero => intro x81_2 x81_w hf; exact (lp_0 hf).elim
        | succ n ih81 =>
          intro x81_2 x81_w hf H locs ls hl hP hD hS
          replace hf := lp_s hf
          generalize lp (BX12_fallsNight_81 v_inn_things v_inn_lies v_inn_isFull K142) n = rec81 at ih81 hf
          unfold BX12_fallsNight_81 at hf
          replace hf := un2_s hf
          refine lv_iload_n (pc := 81) hx hb dX12_fallsNight_81 rfl (lv_at hl 2 rfl) ?_
          refine lv_aload_n (pc := 82) hx hb dX12_fallsNight_82 rfl (lv_at hl 0 rfl) ?_
          refine r_get (pc := 83) C hP 0 rfl fl_X12_358 rfl dX12_fallsNight_83 ?_
          refine r_get (pc := 86) C hP 1 rfl fl_X12_315 rfl dX12_fallsNight_86 ?_
          refine lv_icmp_ge (pc := 89) (tgt := 142) hx hb dX12_fallsNight_89 (by decide) (fun c_89 => ?_) (fun c_89 => ?_)
          · replace hf := it_t c_89 hf
            exact hK142 x81_w hf _ _ _ (lv_sub hl [0, 1] rfl) hP hD hS
          · replace hf := it_f c_89 hf
            refine lv_aload_n (pc := 92) hx hb dX12_fallsNight_92 rfl (lv_at hl 0 rfl) ?_
            refine r_get (pc := 93) C hP 0 rfl fl_X12_36 rfl dX12_fallsNight_93 ?_
            refine lv_bipush (pc := 96) (v := 15) hx hb dX12_fallsNight_96 (by decide) ?_
            refine lv_iload_n (pc := 98) hx hb dX12_fallsNight_98 rfl (lv_at hl 2 rfl) ?_
            refine lv_iadd (pc := 99) hx hb dX12_fallsNight_99 ?_
            refine lv_aload_n (pc := 100) hx hb dX12_fallsNight_100 rfl (lv_at hl 0 rfl) ?_
            refine r_get (pc := 101) C hP 0 rfl fl_X12_358 rfl dX12_fallsNight_101 ?_
            refine r_get (pc := 104) C hP 1 rfl fl_X12_319 rfl dX12_fallsNight_104 ?_
            refine lv_iload_n (pc := 107) hx hb dX12_fallsNight_107 rfl (lv_at hl 2 rfl) ?_
            obtain ⟨hi_108, hf⟩ := gd_s hf
            refine r_iald (pc := 108) C hP 4 rfl hi_108 dX12_fallsNight_108 ?_
            obtain ⟨hi_109, hf⟩ := gd_s hf
            refine r_iast (pc := 109) (ws' := (wX12_fallsNight E h h_inn h_tape h_far h_from h_real h_other h_kept h_set h_w h_book h_noteSort h_whose h_what h_noteIs h_fitting h_dawn h_likes h_walked h_came h_inn_creak h_inn_doorA h_inn_doorB h_inn_how h_inn_lies h_inn_isCold h_inn_falls h_inn_isFull h_inn_isTold h_inn_act h_inn_what h_inn_then h_inn_met h_inn_bed h_inn_dream h_inn_listens h_inn_name h_inn_nameSort h_inn_nameNumber v_thrown v_trouble v_where v_read v_taped v_size v_at v_sort v_place v_sign v_number v_fault v_wrongAt v_word v_marks v_notes v_inn_minutes v_inn_rooms v_inn_doors v_inn_things v_inn_dreams v_inn_sleepers v_inn_listeners v_inn_names (upd x81_w (15 + x81_2).toNatClampNeg (v_inn_lies x81_2.toNatClampNeg)) v_inn_how v_inn_lies v_inn_isFull v_inn_bed)) C hP hD hS 2 rfl hi_109 rfl dX12_fallsNight_109 ?_
            clear hP hD hS; intro H locs hP hD hS
            refine lv_aload_n (pc := 110) hx hb dX12_fallsNight_110 rfl (lv_at hl 0 rfl) ?_
            refine r_get (pc := 111) C hP 0 rfl fl_X12_36 rfl dX12_fallsNight_111 ?_
            refine lv_bipush (pc := 114) (v := 19) hx hb dX12_fallsNight_114 (by decide) ?_
            refine lv_iload_n (pc := 116) hx hb dX12_fallsNight_116 rfl (lv_at hl 2 rfl) ?_
            refine lv_iadd (pc := 117) hx hb dX12_fallsNight_117 ?_
            refine lv_aload_n (pc := 118) hx hb dX12_fallsNight_118 rfl (lv_at hl 0 rfl) ?_
            refine r_get (pc := 119) C hP 0 rfl fl_X12_358 rfl dX12_fallsNight_119 ?_
            refine r_get (pc := 122) C hP 1 rfl fl_X12_322 rfl dX12_fallsNight_122 ?_
            refine lv_iload_n (pc := 125) hx hb dX12_fallsNight_125 rfl (lv_at hl 2 rfl) ?_
            obtain ⟨hi_126, hf⟩ := gd_s hf
            refine r_zald (pc := 126) C hP 5 rfl hi_126 dX12_fallsNight_126 ?_
            refine jnK hf (fun j135 ej135 hf => ?_)
            have hj135 : ∀ (x135_s1 : Int32) (x135_s2 : Int32) , j135 (x135_s1, x135_s2) = some z → AT p l e (rmOf 1 22) s m args below meth c E A Q 0 0 3 [(0, .ref h), (1, .int p0), (2, .int x81_2)] (wX12_fallsNight E h h_inn h_tape h_far h_from h_real h_other h_kept h_set h_w h_book h_noteSort h_whose h_what h_noteIs h_fitting h_dawn h_likes h_walked h_came h_inn_creak h_inn_doorA h_inn_doorB h_inn_how h_inn_lies h_inn_isCold h_inn_falls h_inn_isFull h_inn_isTold h_inn_act h_inn_what h_inn_then h_inn_met h_inn_bed h_inn_dream h_inn_listens h_inn_name h_inn_nameSort h_inn_nameNumber v_thrown v_trouble v_where v_read v_taped v_size v_at v_sort v_place v_sign v_number v_fault v_wrongAt v_word v_marks v_notes v_inn_minutes v_inn_rooms v_inn_doors v_inn_things v_inn_dreams v_inn_sleepers v_inn_listeners v_inn_names (upd x81_w (15 + x81_2).toNatClampNeg (v_inn_lies x81_2.toNatClampNeg)) v_inn_how v_inn_lies v_inn_isFull v_inn_bed) 135 [.int x135_s2, .int x135_s1, .ref h_w] := by
              intro x135_s1 x135_s2 hf H locs ls hl hP hD hS
              rw [ej135] at hf
              replace hf := un2_s hf
              obtain ⟨hi_135, hf⟩ := gd_s hf
              refine r_iast (pc := 135) (ws' := (wX12_fallsNight E h h_inn h_tape h_far h_from h_real h_other h_kept h_set h_w h_book h_noteSort h_whose h_what h_noteIs h_fitting h_dawn h_likes h_walked h_came h_inn_creak h_inn_doorA h_inn_doorB h_inn_how h_inn_lies h_inn_isCold h_inn_falls h_inn_isFull h_inn_isTold h_inn_act h_inn_what h_inn_then h_inn_met h_inn_bed h_inn_dream h_inn_listens h_inn_name h_inn_nameSort h_inn_nameNumber v_thrown v_trouble v_where v_read v_taped v_size v_at v_sort v_place v_sign v_number v_fault v_wrongAt v_word v_marks v_notes v_inn_minutes v_inn_rooms v_inn_doors v_inn_things v_inn_dreams v_inn_sleepers v_inn_listeners v_inn_names (upd (upd x81_w (15 + x81_2).toNatClampNeg (v_inn_lies x81_2.toNatClampNeg)) x135_s1.toNatClampNeg x135_s2) v_inn_how v_inn_lies v_inn_isFull v_inn_bed)) C hP hD hS 2 rfl hi_135 rfl dX12_fallsNight_135 ?_
              clear hP hD hS; intro H locs hP hD hS
              refine lv_iinc (pc := 136) (v := x81_2 + 1) (lv' := [(2, .int (x81_2 + 1)), (0, .ref h), (1, .int p0)]) hx hb dX12_fallsNight_136 hl (k := 2) rfl rfl (by decide) rfl (fun ls hl => ?_)
              refine lv_goto (pc := 139) (tgt := 81) hx hb dX12_fallsNight_139 (by decide) ?_
              exact ih81 (x81_2 + 1) (upd (upd x81_w (15 + x81_2).toNatClampNeg (v_inn_lies x81_2.toNatClampNeg)) x135_s1.toNatClampNeg x135_s2) hf _ _ _ (lv_sub hl [1, 2, 0] rfl) hP hD hS
            clear ej135
            refine lv_if_eq (pc := 127) (tgt := 134) hx hb dX12_fallsNight_127 (by decide) (fun c_127 => ?_) (fun c_127 => ?_)
            · replace hf := it_t c_127 hf
              refine lv_iconst (pc := 134) (v := 0) hx hb dX12_fallsNight_134 (by decide) ?_
              exact hj135 (19 + x81_2) 0 hf _ _ _ (lv_sub hl [0, 1, 2] rfl) hP hD hS
            · replace hf := it_f c_127 hf
              refine lv_iconst (pc := 130) (v := 1) hx hb dX12_fallsNight_130 (by decide) ?_
              refine lv_goto (pc := 131) (tgt := 135) hx hb dX12_fallsNight_131 (by decide) ?_
              exact hj135 (19 + x81_2) 1 hf _ _ _ (lv_sub hl [0, 1, 2] rfl) hP hD hS
      exact key81 _ 0 x79_w hf _ _ _ (lv_sub hl [1, 2, 0] rfl) hP hD hS
    clear eK79
    have key34 : ∀ (n : Nat) (x34_2 : Int32) (x34_w : Nat → Int32) , lp (BX12_fallsNight_34 v_inn_sleepers v_inn_bed K79) n (x34_2, x34_w) = some z → AT p l e (rmOf 1 22) s m args below meth c E A Q 0 0 3 [(0, .ref h), (1, .int p0), (2, .int x34_2)] (wX12_fallsNight E h h_inn h_tape h_far h_from h_real h_other h_kept h_set h_w h_book h_noteSort h_whose h_what h_noteIs h_fitting h_dawn h_likes h_walked h_came h_inn_creak h_inn_doorA h_inn_doorB h_inn_how h_inn_lies h_inn_isCold h_inn_falls h_inn_isFull h_inn_isTold h_inn_act h_inn_what h_inn_then h_inn_met h_inn_bed h_inn_dream h_inn_listens h_inn_name h_inn_nameSort h_inn_nameNumber v_thrown v_trouble v_where v_read v_taped v_size v_at v_sort v_place v_sign v_number v_fault v_wrongAt v_word v_marks v_notes v_inn_minutes v_inn_rooms v_inn_doors v_inn_things v_inn_dreams v_inn_sleepers v_inn_listeners v_inn_names x34_w v_inn_how v_inn_lies v_inn_isFull v_inn_bed) 34 [] := by
      intro n
      induction n with
      | zero => intro x34_2 x34_w hf; exact (lp_0 hf).elim
      | succ n ih34 =>
        intro x34_2 x34_w hf H locs ls hl hP hD hS
        replace hf := lp_s hf
        generalize lp (BX12_fallsNight_34 v_inn_sleepers v_inn_bed K79) n = rec34 at ih34 hf
        unfold BX12_fallsNight_34 at hf
        replace hf := un2_s hf
        refine lv_iload_n (pc := 34) hx hb dX12_fallsNight_34 rfl (lv_at hl 2 rfl) ?_
        refine lv_aload_n (pc := 35) hx hb dX12_fallsNight_35 rfl (lv_at hl 0 rfl) ?_
        refine r_get (pc := 36) C hP 0 rfl fl_X12_358 rfl dX12_fallsNight_36 ?_
        refine r_get (pc := 39) C hP 1 rfl fl_X12_247 rfl dX12_fallsNight_39 ?_
        refine lv_icmp_ge (pc := 42) (tgt := 79) hx hb dX12_fallsNight_42 (by decide) (fun c_42 => ?_) (fun c_42 => ?_)
        · replace hf := it_t c_42 hf
          exact hK79 x34_w hf _ _ _ (lv_sub hl [0, 1] rfl) hP hD hS
        · replace hf := it_f c_42 hf
          refine lv_aload_n (pc := 45) hx hb dX12_fallsNight_45 rfl (lv_at hl 0 rfl) ?_
          refine r_get (pc := 46) C hP 0 rfl fl_X12_36 rfl dX12_fallsNight_46 ?_
          refine lv_iconst (pc := 49) (v := 0) hx hb dX12_fallsNight_49 (by decide) ?_
          refine lv_iload_n (pc := 50) hx hb dX12_fallsNight_50 rfl (lv_at hl 2 rfl) ?_
          refine lv_iadd (pc := 51) hx hb dX12_fallsNight_51 ?_
          refine lv_aload_n (pc := 52) hx hb dX12_fallsNight_52 rfl (lv_at hl 0 rfl) ?_
          refine r_get (pc := 53) C hP 0 rfl fl_X12_358 rfl dX12_fallsNight_53 ?_
          refine r_get (pc := 56) C hP 1 rfl fl_X12_342 rfl dX12_fallsNight_56 ?_
          refine lv_iload_n (pc := 59) hx hb dX12_fallsNight_59 rfl (lv_at hl 2 rfl) ?_
          obtain ⟨hi_60, hf⟩ := gd_s hf
          refine r_iald (pc := 60) C hP 6 rfl hi_60 dX12_fallsNight_60 ?_
          obtain ⟨hi_61, hf⟩ := gd_s hf
          refine r_iast (pc := 61) (ws' := (wX12_fallsNight E h h_inn h_tape h_far h_from h_real h_other h_kept h_set h_w h_book h_noteSort h_whose h_what h_noteIs h_fitting h_dawn h_likes h_walked h_came h_inn_creak h_inn_doorA h_inn_doorB h_inn_how h_inn_lies h_inn_isCold h_inn_falls h_inn_isFull h_inn_isTold h_inn_act h_inn_what h_inn_then h_inn_met h_inn_bed h_inn_dream h_inn_listens h_inn_name h_inn_nameSort h_inn_nameNumber v_thrown v_trouble v_where v_read v_taped v_size v_at v_sort v_place v_sign v_number v_fault v_wrongAt v_word v_marks v_notes v_inn_minutes v_inn_rooms v_inn_doors v_inn_things v_inn_dreams v_inn_sleepers v_inn_listeners v_inn_names (upd x34_w (0 + x34_2).toNatClampNeg (v_inn_bed x34_2.toNatClampNeg)) v_inn_how v_inn_lies v_inn_isFull v_inn_bed)) C hP hD hS 2 rfl hi_61 rfl dX12_fallsNight_61 ?_
          clear hP hD hS; intro H locs hP hD hS
          refine lv_aload_n (pc := 62) hx hb dX12_fallsNight_62 rfl (lv_at hl 0 rfl) ?_
          refine r_get (pc := 63) C hP 0 rfl fl_X12_36 rfl dX12_fallsNight_63 ?_
          refine lv_bipush (pc := 66) (v := 6) hx hb dX12_fallsNight_66 (by decide) ?_
          refine lv_iload_n (pc := 68) hx hb dX12_fallsNight_68 rfl (lv_at hl 2 rfl) ?_
          refine lv_iadd (pc := 69) hx hb dX12_fallsNight_69 ?_
          refine lv_bipush (pc := 70) (v := (-2)) hx hb dX12_fallsNight_70 (by decide) ?_
          obtain ⟨hi_72, hf⟩ := gd_s hf
          refine r_iast (pc := 72) (ws' := (wX12_fallsNight E h h_inn h_tape h_far h_from h_real h_other h_kept h_set h_w h_book h_noteSort h_whose h_what h_noteIs h_fitting h_dawn h_likes h_walked h_came h_inn_creak h_inn_doorA h_inn_doorB h_inn_how h_inn_lies h_inn_isCold h_inn_falls h_inn_isFull h_inn_isTold h_inn_act h_inn_what h_inn_then h_inn_met h_inn_bed h_inn_dream h_inn_listens h_inn_name h_inn_nameSort h_inn_nameNumber v_thrown v_trouble v_where v_read v_taped v_size v_at v_sort v_place v_sign v_number v_fault v_wrongAt v_word v_marks v_notes v_inn_minutes v_inn_rooms v_inn_doors v_inn_things v_inn_dreams v_inn_sleepers v_inn_listeners v_inn_names (upd (upd x34_w (0 + x34_2).toNatClampNeg (v_inn_bed x34_2.toNatClampNeg)) (6 + x34_2).toNatClampNeg (-2)) v_inn_how v_inn_lies v_inn_isFull v_inn_bed)) C hP hD hS 2 rfl hi_72 rfl dX12_fallsNight_72 ?_
          clear hP hD hS; intro H locs hP hD hS
          refine lv_iinc (pc := 73) (v := x34_2 + 1) (lv' := [(2, .int (x34_2 + 1)), (0, .ref h), (1, .int p0)]) hx hb dX12_fallsNight_73 hl (k := 2) rfl rfl (by decide) rfl (fun ls hl => ?_)
          refine lv_goto (pc := 76) (tgt := 34) hx hb dX12_fallsNight_76 (by decide) ?_
          exact ih34 (x34_2 + 1) (upd (upd x34_w (0 + x34_2).toNatClampNeg (v_inn_bed x34_2.toNatClampNeg)) (6 + x34_2).toNatClampNeg (-2)) hf _ _ _ (lv_sub hl [1, 2, 0] rfl) hP hD hS
    exact key34 _ 0 x32_w hf _ _ _ (lv_sub hl [1, 2, 0] rfl) hP hD hS
  clear eK32
  have key2 : ∀ (n : Nat) (x2_2 : Int32) (x2_w : Nat → Int32) , lp (BX12_fallsNight_2 N K32) n (x2_2, x2_w) = some z → AT p l e (rmOf 1 22) s m args below meth c E A Q 0 0 3 [(0, .ref h), (1, .int p0), (2, .int x2_2)] (wX12_fallsNight E h h_inn h_tape h_far h_from h_real h_other h_kept h_set h_w h_book h_noteSort h_whose h_what h_noteIs h_fitting h_dawn h_likes h_walked h_came h_inn_creak h_inn_doorA h_inn_doorB h_inn_how h_inn_lies h_inn_isCold h_inn_falls h_inn_isFull h_inn_isTold h_inn_act h_inn_what h_inn_then h_inn_met h_inn_bed h_inn_dream h_inn_listens h_inn_name h_inn_nameSort h_inn_nameNumber v_thrown v_trouble v_where v_read v_taped v_size v_at v_sort v_place v_sign v_number v_fault v_wrongAt v_word v_marks v_notes v_inn_minutes v_inn_rooms v_inn_doors v_inn_things v_inn_dreams v_inn_sleepers v_inn_listeners v_inn_names x2_w v_inn_how v_inn_lies v_inn_isFull v_inn_bed) 2 [] := by
    intro n
    induction n with
    | zero => intro x2_2 x2_w hf; exact (lp_0 hf).elim
    | succ n ih2 =>
      intro x2_2 x2_w hf H locs ls hl hP hD hS
      replace hf := lp_s hf
      generalize lp (BX12_fallsNight_2 N K32) n = rec2 at ih2 hf
      unfold BX12_fallsNight_2 at hf
      replace hf := un2_s hf
      refine lv_iload_n (pc := 2) hx hb dX12_fallsNight_2 rfl (lv_at hl 2 rfl) ?_
      refine lv_bipush (pc := 3) (v := 51) hx hb dX12_fallsNight_3 (by decide) ?_
      refine lv_icmp_ge (pc := 5) (tgt := 32) hx hb dX12_fallsNight_5 (by decide) (fun c_5 => ?_) (fun c_5 => ?_)
      · replace hf := it_t c_5 hf
        exact hK32 x2_w hf _ _ _ (lv_sub hl [0, 1] rfl) hP hD hS
      · replace hf := it_f c_5 hf
        refine lv_iload_n (pc := 8) hx hb dX12_fallsNight_8 rfl (lv_at hl 2 rfl) ?_
        refine lv_bipush (pc := 9) (v := 12) hx hb dX12_fallsNight_9 (by decide) ?_
        refine lv_bipush (pc := 11) (v := 14) hx hb dX12_fallsNight_11 (by decide) ?_
        obtain ⟨r_13, hc_13, hf⟩ := bd1 hf
        refine r_dalSi (pc := 13) (Cn := "") (h := 0) (ws' := (wX12_fallsNight E h h_inn h_tape h_far h_from h_real h_other h_kept h_set h_w h_book h_noteSort h_whose h_what h_noteIs h_fitting h_dawn h_likes h_walked h_came h_inn_creak h_inn_doorA h_inn_doorB h_inn_how h_inn_lies h_inn_isCold h_inn_falls h_inn_isFull h_inn_isTold h_inn_act h_inn_what h_inn_then h_inn_met h_inn_bed h_inn_dream h_inn_listens h_inn_name h_inn_nameSort h_inn_nameNumber v_thrown v_trouble v_where v_read v_taped v_size v_at v_sort v_place v_sign v_number v_fault v_wrongAt v_word v_marks v_notes v_inn_minutes v_inn_rooms v_inn_doors v_inn_things v_inn_dreams v_inn_sleepers v_inn_listeners v_inn_names x2_w v_inn_how v_inn_lies v_inn_isFull v_inn_bed)) (As := [.int x2_2, .int 12, .int 14]) (rest := []) C (ctX12_in l E N x2_2 12 14 r_13 hc_13) ml_X12_149 ⟨Nat.le_of_ble_eq_true rfl, Nat.le_of_ble_eq_true rfl⟩ hP hD hS [] [0, 1, 2, 3, 4, 5, 6] 7 rfl rfl rfl rfl rfl rfl rfl hl.1 rfl (Nat.le_of_ble_eq_true rfl) ⟨Nat.zero_le _, Nat.zero_le _⟩ dX12_fallsNight_13 ?_
        clear hP hD hS; intro H locs hP hD hS
        refine jnK hf (fun j26 ej26 hf => ?_)
        have hj26 : ∀ (x26_w : Nat → Int32) , j26 x26_w = some z → AT p l e (rmOf 1 22) s m args below meth c E A Q 0 0 3 [(0, .ref h), (1, .int p0), (2, .int x2_2)] (wX12_fallsNight E h h_inn h_tape h_far h_from h_real h_other h_kept h_set h_w h_book h_noteSort h_whose h_what h_noteIs h_fitting h_dawn h_likes h_walked h_came h_inn_creak h_inn_doorA h_inn_doorB h_inn_how h_inn_lies h_inn_isCold h_inn_falls h_inn_isFull h_inn_isTold h_inn_act h_inn_what h_inn_then h_inn_met h_inn_bed h_inn_dream h_inn_listens h_inn_name h_inn_nameSort h_inn_nameNumber v_thrown v_trouble v_where v_read v_taped v_size v_at v_sort v_place v_sign v_number v_fault v_wrongAt v_word v_marks v_notes v_inn_minutes v_inn_rooms v_inn_doors v_inn_things v_inn_dreams v_inn_sleepers v_inn_listeners v_inn_names x26_w v_inn_how v_inn_lies v_inn_isFull v_inn_bed) 26 [] := by
          intro x26_w hf H locs ls hl hP hD hS
          rw [ej26] at hf
          replace hf := un1_s hf
          refine lv_iinc (pc := 26) (v := x2_2 + 1) (lv' := [(2, .int (x2_2 + 1)), (0, .ref h), (1, .int p0)]) hx hb dX12_fallsNight_26 hl (k := 2) rfl rfl (by decide) rfl (fun ls hl => ?_)
          refine lv_goto (pc := 29) (tgt := 2) hx hb dX12_fallsNight_29 (by decide) ?_
          exact ih2 (x2_2 + 1) x26_w hf _ _ _ (lv_sub hl [1, 2, 0] rfl) hP hD hS
        clear ej26
        refine lv_if_ne (pc := 16) (tgt := 26) hx hb dX12_fallsNight_16 (by decide) (fun c_16 => ?_) (fun c_16 => ?_)
        · replace hf := it_f c_16 hf
          exact hj26 x2_w hf _ _ _ (lv_sub hl [0, 1, 2] rfl) hP hD hS
        · replace hf := it_t c_16 hf
          refine lv_aload_n (pc := 19) hx hb dX12_fallsNight_19 rfl (lv_at hl 0 rfl) ?_
          refine r_get (pc := 20) C hP 0 rfl fl_X12_36 rfl dX12_fallsNight_20 ?_
          refine lv_iload_n (pc := 23) hx hb dX12_fallsNight_23 rfl (lv_at hl 2 rfl) ?_
          refine lv_iconst (pc := 24) (v := 0) hx hb dX12_fallsNight_24 (by decide) ?_
          obtain ⟨hi_25, hf⟩ := gd_s hf
          refine r_iast (pc := 25) (ws' := (wX12_fallsNight E h h_inn h_tape h_far h_from h_real h_other h_kept h_set h_w h_book h_noteSort h_whose h_what h_noteIs h_fitting h_dawn h_likes h_walked h_came h_inn_creak h_inn_doorA h_inn_doorB h_inn_how h_inn_lies h_inn_isCold h_inn_falls h_inn_isFull h_inn_isTold h_inn_act h_inn_what h_inn_then h_inn_met h_inn_bed h_inn_dream h_inn_listens h_inn_name h_inn_nameSort h_inn_nameNumber v_thrown v_trouble v_where v_read v_taped v_size v_at v_sort v_place v_sign v_number v_fault v_wrongAt v_word v_marks v_notes v_inn_minutes v_inn_rooms v_inn_doors v_inn_things v_inn_dreams v_inn_sleepers v_inn_listeners v_inn_names (upd x2_w x2_2.toNatClampNeg 0) v_inn_how v_inn_lies v_inn_isFull v_inn_bed)) C hP hD hS 2 rfl hi_25 rfl dX12_fallsNight_25 ?_
          clear hP hD hS; intro H locs hP hD hS
          exact hj26 (upd x2_w x2_2.toNatClampNeg 0) hf _ _ _ (lv_sub hl [0, 1, 2] rfl) hP hD hS
  exact key2 _ 0 v_w hf _ _ _ (lv_sub hl [1, 2, 0] rfl) hP hD hS
def wX12_fault (E : EN) (h h_tape h_far h_from h_real h_other h_kept h_set h_w h_book h_noteSort h_whose h_what h_noteIs h_fitting h_dawn h_likes h_walked h_came : Nat) (v_thrown : Int32) (v_trouble : Int32) (v_where : Int32) (v_inn : Option Nat) (v_read : Option Nat) (v_taped : Int32) (v_size : Int32) (v_at : Int32) (v_sort : Int32) (v_place : Int32) (v_sign : Int32) (v_number : Int32) (v_fault : Int32) (v_wrongAt : Int32) (v_word : Int64) (v_marks : Int32) (v_notes : Int32) : va_W := [(h, .inr (11, [.int v_thrown, .int v_trouble, .int v_where, va_rf v_inn, va_rf v_read, .ref h_tape, .int v_taped, .int v_size, .int v_at, .int v_sort, .int v_place, .int v_sign, .int v_number, .int v_fault, .int v_wrongAt, .long v_word, .ref h_far, .ref h_from, .ref h_real, .ref h_other, .ref h_kept, .ref h_set, .ref h_w, .int v_marks, .int v_notes, .ref h_book, .ref h_noteSort, .ref h_whose, .ref h_what, .ref h_noteIs, .ref h_fitting, .ref h_dawn, .ref h_likes, .ref h_walked, .ref h_came]))]
def fX12_fault (N : Nat) (v_fault : Int32) : Option (Int32 × Int32) := some (v_fault, 0)
set_option maxHeartbeats 4000000 in
set_option maxRecDepth 100000 in
theorem ctX12_fault (l : Launch) (E : EN) (h h_tape h_far h_from h_real h_other h_kept h_set h_w h_book h_noteSort h_whose h_what h_noteIs h_fitting h_dawn h_likes h_walked h_came : Nat) (v_thrown : Int32) (v_trouble : Int32) (v_where : Int32) (v_inn : Option Nat) (v_read : Option Nat) (v_taped : Int32) (v_size : Int32) (v_at : Int32) (v_sort : Int32) (v_place : Int32) (v_sign : Int32) (v_number : Int32) (v_fault : Int32) (v_wrongAt : Int32) (v_word : Int64) (v_marks : Int32) (v_notes : Int32) (N : Nat) (z : Int32 × Int32) (hf : fX12_fault N v_fault = some z) : CTi l E yX12_fault cX12_fault 1 .int 0 0 [.ref h] (wX12_fault E h h_tape h_far h_from h_real h_other h_kept h_set h_w h_book h_noteSort h_whose h_what h_noteIs h_fitting h_dawn h_likes h_walked h_came v_thrown v_trouble v_where v_inn v_read v_taped v_size v_at v_sort v_place v_sign v_number v_fault v_wrongAt v_word v_marks v_notes) (z.1) (wX12_fault E h h_tape h_far h_from h_real h_other h_kept h_set h_w h_book h_noteSort h_whose h_what h_noteIs h_fitting h_dawn h_likes h_walked h_came z.2 v_trouble v_where v_inn v_read v_taped v_size v_at v_sort v_place v_sign v_number v_fault v_wrongAt v_word v_marks v_notes) := by
  intro sz
  refine ct_body (by decide) (Nat.le_of_ble_eq_true rfl) ?_
  intro p e s m args below meth c A ls hAe C hr hin hP hD hS hl
  have C : CX p s m args meth c cX12_fault RX12 1 E A := C
  have hl : lv_has ls 1 [(0, .ref h)] := hl
  have hx := C.1
  have hb := C.2.1
  rw [hAe]
  clear hAe
  obtain ⟨Q, hQ⟩ : ∃ Q, Q = MQ below (Qi E A (z.1) (wX12_fault E h h_tape h_far h_from h_real h_other h_kept h_set h_w h_book h_noteSort h_whose h_what h_noteIs h_fitting h_dawn h_likes h_walked h_came z.2 v_trouble v_where v_inn v_read v_taped v_size v_at v_sort v_place v_sign v_number v_fault v_wrongAt v_word v_marks v_notes)) args s 0 0 A := ⟨_, rfl⟩
  rw [← hQ]
  unfold fX12_fault at hf
  refine lv_aload_n (pc := 0) hx hb dX12_fault_0 rfl (lv_at hl 0 rfl) ?_
  refine lv_iconst (pc := 1) (v := 0) hx hb dX12_fault_1 (by decide) ?_
  refine r_put (pc := 2) (ws' := (wX12_fault E h h_tape h_far h_from h_real h_other h_kept h_set h_w h_book h_noteSort h_whose h_what h_noteIs h_fitting h_dawn h_likes h_walked h_came 0 v_trouble v_where v_inn v_read v_taped v_size v_at v_sort v_place v_sign v_number v_fault v_wrongAt v_word v_marks v_notes)) C hP hD hS 0 rfl fl_X12_71 rfl rfl (Nat.le_of_ble_eq_true rfl) rfl dX12_fault_2 ?_
  clear hP hD hS; intro H locs hP hD hS
  refine lv_aload_n (pc := 5) hx hb dX12_fault_5 rfl (lv_at hl 0 rfl) ?_
  refine r_get (pc := 6) C hP 0 rfl fl_X12_128 rfl dX12_fault_6 ?_
  cases hf
  rw [hQ]
  exact r_iret C hr hP hD hS rfl dX12_fault_9
def wX12_where (E : EN) (h h_tape h_far h_from h_real h_other h_kept h_set h_w h_book h_noteSort h_whose h_what h_noteIs h_fitting h_dawn h_likes h_walked h_came : Nat) (v_thrown : Int32) (v_trouble : Int32) (v_where : Int32) (v_inn : Option Nat) (v_read : Option Nat) (v_taped : Int32) (v_size : Int32) (v_at : Int32) (v_sort : Int32) (v_place : Int32) (v_sign : Int32) (v_number : Int32) (v_fault : Int32) (v_wrongAt : Int32) (v_word : Int64) (v_marks : Int32) (v_notes : Int32) : va_W := [(h, .inr (11, [.int v_thrown, .int v_trouble, .int v_where, va_rf v_inn, va_rf v_read, .ref h_tape, .int v_taped, .int v_size, .int v_at, .int v_sort, .int v_place, .int v_sign, .int v_number, .int v_fault, .int v_wrongAt, .long v_word, .ref h_far, .ref h_from, .ref h_real, .ref h_other, .ref h_kept, .ref h_set, .ref h_w, .int v_marks, .int v_notes, .ref h_book, .ref h_noteSort, .ref h_whose, .ref h_what, .ref h_noteIs, .ref h_fitting, .ref h_dawn, .ref h_likes, .ref h_walked, .ref h_came]))]
def fX12_where (N : Nat) (v_where : Int32) : Option (Int32 × Int32) := some (v_where, 0)
set_option maxHeartbeats 4000000 in
set_option maxRecDepth 100000 in
theorem ctX12_where (l : Launch) (E : EN) (h h_tape h_far h_from h_real h_other h_kept h_set h_w h_book h_noteSort h_whose h_what h_noteIs h_fitting h_dawn h_likes h_walked h_came : Nat) (v_thrown : Int32) (v_trouble : Int32) (v_where : Int32) (v_inn : Option Nat) (v_read : Option Nat) (v_taped : Int32) (v_size : Int32) (v_at : Int32) (v_sort : Int32) (v_place : Int32) (v_sign : Int32) (v_number : Int32) (v_fault : Int32) (v_wrongAt : Int32) (v_word : Int64) (v_marks : Int32) (v_notes : Int32) (N : Nat) (z : Int32 × Int32) (hf : fX12_where N v_where = some z) : CTi l E yX12_where cX12_where 1 .int 0 0 [.ref h] (wX12_where E h h_tape h_far h_from h_real h_other h_kept h_set h_w h_book h_noteSort h_whose h_what h_noteIs h_fitting h_dawn h_likes h_walked h_came v_thrown v_trouble v_where v_inn v_read v_taped v_size v_at v_sort v_place v_sign v_number v_fault v_wrongAt v_word v_marks v_notes) (z.1) (wX12_where E h h_tape h_far h_from h_real h_other h_kept h_set h_w h_book h_noteSort h_whose h_what h_noteIs h_fitting h_dawn h_likes h_walked h_came z.2 v_trouble v_where v_inn v_read v_taped v_size v_at v_sort v_place v_sign v_number v_fault v_wrongAt v_word v_marks v_notes) := by
  intro sz
  refine ct_body (by decide) (Nat.le_of_ble_eq_true rfl) ?_
  intro p e s m args below meth c A ls hAe C hr hin hP hD hS hl
  have C : CX p s m args meth c cX12_where RX12 1 E A := C
  have hl : lv_has ls 1 [(0, .ref h)] := hl
  have hx := C.1
  have hb := C.2.1
  rw [hAe]
  clear hAe
  obtain ⟨Q, hQ⟩ : ∃ Q, Q = MQ below (Qi E A (z.1) (wX12_where E h h_tape h_far h_from h_real h_other h_kept h_set h_w h_book h_noteSort h_whose h_what h_noteIs h_fitting h_dawn h_likes h_walked h_came z.2 v_trouble v_where v_inn v_read v_taped v_size v_at v_sort v_place v_sign v_number v_fault v_wrongAt v_word v_marks v_notes)) args s 0 0 A := ⟨_, rfl⟩
  rw [← hQ]
  unfold fX12_where at hf
  refine lv_aload_n (pc := 0) hx hb dX12_where_0 rfl (lv_at hl 0 rfl) ?_
  refine lv_iconst (pc := 1) (v := 0) hx hb dX12_where_1 (by decide) ?_
  refine r_put (pc := 2) (ws' := (wX12_where E h h_tape h_far h_from h_real h_other h_kept h_set h_w h_book h_noteSort h_whose h_what h_noteIs h_fitting h_dawn h_likes h_walked h_came 0 v_trouble v_where v_inn v_read v_taped v_size v_at v_sort v_place v_sign v_number v_fault v_wrongAt v_word v_marks v_notes)) C hP hD hS 0 rfl fl_X12_71 rfl rfl (Nat.le_of_ble_eq_true rfl) rfl dX12_where_2 ?_
  clear hP hD hS; intro H locs hP hD hS
  refine lv_aload_n (pc := 5) hx hb dX12_where_5 rfl (lv_at hl 0 rfl) ?_
  refine r_get (pc := 6) C hP 0 rfl fl_X12_9 rfl dX12_where_6 ?_
  cases hf
  rw [hQ]
  exact r_iret C hr hP hD hS rfl dX12_where_9
def wX12_isRoom (E : EN) (h h_inn h_tape h_far h_from h_real h_other h_kept h_set h_w h_book h_noteSort h_whose h_what h_noteIs h_fitting h_dawn h_likes h_walked h_came h_inn_creak h_inn_doorA h_inn_doorB h_inn_how h_inn_lies h_inn_isCold h_inn_falls h_inn_isFull h_inn_isTold h_inn_act h_inn_what h_inn_then h_inn_met h_inn_bed h_inn_dream h_inn_listens h_inn_name h_inn_nameSort h_inn_nameNumber : Nat) (v_thrown : Int32) (v_trouble : Int32) (v_where : Int32) (v_read : Option Nat) (v_taped : Int32) (v_size : Int32) (v_at : Int32) (v_sort : Int32) (v_place : Int32) (v_sign : Int32) (v_number : Int32) (v_fault : Int32) (v_wrongAt : Int32) (v_word : Int64) (v_marks : Int32) (v_notes : Int32) (v_inn_minutes : Int32) (v_inn_rooms : Int32) (v_inn_doors : Int32) (v_inn_things : Int32) (v_inn_dreams : Int32) (v_inn_sleepers : Int32) (v_inn_listeners : Int32) (v_inn_names : Int32) : va_W := [(h, .inr (11, [.int v_thrown, .int v_trouble, .int v_where, .ref h_inn, va_rf v_read, .ref h_tape, .int v_taped, .int v_size, .int v_at, .int v_sort, .int v_place, .int v_sign, .int v_number, .int v_fault, .int v_wrongAt, .long v_word, .ref h_far, .ref h_from, .ref h_real, .ref h_other, .ref h_kept, .ref h_set, .ref h_w, .int v_marks, .int v_notes, .ref h_book, .ref h_noteSort, .ref h_whose, .ref h_what, .ref h_noteIs, .ref h_fitting, .ref h_dawn, .ref h_likes, .ref h_walked, .ref h_came])), (h_inn, .inr (10, [.int v_inn_minutes, .int v_inn_rooms, .int v_inn_doors, .int v_inn_things, .int v_inn_dreams, .int v_inn_sleepers, .int v_inn_listeners, .int v_inn_names, .ref h_inn_creak, .ref h_inn_doorA, .ref h_inn_doorB, .ref h_inn_how, .ref h_inn_lies, .ref h_inn_isCold, .ref h_inn_falls, .ref h_inn_isFull, .ref h_inn_isTold, .ref h_inn_act, .ref h_inn_what, .ref h_inn_then, .ref h_inn_met, .ref h_inn_bed, .ref h_inn_dream, .ref h_inn_listens, .ref h_inn_name, .ref h_inn_nameSort, .ref h_inn_nameNumber]))]
def fX12_isRoom (N : Nat) (p0 : Int32) (v_inn_rooms : Int32) : Option Int32 := jn (un0 (some 0)) (fun j26 => if p0 < 0 then (j26 ()) else (if v_inn_rooms ≤ p0 then (j26 ()) else (some 1)))
set_option maxHeartbeats 4000000 in
set_option maxRecDepth 100000 in
theorem ctX12_isRoom (l : Launch) (E : EN) (h h_inn h_tape h_far h_from h_real h_other h_kept h_set h_w h_book h_noteSort h_whose h_what h_noteIs h_fitting h_dawn h_likes h_walked h_came h_inn_creak h_inn_doorA h_inn_doorB h_inn_how h_inn_lies h_inn_isCold h_inn_falls h_inn_isFull h_inn_isTold h_inn_act h_inn_what h_inn_then h_inn_met h_inn_bed h_inn_dream h_inn_listens h_inn_name h_inn_nameSort h_inn_nameNumber : Nat) (v_thrown : Int32) (v_trouble : Int32) (v_where : Int32) (v_read : Option Nat) (v_taped : Int32) (v_size : Int32) (v_at : Int32) (v_sort : Int32) (v_place : Int32) (v_sign : Int32) (v_number : Int32) (v_fault : Int32) (v_wrongAt : Int32) (v_word : Int64) (v_marks : Int32) (v_notes : Int32) (v_inn_minutes : Int32) (v_inn_rooms : Int32) (v_inn_doors : Int32) (v_inn_things : Int32) (v_inn_dreams : Int32) (v_inn_sleepers : Int32) (v_inn_listeners : Int32) (v_inn_names : Int32) (N : Nat) (p0 : Int32) (z : Int32) (hf : fX12_isRoom N p0 v_inn_rooms = some z) : CTi l E yX12_isRoom cX12_isRoom 2 .boolean 0 0 [.ref h, .int p0] (wX12_isRoom E h h_inn h_tape h_far h_from h_real h_other h_kept h_set h_w h_book h_noteSort h_whose h_what h_noteIs h_fitting h_dawn h_likes h_walked h_came h_inn_creak h_inn_doorA h_inn_doorB h_inn_how h_inn_lies h_inn_isCold h_inn_falls h_inn_isFull h_inn_isTold h_inn_act h_inn_what h_inn_then h_inn_met h_inn_bed h_inn_dream h_inn_listens h_inn_name h_inn_nameSort h_inn_nameNumber v_thrown v_trouble v_where v_read v_taped v_size v_at v_sort v_place v_sign v_number v_fault v_wrongAt v_word v_marks v_notes v_inn_minutes v_inn_rooms v_inn_doors v_inn_things v_inn_dreams v_inn_sleepers v_inn_listeners v_inn_names) (z) (wX12_isRoom E h h_inn h_tape h_far h_from h_real h_other h_kept h_set h_w h_book h_noteSort h_whose h_what h_noteIs h_fitting h_dawn h_likes h_walked h_came h_inn_creak h_inn_doorA h_inn_doorB h_inn_how h_inn_lies h_inn_isCold h_inn_falls h_inn_isFull h_inn_isTold h_inn_act h_inn_what h_inn_then h_inn_met h_inn_bed h_inn_dream h_inn_listens h_inn_name h_inn_nameSort h_inn_nameNumber v_thrown v_trouble v_where v_read v_taped v_size v_at v_sort v_place v_sign v_number v_fault v_wrongAt v_word v_marks v_notes v_inn_minutes v_inn_rooms v_inn_doors v_inn_things v_inn_dreams v_inn_sleepers v_inn_listeners v_inn_names) := by
  intro sz
  refine ct_body (by decide) (Nat.le_of_ble_eq_true rfl) ?_
  intro p e s m args below meth c A ls hAe C hr hin hP hD hS hl
  have C : CX p s m args meth c cX12_isRoom RX12 2 E A := C
  have hl : lv_has ls 2 [(0, .ref h), (1, .int p0)] := hl
  have hx := C.1
  have hb := C.2.1
  rw [hAe]
  clear hAe
  obtain ⟨Q, hQ⟩ : ∃ Q, Q = MQ below (Qi E A (z) (wX12_isRoom E h h_inn h_tape h_far h_from h_real h_other h_kept h_set h_w h_book h_noteSort h_whose h_what h_noteIs h_fitting h_dawn h_likes h_walked h_came h_inn_creak h_inn_doorA h_inn_doorB h_inn_how h_inn_lies h_inn_isCold h_inn_falls h_inn_isFull h_inn_isTold h_inn_act h_inn_what h_inn_then h_inn_met h_inn_bed h_inn_dream h_inn_listens h_inn_name h_inn_nameSort h_inn_nameNumber v_thrown v_trouble v_where v_read v_taped v_size v_at v_sort v_place v_sign v_number v_fault v_wrongAt v_word v_marks v_notes v_inn_minutes v_inn_rooms v_inn_doors v_inn_things v_inn_dreams v_inn_sleepers v_inn_listeners v_inn_names)) args s 0 0 A := ⟨_, rfl⟩
  rw [← hQ]
  unfold fX12_isRoom at hf
  refine lv_aload_n (pc := 0) hx hb dX12_isRoom_0 rfl (lv_at hl 0 rfl) ?_
  refine r_get (pc := 1) C hP 0 rfl fl_X12_358 rfl dX12_isRoom_1 ?_
  refine jnK hf (fun j26 ej26 hf => ?_)
  have hj26 : j26 () = some z → AT p l e (rmOf 0 0) s m args below meth c E A Q 0 0 2 [] (wX12_isRoom E h h_inn h_tape h_far h_from h_real h_other h_kept h_set h_w h_book h_noteSort h_whose h_what h_noteIs h_fitting h_dawn h_likes h_walked h_came h_inn_creak h_inn_doorA h_inn_doorB h_inn_how h_inn_lies h_inn_isCold h_inn_falls h_inn_isFull h_inn_isTold h_inn_act h_inn_what h_inn_then h_inn_met h_inn_bed h_inn_dream h_inn_listens h_inn_name h_inn_nameSort h_inn_nameNumber v_thrown v_trouble v_where v_read v_taped v_size v_at v_sort v_place v_sign v_number v_fault v_wrongAt v_word v_marks v_notes v_inn_minutes v_inn_rooms v_inn_doors v_inn_things v_inn_dreams v_inn_sleepers v_inn_listeners v_inn_names) 26 [] := by
    intro  hf H locs ls hl hP hD hS
    rw [ej26] at hf
    replace hf := un0_s hf
    refine lv_iconst (pc := 26) (v := 0) hx hb dX12_isRoom_26 (by decide) ?_
    cases hf
    rw [hQ]
    exact r_zret C hr hP hD hS (Or.inl rfl) rfl dX12_isRoom_27
  clear ej26
  refine lv_ifnull (pc := 4) hx hb dX12_isRoom_4 ?_
  refine lv_iload_n (pc := 7) hx hb dX12_isRoom_7 rfl (lv_at hl 1 rfl) ?_
  refine lv_if_lt (pc := 8) (tgt := 26) hx hb dX12_isRoom_8 (by decide) (fun c_8 => ?_) (fun c_8 => ?_)
  · replace hf := it_t c_8 hf
    exact hj26  hf _ _ _ (lv_sub hl [] rfl) hP hD hS
  · replace hf := it_f c_8 hf
    refine lv_iload_n (pc := 11) hx hb dX12_isRoom_11 rfl (lv_at hl 1 rfl) ?_
    refine lv_aload_n (pc := 12) hx hb dX12_isRoom_12 rfl (lv_at hl 0 rfl) ?_
    refine r_get (pc := 13) C hP 0 rfl fl_X12_358 rfl dX12_isRoom_13 ?_
    refine r_get (pc := 16) C hP 1 rfl fl_X12_244 rfl dX12_isRoom_16 ?_
    refine lv_icmp_ge (pc := 19) (tgt := 26) hx hb dX12_isRoom_19 (by decide) (fun c_19 => ?_) (fun c_19 => ?_)
    · replace hf := it_t c_19 hf
      exact hj26  hf _ _ _ (lv_sub hl [] rfl) hP hD hS
    · replace hf := it_f c_19 hf
      refine lv_iconst (pc := 22) (v := 1) hx hb dX12_isRoom_22 (by decide) ?_
      refine lv_goto (pc := 23) (tgt := 27) hx hb dX12_isRoom_23 (by decide) ?_
      cases hf
      rw [hQ]
      exact r_zret C hr hP hD hS (Or.inr rfl) rfl dX12_isRoom_27
def wX12_isRoom0 (E : EN) (h h_tape h_far h_from h_real h_other h_kept h_set h_w h_book h_noteSort h_whose h_what h_noteIs h_fitting h_dawn h_likes h_walked h_came : Nat) (v_thrown : Int32) (v_trouble : Int32) (v_where : Int32) (v_read : Option Nat) (v_taped : Int32) (v_size : Int32) (v_at : Int32) (v_sort : Int32) (v_place : Int32) (v_sign : Int32) (v_number : Int32) (v_fault : Int32) (v_wrongAt : Int32) (v_word : Int64) (v_marks : Int32) (v_notes : Int32) : va_W := [(h, .inr (11, [.int v_thrown, .int v_trouble, .int v_where, .null, va_rf v_read, .ref h_tape, .int v_taped, .int v_size, .int v_at, .int v_sort, .int v_place, .int v_sign, .int v_number, .int v_fault, .int v_wrongAt, .long v_word, .ref h_far, .ref h_from, .ref h_real, .ref h_other, .ref h_kept, .ref h_set, .ref h_w, .int v_marks, .int v_notes, .ref h_book, .ref h_noteSort, .ref h_whose, .ref h_what, .ref h_noteIs, .ref h_fitting, .ref h_dawn, .ref h_likes, .ref h_walked, .ref h_came]))]
def fX12_isRoom0 (N : Nat) : Option Int32 := jn (un0 (some 0)) (fun j26 => j26 ())
set_option maxHeartbeats 4000000 in
set_option maxRecDepth 100000 in
theorem ctX12_isRoom0 (l : Launch) (E : EN) (h h_tape h_far h_from h_real h_other h_kept h_set h_w h_book h_noteSort h_whose h_what h_noteIs h_fitting h_dawn h_likes h_walked h_came : Nat) (v_thrown : Int32) (v_trouble : Int32) (v_where : Int32) (v_read : Option Nat) (v_taped : Int32) (v_size : Int32) (v_at : Int32) (v_sort : Int32) (v_place : Int32) (v_sign : Int32) (v_number : Int32) (v_fault : Int32) (v_wrongAt : Int32) (v_word : Int64) (v_marks : Int32) (v_notes : Int32) (N : Nat) (p0 : Int32) (z : Int32) (hf : fX12_isRoom0 N  = some z) : CTi l E yX12_isRoom cX12_isRoom 2 .boolean 0 0 [.ref h, .int p0] (wX12_isRoom0 E h h_tape h_far h_from h_real h_other h_kept h_set h_w h_book h_noteSort h_whose h_what h_noteIs h_fitting h_dawn h_likes h_walked h_came v_thrown v_trouble v_where v_read v_taped v_size v_at v_sort v_place v_sign v_number v_fault v_wrongAt v_word v_marks v_notes) (z) (wX12_isRoom0 E h h_tape h_far h_from h_real h_other h_kept h_set h_w h_book h_noteSort h_whose h_what h_noteIs h_fitting h_dawn h_likes h_walked h_came v_thrown v_trouble v_where v_read v_taped v_size v_at v_sort v_place v_sign v_number v_fault v_wrongAt v_word v_marks v_notes) := by
  intro sz
  refine ct_body (by decide) (Nat.le_of_ble_eq_true rfl) ?_
  intro p e s m args below meth c A ls hAe C hr hin hP hD hS hl
  have C : CX p s m args meth c cX12_isRoom RX12 2 E A := C
  have hl : lv_has ls 2 [(0, .ref h), (1, .int p0)] := hl
  have hx := C.1
  have hb := C.2.1
  rw [hAe]
  clear hAe
  obtain ⟨Q, hQ⟩ : ∃ Q, Q = MQ below (Qi E A (z) (wX12_isRoom0 E h h_tape h_far h_from h_real h_other h_kept h_set h_w h_book h_noteSort h_whose h_what h_noteIs h_fitting h_dawn h_likes h_walked h_came v_thrown v_trouble v_where v_read v_taped v_size v_at v_sort v_place v_sign v_number v_fault v_wrongAt v_word v_marks v_notes)) args s 0 0 A := ⟨_, rfl⟩
  rw [← hQ]
  unfold fX12_isRoom0 at hf
  refine lv_aload_n (pc := 0) hx hb dX12_isRoom_0 rfl (lv_at hl 0 rfl) ?_
  refine r_get (pc := 1) C hP 0 rfl fl_X12_358 rfl dX12_isRoom_1 ?_
  refine jnK hf (fun j26 ej26 hf => ?_)
  have hj26 : j26 () = some z → AT p l e (rmOf 0 0) s m args below meth c E A Q 0 0 2 [] (wX12_isRoom0 E h h_tape h_far h_from h_real h_other h_kept h_set h_w h_book h_noteSort h_whose h_what h_noteIs h_fitting h_dawn h_likes h_walked h_came v_thrown v_trouble v_where v_read v_taped v_size v_at v_sort v_place v_sign v_number v_fault v_wrongAt v_word v_marks v_notes) 26 [] := by
    intro  hf H locs ls hl hP hD hS
    rw [ej26] at hf
    replace hf := un0_s hf
    refine lv_iconst (pc := 26) (v := 0) hx hb dX12_isRoom_26 (by decide) ?_
    cases hf
    rw [hQ]
    exact r_zret C hr hP hD hS (Or.inl rfl) rfl dX12_isRoom_27
  clear ej26
  refine lv_ifnullN (pc := 4) (tgt := 26) hx hb dX12_isRoom_4 (by decide) ?_
  exact hj26  hf _ _ _ (lv_sub hl [] rfl) hP hD hS
def wX12_far (E : EN) (h h_inn h_tape h_far h_from h_real h_other h_kept h_set h_w h_book h_noteSort h_whose h_what h_noteIs h_fitting h_dawn h_likes h_walked h_came h_inn_creak h_inn_doorA h_inn_doorB h_inn_how h_inn_lies h_inn_isCold h_inn_falls h_inn_isFull h_inn_isTold h_inn_act h_inn_what h_inn_then h_inn_met h_inn_bed h_inn_dream h_inn_listens h_inn_name h_inn_nameSort h_inn_nameNumber : Nat) (v_thrown : Int32) (v_trouble : Int32) (v_where : Int32) (v_read : Option Nat) (v_taped : Int32) (v_size : Int32) (v_at : Int32) (v_sort : Int32) (v_place : Int32) (v_sign : Int32) (v_number : Int32) (v_fault : Int32) (v_wrongAt : Int32) (v_word : Int64) (v_marks : Int32) (v_notes : Int32) (v_inn_minutes : Int32) (v_inn_rooms : Int32) (v_inn_doors : Int32) (v_inn_things : Int32) (v_inn_dreams : Int32) (v_inn_sleepers : Int32) (v_inn_listeners : Int32) (v_inn_names : Int32) (v_far : Nat → Int32) : va_W := [(h, .inr (11, [.int v_thrown, .int v_trouble, .int v_where, .ref h_inn, va_rf v_read, .ref h_tape, .int v_taped, .int v_size, .int v_at, .int v_sort, .int v_place, .int v_sign, .int v_number, .int v_fault, .int v_wrongAt, .long v_word, .ref h_far, .ref h_from, .ref h_real, .ref h_other, .ref h_kept, .ref h_set, .ref h_w, .int v_marks, .int v_notes, .ref h_book, .ref h_noteSort, .ref h_whose, .ref h_what, .ref h_noteIs, .ref h_fitting, .ref h_dawn, .ref h_likes, .ref h_walked, .ref h_came])), (h_inn, .inr (10, [.int v_inn_minutes, .int v_inn_rooms, .int v_inn_doors, .int v_inn_things, .int v_inn_dreams, .int v_inn_sleepers, .int v_inn_listeners, .int v_inn_names, .ref h_inn_creak, .ref h_inn_doorA, .ref h_inn_doorB, .ref h_inn_how, .ref h_inn_lies, .ref h_inn_isCold, .ref h_inn_falls, .ref h_inn_isFull, .ref h_inn_isTold, .ref h_inn_act, .ref h_inn_what, .ref h_inn_then, .ref h_inn_met, .ref h_inn_bed, .ref h_inn_dream, .ref h_inn_listens, .ref h_inn_name, .ref h_inn_nameSort, .ref h_inn_nameNumber])), (h_far, aI E 64 v_far)]
def fX12_far (N : Nat) (p0 : Int32) (p1 : Int32) (v_inn_rooms : Int32) (v_far : Nat → Int32) : Option (Int32 × Int32 × Int32 × Int32) := (fX12_isRoom N p0 v_inn_rooms).bind (un1 fun (r_7 : Int32) => jn (un0 ((fX12_refused N 1).bind (un3 fun (r_41 : Int32) (v_trouble_41 : Int32) (v_where_41 : Int32) => some (r_41, 0, v_trouble_41, v_where_41)))) (fun j39 => if r_7 = 0 then (j39 ()) else ((fX12_isRoom N p1 v_inn_rooms).bind (un1 fun (r_15 : Int32) => if r_15 = 0 then (j39 ()) else (gd ((8 * p0) + p1) 64 ((fX12_good N (v_far ((8 * p0) + p1).toNatClampNeg)).bind (un3 fun (r_33 : Int32) (v_trouble_33 : Int32) (v_where_33 : Int32) => some (r_33, 0, v_trouble_33, v_where_33))))))))
set_option maxHeartbeats 4000000 in
set_option maxRecDepth 100000 in
theorem ctX12_far (l : Launch) (E : EN) (h h_inn h_tape h_far h_from h_real h_other h_kept h_set h_w h_book h_noteSort h_whose h_what h_noteIs h_fitting h_dawn h_likes h_walked h_came h_inn_creak h_inn_doorA h_inn_doorB h_inn_how h_inn_lies h_inn_isCold h_inn_falls h_inn_isFull h_inn_isTold h_inn_act h_inn_what h_inn_then h_inn_met h_inn_bed h_inn_dream h_inn_listens h_inn_name h_inn_nameSort h_inn_nameNumber : Nat) (v_thrown : Int32) (v_trouble : Int32) (v_where : Int32) (v_read : Option Nat) (v_taped : Int32) (v_size : Int32) (v_at : Int32) (v_sort : Int32) (v_place : Int32) (v_sign : Int32) (v_number : Int32) (v_fault : Int32) (v_wrongAt : Int32) (v_word : Int64) (v_marks : Int32) (v_notes : Int32) (v_inn_minutes : Int32) (v_inn_rooms : Int32) (v_inn_doors : Int32) (v_inn_things : Int32) (v_inn_dreams : Int32) (v_inn_sleepers : Int32) (v_inn_listeners : Int32) (v_inn_names : Int32) (v_far : Nat → Int32) (N : Nat) (p0 : Int32) (p1 : Int32) (z : Int32 × Int32 × Int32 × Int32) (hf : fX12_far N p0 p1 v_inn_rooms v_far = some z) : CTi l E yX12_far cX12_far 3 .int 1 21 [.ref h, .int p0, .int p1] (wX12_far E h h_inn h_tape h_far h_from h_real h_other h_kept h_set h_w h_book h_noteSort h_whose h_what h_noteIs h_fitting h_dawn h_likes h_walked h_came h_inn_creak h_inn_doorA h_inn_doorB h_inn_how h_inn_lies h_inn_isCold h_inn_falls h_inn_isFull h_inn_isTold h_inn_act h_inn_what h_inn_then h_inn_met h_inn_bed h_inn_dream h_inn_listens h_inn_name h_inn_nameSort h_inn_nameNumber v_thrown v_trouble v_where v_read v_taped v_size v_at v_sort v_place v_sign v_number v_fault v_wrongAt v_word v_marks v_notes v_inn_minutes v_inn_rooms v_inn_doors v_inn_things v_inn_dreams v_inn_sleepers v_inn_listeners v_inn_names v_far) (z.1) (wX12_far E h h_inn h_tape h_far h_from h_real h_other h_kept h_set h_w h_book h_noteSort h_whose h_what h_noteIs h_fitting h_dawn h_likes h_walked h_came h_inn_creak h_inn_doorA h_inn_doorB h_inn_how h_inn_lies h_inn_isCold h_inn_falls h_inn_isFull h_inn_isTold h_inn_act h_inn_what h_inn_then h_inn_met h_inn_bed h_inn_dream h_inn_listens h_inn_name h_inn_nameSort h_inn_nameNumber z.2.1 z.2.2.1 z.2.2.2 v_read v_taped v_size v_at v_sort v_place v_sign v_number v_fault v_wrongAt v_word v_marks v_notes v_inn_minutes v_inn_rooms v_inn_doors v_inn_things v_inn_dreams v_inn_sleepers v_inn_listeners v_inn_names v_far) := by
  intro sz
  refine ct_body (by decide) (Nat.le_of_ble_eq_true rfl) ?_
  intro p e s m args below meth c A ls hAe C hr hin hP hD hS hl
  have C : CX p s m args meth c cX12_far RX12 3 E A := C
  have hl : lv_has ls 3 [(0, .ref h), (1, .int p0), (2, .int p1)] := hl
  have hx := C.1
  have hb := C.2.1
  rw [hAe]
  clear hAe
  obtain ⟨Q, hQ⟩ : ∃ Q, Q = MQ below (Qi E A (z.1) (wX12_far E h h_inn h_tape h_far h_from h_real h_other h_kept h_set h_w h_book h_noteSort h_whose h_what h_noteIs h_fitting h_dawn h_likes h_walked h_came h_inn_creak h_inn_doorA h_inn_doorB h_inn_how h_inn_lies h_inn_isCold h_inn_falls h_inn_isFull h_inn_isTold h_inn_act h_inn_what h_inn_then h_inn_met h_inn_bed h_inn_dream h_inn_listens h_inn_name h_inn_nameSort h_inn_nameNumber z.2.1 z.2.2.1 z.2.2.2 v_read v_taped v_size v_at v_sort v_place v_sign v_number v_fault v_wrongAt v_word v_marks v_notes v_inn_minutes v_inn_rooms v_inn_doors v_inn_things v_inn_dreams v_inn_sleepers v_inn_listeners v_inn_names v_far)) args s 0 0 A := ⟨_, rfl⟩
  rw [← hQ]
  unfold fX12_far at hf
  refine lv_aload_n (pc := 0) hx hb dX12_far_0 rfl (lv_at hl 0 rfl) ?_
  refine lv_iconst (pc := 1) (v := 0) hx hb dX12_far_1 (by decide) ?_
  refine r_put (pc := 2) (ws' := (wX12_far E h h_inn h_tape h_far h_from h_real h_other h_kept h_set h_w h_book h_noteSort h_whose h_what h_noteIs h_fitting h_dawn h_likes h_walked h_came h_inn_creak h_inn_doorA h_inn_doorB h_inn_how h_inn_lies h_inn_isCold h_inn_falls h_inn_isFull h_inn_isTold h_inn_act h_inn_what h_inn_then h_inn_met h_inn_bed h_inn_dream h_inn_listens h_inn_name h_inn_nameSort h_inn_nameNumber 0 v_trouble v_where v_read v_taped v_size v_at v_sort v_place v_sign v_number v_fault v_wrongAt v_word v_marks v_notes v_inn_minutes v_inn_rooms v_inn_doors v_inn_things v_inn_dreams v_inn_sleepers v_inn_listeners v_inn_names v_far)) C hP hD hS 0 rfl fl_X12_71 rfl rfl (Nat.le_of_ble_eq_true rfl) rfl dX12_far_2 ?_
  clear hP hD hS; intro H locs hP hD hS
  refine lv_aload_n (pc := 5) hx hb dX12_far_5 rfl (lv_at hl 0 rfl) ?_
  refine lv_iload_n (pc := 6) hx hb dX12_far_6 rfl (lv_at hl 1 rfl) ?_
  obtain ⟨r_7, hc_7, hf⟩ := bd1 hf
  refine r_dalVi (pc := 7) (ws' := (wX12_far E h h_inn h_tape h_far h_from h_real h_other h_kept h_set h_w h_book h_noteSort h_whose h_what h_noteIs h_fitting h_dawn h_likes h_walked h_came h_inn_creak h_inn_doorA h_inn_doorB h_inn_how h_inn_lies h_inn_isCold h_inn_falls h_inn_isFull h_inn_isTold h_inn_act h_inn_what h_inn_then h_inn_met h_inn_bed h_inn_dream h_inn_listens h_inn_name h_inn_nameSort h_inn_nameNumber 0 v_trouble v_where v_read v_taped v_size v_at v_sort v_place v_sign v_number v_fault v_wrongAt v_word v_marks v_notes v_inn_minutes v_inn_rooms v_inn_doors v_inn_things v_inn_dreams v_inn_sleepers v_inn_listeners v_inn_names v_far)) (As := [.int p0]) (rest := []) C (ctX12_isRoom l E h h_inn h_tape h_far h_from h_real h_other h_kept h_set h_w h_book h_noteSort h_whose h_what h_noteIs h_fitting h_dawn h_likes h_walked h_came h_inn_creak h_inn_doorA h_inn_doorB h_inn_how h_inn_lies h_inn_isCold h_inn_falls h_inn_isFull h_inn_isTold h_inn_act h_inn_what h_inn_then h_inn_met h_inn_bed h_inn_dream h_inn_listens h_inn_name h_inn_nameSort h_inn_nameNumber 0 v_trouble v_where v_read v_taped v_size v_at v_sort v_place v_sign v_number v_fault v_wrongAt v_word v_marks v_notes v_inn_minutes v_inn_rooms v_inn_doors v_inn_things v_inn_dreams v_inn_sleepers v_inn_listeners v_inn_names N p0 r_7 hc_7) ml_X12_379 ⟨Nat.le_of_ble_eq_true rfl, Nat.le_of_ble_eq_true rfl⟩ hP hD hS 0 rfl rfl rfl [0, 1] [3, 4, 2] 3 rfl rfl rfl rfl rfl rfl rfl hl.1 rfl (Nat.le_of_ble_eq_true rfl) ⟨Nat.zero_le _, Nat.zero_le _⟩ dX12_far_7 ?_
  clear hP hD hS; intro H locs hP hD hS
  refine jnK hf (fun j39 ej39 hf => ?_)
  have hj39 : j39 () = some z → AT p l e (rmOf 1 21) s m args below meth c E A Q 0 0 3 [(0, .ref h)] (wX12_far E h h_inn h_tape h_far h_from h_real h_other h_kept h_set h_w h_book h_noteSort h_whose h_what h_noteIs h_fitting h_dawn h_likes h_walked h_came h_inn_creak h_inn_doorA h_inn_doorB h_inn_how h_inn_lies h_inn_isCold h_inn_falls h_inn_isFull h_inn_isTold h_inn_act h_inn_what h_inn_then h_inn_met h_inn_bed h_inn_dream h_inn_listens h_inn_name h_inn_nameSort h_inn_nameNumber 0 v_trouble v_where v_read v_taped v_size v_at v_sort v_place v_sign v_number v_fault v_wrongAt v_word v_marks v_notes v_inn_minutes v_inn_rooms v_inn_doors v_inn_things v_inn_dreams v_inn_sleepers v_inn_listeners v_inn_names v_far) 39 [] := by
    intro  hf H locs ls hl hP hD hS
    rw [ej39] at hf
    replace hf := un0_s hf
    refine lv_aload_n (pc := 39) hx hb dX12_far_39 rfl (lv_at hl 0 rfl) ?_
    refine lv_iconst (pc := 40) (v := 1) hx hb dX12_far_40 (by decide) ?_
    obtain ⟨r_41, v_trouble_41, v_where_41, hc_41, hf⟩ := bd3 hf
    refine r_dalVi (pc := 41) (ws' := (wX12_far E h h_inn h_tape h_far h_from h_real h_other h_kept h_set h_w h_book h_noteSort h_whose h_what h_noteIs h_fitting h_dawn h_likes h_walked h_came h_inn_creak h_inn_doorA h_inn_doorB h_inn_how h_inn_lies h_inn_isCold h_inn_falls h_inn_isFull h_inn_isTold h_inn_act h_inn_what h_inn_then h_inn_met h_inn_bed h_inn_dream h_inn_listens h_inn_name h_inn_nameSort h_inn_nameNumber 0 v_trouble_41 v_where_41 v_read v_taped v_size v_at v_sort v_place v_sign v_number v_fault v_wrongAt v_word v_marks v_notes v_inn_minutes v_inn_rooms v_inn_doors v_inn_things v_inn_dreams v_inn_sleepers v_inn_listeners v_inn_names v_far)) (As := [.int 1]) (rest := []) C (ctX12_refused l E h h_tape h_far h_from h_real h_other h_kept h_set h_w h_book h_noteSort h_whose h_what h_noteIs h_fitting h_dawn h_likes h_walked h_came 0 v_trouble v_where (some h_inn) v_read v_taped v_size v_at v_sort v_place v_sign v_number v_fault v_wrongAt v_word v_marks v_notes N 1 (r_41, v_trouble_41, v_where_41) hc_41) ml_X12_77 ⟨Nat.le_of_ble_eq_true rfl, Nat.le_of_ble_eq_true rfl⟩ hP hD hS 0 rfl rfl rfl [0] [3, 1, 2] 3 rfl rfl rfl rfl rfl rfl rfl hl.1 rfl (Nat.le_of_ble_eq_true rfl) ⟨Nat.zero_le _, Nat.zero_le _⟩ dX12_far_41 ?_
    clear hP hD hS; intro H locs hP hD hS
    cases hf
    rw [hQ]
    exact r_iret C hr hP hD hS rfl dX12_far_44
  clear ej39
  refine lv_if_eq (pc := 10) (tgt := 39) hx hb dX12_far_10 (by decide) (fun c_10 => ?_) (fun c_10 => ?_)
  · replace hf := it_t c_10 hf
    exact hj39  hf _ _ _ (lv_sub hl [0] rfl) hP hD hS
  · replace hf := it_f c_10 hf
    refine lv_aload_n (pc := 13) hx hb dX12_far_13 rfl (lv_at hl 0 rfl) ?_
    refine lv_iload_n (pc := 14) hx hb dX12_far_14 rfl (lv_at hl 2 rfl) ?_
    obtain ⟨r_15, hc_15, hf⟩ := bd1 hf
    refine r_dalVi (pc := 15) (ws' := (wX12_far E h h_inn h_tape h_far h_from h_real h_other h_kept h_set h_w h_book h_noteSort h_whose h_what h_noteIs h_fitting h_dawn h_likes h_walked h_came h_inn_creak h_inn_doorA h_inn_doorB h_inn_how h_inn_lies h_inn_isCold h_inn_falls h_inn_isFull h_inn_isTold h_inn_act h_inn_what h_inn_then h_inn_met h_inn_bed h_inn_dream h_inn_listens h_inn_name h_inn_nameSort h_inn_nameNumber 0 v_trouble v_where v_read v_taped v_size v_at v_sort v_place v_sign v_number v_fault v_wrongAt v_word v_marks v_notes v_inn_minutes v_inn_rooms v_inn_doors v_inn_things v_inn_dreams v_inn_sleepers v_inn_listeners v_inn_names v_far)) (As := [.int p1]) (rest := []) C (ctX12_isRoom l E h h_inn h_tape h_far h_from h_real h_other h_kept h_set h_w h_book h_noteSort h_whose h_what h_noteIs h_fitting h_dawn h_likes h_walked h_came h_inn_creak h_inn_doorA h_inn_doorB h_inn_how h_inn_lies h_inn_isCold h_inn_falls h_inn_isFull h_inn_isTold h_inn_act h_inn_what h_inn_then h_inn_met h_inn_bed h_inn_dream h_inn_listens h_inn_name h_inn_nameSort h_inn_nameNumber 0 v_trouble v_where v_read v_taped v_size v_at v_sort v_place v_sign v_number v_fault v_wrongAt v_word v_marks v_notes v_inn_minutes v_inn_rooms v_inn_doors v_inn_things v_inn_dreams v_inn_sleepers v_inn_listeners v_inn_names N p1 r_15 hc_15) ml_X12_379 ⟨Nat.le_of_ble_eq_true rfl, Nat.le_of_ble_eq_true rfl⟩ hP hD hS 0 rfl rfl rfl [0, 1] [3, 4, 2] 3 rfl rfl rfl rfl rfl rfl rfl hl.1 rfl (Nat.le_of_ble_eq_true rfl) ⟨Nat.zero_le _, Nat.zero_le _⟩ dX12_far_15 ?_
    clear hP hD hS; intro H locs hP hD hS
    refine lv_if_eq (pc := 18) (tgt := 39) hx hb dX12_far_18 (by decide) (fun c_18 => ?_) (fun c_18 => ?_)
    · replace hf := it_t c_18 hf
      exact hj39  hf _ _ _ (lv_sub hl [0] rfl) hP hD hS
    · replace hf := it_f c_18 hf
      refine lv_aload_n (pc := 21) hx hb dX12_far_21 rfl (lv_at hl 0 rfl) ?_
      refine lv_aload_n (pc := 22) hx hb dX12_far_22 rfl (lv_at hl 0 rfl) ?_
      refine r_get (pc := 23) C hP 0 rfl fl_X12_17 rfl dX12_far_23 ?_
      refine lv_bipush (pc := 26) (v := 8) hx hb dX12_far_26 (by decide) ?_
      refine lv_iload_n (pc := 28) hx hb dX12_far_28 rfl (lv_at hl 1 rfl) ?_
      refine lv_imul (pc := 29) hx hb dX12_far_29 ?_
      refine lv_iload_n (pc := 30) hx hb dX12_far_30 rfl (lv_at hl 2 rfl) ?_
      refine lv_iadd (pc := 31) hx hb dX12_far_31 ?_
      obtain ⟨hi_32, hf⟩ := gd_s hf
      refine r_iald (pc := 32) C hP 2 rfl hi_32 dX12_far_32 ?_
      obtain ⟨r_33, v_trouble_33, v_where_33, hc_33, hf⟩ := bd3 hf
      refine r_dalVi (pc := 33) (ws' := (wX12_far E h h_inn h_tape h_far h_from h_real h_other h_kept h_set h_w h_book h_noteSort h_whose h_what h_noteIs h_fitting h_dawn h_likes h_walked h_came h_inn_creak h_inn_doorA h_inn_doorB h_inn_how h_inn_lies h_inn_isCold h_inn_falls h_inn_isFull h_inn_isTold h_inn_act h_inn_what h_inn_then h_inn_met h_inn_bed h_inn_dream h_inn_listens h_inn_name h_inn_nameSort h_inn_nameNumber 0 v_trouble_33 v_where_33 v_read v_taped v_size v_at v_sort v_place v_sign v_number v_fault v_wrongAt v_word v_marks v_notes v_inn_minutes v_inn_rooms v_inn_doors v_inn_things v_inn_dreams v_inn_sleepers v_inn_listeners v_inn_names v_far)) (As := [.int (v_far ((8 * p0) + p1).toNatClampNeg)]) (rest := []) C (ctX12_good l E h h_tape h_far h_from h_real h_other h_kept h_set h_w h_book h_noteSort h_whose h_what h_noteIs h_fitting h_dawn h_likes h_walked h_came 0 v_trouble v_where (some h_inn) v_read v_taped v_size v_at v_sort v_place v_sign v_number v_fault v_wrongAt v_word v_marks v_notes N (v_far ((8 * p0) + p1).toNatClampNeg) (r_33, v_trouble_33, v_where_33) hc_33) ml_X12_81 ⟨Nat.le_of_ble_eq_true rfl, Nat.le_of_ble_eq_true rfl⟩ hP hD hS 0 rfl rfl rfl [0] [3, 1, 2] 3 rfl rfl rfl rfl rfl rfl rfl hl.1 rfl (Nat.le_of_ble_eq_true rfl) ⟨Nat.zero_le _, Nat.zero_le _⟩ dX12_far_33 ?_
      clear hP hD hS; intro H locs hP hD hS
      refine lv_goto (pc := 36) (tgt := 44) hx hb dX12_far_36 (by decide) ?_
      cases hf
      rw [hQ]
      exact r_iret C hr hP hD hS rfl dX12_far_44
def wX12_far0 (E : EN) (h h_tape h_far h_from h_real h_other h_kept h_set h_w h_book h_noteSort h_whose h_what h_noteIs h_fitting h_dawn h_likes h_walked h_came : Nat) (v_thrown : Int32) (v_trouble : Int32) (v_where : Int32) (v_read : Option Nat) (v_taped : Int32) (v_size : Int32) (v_at : Int32) (v_sort : Int32) (v_place : Int32) (v_sign : Int32) (v_number : Int32) (v_fault : Int32) (v_wrongAt : Int32) (v_word : Int64) (v_marks : Int32) (v_notes : Int32) (v_far : Nat → Int32) : va_W := [(h, .inr (11, [.int v_thrown, .int v_trouble, .int v_where, .null, va_rf v_read, .ref h_tape, .int v_taped, .int v_size, .int v_at, .int v_sort, .int v_place, .int v_sign, .int v_number, .int v_fault, .int v_wrongAt, .long v_word, .ref h_far, .ref h_from, .ref h_real, .ref h_other, .ref h_kept, .ref h_set, .ref h_w, .int v_marks, .int v_notes, .ref h_book, .ref h_noteSort, .ref h_whose, .ref h_what, .ref h_noteIs, .ref h_fitting, .ref h_dawn, .ref h_likes, .ref h_walked, .ref h_came])), (h_far, aI E 64 v_far)]
def fX12_far0 (N : Nat) (p0 : Int32) (p1 : Int32) (v_far : Nat → Int32) : Option (Int32 × Int32 × Int32 × Int32) := (fX12_isRoom0 N).bind (un1 fun (r_7 : Int32) => jn (un0 ((fX12_refused N 1).bind (un3 fun (r_41 : Int32) (v_trouble_41 : Int32) (v_where_41 : Int32) => some (r_41, 0, v_trouble_41, v_where_41)))) (fun j39 => if r_7 = 0 then (j39 ()) else ((fX12_isRoom0 N).bind (un1 fun (r_15 : Int32) => if r_15 = 0 then (j39 ()) else (gd ((8 * p0) + p1) 64 ((fX12_good N (v_far ((8 * p0) + p1).toNatClampNeg)).bind (un3 fun (r_33 : Int32) (v_trouble_33 : Int32) (v_where_33 : Int32) => some (r_33, 0, v_trouble_33, v_where_33))))))))
set_option maxHeartbeats 4000000 in
set_option maxRecDepth 100000 in
theorem ctX12_far0 (l : Launch) (E : EN) (h h_tape h_far h_from h_real h_other h_kept h_set h_w h_book h_noteSort h_whose h_what h_noteIs h_fitting h_dawn h_likes h_walked h_came : Nat) (v_thrown : Int32) (v_trouble : Int32) (v_where : Int32) (v_read : Option Nat) (v_taped : Int32) (v_size : Int32) (v_at : Int32) (v_sort : Int32) (v_place : Int32) (v_sign : Int32) (v_number : Int32) (v_fault : Int32) (v_wrongAt : Int32) (v_word : Int64) (v_marks : Int32) (v_notes : Int32) (v_far : Nat → Int32) (N : Nat) (p0 : Int32) (p1 : Int32) (z : Int32 × Int32 × Int32 × Int32) (hf : fX12_far0 N p0 p1 v_far = some z) : CTi l E yX12_far cX12_far 3 .int 1 21 [.ref h, .int p0, .int p1] (wX12_far0 E h h_tape h_far h_from h_real h_other h_kept h_set h_w h_book h_noteSort h_whose h_what h_noteIs h_fitting h_dawn h_likes h_walked h_came v_thrown v_trouble v_where v_read v_taped v_size v_at v_sort v_place v_sign v_number v_fault v_wrongAt v_word v_marks v_notes v_far) (z.1) (wX12_far0 E h h_tape h_far h_from h_real h_other h_kept h_set h_w h_book h_noteSort h_whose h_what h_noteIs h_fitting h_dawn h_likes h_walked h_came z.2.1 z.2.2.1 z.2.2.2 v_read v_taped v_size v_at v_sort v_place v_sign v_number v_fault v_wrongAt v_word v_marks v_notes v_far) := by
  intro sz
  refine ct_body (by decide) (Nat.le_of_ble_eq_true rfl) ?_
  intro p e s m args below meth c A ls hAe C hr hin hP hD hS hl
  have C : CX p s m args meth c cX12_far RX12 3 E A := C
  have hl : lv_has ls 3 [(0, .ref h), (1, .int p0), (2, .int p1)] := hl
  have hx := C.1
  have hb := C.2.1
  rw [hAe]
  clear hAe
  obtain ⟨Q, hQ⟩ : ∃ Q, Q = MQ below (Qi E A (z.1) (wX12_far0 E h h_tape h_far h_from h_real h_other h_kept h_set h_w h_book h_noteSort h_whose h_what h_noteIs h_fitting h_dawn h_likes h_walked h_came z.2.1 z.2.2.1 z.2.2.2 v_read v_taped v_size v_at v_sort v_place v_sign v_number v_fault v_wrongAt v_word v_marks v_notes v_far)) args s 0 0 A := ⟨_, rfl⟩
  rw [← hQ]
  unfold fX12_far0 at hf
  refine lv_aload_n (pc := 0) hx hb dX12_far_0 rfl (lv_at hl 0 rfl) ?_
  refine lv_iconst (pc := 1) (v := 0) hx hb dX12_far_1 (by decide) ?_
  refine r_put (pc := 2) (ws' := (wX12_far0 E h h_tape h_far h_from h_real h_other h_kept h_set h_w h_book h_noteSort h_whose h_what h_noteIs h_fitting h_dawn h_likes h_walked h_came 0 v_trouble v_where v_read v_taped v_size v_at v_sort v_place v_sign v_number v_fault v_wrongAt v_word v_marks v_notes v_far)) C hP hD hS 0 rfl fl_X12_71 rfl rfl (Nat.le_of_ble_eq_true rfl) rfl dX12_far_2 ?_
  clear hP hD hS; intro H locs hP hD hS
  refine lv_aload_n (pc := 5) hx hb dX12_far_5 rfl (lv_at hl 0 rfl) ?_
  refine lv_iload_n (pc := 6) hx hb dX12_far_6 rfl (lv_at hl 1 rfl) ?_
  obtain ⟨r_7, hc_7, hf⟩ := bd1 hf
  refine r_dalVi (pc := 7) (ws' := (wX12_far0 E h h_tape h_far h_from h_real h_other h_kept h_set h_w h_book h_noteSort h_whose h_what h_noteIs h_fitting h_dawn h_likes h_walked h_came 0 v_trouble v_where v_read v_taped v_size v_at v_sort v_place v_sign v_number v_fault v_wrongAt v_word v_marks v_notes v_far)) (As := [.int p0]) (rest := []) C (ctX12_isRoom0 l E h h_tape h_far h_from h_real h_other h_kept h_set h_w h_book h_noteSort h_whose h_what h_noteIs h_fitting h_dawn h_likes h_walked h_came 0 v_trouble v_where v_read v_taped v_size v_at v_sort v_place v_sign v_number v_fault v_wrongAt v_word v_marks v_notes N p0 r_7 hc_7) ml_X12_379 ⟨Nat.le_of_ble_eq_true rfl, Nat.le_of_ble_eq_true rfl⟩ hP hD hS 0 rfl rfl rfl [0] [2, 1] 2 rfl rfl rfl rfl rfl rfl rfl hl.1 rfl (Nat.le_of_ble_eq_true rfl) ⟨Nat.zero_le _, Nat.zero_le _⟩ dX12_far_7 ?_
  clear hP hD hS; intro H locs hP hD hS
  refine jnK hf (fun j39 ej39 hf => ?_)
  have hj39 : j39 () = some z → AT p l e (rmOf 1 21) s m args below meth c E A Q 0 0 3 [(0, .ref h)] (wX12_far0 E h h_tape h_far h_from h_real h_other h_kept h_set h_w h_book h_noteSort h_whose h_what h_noteIs h_fitting h_dawn h_likes h_walked h_came 0 v_trouble v_where v_read v_taped v_size v_at v_sort v_place v_sign v_number v_fault v_wrongAt v_word v_marks v_notes v_far) 39 [] := by
    intro  hf H locs ls hl hP hD hS
    rw [ej39] at hf
    replace hf := un0_s hf
    refine lv_aload_n (pc := 39) hx hb dX12_far_39 rfl (lv_at hl 0 rfl) ?_
    refine lv_iconst (pc := 40) (v := 1) hx hb dX12_far_40 (by decide) ?_
    obtain ⟨r_41, v_trouble_41, v_where_41, hc_41, hf⟩ := bd3 hf
    refine r_dalVi (pc := 41) (ws' := (wX12_far0 E h h_tape h_far h_from h_real h_other h_kept h_set h_w h_book h_noteSort h_whose h_what h_noteIs h_fitting h_dawn h_likes h_walked h_came 0 v_trouble_41 v_where_41 v_read v_taped v_size v_at v_sort v_place v_sign v_number v_fault v_wrongAt v_word v_marks v_notes v_far)) (As := [.int 1]) (rest := []) C (ctX12_refused l E h h_tape h_far h_from h_real h_other h_kept h_set h_w h_book h_noteSort h_whose h_what h_noteIs h_fitting h_dawn h_likes h_walked h_came 0 v_trouble v_where none v_read v_taped v_size v_at v_sort v_place v_sign v_number v_fault v_wrongAt v_word v_marks v_notes N 1 (r_41, v_trouble_41, v_where_41) hc_41) ml_X12_77 ⟨Nat.le_of_ble_eq_true rfl, Nat.le_of_ble_eq_true rfl⟩ hP hD hS 0 rfl rfl rfl [0] [2, 1] 2 rfl rfl rfl rfl rfl rfl rfl hl.1 rfl (Nat.le_of_ble_eq_true rfl) ⟨Nat.zero_le _, Nat.zero_le _⟩ dX12_far_41 ?_
    clear hP hD hS; intro H locs hP hD hS
    cases hf
    rw [hQ]
    exact r_iret C hr hP hD hS rfl dX12_far_44
  clear ej39
  refine lv_if_eq (pc := 10) (tgt := 39) hx hb dX12_far_10 (by decide) (fun c_10 => ?_) (fun c_10 => ?_)
  · replace hf := it_t c_10 hf
    exact hj39  hf _ _ _ (lv_sub hl [0] rfl) hP hD hS
  · replace hf := it_f c_10 hf
    refine lv_aload_n (pc := 13) hx hb dX12_far_13 rfl (lv_at hl 0 rfl) ?_
    refine lv_iload_n (pc := 14) hx hb dX12_far_14 rfl (lv_at hl 2 rfl) ?_
    obtain ⟨r_15, hc_15, hf⟩ := bd1 hf
    refine r_dalVi (pc := 15) (ws' := (wX12_far0 E h h_tape h_far h_from h_real h_other h_kept h_set h_w h_book h_noteSort h_whose h_what h_noteIs h_fitting h_dawn h_likes h_walked h_came 0 v_trouble v_where v_read v_taped v_size v_at v_sort v_place v_sign v_number v_fault v_wrongAt v_word v_marks v_notes v_far)) (As := [.int p1]) (rest := []) C (ctX12_isRoom0 l E h h_tape h_far h_from h_real h_other h_kept h_set h_w h_book h_noteSort h_whose h_what h_noteIs h_fitting h_dawn h_likes h_walked h_came 0 v_trouble v_where v_read v_taped v_size v_at v_sort v_place v_sign v_number v_fault v_wrongAt v_word v_marks v_notes N p1 r_15 hc_15) ml_X12_379 ⟨Nat.le_of_ble_eq_true rfl, Nat.le_of_ble_eq_true rfl⟩ hP hD hS 0 rfl rfl rfl [0] [2, 1] 2 rfl rfl rfl rfl rfl rfl rfl hl.1 rfl (Nat.le_of_ble_eq_true rfl) ⟨Nat.zero_le _, Nat.zero_le _⟩ dX12_far_15 ?_
    clear hP hD hS; intro H locs hP hD hS
    refine lv_if_eq (pc := 18) (tgt := 39) hx hb dX12_far_18 (by decide) (fun c_18 => ?_) (fun c_18 => ?_)
    · replace hf := it_t c_18 hf
      exact hj39  hf _ _ _ (lv_sub hl [0] rfl) hP hD hS
    · replace hf := it_f c_18 hf
      refine lv_aload_n (pc := 21) hx hb dX12_far_21 rfl (lv_at hl 0 rfl) ?_
      refine lv_aload_n (pc := 22) hx hb dX12_far_22 rfl (lv_at hl 0 rfl) ?_
      refine r_get (pc := 23) C hP 0 rfl fl_X12_17 rfl dX12_far_23 ?_
      refine lv_bipush (pc := 26) (v := 8) hx hb dX12_far_26 (by decide) ?_
      refine lv_iload_n (pc := 28) hx hb dX12_far_28 rfl (lv_at hl 1 rfl) ?_
      refine lv_imul (pc := 29) hx hb dX12_far_29 ?_
      refine lv_iload_n (pc := 30) hx hb dX12_far_30 rfl (lv_at hl 2 rfl) ?_
      refine lv_iadd (pc := 31) hx hb dX12_far_31 ?_
      obtain ⟨hi_32, hf⟩ := gd_s hf
      refine r_iald (pc := 32) C hP 1 rfl hi_32 dX12_far_32 ?_
      obtain ⟨r_33, v_trouble_33, v_where_33, hc_33, hf⟩ := bd3 hf
      refine r_dalVi (pc := 33) (ws' := (wX12_far0 E h h_tape h_far h_from h_real h_other h_kept h_set h_w h_book h_noteSort h_whose h_what h_noteIs h_fitting h_dawn h_likes h_walked h_came 0 v_trouble_33 v_where_33 v_read v_taped v_size v_at v_sort v_place v_sign v_number v_fault v_wrongAt v_word v_marks v_notes v_far)) (As := [.int (v_far ((8 * p0) + p1).toNatClampNeg)]) (rest := []) C (ctX12_good l E h h_tape h_far h_from h_real h_other h_kept h_set h_w h_book h_noteSort h_whose h_what h_noteIs h_fitting h_dawn h_likes h_walked h_came 0 v_trouble v_where none v_read v_taped v_size v_at v_sort v_place v_sign v_number v_fault v_wrongAt v_word v_marks v_notes N (v_far ((8 * p0) + p1).toNatClampNeg) (r_33, v_trouble_33, v_where_33) hc_33) ml_X12_81 ⟨Nat.le_of_ble_eq_true rfl, Nat.le_of_ble_eq_true rfl⟩ hP hD hS 0 rfl rfl rfl [0] [2, 1] 2 rfl rfl rfl rfl rfl rfl rfl hl.1 rfl (Nat.le_of_ble_eq_true rfl) ⟨Nat.zero_le _, Nat.zero_le _⟩ dX12_far_33 ?_
      clear hP hD hS; intro H locs hP hD hS
      refine lv_goto (pc := 36) (tgt := 44) hx hb dX12_far_36 (by decide) ?_
      cases hf
      rw [hQ]
      exact r_iret C hr hP hD hS rfl dX12_far_44
def wX12_room (E : EN) (h h_inn h_tape h_far h_from h_real h_other h_kept h_set h_w h_book h_noteSort h_whose h_what h_noteIs h_fitting h_dawn h_likes h_walked h_came h_inn_creak h_inn_doorA h_inn_doorB h_inn_how h_inn_lies h_inn_isCold h_inn_falls h_inn_isFull h_inn_isTold h_inn_act h_inn_what h_inn_then h_inn_met h_inn_bed h_inn_dream h_inn_listens h_inn_name h_inn_nameSort h_inn_nameNumber : Nat) (v_thrown : Int32) (v_trouble : Int32) (v_where : Int32) (v_read : Option Nat) (v_taped : Int32) (v_size : Int32) (v_at : Int32) (v_sort : Int32) (v_place : Int32) (v_sign : Int32) (v_number : Int32) (v_fault : Int32) (v_wrongAt : Int32) (v_word : Int64) (v_marks : Int32) (v_notes : Int32) (v_inn_minutes : Int32) (v_inn_rooms : Int32) (v_inn_doors : Int32) (v_inn_things : Int32) (v_inn_dreams : Int32) (v_inn_sleepers : Int32) (v_inn_listeners : Int32) (v_inn_names : Int32) (v_inn_isCold : Nat → Int32) (v_inn_creak : Nat → Int32) : va_W := [(h, .inr (11, [.int v_thrown, .int v_trouble, .int v_where, .ref h_inn, va_rf v_read, .ref h_tape, .int v_taped, .int v_size, .int v_at, .int v_sort, .int v_place, .int v_sign, .int v_number, .int v_fault, .int v_wrongAt, .long v_word, .ref h_far, .ref h_from, .ref h_real, .ref h_other, .ref h_kept, .ref h_set, .ref h_w, .int v_marks, .int v_notes, .ref h_book, .ref h_noteSort, .ref h_whose, .ref h_what, .ref h_noteIs, .ref h_fitting, .ref h_dawn, .ref h_likes, .ref h_walked, .ref h_came])), (h_inn, .inr (10, [.int v_inn_minutes, .int v_inn_rooms, .int v_inn_doors, .int v_inn_things, .int v_inn_dreams, .int v_inn_sleepers, .int v_inn_listeners, .int v_inn_names, .ref h_inn_creak, .ref h_inn_doorA, .ref h_inn_doorB, .ref h_inn_how, .ref h_inn_lies, .ref h_inn_isCold, .ref h_inn_falls, .ref h_inn_isFull, .ref h_inn_isTold, .ref h_inn_act, .ref h_inn_what, .ref h_inn_then, .ref h_inn_met, .ref h_inn_bed, .ref h_inn_dream, .ref h_inn_listens, .ref h_inn_name, .ref h_inn_nameSort, .ref h_inn_nameNumber])), (h_inn_isCold, aZ E 8 v_inn_isCold), (h_inn_creak, aI E 8 v_inn_creak)]
def fX12_room (N : Nat) (p0 : Int32) (p1 : Int32) (v_inn_rooms : Int32) (v_inn_isCold : Nat → Int32) (v_inn_creak : Nat → Int32) : Option (Int32 × Int32 × Int32 × Int32) := (fX12_isRoom N p0 v_inn_rooms).bind (un1 fun (r_7 : Int32) => if r_7 = 0 then ((fX12_refused N 1).bind (un3 fun (r_24 : Int32) (v_trouble_24 : Int32) (v_where_24 : Int32) => some (r_24, 0, v_trouble_24, v_where_24))) else ((fX12_in N p1 0 1).bind (un1 fun (r_16 : Int32) => if r_16 = 0 then ((fX12_refused N 1).bind (un3 fun (r_24 : Int32) (v_trouble_24 : Int32) (v_where_24 : Int32) => some (r_24, 0, v_trouble_24, v_where_24))) else (if p1 = 0 then (gd p0 8 ((fX12_good N (v_inn_creak p0.toNatClampNeg)).bind (un3 fun (r_62 : Int32) (v_trouble_62 : Int32) (v_where_62 : Int32) => some (r_62, 0, v_trouble_62, v_where_62)))) else (gd p0 8 (if (v_inn_isCold p0.toNatClampNeg) = 0 then ((fX12_good N 0).bind (un3 fun (r_62 : Int32) (v_trouble_62 : Int32) (v_where_62 : Int32) => some (r_62, 0, v_trouble_62, v_where_62))) else ((fX12_good N 1).bind (un3 fun (r_62 : Int32) (v_trouble_62 : Int32) (v_where_62 : Int32) => some (r_62, 0, v_trouble_62, v_where_62)))))))))
set_option maxHeartbeats 4000000 in
set_option maxRecDepth 100000 in
theorem ctX12_room (l : Launch) (E : EN) (h h_inn h_tape h_far h_from h_real h_other h_kept h_set h_w h_book h_noteSort h_whose h_what h_noteIs h_fitting h_dawn h_likes h_walked h_came h_inn_creak h_inn_doorA h_inn_doorB h_inn_how h_inn_lies h_inn_isCold h_inn_falls h_inn_isFull h_inn_isTold h_inn_act h_inn_what h_inn_then h_inn_met h_inn_bed h_inn_dream h_inn_listens h_inn_name h_inn_nameSort h_inn_nameNumber : Nat) (v_thrown : Int32) (v_trouble : Int32) (v_where : Int32) (v_read : Option Nat) (v_taped : Int32) (v_size : Int32) (v_at : Int32) (v_sort : Int32) (v_place : Int32) (v_sign : Int32) (v_number : Int32) (v_fault : Int32) (v_wrongAt : Int32) (v_word : Int64) (v_marks : Int32) (v_notes : Int32) (v_inn_minutes : Int32) (v_inn_rooms : Int32) (v_inn_doors : Int32) (v_inn_things : Int32) (v_inn_dreams : Int32) (v_inn_sleepers : Int32) (v_inn_listeners : Int32) (v_inn_names : Int32) (v_inn_isCold : Nat → Int32) (v_inn_creak : Nat → Int32) (N : Nat) (p0 : Int32) (p1 : Int32) (z : Int32 × Int32 × Int32 × Int32) (hf : fX12_room N p0 p1 v_inn_rooms v_inn_isCold v_inn_creak = some z) : CTi l E yX12_room cX12_room 3 .int 1 22 [.ref h, .int p0, .int p1] (wX12_room E h h_inn h_tape h_far h_from h_real h_other h_kept h_set h_w h_book h_noteSort h_whose h_what h_noteIs h_fitting h_dawn h_likes h_walked h_came h_inn_creak h_inn_doorA h_inn_doorB h_inn_how h_inn_lies h_inn_isCold h_inn_falls h_inn_isFull h_inn_isTold h_inn_act h_inn_what h_inn_then h_inn_met h_inn_bed h_inn_dream h_inn_listens h_inn_name h_inn_nameSort h_inn_nameNumber v_thrown v_trouble v_where v_read v_taped v_size v_at v_sort v_place v_sign v_number v_fault v_wrongAt v_word v_marks v_notes v_inn_minutes v_inn_rooms v_inn_doors v_inn_things v_inn_dreams v_inn_sleepers v_inn_listeners v_inn_names v_inn_isCold v_inn_creak) (z.1) (wX12_room E h h_inn h_tape h_far h_from h_real h_other h_kept h_set h_w h_book h_noteSort h_whose h_what h_noteIs h_fitting h_dawn h_likes h_walked h_came h_inn_creak h_inn_doorA h_inn_doorB h_inn_how h_inn_lies h_inn_isCold h_inn_falls h_inn_isFull h_inn_isTold h_inn_act h_inn_what h_inn_then h_inn_met h_inn_bed h_inn_dream h_inn_listens h_inn_name h_inn_nameSort h_inn_nameNumber z.2.1 z.2.2.1 z.2.2.2 v_read v_taped v_size v_at v_sort v_place v_sign v_number v_fault v_wrongAt v_word v_marks v_notes v_inn_minutes v_inn_rooms v_inn_doors v_inn_things v_inn_dreams v_inn_sleepers v_inn_listeners v_inn_names v_inn_isCold v_inn_creak) := by
  intro sz
  refine ct_body (by decide) (Nat.le_of_ble_eq_true rfl) ?_
  intro p e s m args below meth c A ls hAe C hr hin hP hD hS hl
  have C : CX p s m args meth c cX12_room RX12 3 E A := C
  have hl : lv_has ls 3 [(0, .ref h), (1, .int p0), (2, .int p1)] := hl
  have hx := C.1
  have hb := C.2.1
  rw [hAe]
  clear hAe
  obtain ⟨Q, hQ⟩ : ∃ Q, Q = MQ below (Qi E A (z.1) (wX12_room E h h_inn h_tape h_far h_from h_real h_other h_kept h_set h_w h_book h_noteSort h_whose h_what h_noteIs h_fitting h_dawn h_likes h_walked h_came h_inn_creak h_inn_doorA h_inn_doorB h_inn_how h_inn_lies h_inn_isCold h_inn_falls h_inn_isFull h_inn_isTold h_inn_act h_inn_what h_inn_then h_inn_met h_inn_bed h_inn_dream h_inn_listens h_inn_name h_inn_nameSort h_inn_nameNumber z.2.1 z.2.2.1 z.2.2.2 v_read v_taped v_size v_at v_sort v_place v_sign v_number v_fault v_wrongAt v_word v_marks v_notes v_inn_minutes v_inn_rooms v_inn_doors v_inn_things v_inn_dreams v_inn_sleepers v_inn_listeners v_inn_names v_inn_isCold v_inn_creak)) args s 0 0 A := ⟨_, rfl⟩
  rw [← hQ]
  unfold fX12_room at hf
  refine lv_aload_n (pc := 0) hx hb dX12_room_0 rfl (lv_at hl 0 rfl) ?_
  refine lv_iconst (pc := 1) (v := 0) hx hb dX12_room_1 (by decide) ?_
  refine r_put (pc := 2) (ws' := (wX12_room E h h_inn h_tape h_far h_from h_real h_other h_kept h_set h_w h_book h_noteSort h_whose h_what h_noteIs h_fitting h_dawn h_likes h_walked h_came h_inn_creak h_inn_doorA h_inn_doorB h_inn_how h_inn_lies h_inn_isCold h_inn_falls h_inn_isFull h_inn_isTold h_inn_act h_inn_what h_inn_then h_inn_met h_inn_bed h_inn_dream h_inn_listens h_inn_name h_inn_nameSort h_inn_nameNumber 0 v_trouble v_where v_read v_taped v_size v_at v_sort v_place v_sign v_number v_fault v_wrongAt v_word v_marks v_notes v_inn_minutes v_inn_rooms v_inn_doors v_inn_things v_inn_dreams v_inn_sleepers v_inn_listeners v_inn_names v_inn_isCold v_inn_creak)) C hP hD hS 0 rfl fl_X12_71 rfl rfl (Nat.le_of_ble_eq_true rfl) rfl dX12_room_2 ?_
  clear hP hD hS; intro H locs hP hD hS
  refine lv_aload_n (pc := 5) hx hb dX12_room_5 rfl (lv_at hl 0 rfl) ?_
  refine lv_iload_n (pc := 6) hx hb dX12_room_6 rfl (lv_at hl 1 rfl) ?_
  obtain ⟨r_7, hc_7, hf⟩ := bd1 hf
  refine r_dalVi (pc := 7) (ws' := (wX12_room E h h_inn h_tape h_far h_from h_real h_other h_kept h_set h_w h_book h_noteSort h_whose h_what h_noteIs h_fitting h_dawn h_likes h_walked h_came h_inn_creak h_inn_doorA h_inn_doorB h_inn_how h_inn_lies h_inn_isCold h_inn_falls h_inn_isFull h_inn_isTold h_inn_act h_inn_what h_inn_then h_inn_met h_inn_bed h_inn_dream h_inn_listens h_inn_name h_inn_nameSort h_inn_nameNumber 0 v_trouble v_where v_read v_taped v_size v_at v_sort v_place v_sign v_number v_fault v_wrongAt v_word v_marks v_notes v_inn_minutes v_inn_rooms v_inn_doors v_inn_things v_inn_dreams v_inn_sleepers v_inn_listeners v_inn_names v_inn_isCold v_inn_creak)) (As := [.int p0]) (rest := []) C (ctX12_isRoom l E h h_inn h_tape h_far h_from h_real h_other h_kept h_set h_w h_book h_noteSort h_whose h_what h_noteIs h_fitting h_dawn h_likes h_walked h_came h_inn_creak h_inn_doorA h_inn_doorB h_inn_how h_inn_lies h_inn_isCold h_inn_falls h_inn_isFull h_inn_isTold h_inn_act h_inn_what h_inn_then h_inn_met h_inn_bed h_inn_dream h_inn_listens h_inn_name h_inn_nameSort h_inn_nameNumber 0 v_trouble v_where v_read v_taped v_size v_at v_sort v_place v_sign v_number v_fault v_wrongAt v_word v_marks v_notes v_inn_minutes v_inn_rooms v_inn_doors v_inn_things v_inn_dreams v_inn_sleepers v_inn_listeners v_inn_names N p0 r_7 hc_7) ml_X12_379 ⟨Nat.le_of_ble_eq_true rfl, Nat.le_of_ble_eq_true rfl⟩ hP hD hS 0 rfl rfl rfl [0, 1] [4, 5, 2, 3] 4 rfl rfl rfl rfl rfl rfl rfl hl.1 rfl (Nat.le_of_ble_eq_true rfl) ⟨Nat.zero_le _, Nat.zero_le _⟩ dX12_room_7 ?_
  clear hP hD hS; intro H locs hP hD hS
  refine lv_if_eq (pc := 10) (tgt := 22) hx hb dX12_room_10 (by decide) (fun c_10 => ?_) (fun c_10 => ?_)
  · replace hf := it_t c_10 hf
    refine lv_aload_n (pc := 22) hx hb dX12_room_22 rfl (lv_at hl 0 rfl) ?_
    refine lv_iconst (pc := 23) (v := 1) hx hb dX12_room_23 (by decide) ?_
    obtain ⟨r_24, v_trouble_24, v_where_24, hc_24, hf⟩ := bd3 hf
    refine r_dalVi (pc := 24) (ws' := (wX12_room E h h_inn h_tape h_far h_from h_real h_other h_kept h_set h_w h_book h_noteSort h_whose h_what h_noteIs h_fitting h_dawn h_likes h_walked h_came h_inn_creak h_inn_doorA h_inn_doorB h_inn_how h_inn_lies h_inn_isCold h_inn_falls h_inn_isFull h_inn_isTold h_inn_act h_inn_what h_inn_then h_inn_met h_inn_bed h_inn_dream h_inn_listens h_inn_name h_inn_nameSort h_inn_nameNumber 0 v_trouble_24 v_where_24 v_read v_taped v_size v_at v_sort v_place v_sign v_number v_fault v_wrongAt v_word v_marks v_notes v_inn_minutes v_inn_rooms v_inn_doors v_inn_things v_inn_dreams v_inn_sleepers v_inn_listeners v_inn_names v_inn_isCold v_inn_creak)) (As := [.int 1]) (rest := []) C (ctX12_refused l E h h_tape h_far h_from h_real h_other h_kept h_set h_w h_book h_noteSort h_whose h_what h_noteIs h_fitting h_dawn h_likes h_walked h_came 0 v_trouble v_where (some h_inn) v_read v_taped v_size v_at v_sort v_place v_sign v_number v_fault v_wrongAt v_word v_marks v_notes N 1 (r_24, v_trouble_24, v_where_24) hc_24) ml_X12_77 ⟨Nat.le_of_ble_eq_true rfl, Nat.le_of_ble_eq_true rfl⟩ hP hD hS 0 rfl rfl rfl [0] [4, 1, 2, 3] 4 rfl rfl rfl rfl rfl rfl rfl hl.1 rfl (Nat.le_of_ble_eq_true rfl) ⟨Nat.zero_le _, Nat.zero_le _⟩ dX12_room_24 ?_
    clear hP hD hS; intro H locs hP hD hS
    cases hf
    rw [hQ]
    exact r_iret C hr hP hD hS rfl dX12_room_27
  · replace hf := it_f c_10 hf
    refine lv_iload_n (pc := 13) hx hb dX12_room_13 rfl (lv_at hl 2 rfl) ?_
    refine lv_iconst (pc := 14) (v := 0) hx hb dX12_room_14 (by decide) ?_
    refine lv_iconst (pc := 15) (v := 1) hx hb dX12_room_15 (by decide) ?_
    obtain ⟨r_16, hc_16, hf⟩ := bd1 hf
    refine r_dalSi (pc := 16) (Cn := "") (h := 0) (ws' := (wX12_room E h h_inn h_tape h_far h_from h_real h_other h_kept h_set h_w h_book h_noteSort h_whose h_what h_noteIs h_fitting h_dawn h_likes h_walked h_came h_inn_creak h_inn_doorA h_inn_doorB h_inn_how h_inn_lies h_inn_isCold h_inn_falls h_inn_isFull h_inn_isTold h_inn_act h_inn_what h_inn_then h_inn_met h_inn_bed h_inn_dream h_inn_listens h_inn_name h_inn_nameSort h_inn_nameNumber 0 v_trouble v_where v_read v_taped v_size v_at v_sort v_place v_sign v_number v_fault v_wrongAt v_word v_marks v_notes v_inn_minutes v_inn_rooms v_inn_doors v_inn_things v_inn_dreams v_inn_sleepers v_inn_listeners v_inn_names v_inn_isCold v_inn_creak)) (As := [.int p1, .int 0, .int 1]) (rest := []) C (ctX12_in l E N p1 0 1 r_16 hc_16) ml_X12_149 ⟨Nat.le_of_ble_eq_true rfl, Nat.le_of_ble_eq_true rfl⟩ hP hD hS [] [0, 1, 2, 3] 4 rfl rfl rfl rfl rfl rfl rfl hl.1 rfl (Nat.le_of_ble_eq_true rfl) ⟨Nat.zero_le _, Nat.zero_le _⟩ dX12_room_16 ?_
    clear hP hD hS; intro H locs hP hD hS
    refine lv_if_ne (pc := 19) (tgt := 28) hx hb dX12_room_19 (by decide) (fun c_19 => ?_) (fun c_19 => ?_)
    · replace hf := it_f c_19 hf
      refine lv_aload_n (pc := 28) hx hb dX12_room_28 rfl (lv_at hl 0 rfl) ?_
      refine lv_iload_n (pc := 29) hx hb dX12_room_29 rfl (lv_at hl 2 rfl) ?_
      refine lv_if_ne (pc := 30) (tgt := 45) hx hb dX12_room_30 (by decide) (fun c_30 => ?_) (fun c_30 => ?_)
      · replace hf := it_f c_30 hf
        refine lv_aload_n (pc := 45) hx hb dX12_room_45 rfl (lv_at hl 0 rfl) ?_
        refine r_get (pc := 46) C hP 0 rfl fl_X12_358 rfl dX12_room_46 ?_
        refine r_get (pc := 49) C hP 1 rfl fl_X12_289 rfl dX12_room_49 ?_
        refine lv_iload_n (pc := 52) hx hb dX12_room_52 rfl (lv_at hl 1 rfl) ?_
        obtain ⟨hi_53, hf⟩ := gd_s hf
        refine r_zald (pc := 53) C hP 2 rfl hi_53 dX12_room_53 ?_
        refine lv_if_eq (pc := 54) (tgt := 61) hx hb dX12_room_54 (by decide) (fun c_54 => ?_) (fun c_54 => ?_)
        · replace hf := it_t c_54 hf
          refine lv_iconst (pc := 61) (v := 0) hx hb dX12_room_61 (by decide) ?_
          obtain ⟨r_62, v_trouble_62, v_where_62, hc_62, hf⟩ := bd3 hf
          refine r_dalVi (pc := 62) (ws' := (wX12_room E h h_inn h_tape h_far h_from h_real h_other h_kept h_set h_w h_book h_noteSort h_whose h_what h_noteIs h_fitting h_dawn h_likes h_walked h_came h_inn_creak h_inn_doorA h_inn_doorB h_inn_how h_inn_lies h_inn_isCold h_inn_falls h_inn_isFull h_inn_isTold h_inn_act h_inn_what h_inn_then h_inn_met h_inn_bed h_inn_dream h_inn_listens h_inn_name h_inn_nameSort h_inn_nameNumber 0 v_trouble_62 v_where_62 v_read v_taped v_size v_at v_sort v_place v_sign v_number v_fault v_wrongAt v_word v_marks v_notes v_inn_minutes v_inn_rooms v_inn_doors v_inn_things v_inn_dreams v_inn_sleepers v_inn_listeners v_inn_names v_inn_isCold v_inn_creak)) (As := [.int 0]) (rest := []) C (ctX12_good l E h h_tape h_far h_from h_real h_other h_kept h_set h_w h_book h_noteSort h_whose h_what h_noteIs h_fitting h_dawn h_likes h_walked h_came 0 v_trouble v_where (some h_inn) v_read v_taped v_size v_at v_sort v_place v_sign v_number v_fault v_wrongAt v_word v_marks v_notes N 0 (r_62, v_trouble_62, v_where_62) hc_62) ml_X12_81 ⟨Nat.le_of_ble_eq_true rfl, Nat.le_of_ble_eq_true rfl⟩ hP hD hS 0 rfl rfl rfl [0] [4, 1, 2, 3] 4 rfl rfl rfl rfl rfl rfl rfl hl.1 rfl (Nat.le_of_ble_eq_true rfl) ⟨Nat.zero_le _, Nat.zero_le _⟩ dX12_room_62 ?_
          clear hP hD hS; intro H locs hP hD hS
          cases hf
          rw [hQ]
          exact r_iret C hr hP hD hS rfl dX12_room_65
        · replace hf := it_f c_54 hf
          refine lv_iconst (pc := 57) (v := 1) hx hb dX12_room_57 (by decide) ?_
          refine lv_goto (pc := 58) (tgt := 62) hx hb dX12_room_58 (by decide) ?_
          obtain ⟨r_62, v_trouble_62, v_where_62, hc_62, hf⟩ := bd3 hf
          refine r_dalVi (pc := 62) (ws' := (wX12_room E h h_inn h_tape h_far h_from h_real h_other h_kept h_set h_w h_book h_noteSort h_whose h_what h_noteIs h_fitting h_dawn h_likes h_walked h_came h_inn_creak h_inn_doorA h_inn_doorB h_inn_how h_inn_lies h_inn_isCold h_inn_falls h_inn_isFull h_inn_isTold h_inn_act h_inn_what h_inn_then h_inn_met h_inn_bed h_inn_dream h_inn_listens h_inn_name h_inn_nameSort h_inn_nameNumber 0 v_trouble_62 v_where_62 v_read v_taped v_size v_at v_sort v_place v_sign v_number v_fault v_wrongAt v_word v_marks v_notes v_inn_minutes v_inn_rooms v_inn_doors v_inn_things v_inn_dreams v_inn_sleepers v_inn_listeners v_inn_names v_inn_isCold v_inn_creak)) (As := [.int 1]) (rest := []) C (ctX12_good l E h h_tape h_far h_from h_real h_other h_kept h_set h_w h_book h_noteSort h_whose h_what h_noteIs h_fitting h_dawn h_likes h_walked h_came 0 v_trouble v_where (some h_inn) v_read v_taped v_size v_at v_sort v_place v_sign v_number v_fault v_wrongAt v_word v_marks v_notes N 1 (r_62, v_trouble_62, v_where_62) hc_62) ml_X12_81 ⟨Nat.le_of_ble_eq_true rfl, Nat.le_of_ble_eq_true rfl⟩ hP hD hS 0 rfl rfl rfl [0] [4, 1, 2, 3] 4 rfl rfl rfl rfl rfl rfl rfl hl.1 rfl (Nat.le_of_ble_eq_true rfl) ⟨Nat.zero_le _, Nat.zero_le _⟩ dX12_room_62 ?_
          clear hP hD hS; intro H locs hP hD hS
          cases hf
          rw [hQ]
          exact r_iret C hr hP hD hS rfl dX12_room_65
      · replace hf := it_t c_30 hf
        refine lv_aload_n (pc := 33) hx hb dX12_room_33 rfl (lv_at hl 0 rfl) ?_
        refine r_get (pc := 34) C hP 0 rfl fl_X12_358 rfl dX12_room_34 ?_
        refine r_get (pc := 37) C hP 1 rfl fl_X12_287 rfl dX12_room_37 ?_
        refine lv_iload_n (pc := 40) hx hb dX12_room_40 rfl (lv_at hl 1 rfl) ?_
        obtain ⟨hi_41, hf⟩ := gd_s hf
        refine r_iald (pc := 41) C hP 3 rfl hi_41 dX12_room_41 ?_
        refine lv_goto (pc := 42) (tgt := 62) hx hb dX12_room_42 (by decide) ?_
        obtain ⟨r_62, v_trouble_62, v_where_62, hc_62, hf⟩ := bd3 hf
        refine r_dalVi (pc := 62) (ws' := (wX12_room E h h_inn h_tape h_far h_from h_real h_other h_kept h_set h_w h_book h_noteSort h_whose h_what h_noteIs h_fitting h_dawn h_likes h_walked h_came h_inn_creak h_inn_doorA h_inn_doorB h_inn_how h_inn_lies h_inn_isCold h_inn_falls h_inn_isFull h_inn_isTold h_inn_act h_inn_what h_inn_then h_inn_met h_inn_bed h_inn_dream h_inn_listens h_inn_name h_inn_nameSort h_inn_nameNumber 0 v_trouble_62 v_where_62 v_read v_taped v_size v_at v_sort v_place v_sign v_number v_fault v_wrongAt v_word v_marks v_notes v_inn_minutes v_inn_rooms v_inn_doors v_inn_things v_inn_dreams v_inn_sleepers v_inn_listeners v_inn_names v_inn_isCold v_inn_creak)) (As := [.int (v_inn_creak p0.toNatClampNeg)]) (rest := []) C (ctX12_good l E h h_tape h_far h_from h_real h_other h_kept h_set h_w h_book h_noteSort h_whose h_what h_noteIs h_fitting h_dawn h_likes h_walked h_came 0 v_trouble v_where (some h_inn) v_read v_taped v_size v_at v_sort v_place v_sign v_number v_fault v_wrongAt v_word v_marks v_notes N (v_inn_creak p0.toNatClampNeg) (r_62, v_trouble_62, v_where_62) hc_62) ml_X12_81 ⟨Nat.le_of_ble_eq_true rfl, Nat.le_of_ble_eq_true rfl⟩ hP hD hS 0 rfl rfl rfl [0] [4, 1, 2, 3] 4 rfl rfl rfl rfl rfl rfl rfl hl.1 rfl (Nat.le_of_ble_eq_true rfl) ⟨Nat.zero_le _, Nat.zero_le _⟩ dX12_room_62 ?_
        clear hP hD hS; intro H locs hP hD hS
        cases hf
        rw [hQ]
        exact r_iret C hr hP hD hS rfl dX12_room_65
    · replace hf := it_t c_19 hf
      refine lv_aload_n (pc := 22) hx hb dX12_room_22 rfl (lv_at hl 0 rfl) ?_
      refine lv_iconst (pc := 23) (v := 1) hx hb dX12_room_23 (by decide) ?_
      obtain ⟨r_24, v_trouble_24, v_where_24, hc_24, hf⟩ := bd3 hf
      refine r_dalVi (pc := 24) (ws' := (wX12_room E h h_inn h_tape h_far h_from h_real h_other h_kept h_set h_w h_book h_noteSort h_whose h_what h_noteIs h_fitting h_dawn h_likes h_walked h_came h_inn_creak h_inn_doorA h_inn_doorB h_inn_how h_inn_lies h_inn_isCold h_inn_falls h_inn_isFull h_inn_isTold h_inn_act h_inn_what h_inn_then h_inn_met h_inn_bed h_inn_dream h_inn_listens h_inn_name h_inn_nameSort h_inn_nameNumber 0 v_trouble_24 v_where_24 v_read v_taped v_size v_at v_sort v_place v_sign v_number v_fault v_wrongAt v_word v_marks v_notes v_inn_minutes v_inn_rooms v_inn_doors v_inn_things v_inn_dreams v_inn_sleepers v_inn_listeners v_inn_names v_inn_isCold v_inn_creak)) (As := [.int 1]) (rest := []) C (ctX12_refused l E h h_tape h_far h_from h_real h_other h_kept h_set h_w h_book h_noteSort h_whose h_what h_noteIs h_fitting h_dawn h_likes h_walked h_came 0 v_trouble v_where (some h_inn) v_read v_taped v_size v_at v_sort v_place v_sign v_number v_fault v_wrongAt v_word v_marks v_notes N 1 (r_24, v_trouble_24, v_where_24) hc_24) ml_X12_77 ⟨Nat.le_of_ble_eq_true rfl, Nat.le_of_ble_eq_true rfl⟩ hP hD hS 0 rfl rfl rfl [0] [4, 1, 2, 3] 4 rfl rfl rfl rfl rfl rfl rfl hl.1 rfl (Nat.le_of_ble_eq_true rfl) ⟨Nat.zero_le _, Nat.zero_le _⟩ dX12_room_24 ?_
      clear hP hD hS; intro H locs hP hD hS
      cases hf
      rw [hQ]
      exact r_iret C hr hP hD hS rfl dX12_room_27
def wX12_room0 (E : EN) (h h_tape h_far h_from h_real h_other h_kept h_set h_w h_book h_noteSort h_whose h_what h_noteIs h_fitting h_dawn h_likes h_walked h_came : Nat) (v_thrown : Int32) (v_trouble : Int32) (v_where : Int32) (v_read : Option Nat) (v_taped : Int32) (v_size : Int32) (v_at : Int32) (v_sort : Int32) (v_place : Int32) (v_sign : Int32) (v_number : Int32) (v_fault : Int32) (v_wrongAt : Int32) (v_word : Int64) (v_marks : Int32) (v_notes : Int32) : va_W := [(h, .inr (11, [.int v_thrown, .int v_trouble, .int v_where, .null, va_rf v_read, .ref h_tape, .int v_taped, .int v_size, .int v_at, .int v_sort, .int v_place, .int v_sign, .int v_number, .int v_fault, .int v_wrongAt, .long v_word, .ref h_far, .ref h_from, .ref h_real, .ref h_other, .ref h_kept, .ref h_set, .ref h_w, .int v_marks, .int v_notes, .ref h_book, .ref h_noteSort, .ref h_whose, .ref h_what, .ref h_noteIs, .ref h_fitting, .ref h_dawn, .ref h_likes, .ref h_walked, .ref h_came]))]
def fX12_room0 (N : Nat) (p1 : Int32) : Option (Int32 × Int32 × Int32 × Int32) := (fX12_isRoom0 N).bind (un1 fun (r_7 : Int32) => if r_7 = 0 then ((fX12_refused N 1).bind (un3 fun (r_24 : Int32) (v_trouble_24 : Int32) (v_where_24 : Int32) => some (r_24, 0, v_trouble_24, v_where_24))) else ((fX12_in N p1 0 1).bind (un1 fun (r_16 : Int32) => if r_16 = 0 then ((fX12_refused N 1).bind (un3 fun (r_24 : Int32) (v_trouble_24 : Int32) (v_where_24 : Int32) => some (r_24, 0, v_trouble_24, v_where_24))) else (if p1 = 0 then (none) else (none)))))
set_option maxHeartbeats 4000000 in
set_option maxRecDepth 100000 in
theorem ctX12_room0 (l : Launch) (E : EN) (h h_tape h_far h_from h_real h_other h_kept h_set h_w h_book h_noteSort h_whose h_what h_noteIs h_fitting h_dawn h_likes h_walked h_came : Nat) (v_thrown : Int32) (v_trouble : Int32) (v_where : Int32) (v_read : Option Nat) (v_taped : Int32) (v_size : Int32) (v_at : Int32) (v_sort : Int32) (v_place : Int32) (v_sign : Int32) (v_number : Int32) (v_fault : Int32) (v_wrongAt : Int32) (v_word : Int64) (v_marks : Int32) (v_notes : Int32) (N : Nat) (p0 : Int32) (p1 : Int32) (z : Int32 × Int32 × Int32 × Int32) (hf : fX12_room0 N p1 = some z) : CTi l E yX12_room cX12_room 3 .int 1 22 [.ref h, .int p0, .int p1] (wX12_room0 E h h_tape h_far h_from h_real h_other h_kept h_set h_w h_book h_noteSort h_whose h_what h_noteIs h_fitting h_dawn h_likes h_walked h_came v_thrown v_trouble v_where v_read v_taped v_size v_at v_sort v_place v_sign v_number v_fault v_wrongAt v_word v_marks v_notes) (z.1) (wX12_room0 E h h_tape h_far h_from h_real h_other h_kept h_set h_w h_book h_noteSort h_whose h_what h_noteIs h_fitting h_dawn h_likes h_walked h_came z.2.1 z.2.2.1 z.2.2.2 v_read v_taped v_size v_at v_sort v_place v_sign v_number v_fault v_wrongAt v_word v_marks v_notes) := by
  intro sz
  refine ct_body (by decide) (Nat.le_of_ble_eq_true rfl) ?_
  intro p e s m args below meth c A ls hAe C hr hin hP hD hS hl
  have C : CX p s m args meth c cX12_room RX12 3 E A := C
  have hl : lv_has ls 3 [(0, .ref h), (1, .int p0), (2, .int p1)] := hl
  have hx := C.1
  have hb := C.2.1
  rw [hAe]
  clear hAe
  obtain ⟨Q, hQ⟩ : ∃ Q, Q = MQ below (Qi E A (z.1) (wX12_room0 E h h_tape h_far h_from h_real h_other h_kept h_set h_w h_book h_noteSort h_whose h_what h_noteIs h_fitting h_dawn h_likes h_walked h_came z.2.1 z.2.2.1 z.2.2.2 v_read v_taped v_size v_at v_sort v_place v_sign v_number v_fault v_wrongAt v_word v_marks v_notes)) args s 0 0 A := ⟨_, rfl⟩
  rw [← hQ]
  unfold fX12_room0 at hf
  refine lv_aload_n (pc := 0) hx hb dX12_room_0 rfl (lv_at hl 0 rfl) ?_
  refine lv_iconst (pc := 1) (v := 0) hx hb dX12_room_1 (by decide) ?_
  refine r_put (pc := 2) (ws' := (wX12_room0 E h h_tape h_far h_from h_real h_other h_kept h_set h_w h_book h_noteSort h_whose h_what h_noteIs h_fitting h_dawn h_likes h_walked h_came 0 v_trouble v_where v_read v_taped v_size v_at v_sort v_place v_sign v_number v_fault v_wrongAt v_word v_marks v_notes)) C hP hD hS 0 rfl fl_X12_71 rfl rfl (Nat.le_of_ble_eq_true rfl) rfl dX12_room_2 ?_
  clear hP hD hS; intro H locs hP hD hS
  refine lv_aload_n (pc := 5) hx hb dX12_room_5 rfl (lv_at hl 0 rfl) ?_
  refine lv_iload_n (pc := 6) hx hb dX12_room_6 rfl (lv_at hl 1 rfl) ?_
  obtain ⟨r_7, hc_7, hf⟩ := bd1 hf
  refine r_dalVi (pc := 7) (ws' := (wX12_room0 E h h_tape h_far h_from h_real h_other h_kept h_set h_w h_book h_noteSort h_whose h_what h_noteIs h_fitting h_dawn h_likes h_walked h_came 0 v_trouble v_where v_read v_taped v_size v_at v_sort v_place v_sign v_number v_fault v_wrongAt v_word v_marks v_notes)) (As := [.int p0]) (rest := []) C (ctX12_isRoom0 l E h h_tape h_far h_from h_real h_other h_kept h_set h_w h_book h_noteSort h_whose h_what h_noteIs h_fitting h_dawn h_likes h_walked h_came 0 v_trouble v_where v_read v_taped v_size v_at v_sort v_place v_sign v_number v_fault v_wrongAt v_word v_marks v_notes N p0 r_7 hc_7) ml_X12_379 ⟨Nat.le_of_ble_eq_true rfl, Nat.le_of_ble_eq_true rfl⟩ hP hD hS 0 rfl rfl rfl [0] [1] 1 rfl rfl rfl rfl rfl rfl rfl hl.1 rfl (Nat.le_of_ble_eq_true rfl) ⟨Nat.zero_le _, Nat.zero_le _⟩ dX12_room_7 ?_
  clear hP hD hS; intro H locs hP hD hS
  refine lv_if_eq (pc := 10) (tgt := 22) hx hb dX12_room_10 (by decide) (fun c_10 => ?_) (fun c_10 => ?_)
  · replace hf := it_t c_10 hf
    refine lv_aload_n (pc := 22) hx hb dX12_room_22 rfl (lv_at hl 0 rfl) ?_
    refine lv_iconst (pc := 23) (v := 1) hx hb dX12_room_23 (by decide) ?_
    obtain ⟨r_24, v_trouble_24, v_where_24, hc_24, hf⟩ := bd3 hf
    refine r_dalVi (pc := 24) (ws' := (wX12_room0 E h h_tape h_far h_from h_real h_other h_kept h_set h_w h_book h_noteSort h_whose h_what h_noteIs h_fitting h_dawn h_likes h_walked h_came 0 v_trouble_24 v_where_24 v_read v_taped v_size v_at v_sort v_place v_sign v_number v_fault v_wrongAt v_word v_marks v_notes)) (As := [.int 1]) (rest := []) C (ctX12_refused l E h h_tape h_far h_from h_real h_other h_kept h_set h_w h_book h_noteSort h_whose h_what h_noteIs h_fitting h_dawn h_likes h_walked h_came 0 v_trouble v_where none v_read v_taped v_size v_at v_sort v_place v_sign v_number v_fault v_wrongAt v_word v_marks v_notes N 1 (r_24, v_trouble_24, v_where_24) hc_24) ml_X12_77 ⟨Nat.le_of_ble_eq_true rfl, Nat.le_of_ble_eq_true rfl⟩ hP hD hS 0 rfl rfl rfl [0] [1] 1 rfl rfl rfl rfl rfl rfl rfl hl.1 rfl (Nat.le_of_ble_eq_true rfl) ⟨Nat.zero_le _, Nat.zero_le _⟩ dX12_room_24 ?_
    clear hP hD hS; intro H locs hP hD hS
    cases hf
    rw [hQ]
    exact r_iret C hr hP hD hS rfl dX12_room_27
  · replace hf := it_f c_10 hf
    refine lv_iload_n (pc := 13) hx hb dX12_room_13 rfl (lv_at hl 2 rfl) ?_
    refine lv_iconst (pc := 14) (v := 0) hx hb dX12_room_14 (by decide) ?_
    refine lv_iconst (pc := 15) (v := 1) hx hb dX12_room_15 (by decide) ?_
    obtain ⟨r_16, hc_16, hf⟩ := bd1 hf
    refine r_dalSi (pc := 16) (Cn := "") (h := 0) (ws' := (wX12_room0 E h h_tape h_far h_from h_real h_other h_kept h_set h_w h_book h_noteSort h_whose h_what h_noteIs h_fitting h_dawn h_likes h_walked h_came 0 v_trouble v_where v_read v_taped v_size v_at v_sort v_place v_sign v_number v_fault v_wrongAt v_word v_marks v_notes)) (As := [.int p1, .int 0, .int 1]) (rest := []) C (ctX12_in l E N p1 0 1 r_16 hc_16) ml_X12_149 ⟨Nat.le_of_ble_eq_true rfl, Nat.le_of_ble_eq_true rfl⟩ hP hD hS [] [0] 1 rfl rfl rfl rfl rfl rfl rfl hl.1 rfl (Nat.le_of_ble_eq_true rfl) ⟨Nat.zero_le _, Nat.zero_le _⟩ dX12_room_16 ?_
    clear hP hD hS; intro H locs hP hD hS
    refine lv_if_ne (pc := 19) (tgt := 28) hx hb dX12_room_19 (by decide) (fun c_19 => ?_) (fun c_19 => ?_)
    · replace hf := it_f c_19 hf
      refine lv_aload_n (pc := 28) hx hb dX12_room_28 rfl (lv_at hl 0 rfl) ?_
      refine lv_iload_n (pc := 29) hx hb dX12_room_29 rfl (lv_at hl 2 rfl) ?_
      refine lv_if_ne (pc := 30) (tgt := 45) hx hb dX12_room_30 (by decide) (fun c_30 => ?_) (fun c_30 => ?_)
      · replace hf := it_f c_30 hf
        refine lv_aload_n (pc := 45) hx hb dX12_room_45 rfl (lv_at hl 0 rfl) ?_
        refine r_get (pc := 46) C hP 0 rfl fl_X12_358 rfl dX12_room_46 ?_
        cases hf
      · replace hf := it_t c_30 hf
        refine lv_aload_n (pc := 33) hx hb dX12_room_33 rfl (lv_at hl 0 rfl) ?_
        refine r_get (pc := 34) C hP 0 rfl fl_X12_358 rfl dX12_room_34 ?_
        cases hf
    · replace hf := it_t c_19 hf
      refine lv_aload_n (pc := 22) hx hb dX12_room_22 rfl (lv_at hl 0 rfl) ?_
      refine lv_iconst (pc := 23) (v := 1) hx hb dX12_room_23 (by decide) ?_
      obtain ⟨r_24, v_trouble_24, v_where_24, hc_24, hf⟩ := bd3 hf
      refine r_dalVi (pc := 24) (ws' := (wX12_room0 E h h_tape h_far h_from h_real h_other h_kept h_set h_w h_book h_noteSort h_whose h_what h_noteIs h_fitting h_dawn h_likes h_walked h_came 0 v_trouble_24 v_where_24 v_read v_taped v_size v_at v_sort v_place v_sign v_number v_fault v_wrongAt v_word v_marks v_notes)) (As := [.int 1]) (rest := []) C (ctX12_refused l E h h_tape h_far h_from h_real h_other h_kept h_set h_w h_book h_noteSort h_whose h_what h_noteIs h_fitting h_dawn h_likes h_walked h_came 0 v_trouble v_where none v_read v_taped v_size v_at v_sort v_place v_sign v_number v_fault v_wrongAt v_word v_marks v_notes N 1 (r_24, v_trouble_24, v_where_24) hc_24) ml_X12_77 ⟨Nat.le_of_ble_eq_true rfl, Nat.le_of_ble_eq_true rfl⟩ hP hD hS 0 rfl rfl rfl [0] [1] 1 rfl rfl rfl rfl rfl rfl rfl hl.1 rfl (Nat.le_of_ble_eq_true rfl) ⟨Nat.zero_le _, Nat.zero_le _⟩ dX12_room_24 ?_
      clear hP hD hS; intro H locs hP hD hS
      cases hf
      rw [hQ]
      exact r_iret C hr hP hD hS rfl dX12_room_27
