theorem dX10_walks_0 : decode cX10_walks 0 = .ok (.aload_n 0, 1) := by decide +kernel
theorem dX10_walks_1 : decode cX10_walks 1 = .ok (.iload_n 1, 1) := by decide +kernel
theorem dX10_walks_2 : decode cX10_walks 2 = .ok (.invokevirtual 298, 3) := by decide +kernel
theorem dX10_walks_5 : decode cX10_walks 5 = .ok (.ireturn, 1) := by decide +kernel
theorem dX10_led_0 : decode cX10_led 0 = .ok (.iconst 0, 1) := by decide +kernel
theorem dX10_led_1 : decode cX10_led 1 = .ok (.istore_n 2, 1) := by decide +kernel
theorem dX10_led_2 : decode cX10_led 2 = .ok (.iconst 0, 1) := by decide +kernel
theorem dX10_led_3 : decode cX10_led 3 = .ok (.istore_n 3, 1) := by decide +kernel
theorem dX10_led_4 : decode cX10_led 4 = .ok (.iload_n 3, 1) := by decide +kernel
theorem dX10_led_5 : decode cX10_led 5 = .ok (.aload_n 0, 1) := by decide +kernel
theorem dX10_led_6 : decode cX10_led 6 = .ok (.getfield 19, 3) := by decide +kernel
theorem dX10_led_9 : decode cX10_led 9 = .ok (.getfield 92, 3) := by decide +kernel
theorem dX10_led_12 : decode cX10_led 12 = .ok (.if_icmp .ge 40, 3) := by decide +kernel
theorem dX10_led_15 : decode cX10_led 15 = .ok (.aload_n 0, 1) := by decide +kernel
theorem dX10_led_16 : decode cX10_led 16 = .ok (.getfield 32, 3) := by decide +kernel
theorem dX10_led_19 : decode cX10_led 19 = .ok (.getfield 186, 3) := by decide +kernel
theorem dX10_led_22 : decode cX10_led 22 = .ok (.iload_n 3, 1) := by decide +kernel
theorem dX10_led_23 : decode cX10_led 23 = .ok (.iaload, 1) := by decide +kernel
theorem dX10_led_24 : decode cX10_led 24 = .ok (.aload_n 0, 1) := by decide +kernel
theorem dX10_led_25 : decode cX10_led 25 = .ok (.getfield 19, 3) := by decide +kernel
theorem dX10_led_28 : decode cX10_led 28 = .ok (.getfield 301, 3) := by decide +kernel
theorem dX10_led_31 : decode cX10_led 31 = .ok (.iload_n 3, 1) := by decide +kernel
theorem dX10_led_32 : decode cX10_led 32 = .ok (.iaload, 1) := by decide +kernel
theorem dX10_led_33 : decode cX10_led 33 = .ok (.if_icmp .eq 13, 3) := by decide +kernel
theorem dX10_led_36 : decode cX10_led 36 = .ok (.iload_n 2, 1) := by decide +kernel
theorem dX10_led_37 : decode cX10_led 37 = .ok (.iload_n 1, 1) := by decide +kernel
theorem dX10_led_38 : decode cX10_led 38 = .ok (.if_icmp .ne 5, 3) := by decide +kernel
theorem dX10_led_41 : decode cX10_led 41 = .ok (.iload_n 3, 1) := by decide +kernel
theorem dX10_led_42 : decode cX10_led 42 = .ok (.ireturn, 1) := by decide +kernel
theorem dX10_led_43 : decode cX10_led 43 = .ok (.iinc 2 1, 3) := by decide +kernel
theorem dX10_led_46 : decode cX10_led 46 = .ok (.iinc 3 1, 3) := by decide +kernel
theorem dX10_led_49 : decode cX10_led 49 = .ok (.goto (-45), 3) := by decide +kernel
theorem dX10_led_52 : decode cX10_led 52 = .ok (.new 304, 3) := by decide +kernel
theorem dX10_size_0 : decode cX10_size 0 = .ok (.iload_n 1, 1) := by decide +kernel
theorem dX10_size_1 : decode cX10_size 1 = .ok (.tableswitch 165 0 11 #[63, 74, 85, 93, 101, 109, 117, 125, 133, 141, 146, 154], 63) := by decide +kernel
theorem dX10_size_64 : decode cX10_size 64 = .ok (.aload_n 0, 1) := by decide +kernel
theorem dX10_size_65 : decode cX10_size 65 = .ok (.getfield 19, 3) := by decide +kernel
theorem dX10_size_68 : decode cX10_size 68 = .ok (.getfield 105, 3) := by decide +kernel
theorem dX10_size_71 : decode cX10_size 71 = .ok (.getfield 307, 3) := by decide +kernel
theorem dX10_size_74 : decode cX10_size 74 = .ok (.ireturn, 1) := by decide +kernel
theorem dX10_size_75 : decode cX10_size 75 = .ok (.aload_n 0, 1) := by decide +kernel
theorem dX10_size_76 : decode cX10_size 76 = .ok (.getfield 19, 3) := by decide +kernel
theorem dX10_size_79 : decode cX10_size 79 = .ok (.getfield 105, 3) := by decide +kernel
theorem dX10_size_82 : decode cX10_size 82 = .ok (.getfield 310, 3) := by decide +kernel
theorem dX10_size_85 : decode cX10_size 85 = .ok (.ireturn, 1) := by decide +kernel
theorem dX10_size_86 : decode cX10_size 86 = .ok (.aload_n 0, 1) := by decide +kernel
theorem dX10_size_87 : decode cX10_size 87 = .ok (.getfield 19, 3) := by decide +kernel
theorem dX10_size_90 : decode cX10_size 90 = .ok (.getfield 313, 3) := by decide +kernel
theorem dX10_size_93 : decode cX10_size 93 = .ok (.ireturn, 1) := by decide +kernel
theorem dX10_size_94 : decode cX10_size 94 = .ok (.aload_n 0, 1) := by decide +kernel
theorem dX10_size_95 : decode cX10_size 95 = .ok (.getfield 19, 3) := by decide +kernel
theorem dX10_size_98 : decode cX10_size 98 = .ok (.getfield 139, 3) := by decide +kernel
theorem dX10_size_101 : decode cX10_size 101 = .ok (.ireturn, 1) := by decide +kernel
theorem dX10_size_102 : decode cX10_size 102 = .ok (.aload_n 0, 1) := by decide +kernel
theorem dX10_size_103 : decode cX10_size 103 = .ok (.getfield 19, 3) := by decide +kernel
theorem dX10_size_106 : decode cX10_size 106 = .ok (.getfield 92, 3) := by decide +kernel
theorem dX10_size_109 : decode cX10_size 109 = .ok (.ireturn, 1) := by decide +kernel
theorem dX10_size_110 : decode cX10_size 110 = .ok (.aload_n 0, 1) := by decide +kernel
theorem dX10_size_111 : decode cX10_size 111 = .ok (.getfield 19, 3) := by decide +kernel
theorem dX10_size_114 : decode cX10_size 114 = .ok (.getfield 316, 3) := by decide +kernel
theorem dX10_size_117 : decode cX10_size 117 = .ok (.ireturn, 1) := by decide +kernel
theorem dX10_size_118 : decode cX10_size 118 = .ok (.aload_n 0, 1) := by decide +kernel
theorem dX10_size_119 : decode cX10_size 119 = .ok (.getfield 19, 3) := by decide +kernel
theorem dX10_size_122 : decode cX10_size 122 = .ok (.getfield 172, 3) := by decide +kernel
theorem dX10_size_125 : decode cX10_size 125 = .ok (.ireturn, 1) := by decide +kernel
theorem dX10_size_126 : decode cX10_size 126 = .ok (.aload_n 0, 1) := by decide +kernel
theorem dX10_size_127 : decode cX10_size 127 = .ok (.getfield 32, 3) := by decide +kernel
theorem dX10_size_130 : decode cX10_size 130 = .ok (.getfield 175, 3) := by decide +kernel
theorem dX10_size_133 : decode cX10_size 133 = .ok (.ireturn, 1) := by decide +kernel
theorem dX10_size_134 : decode cX10_size 134 = .ok (.aload_n 0, 1) := by decide +kernel
theorem dX10_size_135 : decode cX10_size 135 = .ok (.getfield 43, 3) := by decide +kernel
theorem dX10_size_138 : decode cX10_size 138 = .ok (.getfield 256, 3) := by decide +kernel
theorem dX10_size_141 : decode cX10_size 141 = .ok (.ireturn, 1) := by decide +kernel
theorem dX10_size_142 : decode cX10_size 142 = .ok (.aload_n 0, 1) := by decide +kernel
theorem dX10_size_143 : decode cX10_size 143 = .ok (.getfield 242, 3) := by decide +kernel
theorem dX10_size_146 : decode cX10_size 146 = .ok (.ireturn, 1) := by decide +kernel
theorem dX10_size_147 : decode cX10_size 147 = .ok (.aload_n 0, 1) := by decide +kernel
theorem dX10_size_148 : decode cX10_size 148 = .ok (.getfield 32, 3) := by decide +kernel
theorem dX10_size_151 : decode cX10_size 151 = .ok (.getfield 319, 3) := by decide +kernel
theorem dX10_size_154 : decode cX10_size 154 = .ok (.ireturn, 1) := by decide +kernel
theorem dX10_size_155 : decode cX10_size 155 = .ok (.aload_n 0, 1) := by decide +kernel
theorem dX10_size_156 : decode cX10_size 156 = .ok (.getfield 12, 3) := by decide +kernel
theorem dX10_size_159 : decode cX10_size 159 = .ok (.getfield 54, 3) := by decide +kernel
theorem dX10_size_162 : decode cX10_size 162 = .ok (.getfield 58, 3) := by decide +kernel
theorem dX10_size_165 : decode cX10_size 165 = .ok (.ireturn, 1) := by decide +kernel
theorem dX10_size_166 : decode cX10_size 166 = .ok (.iconst (-1), 1) := by decide +kernel
theorem dX10_size_167 : decode cX10_size 167 = .ok (.ireturn, 1) := by decide +kernel
theorem dX10_trouble_0 : decode cX10_trouble 0 = .ok (.aload_n 0, 1) := by decide +kernel
theorem dX10_trouble_1 : decode cX10_trouble 1 = .ok (.getfield 98, 3) := by decide +kernel
theorem dX10_trouble_4 : decode cX10_trouble 4 = .ok (.ireturn, 1) := by decide +kernel
theorem dX12_thrown_0 : decode cX12_thrown 0 = .ok (.aload_n 0, 1) := by decide +kernel
theorem dX12_thrown_1 : decode cX12_thrown 1 = .ok (.getfield 71, 3) := by decide +kernel
theorem dX12_thrown_4 : decode cX12_thrown 4 = .ok (.ireturn, 1) := by decide +kernel
theorem dX12_refused_0 : decode cX12_refused 0 = .ok (.aload_n 0, 1) := by decide +kernel
theorem dX12_refused_1 : decode cX12_refused 1 = .ok (.iload_n 1, 1) := by decide +kernel
theorem dX12_refused_2 : decode cX12_refused 2 = .ok (.putfield 74, 3) := by decide +kernel
theorem dX12_refused_5 : decode cX12_refused 5 = .ok (.aload_n 0, 1) := by decide +kernel
theorem dX12_refused_6 : decode cX12_refused 6 = .ok (.iconst (-1), 1) := by decide +kernel
theorem dX12_refused_7 : decode cX12_refused 7 = .ok (.putfield 9, 3) := by decide +kernel
theorem dX12_refused_10 : decode cX12_refused 10 = .ok (.iconst (-1), 1) := by decide +kernel
theorem dX12_refused_11 : decode cX12_refused 11 = .ok (.ireturn, 1) := by decide +kernel
theorem dX12_denied_0 : decode cX12_denied 0 = .ok (.aload_n 0, 1) := by decide +kernel
theorem dX12_denied_1 : decode cX12_denied 1 = .ok (.iload_n 1, 1) := by decide +kernel
theorem dX12_denied_2 : decode cX12_denied 2 = .ok (.invokevirtual 77, 3) := by decide +kernel
theorem dX12_denied_5 : decode cX12_denied 5 = .ok (.pop, 1) := by decide +kernel
theorem dX12_denied_6 : decode cX12_denied 6 = .ok (.iconst 0, 1) := by decide +kernel
theorem dX12_denied_7 : decode cX12_denied 7 = .ok (.ireturn, 1) := by decide +kernel
theorem dX12_good_0 : decode cX12_good 0 = .ok (.aload_n 0, 1) := by decide +kernel
theorem dX12_good_1 : decode cX12_good 1 = .ok (.iconst 0, 1) := by decide +kernel
theorem dX12_good_2 : decode cX12_good 2 = .ok (.putfield 74, 3) := by decide +kernel
theorem dX12_good_5 : decode cX12_good 5 = .ok (.aload_n 0, 1) := by decide +kernel
theorem dX12_good_6 : decode cX12_good 6 = .ok (.iconst (-1), 1) := by decide +kernel
theorem dX12_good_7 : decode cX12_good 7 = .ok (.putfield 9, 3) := by decide +kernel
theorem dX12_good_10 : decode cX12_good 10 = .ok (.iload_n 1, 1) := by decide +kernel
theorem dX12_good_11 : decode cX12_good 11 = .ok (.ireturn, 1) := by decide +kernel
theorem dX12_granted_0 : decode cX12_granted 0 = .ok (.aload_n 0, 1) := by decide +kernel
theorem dX12_granted_1 : decode cX12_granted 1 = .ok (.iconst 0, 1) := by decide +kernel
theorem dX12_granted_2 : decode cX12_granted 2 = .ok (.invokevirtual 81, 3) := by decide +kernel
theorem dX12_granted_5 : decode cX12_granted 5 = .ok (.pop, 1) := by decide +kernel
theorem dX12_granted_6 : decode cX12_granted 6 = .ok (.iconst 1, 1) := by decide +kernel
theorem dX12_granted_7 : decode cX12_granted 7 = .ok (.ireturn, 1) := by decide +kernel
theorem dX12_in_0 : decode cX12_in 0 = .ok (.iload_n 0, 1) := by decide +kernel
theorem dX12_in_1 : decode cX12_in 1 = .ok (.iload_n 1, 1) := by decide +kernel
theorem dX12_in_2 : decode cX12_in 2 = .ok (.if_icmp .lt 12, 3) := by decide +kernel
theorem dX12_in_5 : decode cX12_in 5 = .ok (.iload_n 0, 1) := by decide +kernel
theorem dX12_in_6 : decode cX12_in 6 = .ok (.iload_n 2, 1) := by decide +kernel
theorem dX12_in_7 : decode cX12_in 7 = .ok (.if_icmp .gt 7, 3) := by decide +kernel
theorem dX12_in_10 : decode cX12_in 10 = .ok (.iconst 1, 1) := by decide +kernel
theorem dX12_in_11 : decode cX12_in 11 = .ok (.goto 4, 3) := by decide +kernel
theorem dX12_in_14 : decode cX12_in 14 = .ok (.iconst 0, 1) := by decide +kernel
theorem dX12_in_15 : decode cX12_in 15 = .ok (.ireturn, 1) := by decide +kernel
theorem dX12_has_0 : decode cX12_has 0 = .ok (.iload_n 0, 1) := by decide +kernel
theorem dX12_has_1 : decode cX12_has 1 = .ok (.iload_n 1, 1) := by decide +kernel
theorem dX12_has_2 : decode cX12_has 2 = .ok (.ishr, 1) := by decide +kernel
theorem dX12_has_3 : decode cX12_has 3 = .ok (.iconst 1, 1) := by decide +kernel
theorem dX12_has_4 : decode cX12_has 4 = .ok (.iand, 1) := by decide +kernel
theorem dX12_has_5 : decode cX12_has 5 = .ok (.iconst 1, 1) := by decide +kernel
theorem dX12_has_6 : decode cX12_has 6 = .ok (.if_icmp .ne 7, 3) := by decide +kernel
theorem dX12_has_9 : decode cX12_has 9 = .ok (.iconst 1, 1) := by decide +kernel
theorem dX12_has_10 : decode cX12_has 10 = .ok (.goto 4, 3) := by decide +kernel
theorem dX12_has_13 : decode cX12_has 13 = .ok (.iconst 0, 1) := by decide +kernel
theorem dX12_has_14 : decode cX12_has 14 = .ok (.ireturn, 1) := by decide +kernel
theorem dX12_bits_0 : decode cX12_bits 0 = .ok (.iconst 0, 1) := by decide +kernel
theorem dX12_bits_1 : decode cX12_bits 1 = .ok (.istore_n 1, 1) := by decide +kernel
theorem dX12_bits_2 : decode cX12_bits 2 = .ok (.iload_n 0, 1) := by decide +kernel
theorem dX12_bits_3 : decode cX12_bits 3 = .ok (.istore_n 2, 1) := by decide +kernel
theorem dX12_bits_4 : decode cX12_bits 4 = .ok (.iload_n 2, 1) := by decide +kernel
theorem dX12_bits_5 : decode cX12_bits 5 = .ok (.ifCond .eq 15, 3) := by decide +kernel
theorem dX12_bits_8 : decode cX12_bits 8 = .ok (.iinc 1 1, 3) := by decide +kernel
theorem dX12_bits_11 : decode cX12_bits 11 = .ok (.iload_n 2, 1) := by decide +kernel
theorem dX12_bits_12 : decode cX12_bits 12 = .ok (.iload_n 2, 1) := by decide +kernel
theorem dX12_bits_13 : decode cX12_bits 13 = .ok (.iconst 1, 1) := by decide +kernel
theorem dX12_bits_14 : decode cX12_bits 14 = .ok (.isub, 1) := by decide +kernel
theorem dX12_bits_15 : decode cX12_bits 15 = .ok (.iand, 1) := by decide +kernel
theorem dX12_bits_16 : decode cX12_bits 16 = .ok (.istore_n 2, 1) := by decide +kernel
theorem dX12_bits_17 : decode cX12_bits 17 = .ok (.goto (-13), 3) := by decide +kernel
theorem dX12_bits_20 : decode cX12_bits 20 = .ok (.iload_n 1, 1) := by decide +kernel
theorem dX12_bits_21 : decode cX12_bits 21 = .ok (.ireturn, 1) := by decide +kernel
theorem dX12_byteAt_0 : decode cX12_byteAt 0 = .ok (.iload_n 1, 1) := by decide +kernel
theorem dX12_byteAt_1 : decode cX12_byteAt 1 = .ok (.aload_n 0, 1) := by decide +kernel
theorem dX12_byteAt_2 : decode cX12_byteAt 2 = .ok (.getfield 84, 3) := by decide +kernel
theorem dX12_byteAt_5 : decode cX12_byteAt 5 = .ok (.if_icmp .ge 16, 3) := by decide +kernel
theorem dX12_byteAt_8 : decode cX12_byteAt 8 = .ok (.aload_n 0, 1) := by decide +kernel
theorem dX12_byteAt_9 : decode cX12_byteAt 9 = .ok (.getfield 13, 3) := by decide +kernel
theorem dX12_byteAt_12 : decode cX12_byteAt 12 = .ok (.iload_n 1, 1) := by decide +kernel
theorem dX12_byteAt_13 : decode cX12_byteAt 13 = .ok (.baload, 1) := by decide +kernel
theorem dX12_byteAt_14 : decode cX12_byteAt 14 = .ok (.sipush 255, 3) := by decide +kernel
theorem dX12_byteAt_17 : decode cX12_byteAt 17 = .ok (.iand, 1) := by decide +kernel
theorem dX12_byteAt_18 : decode cX12_byteAt 18 = .ok (.goto 4, 3) := by decide +kernel
theorem dX12_byteAt_21 : decode cX12_byteAt 21 = .ok (.iconst (-1), 1) := by decide +kernel
theorem dX12_byteAt_22 : decode cX12_byteAt 22 = .ok (.ireturn, 1) := by decide +kernel
theorem dX12_isLetter_0 : decode cX12_isLetter 0 = .ok (.iload_n 0, 1) := by decide +kernel
theorem dX12_isLetter_1 : decode cX12_isLetter 1 = .ok (.bipush 97, 2) := by decide +kernel
theorem dX12_isLetter_3 : decode cX12_isLetter 3 = .ok (.if_icmp .lt 13, 3) := by decide +kernel
theorem dX12_isLetter_6 : decode cX12_isLetter 6 = .ok (.iload_n 0, 1) := by decide +kernel
theorem dX12_isLetter_7 : decode cX12_isLetter 7 = .ok (.bipush 122, 2) := by decide +kernel
theorem dX12_isLetter_9 : decode cX12_isLetter 9 = .ok (.if_icmp .gt 7, 3) := by decide +kernel
theorem dX12_isLetter_12 : decode cX12_isLetter 12 = .ok (.iconst 1, 1) := by decide +kernel
theorem dX12_isLetter_13 : decode cX12_isLetter 13 = .ok (.goto 4, 3) := by decide +kernel
theorem dX12_isLetter_16 : decode cX12_isLetter 16 = .ok (.iconst 0, 1) := by decide +kernel
theorem dX12_isLetter_17 : decode cX12_isLetter 17 = .ok (.ireturn, 1) := by decide +kernel
theorem dX12_isDigit_0 : decode cX12_isDigit 0 = .ok (.iload_n 0, 1) := by decide +kernel
theorem dX12_isDigit_1 : decode cX12_isDigit 1 = .ok (.bipush 48, 2) := by decide +kernel
theorem dX12_isDigit_3 : decode cX12_isDigit 3 = .ok (.if_icmp .lt 13, 3) := by decide +kernel
theorem dX12_isDigit_6 : decode cX12_isDigit 6 = .ok (.iload_n 0, 1) := by decide +kernel
theorem dX12_isDigit_7 : decode cX12_isDigit 7 = .ok (.bipush 57, 2) := by decide +kernel
theorem dX12_isDigit_9 : decode cX12_isDigit 9 = .ok (.if_icmp .gt 7, 3) := by decide +kernel
theorem dX12_isDigit_12 : decode cX12_isDigit 12 = .ok (.iconst 1, 1) := by decide +kernel
theorem dX12_isDigit_13 : decode cX12_isDigit 13 = .ok (.goto 4, 3) := by decide +kernel
theorem dX12_isDigit_16 : decode cX12_isDigit 16 = .ok (.iconst 0, 1) := by decide +kernel
theorem dX12_isDigit_17 : decode cX12_isDigit 17 = .ok (.ireturn, 1) := by decide +kernel
theorem dJ0_coder_7d493_0 : decode cJ0_coder_7d493 0 = .ok (.getstatic 38, 3) := by decide +kernel
theorem dJ0_coder_7d493_3 : decode cJ0_coder_7d493 3 = .ok (.ifCond .eq 10, 3) := by decide +kernel
theorem dJ0_coder_7d493_6 : decode cJ0_coder_7d493 6 = .ok (.aload_n 0, 1) := by decide +kernel
theorem dJ0_coder_7d493_7 : decode cJ0_coder_7d493 7 = .ok (.getfield 15, 3) := by decide +kernel
theorem dJ0_coder_7d493_10 : decode cJ0_coder_7d493 10 = .ok (.goto 4, 3) := by decide +kernel
theorem dJ0_coder_7d493_13 : decode cJ0_coder_7d493 13 = .ok (.iconst 1, 1) := by decide +kernel
theorem dJ0_coder_7d493_14 : decode cJ0_coder_7d493 14 = .ok (.ireturn, 1) := by decide +kernel
theorem dJ0_length_8abf5_0 : decode cJ0_length_8abf5 0 = .ok (.aload_n 0, 1) := by decide +kernel
theorem dJ0_length_8abf5_1 : decode cJ0_length_8abf5 1 = .ok (.getfield 9, 3) := by decide +kernel
theorem dJ0_length_8abf5_4 : decode cJ0_length_8abf5 4 = .ok (.arraylength, 1) := by decide +kernel
theorem dJ0_length_8abf5_5 : decode cJ0_length_8abf5 5 = .ok (.aload_n 0, 1) := by decide +kernel
theorem dJ0_length_8abf5_6 : decode cJ0_length_8abf5 6 = .ok (.invokevirtual 335, 3) := by decide +kernel
theorem dJ0_length_8abf5_9 : decode cJ0_length_8abf5 9 = .ok (.ishr, 1) := by decide +kernel
theorem dJ0_length_8abf5_10 : decode cJ0_length_8abf5 10 = .ok (.ireturn, 1) := by decide +kernel
theorem dJ0_isLatin1_aae02_0 : decode cJ0_isLatin1_aae02 0 = .ok (.getstatic 38, 3) := by decide +kernel
theorem dJ0_isLatin1_aae02_3 : decode cJ0_isLatin1_aae02 3 = .ok (.ifCond .eq 14, 3) := by decide +kernel
theorem dJ0_isLatin1_aae02_6 : decode cJ0_isLatin1_aae02 6 = .ok (.aload_n 0, 1) := by decide +kernel
theorem dJ0_isLatin1_aae02_7 : decode cJ0_isLatin1_aae02 7 = .ok (.getfield 15, 3) := by decide +kernel
theorem dJ0_isLatin1_aae02_10 : decode cJ0_isLatin1_aae02 10 = .ok (.ifCond .ne 7, 3) := by decide +kernel
theorem dJ0_isLatin1_aae02_13 : decode cJ0_isLatin1_aae02 13 = .ok (.iconst 1, 1) := by decide +kernel
theorem dJ0_isLatin1_aae02_14 : decode cJ0_isLatin1_aae02 14 = .ok (.goto 4, 3) := by decide +kernel
theorem dJ0_isLatin1_aae02_17 : decode cJ0_isLatin1_aae02 17 = .ok (.iconst 0, 1) := by decide +kernel
theorem dJ0_isLatin1_aae02_18 : decode cJ0_isLatin1_aae02 18 = .ok (.ireturn, 1) := by decide +kernel
theorem dJ3_checkIndex_8e157_0 : decode cJ3_checkIndex_8e157 0 = .ok (.iload_n 0, 1) := by decide +kernel
theorem dJ3_checkIndex_8e157_1 : decode cJ3_checkIndex_8e157 1 = .ok (.ifCond .lt 8, 3) := by decide +kernel
theorem dJ3_checkIndex_8e157_4 : decode cJ3_checkIndex_8e157 4 = .ok (.iload_n 0, 1) := by decide +kernel
theorem dJ3_checkIndex_8e157_5 : decode cJ3_checkIndex_8e157 5 = .ok (.iload_n 1, 1) := by decide +kernel
theorem dJ3_checkIndex_8e157_6 : decode cJ3_checkIndex_8e157 6 = .ok (.if_icmp .lt 10, 3) := by decide +kernel
theorem dJ3_checkIndex_8e157_9 : decode cJ3_checkIndex_8e157 9 = .ok (.aload_n 2, 1) := by decide +kernel
theorem dJ3_checkIndex_8e157_16 : decode cJ3_checkIndex_8e157 16 = .ok (.iload_n 0, 1) := by decide +kernel
theorem dJ3_checkIndex_8e157_17 : decode cJ3_checkIndex_8e157 17 = .ok (.ireturn, 1) := by decide +kernel
theorem dJ0_checkIndex_df160_0 : decode cJ0_checkIndex_df160 0 = .ok (.iload_n 0, 1) := by decide +kernel
theorem dJ0_checkIndex_df160_1 : decode cJ0_checkIndex_df160 1 = .ok (.iload_n 1, 1) := by decide +kernel
theorem dJ0_checkIndex_df160_2 : decode cJ0_checkIndex_df160 2 = .ok (.getstatic 1053, 3) := by decide +kernel
theorem dJ0_checkIndex_df160_5 : decode cJ0_checkIndex_df160 5 = .ok (.invokestatic 1059, 3) := by decide +kernel
theorem dJ0_checkIndex_df160_8 : decode cJ0_checkIndex_df160 8 = .ok (.pop, 1) := by decide +kernel
theorem dJ0_checkIndex_df160_9 : decode cJ0_checkIndex_df160 9 = .ok (.return_, 1) := by decide +kernel
theorem dJ1_charAt_3b067_0 : decode cJ1_charAt_3b067 0 = .ok (.iload_n 1, 1) := by decide +kernel
theorem dJ1_charAt_3b067_1 : decode cJ1_charAt_3b067 1 = .ok (.aload_n 0, 1) := by decide +kernel
theorem dJ1_charAt_3b067_2 : decode cJ1_charAt_3b067 2 = .ok (.arraylength, 1) := by decide +kernel
theorem dJ1_charAt_3b067_3 : decode cJ1_charAt_3b067 3 = .ok (.invokestatic 9, 3) := by decide +kernel
theorem dJ1_charAt_3b067_6 : decode cJ1_charAt_3b067 6 = .ok (.aload_n 0, 1) := by decide +kernel
theorem dJ1_charAt_3b067_7 : decode cJ1_charAt_3b067 7 = .ok (.iload_n 1, 1) := by decide +kernel
theorem dJ1_charAt_3b067_8 : decode cJ1_charAt_3b067 8 = .ok (.baload, 1) := by decide +kernel
theorem dJ1_charAt_3b067_9 : decode cJ1_charAt_3b067 9 = .ok (.sipush 255, 3) := by decide +kernel
theorem dJ1_charAt_3b067_12 : decode cJ1_charAt_3b067 12 = .ok (.iand, 1) := by decide +kernel
theorem dJ1_charAt_3b067_13 : decode cJ1_charAt_3b067 13 = .ok (.i2c, 1) := by decide +kernel
theorem dJ1_charAt_3b067_14 : decode cJ1_charAt_3b067 14 = .ok (.ireturn, 1) := by decide +kernel
theorem dJ0_charAt_5068e_0 : decode cJ0_charAt_5068e 0 = .ok (.aload_n 0, 1) := by decide +kernel
theorem dJ0_charAt_5068e_1 : decode cJ0_charAt_5068e 1 = .ok (.invokevirtual 492, 3) := by decide +kernel
theorem dJ0_charAt_5068e_4 : decode cJ0_charAt_5068e 4 = .ok (.ifCond .eq 12, 3) := by decide +kernel
theorem dJ0_charAt_5068e_7 : decode cJ0_charAt_5068e 7 = .ok (.aload_n 0, 1) := by decide +kernel
theorem dJ0_charAt_5068e_8 : decode cJ0_charAt_5068e 8 = .ok (.getfield 9, 3) := by decide +kernel
theorem dJ0_charAt_5068e_11 : decode cJ0_charAt_5068e 11 = .ok (.iload_n 1, 1) := by decide +kernel
theorem dJ0_charAt_5068e_12 : decode cJ0_charAt_5068e 12 = .ok (.invokestatic 495, 3) := by decide +kernel
theorem dJ0_charAt_5068e_15 : decode cJ0_charAt_5068e 15 = .ok (.ireturn, 1) := by decide +kernel
theorem dJ0_charAt_5068e_16 : decode cJ0_charAt_5068e 16 = .ok (.aload_n 0, 1) := by decide +kernel
theorem dJ0_charAt_5068e_17 : decode cJ0_charAt_5068e 17 = .ok (.getfield 9, 3) := by decide +kernel
theorem dJ0_charAt_5068e_20 : decode cJ0_charAt_5068e 20 = .ok (.iload_n 1, 1) := by decide +kernel
theorem dJ0_charAt_5068e_21 : decode cJ0_charAt_5068e 21 = .ok (.invokestatic 498, 3) := by decide +kernel
theorem dX12_wordOf_0 : decode cX12_wordOf 0 = .ok (.lconst 0, 1) := by decide +kernel
theorem dX12_wordOf_1 : decode cX12_wordOf 1 = .ok (.lstore_n 1, 1) := by decide +kernel
theorem dX12_wordOf_2 : decode cX12_wordOf 2 = .ok (.iconst 0, 1) := by decide +kernel
theorem dX12_wordOf_3 : decode cX12_wordOf 3 = .ok (.istore_n 3, 1) := by decide +kernel
theorem dX12_wordOf_4 : decode cX12_wordOf 4 = .ok (.iload_n 3, 1) := by decide +kernel
theorem dX12_wordOf_5 : decode cX12_wordOf 5 = .ok (.aload_n 0, 1) := by decide +kernel
theorem dX12_wordOf_6 : decode cX12_wordOf 6 = .ok (.invokevirtual 87, 3) := by decide +kernel
theorem dX12_wordOf_9 : decode cX12_wordOf 9 = .ok (.if_icmp .ge 27, 3) := by decide +kernel
theorem dX12_wordOf_12 : decode cX12_wordOf 12 = .ok (.ldc2_w 93, 3) := by decide +kernel
theorem dX12_wordOf_15 : decode cX12_wordOf 15 = .ok (.lload_n 1, 1) := by decide +kernel
theorem dX12_wordOf_16 : decode cX12_wordOf 16 = .ok (.lmul, 1) := by decide +kernel
theorem dX12_wordOf_17 : decode cX12_wordOf 17 = .ok (.aload_n 0, 1) := by decide +kernel
theorem dX12_wordOf_18 : decode cX12_wordOf 18 = .ok (.iload_n 3, 1) := by decide +kernel
theorem dX12_wordOf_19 : decode cX12_wordOf 19 = .ok (.invokevirtual 95, 3) := by decide +kernel
theorem dX12_wordOf_22 : decode cX12_wordOf 22 = .ok (.bipush 97, 2) := by decide +kernel
theorem dX12_wordOf_24 : decode cX12_wordOf 24 = .ok (.isub, 1) := by decide +kernel
theorem dX12_wordOf_25 : decode cX12_wordOf 25 = .ok (.iconst 1, 1) := by decide +kernel
theorem dX12_wordOf_26 : decode cX12_wordOf 26 = .ok (.iadd, 1) := by decide +kernel
theorem dX12_wordOf_27 : decode cX12_wordOf 27 = .ok (.i2l, 1) := by decide +kernel
theorem dX12_wordOf_28 : decode cX12_wordOf 28 = .ok (.ladd, 1) := by decide +kernel
theorem dX12_wordOf_29 : decode cX12_wordOf 29 = .ok (.lstore_n 1, 1) := by decide +kernel
theorem dX12_wordOf_30 : decode cX12_wordOf 30 = .ok (.iinc 3 1, 3) := by decide +kernel
theorem dX12_wordOf_33 : decode cX12_wordOf 33 = .ok (.goto (-29), 3) := by decide +kernel
theorem dX12_wordOf_36 : decode cX12_wordOf 36 = .ok (.lload_n 1, 1) := by decide +kernel
theorem dX12_wordOf_37 : decode cX12_wordOf 37 = .ok (.lreturn, 1) := by decide +kernel
theorem dX12_goesOn_0 : decode cX12_goesOn 0 = .ok (.aload_n 0, 1) := by decide +kernel
theorem dX12_goesOn_1 : decode cX12_goesOn 1 = .ok (.getfield 99, 3) := by decide +kernel
theorem dX12_goesOn_4 : decode cX12_goesOn 4 = .ok (.iconst 5, 1) := by decide +kernel
theorem dX12_goesOn_5 : decode cX12_goesOn 5 = .ok (.if_icmp .ne 4, 3) := by decide +kernel
theorem dX12_goesOn_8 : decode cX12_goesOn 8 = .ok (.return_, 1) := by decide +kernel
theorem dX12_goesOn_9 : decode cX12_goesOn 9 = .ok (.aload_n 0, 1) := by decide +kernel
theorem dX12_goesOn_10 : decode cX12_goesOn 10 = .ok (.aload_n 0, 1) := by decide +kernel
theorem dX12_goesOn_11 : decode cX12_goesOn 11 = .ok (.getfield 102, 3) := by decide +kernel
theorem dX12_goesOn_14 : decode cX12_goesOn 14 = .ok (.invokevirtual 105, 3) := by decide +kernel
theorem dX12_goesOn_17 : decode cX12_goesOn 17 = .ok (.bipush 32, 2) := by decide +kernel
theorem dX12_goesOn_19 : decode cX12_goesOn 19 = .ok (.if_icmp .ne 16, 3) := by decide +kernel
theorem dX12_goesOn_22 : decode cX12_goesOn 22 = .ok (.aload_n 0, 1) := by decide +kernel
theorem dX12_goesOn_23 : decode cX12_goesOn 23 = .ok (.dup, 1) := by decide +kernel
theorem dX12_goesOn_24 : decode cX12_goesOn 24 = .ok (.getfield 102, 3) := by decide +kernel
theorem dX12_goesOn_27 : decode cX12_goesOn 27 = .ok (.iconst 1, 1) := by decide +kernel
theorem dX12_goesOn_28 : decode cX12_goesOn 28 = .ok (.iadd, 1) := by decide +kernel
theorem dX12_goesOn_29 : decode cX12_goesOn 29 = .ok (.putfield 102, 3) := by decide +kernel
theorem dX12_goesOn_32 : decode cX12_goesOn 32 = .ok (.goto (-23), 3) := by decide +kernel
theorem dX12_goesOn_35 : decode cX12_goesOn 35 = .ok (.aload_n 0, 1) := by decide +kernel
theorem dX12_goesOn_36 : decode cX12_goesOn 36 = .ok (.aload_n 0, 1) := by decide +kernel
theorem dX12_goesOn_37 : decode cX12_goesOn 37 = .ok (.getfield 102, 3) := by decide +kernel
theorem dX12_goesOn_40 : decode cX12_goesOn 40 = .ok (.putfield 108, 3) := by decide +kernel
theorem dX12_goesOn_43 : decode cX12_goesOn 43 = .ok (.aload_n 0, 1) := by decide +kernel
theorem dX12_goesOn_44 : decode cX12_goesOn 44 = .ok (.iconst 0, 1) := by decide +kernel
theorem dX12_goesOn_45 : decode cX12_goesOn 45 = .ok (.putfield 99, 3) := by decide +kernel
theorem dX12_goesOn_48 : decode cX12_goesOn 48 = .ok (.aload_n 0, 1) := by decide +kernel
theorem dX12_goesOn_49 : decode cX12_goesOn 49 = .ok (.iconst 0, 1) := by decide +kernel
theorem dX12_goesOn_50 : decode cX12_goesOn 50 = .ok (.putfield 111, 3) := by decide +kernel
theorem dX12_goesOn_53 : decode cX12_goesOn 53 = .ok (.aload_n 0, 1) := by decide +kernel
theorem dX12_goesOn_54 : decode cX12_goesOn 54 = .ok (.aload_n 0, 1) := by decide +kernel
theorem dX12_goesOn_55 : decode cX12_goesOn 55 = .ok (.getfield 102, 3) := by decide +kernel
theorem dX12_goesOn_58 : decode cX12_goesOn 58 = .ok (.invokevirtual 105, 3) := by decide +kernel
theorem dX12_goesOn_61 : decode cX12_goesOn 61 = .ok (.istore_n 1, 1) := by decide +kernel
theorem dX12_goesOn_62 : decode cX12_goesOn 62 = .ok (.iconst 0, 1) := by decide +kernel
theorem dX12_goesOn_63 : decode cX12_goesOn 63 = .ok (.istore_n 2, 1) := by decide +kernel
theorem dX12_goesOn_64 : decode cX12_goesOn 64 = .ok (.iload_n 1, 1) := by decide +kernel
theorem dX12_goesOn_65 : decode cX12_goesOn 65 = .ok (.iconst (-1), 1) := by decide +kernel
theorem dX12_goesOn_66 : decode cX12_goesOn 66 = .ok (.if_icmp .ne 11, 3) := by decide +kernel
theorem dX12_goesOn_69 : decode cX12_goesOn 69 = .ok (.aload_n 0, 1) := by decide +kernel
theorem dX12_goesOn_70 : decode cX12_goesOn 70 = .ok (.iconst 1, 1) := by decide +kernel
theorem dX12_goesOn_71 : decode cX12_goesOn 71 = .ok (.putfield 99, 3) := by decide +kernel
theorem dX12_goesOn_74 : decode cX12_goesOn 74 = .ok (.goto 207, 3) := by decide +kernel
theorem dX12_goesOn_77 : decode cX12_goesOn 77 = .ok (.iload_n 1, 1) := by decide +kernel
theorem dX12_goesOn_78 : decode cX12_goesOn 78 = .ok (.invokestatic 114, 3) := by decide +kernel
theorem dX12_goesOn_81 : decode cX12_goesOn 81 = .ok (.ifCond .eq 85, 3) := by decide +kernel
theorem dX12_goesOn_84 : decode cX12_goesOn 84 = .ok (.aload_n 0, 1) := by decide +kernel
theorem dX12_goesOn_85 : decode cX12_goesOn 85 = .ok (.lconst 0, 1) := by decide +kernel
theorem dX12_goesOn_86 : decode cX12_goesOn 86 = .ok (.putfield 118, 3) := by decide +kernel
theorem dX12_goesOn_89 : decode cX12_goesOn 89 = .ok (.aload_n 0, 1) := by decide +kernel
theorem dX12_goesOn_90 : decode cX12_goesOn 90 = .ok (.aload_n 0, 1) := by decide +kernel
theorem dX12_goesOn_91 : decode cX12_goesOn 91 = .ok (.getfield 102, 3) := by decide +kernel
theorem dX12_goesOn_94 : decode cX12_goesOn 94 = .ok (.invokevirtual 105, 3) := by decide +kernel
theorem dX12_goesOn_97 : decode cX12_goesOn 97 = .ok (.invokestatic 114, 3) := by decide +kernel
theorem dX12_goesOn_100 : decode cX12_goesOn 100 = .ok (.ifCond .eq 52, 3) := by decide +kernel
theorem dX12_goesOn_103 : decode cX12_goesOn 103 = .ok (.iload_n 2, 1) := by decide +kernel
theorem dX12_goesOn_104 : decode cX12_goesOn 104 = .ok (.bipush 8, 2) := by decide +kernel
theorem dX12_goesOn_106 : decode cX12_goesOn 106 = .ok (.if_icmp .ge 30, 3) := by decide +kernel
theorem dX12_goesOn_109 : decode cX12_goesOn 109 = .ok (.aload_n 0, 1) := by decide +kernel
theorem dX12_goesOn_110 : decode cX12_goesOn 110 = .ok (.ldc2_w 93, 3) := by decide +kernel
theorem dX12_goesOn_113 : decode cX12_goesOn 113 = .ok (.aload_n 0, 1) := by decide +kernel
theorem dX12_goesOn_114 : decode cX12_goesOn 114 = .ok (.getfield 118, 3) := by decide +kernel
theorem dX12_goesOn_117 : decode cX12_goesOn 117 = .ok (.lmul, 1) := by decide +kernel
theorem dX12_goesOn_118 : decode cX12_goesOn 118 = .ok (.aload_n 0, 1) := by decide +kernel
theorem dX12_goesOn_119 : decode cX12_goesOn 119 = .ok (.aload_n 0, 1) := by decide +kernel
theorem dX12_goesOn_120 : decode cX12_goesOn 120 = .ok (.getfield 102, 3) := by decide +kernel
theorem dX12_goesOn_123 : decode cX12_goesOn 123 = .ok (.invokevirtual 105, 3) := by decide +kernel
theorem dX12_goesOn_126 : decode cX12_goesOn 126 = .ok (.bipush 97, 2) := by decide +kernel
theorem dX12_goesOn_128 : decode cX12_goesOn 128 = .ok (.isub, 1) := by decide +kernel
theorem dX12_goesOn_129 : decode cX12_goesOn 129 = .ok (.iconst 1, 1) := by decide +kernel
theorem dX12_goesOn_130 : decode cX12_goesOn 130 = .ok (.iadd, 1) := by decide +kernel
theorem dX12_goesOn_131 : decode cX12_goesOn 131 = .ok (.i2l, 1) := by decide +kernel
theorem dX12_goesOn_132 : decode cX12_goesOn 132 = .ok (.ladd, 1) := by decide +kernel
theorem dX12_goesOn_133 : decode cX12_goesOn 133 = .ok (.putfield 118, 3) := by decide +kernel
theorem dX12_goesOn_136 : decode cX12_goesOn 136 = .ok (.iinc 2 1, 3) := by decide +kernel
theorem dX12_goesOn_139 : decode cX12_goesOn 139 = .ok (.aload_n 0, 1) := by decide +kernel
theorem dX12_goesOn_140 : decode cX12_goesOn 140 = .ok (.dup, 1) := by decide +kernel
theorem dX12_goesOn_141 : decode cX12_goesOn 141 = .ok (.getfield 102, 3) := by decide +kernel
theorem dX12_goesOn_144 : decode cX12_goesOn 144 = .ok (.iconst 1, 1) := by decide +kernel
theorem dX12_goesOn_145 : decode cX12_goesOn 145 = .ok (.iadd, 1) := by decide +kernel
theorem dX12_goesOn_146 : decode cX12_goesOn 146 = .ok (.putfield 102, 3) := by decide +kernel
theorem dX12_goesOn_149 : decode cX12_goesOn 149 = .ok (.goto (-60), 3) := by decide +kernel
theorem dX12_goesOn_152 : decode cX12_goesOn 152 = .ok (.iload_n 2, 1) := by decide +kernel
theorem dX12_goesOn_153 : decode cX12_goesOn 153 = .ok (.bipush 8, 2) := by decide +kernel
theorem dX12_goesOn_155 : decode cX12_goesOn 155 = .ok (.if_icmp .gt 126, 3) := by decide +kernel
theorem dX12_goesOn_158 : decode cX12_goesOn 158 = .ok (.aload_n 0, 1) := by decide +kernel
theorem dX12_goesOn_159 : decode cX12_goesOn 159 = .ok (.iconst 2, 1) := by decide +kernel
theorem dX12_goesOn_160 : decode cX12_goesOn 160 = .ok (.putfield 99, 3) := by decide +kernel
theorem dX12_goesOn_163 : decode cX12_goesOn 163 = .ok (.goto 118, 3) := by decide +kernel
theorem dX12_goesOn_166 : decode cX12_goesOn 166 = .ok (.iload_n 1, 1) := by decide +kernel
theorem dX12_goesOn_167 : decode cX12_goesOn 167 = .ok (.invokestatic 122, 3) := by decide +kernel
theorem dX12_goesOn_170 : decode cX12_goesOn 170 = .ok (.ifCond .eq 79, 3) := by decide +kernel
theorem dX12_goesOn_173 : decode cX12_goesOn 173 = .ok (.aload_n 0, 1) := by decide +kernel
theorem dX12_goesOn_174 : decode cX12_goesOn 174 = .ok (.iconst 0, 1) := by decide +kernel
theorem dX12_goesOn_175 : decode cX12_goesOn 175 = .ok (.putfield 125, 3) := by decide +kernel
theorem dX12_goesOn_178 : decode cX12_goesOn 178 = .ok (.aload_n 0, 1) := by decide +kernel
theorem dX12_goesOn_179 : decode cX12_goesOn 179 = .ok (.aload_n 0, 1) := by decide +kernel
theorem dX12_goesOn_180 : decode cX12_goesOn 180 = .ok (.getfield 102, 3) := by decide +kernel
theorem dX12_goesOn_183 : decode cX12_goesOn 183 = .ok (.invokevirtual 105, 3) := by decide +kernel
theorem dX12_goesOn_186 : decode cX12_goesOn 186 = .ok (.invokestatic 122, 3) := by decide +kernel
theorem dX12_goesOn_189 : decode cX12_goesOn 189 = .ok (.ifCond .eq 47, 3) := by decide +kernel
theorem dX12_goesOn_192 : decode cX12_goesOn 192 = .ok (.iload_n 2, 1) := by decide +kernel
theorem dX12_goesOn_193 : decode cX12_goesOn 193 = .ok (.iconst 3, 1) := by decide +kernel
theorem dX12_goesOn_194 : decode cX12_goesOn 194 = .ok (.if_icmp .ge 26, 3) := by decide +kernel
theorem dX12_goesOn_197 : decode cX12_goesOn 197 = .ok (.aload_n 0, 1) := by decide +kernel
theorem dX12_goesOn_198 : decode cX12_goesOn 198 = .ok (.bipush 10, 2) := by decide +kernel
theorem dX12_goesOn_200 : decode cX12_goesOn 200 = .ok (.aload_n 0, 1) := by decide +kernel
theorem dX12_goesOn_201 : decode cX12_goesOn 201 = .ok (.getfield 125, 3) := by decide +kernel
theorem dX12_goesOn_204 : decode cX12_goesOn 204 = .ok (.imul, 1) := by decide +kernel
theorem dX12_goesOn_205 : decode cX12_goesOn 205 = .ok (.aload_n 0, 1) := by decide +kernel
theorem dX12_goesOn_206 : decode cX12_goesOn 206 = .ok (.aload_n 0, 1) := by decide +kernel
theorem dX12_goesOn_207 : decode cX12_goesOn 207 = .ok (.getfield 102, 3) := by decide +kernel
theorem dX12_goesOn_210 : decode cX12_goesOn 210 = .ok (.invokevirtual 105, 3) := by decide +kernel
theorem dX12_goesOn_213 : decode cX12_goesOn 213 = .ok (.iadd, 1) := by decide +kernel
theorem dX12_goesOn_214 : decode cX12_goesOn 214 = .ok (.bipush 48, 2) := by decide +kernel
theorem dX12_goesOn_216 : decode cX12_goesOn 216 = .ok (.isub, 1) := by decide +kernel
theorem dX12_goesOn_217 : decode cX12_goesOn 217 = .ok (.putfield 125, 3) := by decide +kernel
theorem dX12_goesOn_220 : decode cX12_goesOn 220 = .ok (.iinc 2 1, 3) := by decide +kernel
theorem dX12_goesOn_223 : decode cX12_goesOn 223 = .ok (.aload_n 0, 1) := by decide +kernel
theorem dX12_goesOn_224 : decode cX12_goesOn 224 = .ok (.dup, 1) := by decide +kernel
theorem dX12_goesOn_225 : decode cX12_goesOn 225 = .ok (.getfield 102, 3) := by decide +kernel
theorem dX12_goesOn_228 : decode cX12_goesOn 228 = .ok (.iconst 1, 1) := by decide +kernel
theorem dX12_goesOn_229 : decode cX12_goesOn 229 = .ok (.iadd, 1) := by decide +kernel
theorem dX12_goesOn_230 : decode cX12_goesOn 230 = .ok (.putfield 102, 3) := by decide +kernel
theorem dX12_goesOn_233 : decode cX12_goesOn 233 = .ok (.goto (-55), 3) := by decide +kernel
theorem dX12_goesOn_236 : decode cX12_goesOn 236 = .ok (.iload_n 2, 1) := by decide +kernel
theorem dX12_goesOn_237 : decode cX12_goesOn 237 = .ok (.iconst 3, 1) := by decide +kernel
theorem dX12_goesOn_238 : decode cX12_goesOn 238 = .ok (.if_icmp .gt 43, 3) := by decide +kernel
theorem dX12_goesOn_241 : decode cX12_goesOn 241 = .ok (.aload_n 0, 1) := by decide +kernel
theorem dX12_goesOn_242 : decode cX12_goesOn 242 = .ok (.iconst 3, 1) := by decide +kernel
theorem dX12_goesOn_243 : decode cX12_goesOn 243 = .ok (.putfield 99, 3) := by decide +kernel
theorem dX12_goesOn_246 : decode cX12_goesOn 246 = .ok (.goto 35, 3) := by decide +kernel
theorem dX12_goesOn_249 : decode cX12_goesOn 249 = .ok (.iload_n 1, 1) := by decide +kernel
theorem dX12_goesOn_250 : decode cX12_goesOn 250 = .ok (.bipush 59, 2) := by decide +kernel
theorem dX12_goesOn_252 : decode cX12_goesOn 252 = .ok (.if_icmp .eq 9, 3) := by decide +kernel
theorem dX12_goesOn_255 : decode cX12_goesOn 255 = .ok (.iload_n 1, 1) := by decide +kernel
theorem dX12_goesOn_256 : decode cX12_goesOn 256 = .ok (.bipush 44, 2) := by decide +kernel
theorem dX12_goesOn_258 : decode cX12_goesOn 258 = .ok (.if_icmp .ne 23, 3) := by decide +kernel
theorem dX12_goesOn_261 : decode cX12_goesOn 261 = .ok (.aload_n 0, 1) := by decide +kernel
theorem dX12_goesOn_262 : decode cX12_goesOn 262 = .ok (.iconst 4, 1) := by decide +kernel
theorem dX12_goesOn_263 : decode cX12_goesOn 263 = .ok (.putfield 99, 3) := by decide +kernel
theorem dX12_goesOn_266 : decode cX12_goesOn 266 = .ok (.aload_n 0, 1) := by decide +kernel
theorem dX12_goesOn_267 : decode cX12_goesOn 267 = .ok (.iload_n 1, 1) := by decide +kernel
theorem dX12_goesOn_268 : decode cX12_goesOn 268 = .ok (.putfield 111, 3) := by decide +kernel
theorem dX12_goesOn_271 : decode cX12_goesOn 271 = .ok (.aload_n 0, 1) := by decide +kernel
theorem dX12_goesOn_272 : decode cX12_goesOn 272 = .ok (.dup, 1) := by decide +kernel
theorem dX12_goesOn_273 : decode cX12_goesOn 273 = .ok (.getfield 102, 3) := by decide +kernel
theorem dX12_goesOn_276 : decode cX12_goesOn 276 = .ok (.iconst 1, 1) := by decide +kernel
theorem dX12_goesOn_277 : decode cX12_goesOn 277 = .ok (.iadd, 1) := by decide +kernel
theorem dX12_goesOn_278 : decode cX12_goesOn 278 = .ok (.putfield 102, 3) := by decide +kernel
theorem dX12_goesOn_281 : decode cX12_goesOn 281 = .ok (.return_, 1) := by decide +kernel
theorem dX12_wrong_0 : decode cX12_wrong 0 = .ok (.aload_n 0, 1) := by decide +kernel
theorem dX12_wrong_1 : decode cX12_wrong 1 = .ok (.getfield 99, 3) := by decide +kernel
theorem dX12_wrong_4 : decode cX12_wrong 4 = .ok (.iconst 5, 1) := by decide +kernel
theorem dX12_wrong_5 : decode cX12_wrong 5 = .ok (.if_icmp .ne 4, 3) := by decide +kernel
theorem dX12_wrong_8 : decode cX12_wrong 8 = .ok (.return_, 1) := by decide +kernel
theorem dX12_wrong_9 : decode cX12_wrong 9 = .ok (.aload_n 0, 1) := by decide +kernel
theorem dX12_wrong_10 : decode cX12_wrong 10 = .ok (.iload_n 1, 1) := by decide +kernel
theorem dX12_wrong_11 : decode cX12_wrong 11 = .ok (.putfield 128, 3) := by decide +kernel
theorem dX12_wrong_14 : decode cX12_wrong 14 = .ok (.aload_n 0, 1) := by decide +kernel
theorem dX12_wrong_15 : decode cX12_wrong 15 = .ok (.aload_n 0, 1) := by decide +kernel
theorem dX12_wrong_16 : decode cX12_wrong 16 = .ok (.getfield 108, 3) := by decide +kernel
theorem dX12_wrong_19 : decode cX12_wrong 19 = .ok (.putfield 131, 3) := by decide +kernel
theorem dX12_wrong_22 : decode cX12_wrong 22 = .ok (.aload_n 0, 1) := by decide +kernel
theorem dX12_wrong_23 : decode cX12_wrong 23 = .ok (.iconst 5, 1) := by decide +kernel
theorem dX12_wrong_24 : decode cX12_wrong 24 = .ok (.putfield 99, 3) := by decide +kernel
theorem dX12_wrong_27 : decode cX12_wrong 27 = .ok (.return_, 1) := by decide +kernel
theorem dX12_isWord_0 : decode cX12_isWord 0 = .ok (.aload_n 0, 1) := by decide +kernel
theorem dX12_isWord_1 : decode cX12_isWord 1 = .ok (.getfield 99, 3) := by decide +kernel
theorem dX12_isWord_4 : decode cX12_isWord 4 = .ok (.iconst 2, 1) := by decide +kernel
theorem dX12_isWord_5 : decode cX12_isWord 5 = .ok (.if_icmp .ne 19, 3) := by decide +kernel
theorem dX12_isWord_8 : decode cX12_isWord 8 = .ok (.aload_n 0, 1) := by decide +kernel
theorem dX12_isWord_9 : decode cX12_isWord 9 = .ok (.getfield 118, 3) := by decide +kernel
theorem dX12_isWord_12 : decode cX12_isWord 12 = .ok (.aload_n 1, 1) := by decide +kernel
theorem dX12_isWord_13 : decode cX12_isWord 13 = .ok (.invokestatic 134, 3) := by decide +kernel
theorem dX12_isWord_16 : decode cX12_isWord 16 = .ok (.lcmp, 1) := by decide +kernel
theorem dX12_isWord_17 : decode cX12_isWord 17 = .ok (.ifCond .ne 7, 3) := by decide +kernel
theorem dX12_isWord_20 : decode cX12_isWord 20 = .ok (.iconst 1, 1) := by decide +kernel
theorem dX12_isWord_21 : decode cX12_isWord 21 = .ok (.goto 4, 3) := by decide +kernel
theorem dX12_isWord_24 : decode cX12_isWord 24 = .ok (.iconst 0, 1) := by decide +kernel
theorem dX12_isWord_25 : decode cX12_isWord 25 = .ok (.ireturn, 1) := by decide +kernel
theorem dX12_eatsWord_0 : decode cX12_eatsWord 0 = .ok (.aload_n 0, 1) := by decide +kernel
theorem dX12_eatsWord_1 : decode cX12_eatsWord 1 = .ok (.aload_n 1, 1) := by decide +kernel
theorem dX12_eatsWord_2 : decode cX12_eatsWord 2 = .ok (.invokevirtual 138, 3) := by decide +kernel
theorem dX12_eatsWord_5 : decode cX12_eatsWord 5 = .ok (.istore_n 2, 1) := by decide +kernel
theorem dX12_eatsWord_6 : decode cX12_eatsWord 6 = .ok (.iload_n 2, 1) := by decide +kernel
theorem dX12_eatsWord_7 : decode cX12_eatsWord 7 = .ok (.ifCond .eq 7, 3) := by decide +kernel
theorem dX12_eatsWord_10 : decode cX12_eatsWord 10 = .ok (.aload_n 0, 1) := by decide +kernel
theorem dX12_eatsWord_11 : decode cX12_eatsWord 11 = .ok (.invokevirtual 142, 3) := by decide +kernel
theorem dX12_eatsWord_14 : decode cX12_eatsWord 14 = .ok (.iload_n 2, 1) := by decide +kernel
theorem dX12_eatsWord_15 : decode cX12_eatsWord 15 = .ok (.ireturn, 1) := by decide +kernel
theorem dX12_eatsSign_0 : decode cX12_eatsSign 0 = .ok (.aload_n 0, 1) := by decide +kernel
theorem dX12_eatsSign_1 : decode cX12_eatsSign 1 = .ok (.getfield 99, 3) := by decide +kernel
theorem dX12_eatsSign_4 : decode cX12_eatsSign 4 = .ok (.iconst 4, 1) := by decide +kernel
theorem dX12_eatsSign_5 : decode cX12_eatsSign 5 = .ok (.if_icmp .ne 15, 3) := by decide +kernel
theorem dX12_eatsSign_8 : decode cX12_eatsSign 8 = .ok (.aload_n 0, 1) := by decide +kernel
theorem dX12_eatsSign_9 : decode cX12_eatsSign 9 = .ok (.getfield 111, 3) := by decide +kernel
theorem dX12_eatsSign_12 : decode cX12_eatsSign 12 = .ok (.iload_n 1, 1) := by decide +kernel
theorem dX12_eatsSign_13 : decode cX12_eatsSign 13 = .ok (.if_icmp .ne 7, 3) := by decide +kernel
theorem dX12_eatsSign_16 : decode cX12_eatsSign 16 = .ok (.iconst 1, 1) := by decide +kernel
theorem dX12_eatsSign_17 : decode cX12_eatsSign 17 = .ok (.goto 4, 3) := by decide +kernel
theorem dX12_eatsSign_20 : decode cX12_eatsSign 20 = .ok (.iconst 0, 1) := by decide +kernel
theorem dX12_eatsSign_21 : decode cX12_eatsSign 21 = .ok (.istore_n 2, 1) := by decide +kernel
theorem dX12_eatsSign_22 : decode cX12_eatsSign 22 = .ok (.iload_n 2, 1) := by decide +kernel
theorem dX12_eatsSign_23 : decode cX12_eatsSign 23 = .ok (.ifCond .eq 7, 3) := by decide +kernel
theorem dX12_eatsSign_26 : decode cX12_eatsSign 26 = .ok (.aload_n 0, 1) := by decide +kernel
theorem dX12_eatsSign_27 : decode cX12_eatsSign 27 = .ok (.invokevirtual 142, 3) := by decide +kernel
theorem dX12_eatsSign_30 : decode cX12_eatsSign 30 = .ok (.iload_n 2, 1) := by decide +kernel
theorem dX12_eatsSign_31 : decode cX12_eatsSign 31 = .ok (.ireturn, 1) := by decide +kernel
theorem dX12_needs_0 : decode cX12_needs 0 = .ok (.aload_n 0, 1) := by decide +kernel
theorem dX12_needs_1 : decode cX12_needs 1 = .ok (.aload_n 1, 1) := by decide +kernel
theorem dX12_needs_2 : decode cX12_needs 2 = .ok (.invokevirtual 138, 3) := by decide +kernel
theorem dX12_needs_5 : decode cX12_needs 5 = .ok (.ifCond .ne 8, 3) := by decide +kernel
theorem dX12_needs_8 : decode cX12_needs 8 = .ok (.aload_n 0, 1) := by decide +kernel
theorem dX12_needs_9 : decode cX12_needs 9 = .ok (.iconst 1, 1) := by decide +kernel
theorem dX12_needs_10 : decode cX12_needs 10 = .ok (.invokevirtual 145, 3) := by decide +kernel
theorem dX12_needs_13 : decode cX12_needs 13 = .ok (.aload_n 0, 1) := by decide +kernel
theorem dX12_needs_14 : decode cX12_needs 14 = .ok (.invokevirtual 142, 3) := by decide +kernel
theorem dX12_needs_17 : decode cX12_needs 17 = .ok (.return_, 1) := by decide +kernel
theorem dX12_needsSign_0 : decode cX12_needsSign 0 = .ok (.aload_n 0, 1) := by decide +kernel
theorem dX12_needsSign_1 : decode cX12_needsSign 1 = .ok (.getfield 99, 3) := by decide +kernel
theorem dX12_needsSign_4 : decode cX12_needsSign 4 = .ok (.iconst 4, 1) := by decide +kernel
theorem dX12_needsSign_5 : decode cX12_needsSign 5 = .ok (.if_icmp .ne 11, 3) := by decide +kernel
theorem dX12_needsSign_8 : decode cX12_needsSign 8 = .ok (.aload_n 0, 1) := by decide +kernel
theorem dX12_needsSign_9 : decode cX12_needsSign 9 = .ok (.getfield 111, 3) := by decide +kernel
theorem dX12_needsSign_12 : decode cX12_needsSign 12 = .ok (.iload_n 1, 1) := by decide +kernel
theorem dX12_needsSign_13 : decode cX12_needsSign 13 = .ok (.if_icmp .eq 8, 3) := by decide +kernel
theorem dX12_needsSign_16 : decode cX12_needsSign 16 = .ok (.aload_n 0, 1) := by decide +kernel
theorem dX12_needsSign_17 : decode cX12_needsSign 17 = .ok (.iconst 1, 1) := by decide +kernel
theorem dX12_needsSign_18 : decode cX12_needsSign 18 = .ok (.invokevirtual 145, 3) := by decide +kernel
theorem dX12_needsSign_21 : decode cX12_needsSign 21 = .ok (.aload_n 0, 1) := by decide +kernel
theorem dX12_needsSign_22 : decode cX12_needsSign 22 = .ok (.invokevirtual 142, 3) := by decide +kernel
theorem dX12_needsSign_25 : decode cX12_needsSign 25 = .ok (.return_, 1) := by decide +kernel
theorem dX12_whole_0 : decode cX12_whole 0 = .ok (.aload_n 0, 1) := by decide +kernel
theorem dX12_whole_1 : decode cX12_whole 1 = .ok (.getfield 99, 3) := by decide +kernel
theorem dX12_whole_4 : decode cX12_whole 4 = .ok (.iconst 3, 1) := by decide +kernel
theorem dX12_whole_5 : decode cX12_whole 5 = .ok (.if_icmp .eq 11, 3) := by decide +kernel
theorem dX12_whole_8 : decode cX12_whole 8 = .ok (.aload_n 0, 1) := by decide +kernel
theorem dX12_whole_9 : decode cX12_whole 9 = .ok (.iconst 1, 1) := by decide +kernel
theorem dX12_whole_10 : decode cX12_whole 10 = .ok (.invokevirtual 145, 3) := by decide +kernel
theorem dX12_whole_13 : decode cX12_whole 13 = .ok (.goto 20, 3) := by decide +kernel
theorem dX12_whole_16 : decode cX12_whole 16 = .ok (.aload_n 0, 1) := by decide +kernel
theorem dX12_whole_17 : decode cX12_whole 17 = .ok (.getfield 125, 3) := by decide +kernel
theorem dX12_whole_20 : decode cX12_whole 20 = .ok (.iload_n 1, 1) := by decide +kernel
theorem dX12_whole_21 : decode cX12_whole 21 = .ok (.iload_n 2, 1) := by decide +kernel
theorem dX12_whole_22 : decode cX12_whole 22 = .ok (.invokestatic 149, 3) := by decide +kernel
theorem dX12_whole_25 : decode cX12_whole 25 = .ok (.ifCond .ne 8, 3) := by decide +kernel
theorem dX12_whole_28 : decode cX12_whole 28 = .ok (.aload_n 0, 1) := by decide +kernel
theorem dX12_whole_29 : decode cX12_whole 29 = .ok (.iconst 4, 1) := by decide +kernel
theorem dX12_whole_30 : decode cX12_whole 30 = .ok (.invokevirtual 145, 3) := by decide +kernel
theorem dX12_whole_33 : decode cX12_whole 33 = .ok (.aload_n 0, 1) := by decide +kernel
theorem dX12_whole_34 : decode cX12_whole 34 = .ok (.getfield 99, 3) := by decide +kernel
theorem dX12_whole_37 : decode cX12_whole 37 = .ok (.iconst 5, 1) := by decide +kernel
theorem dX12_whole_38 : decode cX12_whole 38 = .ok (.if_icmp .ne 7, 3) := by decide +kernel
theorem dX12_whole_41 : decode cX12_whole 41 = .ok (.iconst 0, 1) := by decide +kernel
theorem dX12_whole_42 : decode cX12_whole 42 = .ok (.goto 7, 3) := by decide +kernel
theorem dX12_whole_45 : decode cX12_whole 45 = .ok (.aload_n 0, 1) := by decide +kernel
theorem dX12_whole_46 : decode cX12_whole 46 = .ok (.getfield 125, 3) := by decide +kernel
theorem dX12_whole_49 : decode cX12_whole 49 = .ok (.ireturn, 1) := by decide +kernel
theorem dX12_readWhole_0 : decode cX12_readWhole 0 = .ok (.aload_n 0, 1) := by decide +kernel
theorem dX12_readWhole_1 : decode cX12_readWhole 1 = .ok (.iload_n 1, 1) := by decide +kernel
theorem dX12_readWhole_2 : decode cX12_readWhole 2 = .ok (.iload_n 2, 1) := by decide +kernel
theorem dX12_readWhole_3 : decode cX12_readWhole 3 = .ok (.invokevirtual 153, 3) := by decide +kernel
theorem dX12_readWhole_6 : decode cX12_readWhole 6 = .ok (.istore_n 3, 1) := by decide +kernel
theorem dX12_readWhole_7 : decode cX12_readWhole 7 = .ok (.aload_n 0, 1) := by decide +kernel
theorem dX12_readWhole_8 : decode cX12_readWhole 8 = .ok (.invokevirtual 142, 3) := by decide +kernel
theorem dX12_readWhole_11 : decode cX12_readWhole 11 = .ok (.iload_n 3, 1) := by decide +kernel
theorem dX12_readWhole_12 : decode cX12_readWhole 12 = .ok (.ireturn, 1) := by decide +kernel
theorem dX12_readPart_0 : decode cX12_readPart 0 = .ok (.aload_n 0, 1) := by decide +kernel
theorem dX12_readPart_1 : decode cX12_readPart 1 = .ok (.aload_n 1, 1) := by decide +kernel
theorem dX12_readPart_2 : decode cX12_readPart 2 = .ok (.invokevirtual 157, 3) := by decide +kernel
theorem dX12_readPart_5 : decode cX12_readPart 5 = .ok (.aload_n 0, 1) := by decide +kernel
theorem dX12_readPart_6 : decode cX12_readPart 6 = .ok (.iload_n 2, 1) := by decide +kernel
theorem dX12_readPart_7 : decode cX12_readPart 7 = .ok (.iload_n 3, 1) := by decide +kernel
theorem dX12_readPart_8 : decode cX12_readPart 8 = .ok (.invokevirtual 161, 3) := by decide +kernel
theorem dX12_readPart_11 : decode cX12_readPart 11 = .ok (.ireturn, 1) := by decide +kernel
theorem dX12_isName_0 : decode cX12_isName 0 = .ok (.aload_n 0, 1) := by decide +kernel
theorem dX12_isName_1 : decode cX12_isName 1 = .ok (.getfield 99, 3) := by decide +kernel
theorem dX12_isName_4 : decode cX12_isName 4 = .ok (.iconst 2, 1) := by decide +kernel
theorem dX12_isName_5 : decode cX12_isName 5 = .ok (.if_icmp .ne 93, 3) := by decide +kernel
theorem dX12_isName_8 : decode cX12_isName 8 = .ok (.aload_n 0, 1) := by decide +kernel
theorem dX12_isName_9 : decode cX12_isName 9 = .ok (.ldc 164, 2) := by decide +kernel
theorem dX12_isName_11 : decode cX12_isName 11 = .ok (.invokevirtual 138, 3) := by decide +kernel
theorem dX12_isName_14 : decode cX12_isName 14 = .ok (.ifCond .ne 84, 3) := by decide +kernel
theorem dX12_isName_17 : decode cX12_isName 17 = .ok (.aload_n 0, 1) := by decide +kernel
theorem dX12_isName_18 : decode cX12_isName 18 = .ok (.ldc 166, 2) := by decide +kernel
theorem dX12_isName_20 : decode cX12_isName 20 = .ok (.invokevirtual 138, 3) := by decide +kernel
theorem dX12_isName_23 : decode cX12_isName 23 = .ok (.ifCond .ne 75, 3) := by decide +kernel
theorem dX12_isName_26 : decode cX12_isName 26 = .ok (.aload_n 0, 1) := by decide +kernel
theorem dX12_isName_27 : decode cX12_isName 27 = .ok (.ldc 168, 2) := by decide +kernel
theorem dX12_isName_29 : decode cX12_isName 29 = .ok (.invokevirtual 138, 3) := by decide +kernel
theorem dX12_isName_32 : decode cX12_isName 32 = .ok (.ifCond .ne 66, 3) := by decide +kernel
theorem dX12_isName_35 : decode cX12_isName 35 = .ok (.aload_n 0, 1) := by decide +kernel
theorem dX12_isName_36 : decode cX12_isName 36 = .ok (.ldc 170, 2) := by decide +kernel
theorem dX12_isName_38 : decode cX12_isName 38 = .ok (.invokevirtual 138, 3) := by decide +kernel
theorem dX12_isName_41 : decode cX12_isName 41 = .ok (.ifCond .ne 57, 3) := by decide +kernel
theorem dX12_isName_44 : decode cX12_isName 44 = .ok (.aload_n 0, 1) := by decide +kernel
theorem dX12_isName_45 : decode cX12_isName 45 = .ok (.ldc 172, 2) := by decide +kernel
theorem dX12_isName_47 : decode cX12_isName 47 = .ok (.invokevirtual 138, 3) := by decide +kernel
theorem dX12_isName_50 : decode cX12_isName 50 = .ok (.ifCond .ne 48, 3) := by decide +kernel
theorem dX12_isName_53 : decode cX12_isName 53 = .ok (.aload_n 0, 1) := by decide +kernel
theorem dX12_isName_54 : decode cX12_isName 54 = .ok (.ldc 174, 2) := by decide +kernel
theorem dX12_isName_56 : decode cX12_isName 56 = .ok (.invokevirtual 138, 3) := by decide +kernel
theorem dX12_isName_59 : decode cX12_isName 59 = .ok (.ifCond .ne 39, 3) := by decide +kernel
theorem dX12_isName_62 : decode cX12_isName 62 = .ok (.aload_n 0, 1) := by decide +kernel
theorem dX12_isName_63 : decode cX12_isName 63 = .ok (.ldc 176, 2) := by decide +kernel
theorem dX12_isName_65 : decode cX12_isName 65 = .ok (.invokevirtual 138, 3) := by decide +kernel
theorem dX12_isName_68 : decode cX12_isName 68 = .ok (.ifCond .ne 30, 3) := by decide +kernel
theorem dX12_isName_71 : decode cX12_isName 71 = .ok (.aload_n 0, 1) := by decide +kernel
theorem dX12_isName_72 : decode cX12_isName 72 = .ok (.ldc 178, 2) := by decide +kernel
theorem dX12_isName_74 : decode cX12_isName 74 = .ok (.invokevirtual 138, 3) := by decide +kernel
theorem dX12_isName_77 : decode cX12_isName 77 = .ok (.ifCond .ne 21, 3) := by decide +kernel
theorem dX12_isName_80 : decode cX12_isName 80 = .ok (.aload_n 0, 1) := by decide +kernel
theorem dX12_isName_81 : decode cX12_isName 81 = .ok (.ldc 180, 2) := by decide +kernel
theorem dX12_isName_83 : decode cX12_isName 83 = .ok (.invokevirtual 138, 3) := by decide +kernel
theorem dX12_isName_86 : decode cX12_isName 86 = .ok (.ifCond .ne 12, 3) := by decide +kernel
theorem dX12_isName_89 : decode cX12_isName 89 = .ok (.aload_n 0, 1) := by decide +kernel
theorem dX12_isName_90 : decode cX12_isName 90 = .ok (.ldc 182, 2) := by decide +kernel
theorem dX12_isName_92 : decode cX12_isName 92 = .ok (.invokevirtual 138, 3) := by decide +kernel
theorem dX12_isName_95 : decode cX12_isName 95 = .ok (.ifCond .eq 5, 3) := by decide +kernel
theorem dX12_isName_98 : decode cX12_isName 98 = .ok (.iconst 0, 1) := by decide +kernel
theorem dX12_isName_99 : decode cX12_isName 99 = .ok (.ireturn, 1) := by decide +kernel
theorem dX12_isName_100 : decode cX12_isName 100 = .ok (.aload_n 0, 1) := by decide +kernel
theorem dX12_isName_101 : decode cX12_isName 101 = .ok (.ldc 184, 2) := by decide +kernel
theorem dX12_isName_103 : decode cX12_isName 103 = .ok (.invokevirtual 138, 3) := by decide +kernel
theorem dX12_isName_106 : decode cX12_isName 106 = .ok (.ifCond .ne 79, 3) := by decide +kernel
theorem dX12_isName_109 : decode cX12_isName 109 = .ok (.aload_n 0, 1) := by decide +kernel
theorem dX12_isName_110 : decode cX12_isName 110 = .ok (.ldc 186, 2) := by decide +kernel
theorem dX12_isName_112 : decode cX12_isName 112 = .ok (.invokevirtual 138, 3) := by decide +kernel
theorem dX12_isName_115 : decode cX12_isName 115 = .ok (.ifCond .ne 70, 3) := by decide +kernel
theorem dX12_isName_118 : decode cX12_isName 118 = .ok (.aload_n 0, 1) := by decide +kernel
theorem dX12_isName_119 : decode cX12_isName 119 = .ok (.ldc 188, 2) := by decide +kernel
theorem dX12_isName_121 : decode cX12_isName 121 = .ok (.invokevirtual 138, 3) := by decide +kernel
theorem dX12_isName_124 : decode cX12_isName 124 = .ok (.ifCond .ne 61, 3) := by decide +kernel
theorem dX12_isName_127 : decode cX12_isName 127 = .ok (.aload_n 0, 1) := by decide +kernel
theorem dX12_isName_128 : decode cX12_isName 128 = .ok (.ldc 190, 2) := by decide +kernel
theorem dX12_isName_130 : decode cX12_isName 130 = .ok (.invokevirtual 138, 3) := by decide +kernel
theorem dX12_isName_133 : decode cX12_isName 133 = .ok (.ifCond .ne 52, 3) := by decide +kernel
theorem dX12_isName_136 : decode cX12_isName 136 = .ok (.aload_n 0, 1) := by decide +kernel
theorem dX12_isName_137 : decode cX12_isName 137 = .ok (.ldc 192, 2) := by decide +kernel
theorem dX12_isName_139 : decode cX12_isName 139 = .ok (.invokevirtual 138, 3) := by decide +kernel
theorem dX12_isName_142 : decode cX12_isName 142 = .ok (.ifCond .ne 43, 3) := by decide +kernel
theorem dX12_isName_145 : decode cX12_isName 145 = .ok (.aload_n 0, 1) := by decide +kernel
theorem dX12_isName_146 : decode cX12_isName 146 = .ok (.ldc 194, 2) := by decide +kernel
theorem dX12_isName_148 : decode cX12_isName 148 = .ok (.invokevirtual 138, 3) := by decide +kernel
theorem dX12_isName_151 : decode cX12_isName 151 = .ok (.ifCond .ne 34, 3) := by decide +kernel
theorem dX12_isName_154 : decode cX12_isName 154 = .ok (.aload_n 0, 1) := by decide +kernel
theorem dX12_isName_155 : decode cX12_isName 155 = .ok (.ldc 196, 2) := by decide +kernel
theorem dX12_isName_157 : decode cX12_isName 157 = .ok (.invokevirtual 138, 3) := by decide +kernel
theorem dX12_isName_160 : decode cX12_isName 160 = .ok (.ifCond .ne 25, 3) := by decide +kernel
theorem dX12_isName_163 : decode cX12_isName 163 = .ok (.aload_n 0, 1) := by decide +kernel
theorem dX12_isName_164 : decode cX12_isName 164 = .ok (.ldc 198, 2) := by decide +kernel
theorem dX12_isName_166 : decode cX12_isName 166 = .ok (.invokevirtual 138, 3) := by decide +kernel
theorem dX12_isName_169 : decode cX12_isName 169 = .ok (.ifCond .ne 16, 3) := by decide +kernel
theorem dX12_isName_172 : decode cX12_isName 172 = .ok (.aload_n 0, 1) := by decide +kernel
theorem dX12_isName_173 : decode cX12_isName 173 = .ok (.ldc 200, 2) := by decide +kernel
theorem dX12_isName_175 : decode cX12_isName 175 = .ok (.invokevirtual 138, 3) := by decide +kernel
theorem dX12_isName_178 : decode cX12_isName 178 = .ok (.ifCond .ne 7, 3) := by decide +kernel
theorem dX12_isName_181 : decode cX12_isName 181 = .ok (.iconst 1, 1) := by decide +kernel
theorem dX12_isName_182 : decode cX12_isName 182 = .ok (.goto 4, 3) := by decide +kernel
theorem dX12_isName_185 : decode cX12_isName 185 = .ok (.iconst 0, 1) := by decide +kernel
theorem dX12_isName_186 : decode cX12_isName 186 = .ok (.ireturn, 1) := by decide +kernel
theorem dX12_begins_0 : decode cX12_begins 0 = .ok (.iload_n 1, 1) := by decide +kernel
theorem dX12_begins_1 : decode cX12_begins 1 = .ok (.iload_n 2, 1) := by decide +kernel
theorem dX12_begins_2 : decode cX12_begins 2 = .ok (.if_icmp .ne 8, 3) := by decide +kernel
theorem dX12_begins_5 : decode cX12_begins 5 = .ok (.aload_n 0, 1) := by decide +kernel
theorem dX12_begins_6 : decode cX12_begins 6 = .ok (.iconst 5, 1) := by decide +kernel
theorem dX12_begins_7 : decode cX12_begins 7 = .ok (.invokevirtual 145, 3) := by decide +kernel
theorem dX12_begins_10 : decode cX12_begins 10 = .ok (.aload_n 0, 1) := by decide +kernel
theorem dX12_begins_11 : decode cX12_begins 11 = .ok (.invokevirtual 142, 3) := by decide +kernel
theorem dX12_begins_14 : decode cX12_begins 14 = .ok (.return_, 1) := by decide +kernel
theorem dX12_adds_0 : decode cX12_adds 0 = .ok (.aload_n 0, 1) := by decide +kernel
theorem dX12_adds_1 : decode cX12_adds 1 = .ok (.getfield 99, 3) := by decide +kernel
theorem dX12_adds_4 : decode cX12_adds 4 = .ok (.iconst 5, 1) := by decide +kernel
theorem dX12_adds_5 : decode cX12_adds 5 = .ok (.if_icmp .ne 4, 3) := by decide +kernel
theorem dX12_adds_8 : decode cX12_adds 8 = .ok (.return_, 1) := by decide +kernel
theorem dX12_adds_9 : decode cX12_adds 9 = .ok (.aload_n 0, 1) := by decide +kernel
theorem dX12_adds_10 : decode cX12_adds 10 = .ok (.getfield 202, 3) := by decide +kernel
theorem dX12_adds_13 : decode cX12_adds 13 = .ok (.getfield 206, 3) := by decide +kernel
theorem dX12_adds_16 : decode cX12_adds 16 = .ok (.aload_n 0, 1) := by decide +kernel
theorem dX12_adds_17 : decode cX12_adds 17 = .ok (.getfield 202, 3) := by decide +kernel
theorem dX12_adds_20 : decode cX12_adds 20 = .ok (.getfield 211, 3) := by decide +kernel
theorem dX12_adds_23 : decode cX12_adds 23 = .ok (.aload_n 0, 1) := by decide +kernel
theorem dX12_adds_24 : decode cX12_adds 24 = .ok (.getfield 118, 3) := by decide +kernel
theorem dX12_adds_27 : decode cX12_adds 27 = .ok (.lastore, 1) := by decide +kernel
theorem dX12_adds_28 : decode cX12_adds 28 = .ok (.aload_n 0, 1) := by decide +kernel
theorem dX12_adds_29 : decode cX12_adds 29 = .ok (.getfield 202, 3) := by decide +kernel
theorem dX12_adds_32 : decode cX12_adds 32 = .ok (.getfield 214, 3) := by decide +kernel
theorem dX12_adds_35 : decode cX12_adds 35 = .ok (.aload_n 0, 1) := by decide +kernel
theorem dX12_adds_36 : decode cX12_adds 36 = .ok (.getfield 202, 3) := by decide +kernel
theorem dX12_adds_39 : decode cX12_adds 39 = .ok (.getfield 211, 3) := by decide +kernel
theorem dX12_adds_42 : decode cX12_adds 42 = .ok (.iload_n 1, 1) := by decide +kernel
theorem dX12_adds_43 : decode cX12_adds 43 = .ok (.iastore, 1) := by decide +kernel
theorem dX12_adds_44 : decode cX12_adds 44 = .ok (.aload_n 0, 1) := by decide +kernel
theorem dX12_adds_45 : decode cX12_adds 45 = .ok (.getfield 202, 3) := by decide +kernel
theorem dX12_adds_48 : decode cX12_adds 48 = .ok (.getfield 217, 3) := by decide +kernel
theorem dX12_adds_51 : decode cX12_adds 51 = .ok (.aload_n 0, 1) := by decide +kernel
theorem dX12_adds_52 : decode cX12_adds 52 = .ok (.getfield 202, 3) := by decide +kernel
theorem dX12_adds_55 : decode cX12_adds 55 = .ok (.getfield 211, 3) := by decide +kernel
theorem dX12_adds_58 : decode cX12_adds 58 = .ok (.iload_n 2, 1) := by decide +kernel
theorem dX12_adds_59 : decode cX12_adds 59 = .ok (.iastore, 1) := by decide +kernel
theorem dX12_adds_60 : decode cX12_adds 60 = .ok (.aload_n 0, 1) := by decide +kernel
theorem dX12_adds_61 : decode cX12_adds 61 = .ok (.getfield 202, 3) := by decide +kernel
theorem dX12_adds_64 : decode cX12_adds 64 = .ok (.dup, 1) := by decide +kernel
theorem dX12_adds_65 : decode cX12_adds 65 = .ok (.getfield 211, 3) := by decide +kernel
theorem dX12_adds_68 : decode cX12_adds 68 = .ok (.iconst 1, 1) := by decide +kernel
theorem dX12_adds_69 : decode cX12_adds 69 = .ok (.iadd, 1) := by decide +kernel
theorem dX12_adds_70 : decode cX12_adds 70 = .ok (.putfield 211, 3) := by decide +kernel
theorem dX12_adds_73 : decode cX12_adds 73 = .ok (.return_, 1) := by decide +kernel
theorem dX11_find_0 : decode cX11_find 0 = .ok (.iconst 0, 1) := by decide +kernel
theorem dX11_find_1 : decode cX11_find 1 = .ok (.istore_n 3, 1) := by decide +kernel
theorem dX11_find_2 : decode cX11_find 2 = .ok (.iload_n 3, 1) := by decide +kernel
theorem dX11_find_3 : decode cX11_find 3 = .ok (.aload_n 0, 1) := by decide +kernel
theorem dX11_find_4 : decode cX11_find 4 = .ok (.getfield 71, 3) := by decide +kernel
theorem dX11_find_7 : decode cX11_find 7 = .ok (.if_icmp .ge 22, 3) := by decide +kernel
theorem dX11_find_10 : decode cX11_find 10 = .ok (.aload_n 0, 1) := by decide +kernel
theorem dX11_find_11 : decode cX11_find 11 = .ok (.getfield 61, 3) := by decide +kernel
theorem dX11_find_14 : decode cX11_find 14 = .ok (.iload_n 3, 1) := by decide +kernel
theorem dX11_find_15 : decode cX11_find 15 = .ok (.laload, 1) := by decide +kernel
theorem dX11_find_16 : decode cX11_find 16 = .ok (.lload_n 1, 1) := by decide +kernel
theorem dX11_find_17 : decode cX11_find 17 = .ok (.lcmp, 1) := by decide +kernel
theorem dX11_find_18 : decode cX11_find 18 = .ok (.ifCond .ne 5, 3) := by decide +kernel
theorem dX11_find_21 : decode cX11_find 21 = .ok (.iload_n 3, 1) := by decide +kernel
theorem dX11_find_22 : decode cX11_find 22 = .ok (.ireturn, 1) := by decide +kernel
theorem dX11_find_23 : decode cX11_find 23 = .ok (.iinc 3 1, 3) := by decide +kernel
theorem dX11_find_26 : decode cX11_find 26 = .ok (.goto (-24), 3) := by decide +kernel
theorem dX11_find_29 : decode cX11_find 29 = .ok (.iconst (-1), 1) := by decide +kernel
theorem dX11_find_30 : decode cX11_find 30 = .ok (.ireturn, 1) := by decide +kernel
theorem dX12_readFresh_0 : decode cX12_readFresh 0 = .ok (.aload_n 0, 1) := by decide +kernel
theorem dX12_readFresh_1 : decode cX12_readFresh 1 = .ok (.invokevirtual 220, 3) := by decide +kernel
theorem dX12_readFresh_4 : decode cX12_readFresh 4 = .ok (.ifCond .ne 8, 3) := by decide +kernel
theorem dX12_readFresh_7 : decode cX12_readFresh 7 = .ok (.aload_n 0, 1) := by decide +kernel
theorem dX12_readFresh_8 : decode cX12_readFresh 8 = .ok (.iconst 1, 1) := by decide +kernel
theorem dX12_readFresh_9 : decode cX12_readFresh 9 = .ok (.invokevirtual 145, 3) := by decide +kernel
theorem dX12_readFresh_12 : decode cX12_readFresh 12 = .ok (.aload_n 0, 1) := by decide +kernel
theorem dX12_readFresh_13 : decode cX12_readFresh 13 = .ok (.getfield 202, 3) := by decide +kernel
theorem dX12_readFresh_16 : decode cX12_readFresh 16 = .ok (.aload_n 0, 1) := by decide +kernel
theorem dX12_readFresh_17 : decode cX12_readFresh 17 = .ok (.getfield 118, 3) := by decide +kernel
theorem dX12_readFresh_20 : decode cX12_readFresh 20 = .ok (.invokevirtual 224, 3) := by decide +kernel
theorem dX12_readFresh_23 : decode cX12_readFresh 23 = .ok (.iconst (-1), 1) := by decide +kernel
theorem dX12_readFresh_24 : decode cX12_readFresh 24 = .ok (.if_icmp .eq 8, 3) := by decide +kernel
theorem dX12_readFresh_27 : decode cX12_readFresh 27 = .ok (.aload_n 0, 1) := by decide +kernel
theorem dX12_readFresh_28 : decode cX12_readFresh 28 = .ok (.iconst 3, 1) := by decide +kernel
theorem dX12_readFresh_29 : decode cX12_readFresh 29 = .ok (.invokevirtual 145, 3) := by decide +kernel
theorem dX12_readFresh_32 : decode cX12_readFresh 32 = .ok (.aload_n 0, 1) := by decide +kernel
theorem dX12_readFresh_33 : decode cX12_readFresh 33 = .ok (.iload_n 1, 1) := by decide +kernel
theorem dX12_readFresh_34 : decode cX12_readFresh 34 = .ok (.iload_n 2, 1) := by decide +kernel
theorem dX12_readFresh_35 : decode cX12_readFresh 35 = .ok (.invokevirtual 228, 3) := by decide +kernel
theorem dX12_readFresh_38 : decode cX12_readFresh 38 = .ok (.aload_n 0, 1) := by decide +kernel
theorem dX12_readFresh_39 : decode cX12_readFresh 39 = .ok (.invokevirtual 142, 3) := by decide +kernel
theorem dX12_readFresh_42 : decode cX12_readFresh 42 = .ok (.return_, 1) := by decide +kernel
theorem dX12_known_0 : decode cX12_known 0 = .ok (.aload_n 0, 1) := by decide +kernel
theorem dX12_known_1 : decode cX12_known 1 = .ok (.invokevirtual 220, 3) := by decide +kernel
theorem dX12_known_4 : decode cX12_known 4 = .ok (.ifCond .ne 8, 3) := by decide +kernel
theorem dX12_known_7 : decode cX12_known 7 = .ok (.aload_n 0, 1) := by decide +kernel
theorem dX12_known_8 : decode cX12_known 8 = .ok (.iconst 1, 1) := by decide +kernel
theorem dX12_known_9 : decode cX12_known 9 = .ok (.invokevirtual 145, 3) := by decide +kernel
theorem dX12_known_12 : decode cX12_known 12 = .ok (.aload_n 0, 1) := by decide +kernel
theorem dX12_known_13 : decode cX12_known 13 = .ok (.getfield 202, 3) := by decide +kernel
theorem dX12_known_16 : decode cX12_known 16 = .ok (.aload_n 0, 1) := by decide +kernel
theorem dX12_known_17 : decode cX12_known 17 = .ok (.getfield 118, 3) := by decide +kernel
theorem dX12_known_20 : decode cX12_known 20 = .ok (.invokevirtual 224, 3) := by decide +kernel
theorem dX12_known_23 : decode cX12_known 23 = .ok (.istore_n 2, 1) := by decide +kernel
theorem dX12_known_24 : decode cX12_known 24 = .ok (.iload_n 2, 1) := by decide +kernel
theorem dX12_known_25 : decode cX12_known 25 = .ok (.iconst (-1), 1) := by decide +kernel
theorem dX12_known_26 : decode cX12_known 26 = .ok (.if_icmp .eq 16, 3) := by decide +kernel
theorem dX12_known_29 : decode cX12_known 29 = .ok (.aload_n 0, 1) := by decide +kernel
theorem dX12_known_30 : decode cX12_known 30 = .ok (.getfield 202, 3) := by decide +kernel
theorem dX12_known_33 : decode cX12_known 33 = .ok (.getfield 214, 3) := by decide +kernel
theorem dX12_known_36 : decode cX12_known 36 = .ok (.iload_n 2, 1) := by decide +kernel
theorem dX12_known_37 : decode cX12_known 37 = .ok (.iaload, 1) := by decide +kernel
theorem dX12_known_38 : decode cX12_known 38 = .ok (.iload_n 1, 1) := by decide +kernel
theorem dX12_known_39 : decode cX12_known 39 = .ok (.if_icmp .eq 8, 3) := by decide +kernel
theorem dX12_known_42 : decode cX12_known 42 = .ok (.aload_n 0, 1) := by decide +kernel
theorem dX12_known_43 : decode cX12_known 43 = .ok (.iconst 2, 1) := by decide +kernel
theorem dX12_known_44 : decode cX12_known 44 = .ok (.invokevirtual 145, 3) := by decide +kernel
theorem dX12_known_47 : decode cX12_known 47 = .ok (.aload_n 0, 1) := by decide +kernel
theorem dX12_known_48 : decode cX12_known 48 = .ok (.getfield 99, 3) := by decide +kernel
theorem dX12_known_51 : decode cX12_known 51 = .ok (.iconst 5, 1) := by decide +kernel
theorem dX12_known_52 : decode cX12_known 52 = .ok (.if_icmp .ne 7, 3) := by decide +kernel
theorem dX12_known_55 : decode cX12_known 55 = .ok (.iconst 0, 1) := by decide +kernel
theorem dX12_known_56 : decode cX12_known 56 = .ok (.goto 12, 3) := by decide +kernel
theorem dX12_known_59 : decode cX12_known 59 = .ok (.aload_n 0, 1) := by decide +kernel
theorem dX12_known_60 : decode cX12_known 60 = .ok (.getfield 202, 3) := by decide +kernel
theorem dX12_known_63 : decode cX12_known 63 = .ok (.getfield 217, 3) := by decide +kernel
theorem dX12_known_66 : decode cX12_known 66 = .ok (.iload_n 2, 1) := by decide +kernel
theorem dX12_known_67 : decode cX12_known 67 = .ok (.iaload, 1) := by decide +kernel
theorem dX12_known_68 : decode cX12_known 68 = .ok (.ireturn, 1) := by decide +kernel
theorem dX12_readKnown_0 : decode cX12_readKnown 0 = .ok (.aload_n 0, 1) := by decide +kernel
theorem dX12_readKnown_1 : decode cX12_readKnown 1 = .ok (.iload_n 1, 1) := by decide +kernel
theorem dX12_readKnown_2 : decode cX12_readKnown 2 = .ok (.invokevirtual 232, 3) := by decide +kernel
theorem dX12_readKnown_5 : decode cX12_readKnown 5 = .ok (.istore_n 2, 1) := by decide +kernel
theorem dX12_readKnown_6 : decode cX12_readKnown 6 = .ok (.aload_n 0, 1) := by decide +kernel
theorem dX12_readKnown_7 : decode cX12_readKnown 7 = .ok (.invokevirtual 142, 3) := by decide +kernel
theorem dX12_readKnown_10 : decode cX12_readKnown 10 = .ok (.iload_n 2, 1) := by decide +kernel
theorem dX12_readKnown_11 : decode cX12_readKnown 11 = .ok (.ireturn, 1) := by decide +kernel
theorem dX12_readHouse_0 : decode cX12_readHouse 0 = .ok (.aload_n 0, 1) := by decide +kernel
theorem dX12_readHouse_1 : decode cX12_readHouse 1 = .ok (.getfield 202, 3) := by decide +kernel
theorem dX12_readHouse_4 : decode cX12_readHouse 4 = .ok (.getfield 241, 3) := by decide +kernel
theorem dX12_readHouse_7 : decode cX12_readHouse 7 = .ok (.ifCond .le 8, 3) := by decide +kernel
theorem dX12_readHouse_10 : decode cX12_readHouse 10 = .ok (.aload_n 0, 1) := by decide +kernel
theorem dX12_readHouse_11 : decode cX12_readHouse 11 = .ok (.iconst 3, 1) := by decide +kernel
theorem dX12_readHouse_12 : decode cX12_readHouse 12 = .ok (.invokevirtual 145, 3) := by decide +kernel
theorem dX12_readHouse_15 : decode cX12_readHouse 15 = .ok (.aload_n 0, 1) := by decide +kernel
theorem dX12_readHouse_16 : decode cX12_readHouse 16 = .ok (.invokevirtual 142, 3) := by decide +kernel
theorem dX12_readHouse_19 : decode cX12_readHouse 19 = .ok (.aload_n 0, 1) := by decide +kernel
theorem dX12_readHouse_20 : decode cX12_readHouse 20 = .ok (.ldc_w 271, 3) := by decide +kernel
theorem dX12_readHouse_23 : decode cX12_readHouse 23 = .ok (.iconst 1, 1) := by decide +kernel
theorem dX12_readHouse_24 : decode cX12_readHouse 24 = .ok (.bipush 40, 2) := by decide +kernel
theorem dX12_readHouse_26 : decode cX12_readHouse 26 = .ok (.invokevirtual 272, 3) := by decide +kernel
theorem dX12_readHouse_29 : decode cX12_readHouse 29 = .ok (.istore_n 1, 1) := by decide +kernel
theorem dX12_readHouse_30 : decode cX12_readHouse 30 = .ok (.aload_n 0, 1) := by decide +kernel
theorem dX12_readHouse_31 : decode cX12_readHouse 31 = .ok (.getfield 99, 3) := by decide +kernel
theorem dX12_readHouse_34 : decode cX12_readHouse 34 = .ok (.iconst 5, 1) := by decide +kernel
theorem dX12_readHouse_35 : decode cX12_readHouse 35 = .ok (.if_icmp .eq 11, 3) := by decide +kernel
theorem dX12_readHouse_38 : decode cX12_readHouse 38 = .ok (.aload_n 0, 1) := by decide +kernel
theorem dX12_readHouse_39 : decode cX12_readHouse 39 = .ok (.getfield 202, 3) := by decide +kernel
theorem dX12_readHouse_42 : decode cX12_readHouse 42 = .ok (.iload_n 1, 1) := by decide +kernel
theorem dX12_readHouse_43 : decode cX12_readHouse 43 = .ok (.putfield 241, 3) := by decide +kernel
theorem dX12_readHouse_46 : decode cX12_readHouse 46 = .ok (.return_, 1) := by decide +kernel
theorem dX12_readRoom_0 : decode cX12_readRoom 0 = .ok (.aload_n 0, 1) := by decide +kernel
theorem dX12_readRoom_1 : decode cX12_readRoom 1 = .ok (.aload_n 0, 1) := by decide +kernel
theorem dX12_readRoom_2 : decode cX12_readRoom 2 = .ok (.getfield 202, 3) := by decide +kernel
theorem dX12_readRoom_5 : decode cX12_readRoom 5 = .ok (.getfield 244, 3) := by decide +kernel
theorem dX12_readRoom_8 : decode cX12_readRoom 8 = .ok (.bipush 8, 2) := by decide +kernel
theorem dX12_readRoom_10 : decode cX12_readRoom 10 = .ok (.invokevirtual 276, 3) := by decide +kernel
theorem dX12_readRoom_13 : decode cX12_readRoom 13 = .ok (.aload_n 0, 1) := by decide +kernel
theorem dX12_readRoom_14 : decode cX12_readRoom 14 = .ok (.iconst 0, 1) := by decide +kernel
theorem dX12_readRoom_15 : decode cX12_readRoom 15 = .ok (.aload_n 0, 1) := by decide +kernel
theorem dX12_readRoom_16 : decode cX12_readRoom 16 = .ok (.getfield 202, 3) := by decide +kernel
theorem dX12_readRoom_19 : decode cX12_readRoom 19 = .ok (.getfield 244, 3) := by decide +kernel
theorem dX12_readRoom_22 : decode cX12_readRoom 22 = .ok (.invokevirtual 279, 3) := by decide +kernel
theorem dX12_readRoom_25 : decode cX12_readRoom 25 = .ok (.aload_n 0, 1) := by decide +kernel
theorem dX12_readRoom_26 : decode cX12_readRoom 26 = .ok (.ldc_w 282, 3) := by decide +kernel
theorem dX12_readRoom_29 : decode cX12_readRoom 29 = .ok (.iconst 0, 1) := by decide +kernel
theorem dX12_readRoom_30 : decode cX12_readRoom 30 = .ok (.bipush 9, 2) := by decide +kernel
theorem dX12_readRoom_32 : decode cX12_readRoom 32 = .ok (.invokevirtual 272, 3) := by decide +kernel
theorem dX12_readRoom_35 : decode cX12_readRoom 35 = .ok (.istore_n 1, 1) := by decide +kernel
theorem dX12_readRoom_36 : decode cX12_readRoom 36 = .ok (.aload_n 0, 1) := by decide +kernel
theorem dX12_readRoom_37 : decode cX12_readRoom 37 = .ok (.ldc 178, 2) := by decide +kernel
theorem dX12_readRoom_39 : decode cX12_readRoom 39 = .ok (.invokevirtual 284, 3) := by decide +kernel
theorem dX12_readRoom_42 : decode cX12_readRoom 42 = .ok (.istore_n 2, 1) := by decide +kernel
theorem dX12_readRoom_43 : decode cX12_readRoom 43 = .ok (.aload_n 0, 1) := by decide +kernel
theorem dX12_readRoom_44 : decode cX12_readRoom 44 = .ok (.getfield 99, 3) := by decide +kernel
theorem dX12_readRoom_47 : decode cX12_readRoom 47 = .ok (.iconst 5, 1) := by decide +kernel
theorem dX12_readRoom_48 : decode cX12_readRoom 48 = .ok (.if_icmp .ne 4, 3) := by decide +kernel
theorem dX12_readRoom_51 : decode cX12_readRoom 51 = .ok (.return_, 1) := by decide +kernel
theorem dX12_readRoom_52 : decode cX12_readRoom 52 = .ok (.aload_n 0, 1) := by decide +kernel
theorem dX12_readRoom_53 : decode cX12_readRoom 53 = .ok (.getfield 202, 3) := by decide +kernel
theorem dX12_readRoom_56 : decode cX12_readRoom 56 = .ok (.getfield 287, 3) := by decide +kernel
theorem dX12_readRoom_59 : decode cX12_readRoom 59 = .ok (.aload_n 0, 1) := by decide +kernel
theorem dX12_readRoom_60 : decode cX12_readRoom 60 = .ok (.getfield 202, 3) := by decide +kernel
theorem dX12_readRoom_63 : decode cX12_readRoom 63 = .ok (.getfield 244, 3) := by decide +kernel
theorem dX12_readRoom_66 : decode cX12_readRoom 66 = .ok (.iload_n 1, 1) := by decide +kernel
theorem dX12_readRoom_67 : decode cX12_readRoom 67 = .ok (.iastore, 1) := by decide +kernel
theorem dX12_readRoom_68 : decode cX12_readRoom 68 = .ok (.aload_n 0, 1) := by decide +kernel
theorem dX12_readRoom_69 : decode cX12_readRoom 69 = .ok (.getfield 202, 3) := by decide +kernel
theorem dX12_readRoom_72 : decode cX12_readRoom 72 = .ok (.getfield 289, 3) := by decide +kernel
theorem dX12_readRoom_75 : decode cX12_readRoom 75 = .ok (.aload_n 0, 1) := by decide +kernel
theorem dX12_readRoom_76 : decode cX12_readRoom 76 = .ok (.getfield 202, 3) := by decide +kernel
theorem dX12_readRoom_79 : decode cX12_readRoom 79 = .ok (.getfield 244, 3) := by decide +kernel
theorem dX12_readRoom_82 : decode cX12_readRoom 82 = .ok (.iload_n 2, 1) := by decide +kernel
theorem dX12_readRoom_83 : decode cX12_readRoom 83 = .ok (.bastore, 1) := by decide +kernel
theorem dX12_readRoom_84 : decode cX12_readRoom 84 = .ok (.aload_n 0, 1) := by decide +kernel
theorem dX12_readRoom_85 : decode cX12_readRoom 85 = .ok (.getfield 202, 3) := by decide +kernel
theorem dX12_readRoom_88 : decode cX12_readRoom 88 = .ok (.dup, 1) := by decide +kernel
theorem dX12_readRoom_89 : decode cX12_readRoom 89 = .ok (.getfield 244, 3) := by decide +kernel
theorem dX12_readRoom_92 : decode cX12_readRoom 92 = .ok (.iconst 1, 1) := by decide +kernel
theorem dX12_readRoom_93 : decode cX12_readRoom 93 = .ok (.iadd, 1) := by decide +kernel
theorem dX12_readRoom_94 : decode cX12_readRoom 94 = .ok (.putfield 244, 3) := by decide +kernel
theorem dX12_readRoom_97 : decode cX12_readRoom 97 = .ok (.return_, 1) := by decide +kernel
theorem dX11_between_0 : decode cX11_between 0 = .ok (.iconst 0, 1) := by decide +kernel
theorem dX11_between_1 : decode cX11_between 1 = .ok (.istore_n 3, 1) := by decide +kernel
theorem dX11_between_2 : decode cX11_between 2 = .ok (.iload_n 3, 1) := by decide +kernel
theorem dX11_between_3 : decode cX11_between 3 = .ok (.aload_n 0, 1) := by decide +kernel
theorem dX11_between_4 : decode cX11_between 4 = .ok (.getfield 75, 3) := by decide +kernel
theorem dX11_between_7 : decode cX11_between 7 = .ok (.if_icmp .ge 51, 3) := by decide +kernel
theorem dX11_between_10 : decode cX11_between 10 = .ok (.aload_n 0, 1) := by decide +kernel
theorem dX11_between_11 : decode cX11_between 11 = .ok (.getfield 15, 3) := by decide +kernel
theorem dX11_between_14 : decode cX11_between 14 = .ok (.iload_n 3, 1) := by decide +kernel
theorem dX11_between_15 : decode cX11_between 15 = .ok (.iaload, 1) := by decide +kernel
theorem dX11_between_16 : decode cX11_between 16 = .ok (.iload_n 1, 1) := by decide +kernel
theorem dX11_between_17 : decode cX11_between 17 = .ok (.if_icmp .ne 13, 3) := by decide +kernel
theorem dX11_between_20 : decode cX11_between 20 = .ok (.aload_n 0, 1) := by decide +kernel
theorem dX11_between_21 : decode cX11_between 21 = .ok (.getfield 18, 3) := by decide +kernel
theorem dX11_between_24 : decode cX11_between 24 = .ok (.iload_n 3, 1) := by decide +kernel
theorem dX11_between_25 : decode cX11_between 25 = .ok (.iaload, 1) := by decide +kernel
theorem dX11_between_26 : decode cX11_between 26 = .ok (.iload_n 2, 1) := by decide +kernel
theorem dX11_between_27 : decode cX11_between 27 = .ok (.if_icmp .eq 23, 3) := by decide +kernel
theorem dX11_between_30 : decode cX11_between 30 = .ok (.aload_n 0, 1) := by decide +kernel
theorem dX11_between_31 : decode cX11_between 31 = .ok (.getfield 15, 3) := by decide +kernel
theorem dX11_between_34 : decode cX11_between 34 = .ok (.iload_n 3, 1) := by decide +kernel
theorem dX11_between_35 : decode cX11_between 35 = .ok (.iaload, 1) := by decide +kernel
theorem dX11_between_36 : decode cX11_between 36 = .ok (.iload_n 2, 1) := by decide +kernel
theorem dX11_between_37 : decode cX11_between 37 = .ok (.if_icmp .ne 15, 3) := by decide +kernel
theorem dX11_between_40 : decode cX11_between 40 = .ok (.aload_n 0, 1) := by decide +kernel
theorem dX11_between_41 : decode cX11_between 41 = .ok (.getfield 18, 3) := by decide +kernel
theorem dX11_between_44 : decode cX11_between 44 = .ok (.iload_n 3, 1) := by decide +kernel
theorem dX11_between_45 : decode cX11_between 45 = .ok (.iaload, 1) := by decide +kernel
theorem dX11_between_46 : decode cX11_between 46 = .ok (.iload_n 1, 1) := by decide +kernel
theorem dX11_between_47 : decode cX11_between 47 = .ok (.if_icmp .ne 5, 3) := by decide +kernel
theorem dX11_between_50 : decode cX11_between 50 = .ok (.iload_n 3, 1) := by decide +kernel
theorem dX11_between_51 : decode cX11_between 51 = .ok (.ireturn, 1) := by decide +kernel
theorem dX11_between_52 : decode cX11_between 52 = .ok (.iinc 3 1, 3) := by decide +kernel
theorem dX11_between_55 : decode cX11_between 55 = .ok (.goto (-53), 3) := by decide +kernel
theorem dX11_between_58 : decode cX11_between 58 = .ok (.iconst (-1), 1) := by decide +kernel
theorem dX11_between_59 : decode cX11_between 59 = .ok (.ireturn, 1) := by decide +kernel
theorem dX12_readDoor_0 : decode cX12_readDoor 0 = .ok (.aload_n 0, 1) := by decide +kernel
theorem dX12_readDoor_1 : decode cX12_readDoor 1 = .ok (.aload_n 0, 1) := by decide +kernel
theorem dX12_readDoor_2 : decode cX12_readDoor 2 = .ok (.getfield 202, 3) := by decide +kernel
theorem dX12_readDoor_5 : decode cX12_readDoor 5 = .ok (.getfield 292, 3) := by decide +kernel
theorem dX12_readDoor_8 : decode cX12_readDoor 8 = .ok (.bipush 10, 2) := by decide +kernel
theorem dX12_readDoor_10 : decode cX12_readDoor 10 = .ok (.invokevirtual 276, 3) := by decide +kernel
theorem dX12_readDoor_13 : decode cX12_readDoor 13 = .ok (.aload_n 0, 1) := by decide +kernel
theorem dX12_readDoor_14 : decode cX12_readDoor 14 = .ok (.iconst 0, 1) := by decide +kernel
theorem dX12_readDoor_15 : decode cX12_readDoor 15 = .ok (.invokevirtual 295, 3) := by decide +kernel
theorem dX12_readDoor_18 : decode cX12_readDoor 18 = .ok (.istore_n 1, 1) := by decide +kernel
theorem dX12_readDoor_19 : decode cX12_readDoor 19 = .ok (.aload_n 0, 1) := by decide +kernel
theorem dX12_readDoor_20 : decode cX12_readDoor 20 = .ok (.bipush 44, 2) := by decide +kernel
theorem dX12_readDoor_22 : decode cX12_readDoor 22 = .ok (.invokevirtual 298, 3) := by decide +kernel
theorem dX12_readDoor_25 : decode cX12_readDoor 25 = .ok (.aload_n 0, 1) := by decide +kernel
theorem dX12_readDoor_26 : decode cX12_readDoor 26 = .ok (.iconst 0, 1) := by decide +kernel
theorem dX12_readDoor_27 : decode cX12_readDoor 27 = .ok (.invokevirtual 232, 3) := by decide +kernel
theorem dX12_readDoor_30 : decode cX12_readDoor 30 = .ok (.istore_n 2, 1) := by decide +kernel
theorem dX12_readDoor_31 : decode cX12_readDoor 31 = .ok (.iload_n 1, 1) := by decide +kernel
theorem dX12_readDoor_32 : decode cX12_readDoor 32 = .ok (.iload_n 2, 1) := by decide +kernel
theorem dX12_readDoor_33 : decode cX12_readDoor 33 = .ok (.if_icmp .eq 16, 3) := by decide +kernel
theorem dX12_readDoor_36 : decode cX12_readDoor 36 = .ok (.aload_n 0, 1) := by decide +kernel
theorem dX12_readDoor_37 : decode cX12_readDoor 37 = .ok (.getfield 202, 3) := by decide +kernel
theorem dX12_readDoor_40 : decode cX12_readDoor 40 = .ok (.iload_n 1, 1) := by decide +kernel
theorem dX12_readDoor_41 : decode cX12_readDoor 41 = .ok (.iload_n 2, 1) := by decide +kernel
theorem dX12_readDoor_42 : decode cX12_readDoor 42 = .ok (.invokevirtual 301, 3) := by decide +kernel
theorem dX12_readDoor_45 : decode cX12_readDoor 45 = .ok (.iconst (-1), 1) := by decide +kernel
theorem dX12_readDoor_46 : decode cX12_readDoor 46 = .ok (.if_icmp .eq 8, 3) := by decide +kernel
theorem dX12_readDoor_49 : decode cX12_readDoor 49 = .ok (.aload_n 0, 1) := by decide +kernel
theorem dX12_readDoor_50 : decode cX12_readDoor 50 = .ok (.iconst 3, 1) := by decide +kernel
theorem dX12_readDoor_51 : decode cX12_readDoor 51 = .ok (.invokevirtual 145, 3) := by decide +kernel
theorem dX12_readDoor_54 : decode cX12_readDoor 54 = .ok (.aload_n 0, 1) := by decide +kernel
theorem dX12_readDoor_55 : decode cX12_readDoor 55 = .ok (.invokevirtual 142, 3) := by decide +kernel
theorem dX12_readDoor_58 : decode cX12_readDoor 58 = .ok (.aload_n 0, 1) := by decide +kernel
theorem dX12_readDoor_59 : decode cX12_readDoor 59 = .ok (.ldc 180, 2) := by decide +kernel
theorem dX12_readDoor_61 : decode cX12_readDoor 61 = .ok (.invokevirtual 284, 3) := by decide +kernel
theorem dX12_readDoor_64 : decode cX12_readDoor 64 = .ok (.ifCond .eq 7, 3) := by decide +kernel
theorem dX12_readDoor_67 : decode cX12_readDoor 67 = .ok (.iconst 1, 1) := by decide +kernel
theorem dX12_readDoor_68 : decode cX12_readDoor 68 = .ok (.goto 17, 3) := by decide +kernel
theorem dX12_readDoor_71 : decode cX12_readDoor 71 = .ok (.aload_n 0, 1) := by decide +kernel
theorem dX12_readDoor_72 : decode cX12_readDoor 72 = .ok (.ldc 182, 2) := by decide +kernel
theorem dX12_readDoor_74 : decode cX12_readDoor 74 = .ok (.invokevirtual 284, 3) := by decide +kernel
theorem dX12_readDoor_77 : decode cX12_readDoor 77 = .ok (.ifCond .eq 7, 3) := by decide +kernel
theorem dX12_readDoor_80 : decode cX12_readDoor 80 = .ok (.iconst 2, 1) := by decide +kernel
theorem dX12_readDoor_81 : decode cX12_readDoor 81 = .ok (.goto 4, 3) := by decide +kernel
theorem dX12_readDoor_84 : decode cX12_readDoor 84 = .ok (.iconst 0, 1) := by decide +kernel
theorem dX12_readDoor_85 : decode cX12_readDoor 85 = .ok (.istore_n 3, 1) := by decide +kernel
theorem dX12_readDoor_86 : decode cX12_readDoor 86 = .ok (.aload_n 0, 1) := by decide +kernel
theorem dX12_readDoor_87 : decode cX12_readDoor 87 = .ok (.ldc 184, 2) := by decide +kernel
theorem dX12_readDoor_89 : decode cX12_readDoor 89 = .ok (.invokevirtual 284, 3) := by decide +kernel
theorem dX12_readDoor_92 : decode cX12_readDoor 92 = .ok (.istore 4, 2) := by decide +kernel
theorem dX12_readDoor_94 : decode cX12_readDoor 94 = .ok (.aload_n 0, 1) := by decide +kernel
theorem dX12_readDoor_95 : decode cX12_readDoor 95 = .ok (.getfield 99, 3) := by decide +kernel
theorem dX12_readDoor_98 : decode cX12_readDoor 98 = .ok (.iconst 5, 1) := by decide +kernel
theorem dX12_readDoor_99 : decode cX12_readDoor 99 = .ok (.if_icmp .ne 4, 3) := by decide +kernel
theorem dX12_readDoor_102 : decode cX12_readDoor 102 = .ok (.return_, 1) := by decide +kernel
theorem dX12_readDoor_103 : decode cX12_readDoor 103 = .ok (.aload_n 0, 1) := by decide +kernel
theorem dX12_readDoor_104 : decode cX12_readDoor 104 = .ok (.getfield 202, 3) := by decide +kernel
theorem dX12_readDoor_107 : decode cX12_readDoor 107 = .ok (.getfield 304, 3) := by decide +kernel
theorem dX12_readDoor_110 : decode cX12_readDoor 110 = .ok (.aload_n 0, 1) := by decide +kernel
theorem dX12_readDoor_111 : decode cX12_readDoor 111 = .ok (.getfield 202, 3) := by decide +kernel
theorem dX12_readDoor_114 : decode cX12_readDoor 114 = .ok (.getfield 292, 3) := by decide +kernel
theorem dX12_readDoor_117 : decode cX12_readDoor 117 = .ok (.iload_n 1, 1) := by decide +kernel
theorem dX12_readDoor_118 : decode cX12_readDoor 118 = .ok (.iastore, 1) := by decide +kernel
theorem dX12_readDoor_119 : decode cX12_readDoor 119 = .ok (.aload_n 0, 1) := by decide +kernel
theorem dX12_readDoor_120 : decode cX12_readDoor 120 = .ok (.getfield 202, 3) := by decide +kernel
theorem dX12_readDoor_123 : decode cX12_readDoor 123 = .ok (.getfield 307, 3) := by decide +kernel
theorem dX12_readDoor_126 : decode cX12_readDoor 126 = .ok (.aload_n 0, 1) := by decide +kernel
theorem dX12_readDoor_127 : decode cX12_readDoor 127 = .ok (.getfield 202, 3) := by decide +kernel
theorem dX12_readDoor_130 : decode cX12_readDoor 130 = .ok (.getfield 292, 3) := by decide +kernel
theorem dX12_readDoor_133 : decode cX12_readDoor 133 = .ok (.iload_n 2, 1) := by decide +kernel
theorem dX12_readDoor_134 : decode cX12_readDoor 134 = .ok (.iastore, 1) := by decide +kernel
theorem dX12_readDoor_135 : decode cX12_readDoor 135 = .ok (.aload_n 0, 1) := by decide +kernel
theorem dX12_readDoor_136 : decode cX12_readDoor 136 = .ok (.getfield 202, 3) := by decide +kernel
theorem dX12_readDoor_139 : decode cX12_readDoor 139 = .ok (.getfield 310, 3) := by decide +kernel
theorem dX12_readDoor_142 : decode cX12_readDoor 142 = .ok (.aload_n 0, 1) := by decide +kernel
theorem dX12_readDoor_143 : decode cX12_readDoor 143 = .ok (.getfield 202, 3) := by decide +kernel
theorem dX12_readDoor_146 : decode cX12_readDoor 146 = .ok (.getfield 292, 3) := by decide +kernel
theorem dX12_readDoor_149 : decode cX12_readDoor 149 = .ok (.iload_n 3, 1) := by decide +kernel
theorem dX12_readDoor_150 : decode cX12_readDoor 150 = .ok (.iastore, 1) := by decide +kernel
theorem dX12_readDoor_151 : decode cX12_readDoor 151 = .ok (.aload_n 0, 1) := by decide +kernel
theorem dX12_readDoor_152 : decode cX12_readDoor 152 = .ok (.getfield 202, 3) := by decide +kernel
theorem dX12_readDoor_155 : decode cX12_readDoor 155 = .ok (.getfield 313, 3) := by decide +kernel
theorem dX12_readDoor_158 : decode cX12_readDoor 158 = .ok (.aload_n 0, 1) := by decide +kernel
theorem dX12_readDoor_159 : decode cX12_readDoor 159 = .ok (.getfield 202, 3) := by decide +kernel
theorem dX12_readDoor_162 : decode cX12_readDoor 162 = .ok (.getfield 292, 3) := by decide +kernel
theorem dX12_readDoor_165 : decode cX12_readDoor 165 = .ok (.iload 4, 2) := by decide +kernel
theorem dX12_readDoor_167 : decode cX12_readDoor 167 = .ok (.bastore, 1) := by decide +kernel
theorem dX12_readDoor_168 : decode cX12_readDoor 168 = .ok (.aload_n 0, 1) := by decide +kernel
theorem dX12_readDoor_169 : decode cX12_readDoor 169 = .ok (.getfield 202, 3) := by decide +kernel
theorem dX12_readDoor_172 : decode cX12_readDoor 172 = .ok (.dup, 1) := by decide +kernel
theorem dX12_readDoor_173 : decode cX12_readDoor 173 = .ok (.getfield 292, 3) := by decide +kernel
theorem dX12_readDoor_176 : decode cX12_readDoor 176 = .ok (.iconst 1, 1) := by decide +kernel
theorem dX12_readDoor_177 : decode cX12_readDoor 177 = .ok (.iadd, 1) := by decide +kernel
theorem dX12_readDoor_178 : decode cX12_readDoor 178 = .ok (.putfield 292, 3) := by decide +kernel
theorem dX12_readDoor_181 : decode cX12_readDoor 181 = .ok (.return_, 1) := by decide +kernel
def wX10_walks (E : EN) (h h_reader h_inn h_chosen h_night h_marks h_notes h_casts h_inn_house h_inn_thingIn h_inn_full h_inn_states h_inn_bed h_inn_dreamOf h_inn_listensIn h_inn_house_creak h_inn_house_cold h_inn_house_one h_inn_house_other h_inn_house_how h_inn_house_falls h_inn_house_ways : Nat) (v_marked : Int32) (v_refusal : Int32) (v_latestFault : Int32) (v_faultPlace : Int32) (v_inn_minutes : Int32) (v_inn_things : Int32) (v_inn_dreams : Int32) (v_inn_sleepers : Int32) (v_inn_listeners : Int32) (v_inn_house_rooms : Int32) (v_inn_house_doors : Int32) (v_inn_house_how : Nat → Int32) (v_inn_house_one : Nat → Int32) (v_inn_house_other : Nat → Int32) (v_inn_bed : Nat → Int32) : va_W := [(h, .inr (9, [.ref h_reader, .ref h_inn, .ref h_chosen, .ref h_night, .ref h_marks, .int v_marked, .ref h_notes, .ref h_casts, .int v_refusal, .int v_latestFault, .int v_faultPlace])), (h_inn, .inr (2, [.ref h_inn_house, .int v_inn_minutes, .int v_inn_things, .ref h_inn_thingIn, .ref h_inn_full, .int v_inn_dreams, .ref h_inn_states, .int v_inn_sleepers, .ref h_inn_bed, .ref h_inn_dreamOf, .int v_inn_listeners, .ref h_inn_listensIn])), (h_inn_house, .inr (1, [.int v_inn_house_rooms, .ref h_inn_house_creak, .ref h_inn_house_cold, .int v_inn_house_doors, .ref h_inn_house_one, .ref h_inn_house_other, .ref h_inn_house_how, .ref h_inn_house_falls, .ref h_inn_house_ways])), (h_inn_house_how, aI E 10 v_inn_house_how), (h_inn_house_one, aI E 10 v_inn_house_one), (h_inn_house_other, aI E 10 v_inn_house_other), (h_inn_bed, aI E 3 v_inn_bed)]
def fX10_walks (N : Nat) (p0 : Int32) (v_inn_sleepers : Int32) (v_inn_house_rooms : Int32) (v_inn_house_doors : Int32) (v_inn_house_how : Nat → Int32) (v_inn_house_one : Nat → Int32) (v_inn_house_other : Nat → Int32) (v_inn_bed : Nat → Int32) : Option (Int32 × Int32) := (fX10_safe N p0 v_inn_sleepers v_inn_house_rooms v_inn_house_doors v_inn_house_how v_inn_house_one v_inn_house_other v_inn_bed).bind (un2 fun (r_2 : Int32) (v_refusal_2 : Int32) => some (r_2, v_refusal_2))
set_option maxHeartbeats 4000000 in
set_option maxRecDepth 100000 in
theorem ctX10_walks (l : Launch) (E : EN) (h h_reader h_inn h_chosen h_night h_marks h_notes h_casts h_inn_house h_inn_thingIn h_inn_full h_inn_states h_inn_bed h_inn_dreamOf h_inn_listensIn h_inn_house_creak h_inn_house_cold h_inn_house_one h_inn_house_other h_inn_house_how h_inn_house_falls h_inn_house_ways : Nat) (v_marked : Int32) (v_refusal : Int32) (v_latestFault : Int32) (v_faultPlace : Int32) (v_inn_minutes : Int32) (v_inn_things : Int32) (v_inn_dreams : Int32) (v_inn_sleepers : Int32) (v_inn_listeners : Int32) (v_inn_house_rooms : Int32) (v_inn_house_doors : Int32) (v_inn_house_how : Nat → Int32) (v_inn_house_one : Nat → Int32) (v_inn_house_other : Nat → Int32) (v_inn_bed : Nat → Int32) (N : Nat) (p0 : Int32) (z : Int32 × Int32) (hf : fX10_walks N p0 v_inn_sleepers v_inn_house_rooms v_inn_house_doors v_inn_house_how v_inn_house_one v_inn_house_other v_inn_bed = some z) : CTi l E yX10_walks cX10_walks 2 .int 5 116 [.ref h, .int p0] (wX10_walks E h h_reader h_inn h_chosen h_night h_marks h_notes h_casts h_inn_house h_inn_thingIn h_inn_full h_inn_states h_inn_bed h_inn_dreamOf h_inn_listensIn h_inn_house_creak h_inn_house_cold h_inn_house_one h_inn_house_other h_inn_house_how h_inn_house_falls h_inn_house_ways v_marked v_refusal v_latestFault v_faultPlace v_inn_minutes v_inn_things v_inn_dreams v_inn_sleepers v_inn_listeners v_inn_house_rooms v_inn_house_doors v_inn_house_how v_inn_house_one v_inn_house_other v_inn_bed) (z.1) (wX10_walks E h h_reader h_inn h_chosen h_night h_marks h_notes h_casts h_inn_house h_inn_thingIn h_inn_full h_inn_states h_inn_bed h_inn_dreamOf h_inn_listensIn h_inn_house_creak h_inn_house_cold h_inn_house_one h_inn_house_other h_inn_house_how h_inn_house_falls h_inn_house_ways v_marked z.2 v_latestFault v_faultPlace v_inn_minutes v_inn_things v_inn_dreams v_inn_sleepers v_inn_listeners v_inn_house_rooms v_inn_house_doors v_inn_house_how v_inn_house_one v_inn_house_other v_inn_bed) := by
  intro sz
  refine ct_body (by decide) (Nat.le_of_ble_eq_true rfl) ?_
  intro p e s m args below meth c A ls hAe C hr hin hP hD hS hl
  have C : CX p s m args meth c cX10_walks RX10 2 E A := C
  have hl : lv_has ls 2 [(0, .ref h), (1, .int p0)] := hl
  have hx := C.1
  have hb := C.2.1
  rw [hAe]
  clear hAe
  obtain ⟨Q, hQ⟩ : ∃ Q, Q = MQ below (Qi E A (z.1) (wX10_walks E h h_reader h_inn h_chosen h_night h_marks h_notes h_casts h_inn_house h_inn_thingIn h_inn_full h_inn_states h_inn_bed h_inn_dreamOf h_inn_listensIn h_inn_house_creak h_inn_house_cold h_inn_house_one h_inn_house_other h_inn_house_how h_inn_house_falls h_inn_house_ways v_marked z.2 v_latestFault v_faultPlace v_inn_minutes v_inn_things v_inn_dreams v_inn_sleepers v_inn_listeners v_inn_house_rooms v_inn_house_doors v_inn_house_how v_inn_house_one v_inn_house_other v_inn_bed)) args s 0 0 A := ⟨_, rfl⟩
  rw [← hQ]
  unfold fX10_walks at hf
  refine lv_aload_n (pc := 0) hx hb dX10_walks_0 rfl (lv_at hl 0 rfl) ?_
  refine lv_iload_n (pc := 1) hx hb dX10_walks_1 rfl (lv_at hl 1 rfl) ?_
  obtain ⟨r_2, v_refusal_2, hc_2, hf⟩ := bd2 hf
  refine r_dalVi (pc := 2) (ws' := (wX10_walks E h h_reader h_inn h_chosen h_night h_marks h_notes h_casts h_inn_house h_inn_thingIn h_inn_full h_inn_states h_inn_bed h_inn_dreamOf h_inn_listensIn h_inn_house_creak h_inn_house_cold h_inn_house_one h_inn_house_other h_inn_house_how h_inn_house_falls h_inn_house_ways v_marked v_refusal_2 v_latestFault v_faultPlace v_inn_minutes v_inn_things v_inn_dreams v_inn_sleepers v_inn_listeners v_inn_house_rooms v_inn_house_doors v_inn_house_how v_inn_house_one v_inn_house_other v_inn_bed)) (As := [.int p0]) (rest := []) C (ctX10_safe l E h h_reader h_inn h_chosen h_night h_marks h_notes h_casts h_inn_house h_inn_thingIn h_inn_full h_inn_states h_inn_bed h_inn_dreamOf h_inn_listensIn h_inn_house_creak h_inn_house_cold h_inn_house_one h_inn_house_other h_inn_house_how h_inn_house_falls h_inn_house_ways v_marked v_refusal v_latestFault v_faultPlace v_inn_minutes v_inn_things v_inn_dreams v_inn_sleepers v_inn_listeners v_inn_house_rooms v_inn_house_doors v_inn_house_how v_inn_house_one v_inn_house_other v_inn_bed N p0 (r_2, v_refusal_2) hc_2) ml_X10_298 ⟨Nat.le_of_ble_eq_true rfl, Nat.le_of_ble_eq_true rfl⟩ hP hD hS 0 rfl rfl rfl [0, 1, 2, 3, 4, 5, 6] [7, 8, 9, 10, 11, 12, 13] 7 rfl rfl rfl rfl rfl rfl rfl hl.1 rfl (Nat.le_of_ble_eq_true rfl) ⟨Nat.zero_le _, Nat.zero_le _⟩ dX10_walks_2 ?_
  clear hP hD hS; intro H locs hP hD hS
  cases hf
  rw [hQ]
  exact r_iret C hr hP hD hS rfl dX10_walks_5
def wX10_led (E : EN) (h h_reader h_inn h_chosen h_night h_marks h_notes h_casts h_inn_house h_inn_thingIn h_inn_full h_inn_states h_inn_bed h_inn_dreamOf h_inn_listensIn h_night_ways h_night_how h_night_passed h_night_dreamOf h_night_stateOf h_night_roomOf h_night_handOf h_night_awake h_night_thingIn h_night_full h_night_heardBy : Nat) (v_marked : Int32) (v_refusal : Int32) (v_latestFault : Int32) (v_faultPlace : Int32) (v_inn_minutes : Int32) (v_inn_things : Int32) (v_inn_dreams : Int32) (v_inn_sleepers : Int32) (v_inn_listeners : Int32) (v_night_setting : Int32) (v_night_been : Int32) (v_night_roomOf : Nat → Int32) (v_inn_bed : Nat → Int32) : va_W := [(h, .inr (9, [.ref h_reader, .ref h_inn, .ref h_chosen, .ref h_night, .ref h_marks, .int v_marked, .ref h_notes, .ref h_casts, .int v_refusal, .int v_latestFault, .int v_faultPlace])), (h_inn, .inr (2, [.ref h_inn_house, .int v_inn_minutes, .int v_inn_things, .ref h_inn_thingIn, .ref h_inn_full, .int v_inn_dreams, .ref h_inn_states, .int v_inn_sleepers, .ref h_inn_bed, .ref h_inn_dreamOf, .int v_inn_listeners, .ref h_inn_listensIn])), (h_night, .inr (4, [.ref h_inn, .int v_night_setting, .int v_night_been, .ref h_night_ways, .ref h_night_how, .ref h_night_passed, .ref h_night_dreamOf, .ref h_night_stateOf, .ref h_night_roomOf, .ref h_night_handOf, .ref h_night_awake, .ref h_night_thingIn, .ref h_night_full, .ref h_night_heardBy])), (h_night_roomOf, aI E 3 v_night_roomOf), (h_inn_bed, aI E 3 v_inn_bed)]
def BX10_led_4 (v_inn_sleepers : Int32) (v_night_roomOf : Nat → Int32) (v_inn_bed : Nat → Int32) (p0 : Int32) (rec4 : (Int32 × Int32) → Option Int32) : (Int32 × Int32) → Option Int32 := un2 fun (x4_2 : Int32) (x4_3 : Int32) => if v_inn_sleepers ≤ x4_3 then (none) else (gd x4_3 3 (gd x4_3 3 (jn (un1 fun (x46_2 : Int32) => rec4 (x46_2, x4_3 + 1)) (fun j46 => if (v_night_roomOf x4_3.toNatClampNeg) = (v_inn_bed x4_3.toNatClampNeg) then (j46 x4_2) else (if x4_2 = p0 then (some x4_3) else (j46 (x4_2 + 1)))))))
def fX10_led (N : Nat) (p0 : Int32) (v_inn_sleepers : Int32) (v_night_roomOf : Nat → Int32) (v_inn_bed : Nat → Int32) : Option Int32 := lp (BX10_led_4 v_inn_sleepers v_night_roomOf v_inn_bed p0) N (0, 0)
set_option maxHeartbeats 4000000 in
set_option maxRecDepth 100000 in
theorem ctX10_led (l : Launch) (E : EN) (h h_reader h_inn h_chosen h_night h_marks h_notes h_casts h_inn_house h_inn_thingIn h_inn_full h_inn_states h_inn_bed h_inn_dreamOf h_inn_listensIn h_night_ways h_night_how h_night_passed h_night_dreamOf h_night_stateOf h_night_roomOf h_night_handOf h_night_awake h_night_thingIn h_night_full h_night_heardBy : Nat) (v_marked : Int32) (v_refusal : Int32) (v_latestFault : Int32) (v_faultPlace : Int32) (v_inn_minutes : Int32) (v_inn_things : Int32) (v_inn_dreams : Int32) (v_inn_sleepers : Int32) (v_inn_listeners : Int32) (v_night_setting : Int32) (v_night_been : Int32) (v_night_roomOf : Nat → Int32) (v_inn_bed : Nat → Int32) (N : Nat) (p0 : Int32) (z : Int32) (hf : fX10_led N p0 v_inn_sleepers v_night_roomOf v_inn_bed = some z) : CTi l E yX10_led cX10_led 4 .int 0 0 [.ref h, .int p0] (wX10_led E h h_reader h_inn h_chosen h_night h_marks h_notes h_casts h_inn_house h_inn_thingIn h_inn_full h_inn_states h_inn_bed h_inn_dreamOf h_inn_listensIn h_night_ways h_night_how h_night_passed h_night_dreamOf h_night_stateOf h_night_roomOf h_night_handOf h_night_awake h_night_thingIn h_night_full h_night_heardBy v_marked v_refusal v_latestFault v_faultPlace v_inn_minutes v_inn_things v_inn_dreams v_inn_sleepers v_inn_listeners v_night_setting v_night_been v_night_roomOf v_inn_bed) (z) (wX10_led E h h_reader h_inn h_chosen h_night h_marks h_notes h_casts h_inn_house h_inn_thingIn h_inn_full h_inn_states h_inn_bed h_inn_dreamOf h_inn_listensIn h_night_ways h_night_how h_night_passed h_night_dreamOf h_night_stateOf h_night_roomOf h_night_handOf h_night_awake h_night_thingIn h_night_full h_night_heardBy v_marked v_refusal v_latestFault v_faultPlace v_inn_minutes v_inn_things v_inn_dreams v_inn_sleepers v_inn_listeners v_night_setting v_night_been v_night_roomOf v_inn_bed) := by
  intro sz
  refine ct_body (by decide) (Nat.le_of_ble_eq_true rfl) ?_
  intro p e s m args below meth c A ls hAe C hr hin hP hD hS hl
  have C : CX p s m args meth c cX10_led RX10 4 E A := C
  have hl : lv_has ls 4 [(0, .ref h), (1, .int p0)] := hl
  have hx := C.1
  have hb := C.2.1
  rw [hAe]
  clear hAe
  obtain ⟨Q, hQ⟩ : ∃ Q, Q = MQ below (Qi E A (z) (wX10_led E h h_reader h_inn h_chosen h_night h_marks h_notes h_casts h_inn_house h_inn_thingIn h_inn_full h_inn_states h_inn_bed h_inn_dreamOf h_inn_listensIn h_night_ways h_night_how h_night_passed h_night_dreamOf h_night_stateOf h_night_roomOf h_night_handOf h_night_awake h_night_thingIn h_night_full h_night_heardBy v_marked v_refusal v_latestFault v_faultPlace v_inn_minutes v_inn_things v_inn_dreams v_inn_sleepers v_inn_listeners v_night_setting v_night_been v_night_roomOf v_inn_bed)) args s 0 0 A := ⟨_, rfl⟩
  rw [← hQ]
  unfold fX10_led at hf
  refine lv_iconst (pc := 0) (v := 0) hx hb dX10_led_0 (by decide) ?_
  refine lv_istore_n (pc := 1) (lv' := [(2, .int 0), (0, .ref h), (1, .int p0)]) hx hb dX10_led_1 rfl hl (by decide) rfl (fun ls hl => ?_)
  refine lv_iconst (pc := 2) (v := 0) hx hb dX10_led_2 (by decide) ?_
  refine lv_istore_n (pc := 3) (lv' := [(3, .int 0), (2, .int 0), (0, .ref h), (1, .int p0)]) hx hb dX10_led_3 rfl hl (by decide) rfl (fun ls hl => ?_)
  have key4 : ∀ (n : Nat) (x4_2 : Int32) (x4_3 : Int32) , lp (BX10_led_4 v_inn_sleepers v_night_roomOf v_inn_bed p0) n (x4_2, x4_3) = some z → AT p l e (rmOf 0 0) s m args below meth c E A Q 0 0 4 [(0, .ref h), (1, .int p0), (2, .int x4_2), (3, .int x4_3)] (wX10_led E h h_reader h_inn h_chosen h_night h_marks h_notes h_casts h_inn_house h_inn_thingIn h_inn_full h_inn_states h_inn_bed h_inn_dreamOf h_inn_listensIn h_night_ways h_night_how h_night_passed h_night_dreamOf h_night_stateOf h_night_roomOf h_night_handOf h_night_awake h_night_thingIn h_night_full h_night_heardBy v_marked v_refusal v_latestFault v_faultPlace v_inn_minutes v_inn_things v_inn_dreams v_inn_sleepers v_inn_listeners v_night_setting v_night_been v_night_roomOf v_inn_bed) 4 [] := by
    intro n
    induction n with
    | zero => intro x4_2 x4_3 hf; exact (lp_0 hf).elim
    | succ n ih4 =>
      intro x4_2 x4_3 hf H locs ls hl hP hD hS
      replace hf := lp_s hf
      generalize lp (BX10_led_4 v_inn_sleepers v_night_roomOf v_inn_bed p0) n = rec4 at ih4 hf
      unfold BX10_led_4 at hf
      replace hf := un2_s hf
      refine lv_iload_n (pc := 4) hx hb dX10_led_4 rfl (lv_at hl 3 rfl) ?_
      refine lv_aload_n (pc := 5) hx hb dX10_led_5 rfl (lv_at hl 0 rfl) ?_
      refine r_get (pc := 6) C hP 0 rfl fl_X10_19 rfl dX10_led_6 ?_
      refine r_get (pc := 9) C hP 1 rfl fl_X10_92 rfl dX10_led_9 ?_
      refine lv_icmp_ge (pc := 12) (tgt := 52) hx hb dX10_led_12 (by decide) (fun c_12 => ?_) (fun c_12 => ?_)
      · replace hf := it_t c_12 hf
        cases hf
      · replace hf := it_f c_12 hf
        refine lv_aload_n (pc := 15) hx hb dX10_led_15 rfl (lv_at hl 0 rfl) ?_
        refine r_get (pc := 16) C hP 0 rfl fl_X10_32 rfl dX10_led_16 ?_
        refine r_get (pc := 19) C hP 2 rfl fl_X10_186 rfl dX10_led_19 ?_
        refine lv_iload_n (pc := 22) hx hb dX10_led_22 rfl (lv_at hl 3 rfl) ?_
        obtain ⟨hi_23, hf⟩ := gd_s hf
        refine r_iald (pc := 23) C hP 3 rfl hi_23 dX10_led_23 ?_
        refine lv_aload_n (pc := 24) hx hb dX10_led_24 rfl (lv_at hl 0 rfl) ?_
        refine r_get (pc := 25) C hP 0 rfl fl_X10_19 rfl dX10_led_25 ?_
        refine r_get (pc := 28) C hP 1 rfl fl_X10_301 rfl dX10_led_28 ?_
        refine lv_iload_n (pc := 31) hx hb dX10_led_31 rfl (lv_at hl 3 rfl) ?_
        obtain ⟨hi_32, hf⟩ := gd_s hf
        refine r_iald (pc := 32) C hP 4 rfl hi_32 dX10_led_32 ?_
        refine jnK hf (fun j46 ej46 hf => ?_)
        have hj46 : ∀ (x46_2 : Int32) , j46 x46_2 = some z → AT p l e (rmOf 0 0) s m args below meth c E A Q 0 0 4 [(0, .ref h), (1, .int p0), (2, .int x46_2), (3, .int x4_3)] (wX10_led E h h_reader h_inn h_chosen h_night h_marks h_notes h_casts h_inn_house h_inn_thingIn h_inn_full h_inn_states h_inn_bed h_inn_dreamOf h_inn_listensIn h_night_ways h_night_how h_night_passed h_night_dreamOf h_night_stateOf h_night_roomOf h_night_handOf h_night_awake h_night_thingIn h_night_full h_night_heardBy v_marked v_refusal v_latestFault v_faultPlace v_inn_minutes v_inn_things v_inn_dreams v_inn_sleepers v_inn_listeners v_night_setting v_night_been v_night_roomOf v_inn_bed) 46 [] := by
          intro x46_2 hf H locs ls hl hP hD hS
          rw [ej46] at hf
          replace hf := un1_s hf
          refine lv_iinc (pc := 46) (v := x4_3 + 1) (lv' := [(3, .int (x4_3 + 1)), (0, .ref h), (1, .int p0), (2, .int x46_2)]) hx hb dX10_led_46 hl (k := 3) rfl rfl (by decide) rfl (fun ls hl => ?_)
          refine lv_goto (pc := 49) (tgt := 4) hx hb dX10_led_49 (by decide) ?_
          exact ih4 x46_2 (x4_3 + 1) hf _ _ _ (lv_sub hl [1, 2, 3, 0] rfl) hP hD hS
        clear ej46
        refine lv_icmp_eq (pc := 33) (tgt := 46) hx hb dX10_led_33 (by decide) (fun c_33 => ?_) (fun c_33 => ?_)
        · replace hf := it_t c_33 hf
          exact hj46 x4_2 hf _ _ _ (lv_sub hl [0, 1, 2, 3] rfl) hP hD hS
        · replace hf := it_f c_33 hf
          refine lv_iload_n (pc := 36) hx hb dX10_led_36 rfl (lv_at hl 2 rfl) ?_
          refine lv_iload_n (pc := 37) hx hb dX10_led_37 rfl (lv_at hl 1 rfl) ?_
          refine lv_icmp_ne (pc := 38) (tgt := 43) hx hb dX10_led_38 (by decide) (fun c_38 => ?_) (fun c_38 => ?_)
          · replace hf := it_f c_38 hf
            refine lv_iinc (pc := 43) (v := x4_2 + 1) (lv' := [(2, .int (x4_2 + 1)), (0, .ref h), (1, .int p0), (3, .int x4_3)]) hx hb dX10_led_43 hl (k := 2) rfl rfl (by decide) rfl (fun ls hl => ?_)
            exact hj46 (x4_2 + 1) hf _ _ _ (lv_sub hl [1, 2, 0, 3] rfl) hP hD hS
          · replace hf := it_t c_38 hf
            refine lv_iload_n (pc := 41) hx hb dX10_led_41 rfl (lv_at hl 3 rfl) ?_
            cases hf
            rw [hQ]
            exact r_iret C hr hP hD hS rfl dX10_led_42
  exact key4 _ 0 0 hf _ _ _ (lv_sub hl [2, 3, 1, 0] rfl) hP hD hS
def wX10_size (E : EN) (h h_reader h_inn h_chosen h_night h_marks h_notes h_casts h_reader_tape h_reader_names h_reader_sorts h_reader_numbers h_reader_inn h_reader_tape_bytes h_night_ways h_night_how h_night_passed h_night_dreamOf h_night_stateOf h_night_roomOf h_night_handOf h_night_awake h_night_thingIn h_night_full h_night_heardBy h_notes_book h_notes_sort h_notes_one h_notes_other h_inn_house h_inn_thingIn h_inn_full h_inn_states h_inn_bed h_inn_dreamOf h_inn_listensIn h_inn_house_creak h_inn_house_cold h_inn_house_one h_inn_house_other h_inn_house_how h_inn_house_falls h_inn_house_ways : Nat) (v_marked : Int32) (v_refusal : Int32) (v_latestFault : Int32) (v_faultPlace : Int32) (v_reader_named : Int32) (v_reader_fault : Int32) (v_reader_number : Int32) (v_reader_tape_length : Int32) (v_reader_tape_end : Int32) (v_reader_tape_at : Int32) (v_reader_tape_start : Int32) (v_reader_tape_kind : Int32) (v_reader_tape_code : Int64) (v_reader_tape_mayName : Int32) (v_reader_tape_value : Int32) (v_night_setting : Int32) (v_night_been : Int32) (v_notes_count : Int32) (v_inn_minutes : Int32) (v_inn_things : Int32) (v_inn_dreams : Int32) (v_inn_sleepers : Int32) (v_inn_listeners : Int32) (v_inn_house_rooms : Int32) (v_inn_house_doors : Int32) : va_W := [(h, .inr (9, [.ref h_reader, .ref h_inn, .ref h_chosen, .ref h_night, .ref h_marks, .int v_marked, .ref h_notes, .ref h_casts, .int v_refusal, .int v_latestFault, .int v_faultPlace])), (h_reader, .inr (6, [.ref h_reader_tape, .ref h_reader_names, .ref h_reader_sorts, .ref h_reader_numbers, .int v_reader_named, .ref h_reader_inn, .int v_reader_fault, .int v_reader_number])), (h_reader_tape, .inr (7, [.ref h_reader_tape_bytes, .int v_reader_tape_length, .int v_reader_tape_end, .int v_reader_tape_at, .int v_reader_tape_start, .int v_reader_tape_kind, .long v_reader_tape_code, .int v_reader_tape_mayName, .int v_reader_tape_value])), (h_night, .inr (4, [.ref h_inn, .int v_night_setting, .int v_night_been, .ref h_night_ways, .ref h_night_how, .ref h_night_passed, .ref h_night_dreamOf, .ref h_night_stateOf, .ref h_night_roomOf, .ref h_night_handOf, .ref h_night_awake, .ref h_night_thingIn, .ref h_night_full, .ref h_night_heardBy])), (h_notes, .inr (5, [.ref h_notes_book, .ref h_notes_sort, .ref h_notes_one, .ref h_notes_other, .int v_notes_count])), (h_inn, .inr (2, [.ref h_inn_house, .int v_inn_minutes, .int v_inn_things, .ref h_inn_thingIn, .ref h_inn_full, .int v_inn_dreams, .ref h_inn_states, .int v_inn_sleepers, .ref h_inn_bed, .ref h_inn_dreamOf, .int v_inn_listeners, .ref h_inn_listensIn])), (h_inn_house, .inr (1, [.int v_inn_house_rooms, .ref h_inn_house_creak, .ref h_inn_house_cold, .int v_inn_house_doors, .ref h_inn_house_one, .ref h_inn_house_other, .ref h_inn_house_how, .ref h_inn_house_falls, .ref h_inn_house_ways]))]
def fX10_size (N : Nat) (p0 : Int32) (v_marked : Int32) (v_reader_tape_length : Int32) (v_night_setting : Int32) (v_night_been : Int32) (v_notes_count : Int32) (v_inn_minutes : Int32) (v_inn_things : Int32) (v_inn_dreams : Int32) (v_inn_sleepers : Int32) (v_inn_listeners : Int32) (v_inn_house_rooms : Int32) (v_inn_house_doors : Int32) : Option Int32 := if p0 = 0 then (some v_inn_house_rooms) else (if p0 = 1 then (some v_inn_house_doors) else (if p0 = 2 then (some v_inn_things) else (if p0 = 3 then (some v_inn_dreams) else (if p0 = 4 then (some v_inn_sleepers) else (if p0 = 5 then (some v_inn_listeners) else (if p0 = 6 then (some v_inn_minutes) else (if p0 = 7 then (some v_night_been) else (if p0 = 8 then (some v_notes_count) else (if p0 = 9 then (some v_marked) else (if p0 = 10 then (some v_night_setting) else (if p0 = 11 then (some v_reader_tape_length) else (some (-1)))))))))))))
set_option maxHeartbeats 4000000 in
set_option maxRecDepth 100000 in
theorem ctX10_size (l : Launch) (E : EN) (h h_reader h_inn h_chosen h_night h_marks h_notes h_casts h_reader_tape h_reader_names h_reader_sorts h_reader_numbers h_reader_inn h_reader_tape_bytes h_night_ways h_night_how h_night_passed h_night_dreamOf h_night_stateOf h_night_roomOf h_night_handOf h_night_awake h_night_thingIn h_night_full h_night_heardBy h_notes_book h_notes_sort h_notes_one h_notes_other h_inn_house h_inn_thingIn h_inn_full h_inn_states h_inn_bed h_inn_dreamOf h_inn_listensIn h_inn_house_creak h_inn_house_cold h_inn_house_one h_inn_house_other h_inn_house_how h_inn_house_falls h_inn_house_ways : Nat) (v_marked : Int32) (v_refusal : Int32) (v_latestFault : Int32) (v_faultPlace : Int32) (v_reader_named : Int32) (v_reader_fault : Int32) (v_reader_number : Int32) (v_reader_tape_length : Int32) (v_reader_tape_end : Int32) (v_reader_tape_at : Int32) (v_reader_tape_start : Int32) (v_reader_tape_kind : Int32) (v_reader_tape_code : Int64) (v_reader_tape_mayName : Int32) (v_reader_tape_value : Int32) (v_night_setting : Int32) (v_night_been : Int32) (v_notes_count : Int32) (v_inn_minutes : Int32) (v_inn_things : Int32) (v_inn_dreams : Int32) (v_inn_sleepers : Int32) (v_inn_listeners : Int32) (v_inn_house_rooms : Int32) (v_inn_house_doors : Int32) (N : Nat) (p0 : Int32) (z : Int32) (hf : fX10_size N p0 v_marked v_reader_tape_length v_night_setting v_night_been v_notes_count v_inn_minutes v_inn_things v_inn_dreams v_inn_sleepers v_inn_listeners v_inn_house_rooms v_inn_house_doors = some z) : CTi l E yX10_size cX10_size 2 .int 0 0 [.ref h, .int p0] (wX10_size E h h_reader h_inn h_chosen h_night h_marks h_notes h_casts h_reader_tape h_reader_names h_reader_sorts h_reader_numbers h_reader_inn h_reader_tape_bytes h_night_ways h_night_how h_night_passed h_night_dreamOf h_night_stateOf h_night_roomOf h_night_handOf h_night_awake h_night_thingIn h_night_full h_night_heardBy h_notes_book h_notes_sort h_notes_one h_notes_other h_inn_house h_inn_thingIn h_inn_full h_inn_states h_inn_bed h_inn_dreamOf h_inn_listensIn h_inn_house_creak h_inn_house_cold h_inn_house_one h_inn_house_other h_inn_house_how h_inn_house_falls h_inn_house_ways v_marked v_refusal v_latestFault v_faultPlace v_reader_named v_reader_fault v_reader_number v_reader_tape_length v_reader_tape_end v_reader_tape_at v_reader_tape_start v_reader_tape_kind v_reader_tape_code v_reader_tape_mayName v_reader_tape_value v_night_setting v_night_been v_notes_count v_inn_minutes v_inn_things v_inn_dreams v_inn_sleepers v_inn_listeners v_inn_house_rooms v_inn_house_doors) (z) (wX10_size E h h_reader h_inn h_chosen h_night h_marks h_notes h_casts h_reader_tape h_reader_names h_reader_sorts h_reader_numbers h_reader_inn h_reader_tape_bytes h_night_ways h_night_how h_night_passed h_night_dreamOf h_night_stateOf h_night_roomOf h_night_handOf h_night_awake h_night_thingIn h_night_full h_night_heardBy h_notes_book h_notes_sort h_notes_one h_notes_other h_inn_house h_inn_thingIn h_inn_full h_inn_states h_inn_bed h_inn_dreamOf h_inn_listensIn h_inn_house_creak h_inn_house_cold h_inn_house_one h_inn_house_other h_inn_house_how h_inn_house_falls h_inn_house_ways v_marked v_refusal v_latestFault v_faultPlace v_reader_named v_reader_fault v_reader_number v_reader_tape_length v_reader_tape_end v_reader_tape_at v_reader_tape_start v_reader_tape_kind v_reader_tape_code v_reader_tape_mayName v_reader_tape_value v_night_setting v_night_been v_notes_count v_inn_minutes v_inn_things v_inn_dreams v_inn_sleepers v_inn_listeners v_inn_house_rooms v_inn_house_doors) := by
  intro sz
  refine ct_body (by decide) (Nat.le_of_ble_eq_true rfl) ?_
  intro p e s m args below meth c A ls hAe C hr hin hP hD hS hl
  have C : CX p s m args meth c cX10_size RX10 2 E A := C
  have hl : lv_has ls 2 [(0, .ref h), (1, .int p0)] := hl
  have hx := C.1
  have hb := C.2.1
  rw [hAe]
  clear hAe
  obtain ⟨Q, hQ⟩ : ∃ Q, Q = MQ below (Qi E A (z) (wX10_size E h h_reader h_inn h_chosen h_night h_marks h_notes h_casts h_reader_tape h_reader_names h_reader_sorts h_reader_numbers h_reader_inn h_reader_tape_bytes h_night_ways h_night_how h_night_passed h_night_dreamOf h_night_stateOf h_night_roomOf h_night_handOf h_night_awake h_night_thingIn h_night_full h_night_heardBy h_notes_book h_notes_sort h_notes_one h_notes_other h_inn_house h_inn_thingIn h_inn_full h_inn_states h_inn_bed h_inn_dreamOf h_inn_listensIn h_inn_house_creak h_inn_house_cold h_inn_house_one h_inn_house_other h_inn_house_how h_inn_house_falls h_inn_house_ways v_marked v_refusal v_latestFault v_faultPlace v_reader_named v_reader_fault v_reader_number v_reader_tape_length v_reader_tape_end v_reader_tape_at v_reader_tape_start v_reader_tape_kind v_reader_tape_code v_reader_tape_mayName v_reader_tape_value v_night_setting v_night_been v_notes_count v_inn_minutes v_inn_things v_inn_dreams v_inn_sleepers v_inn_listeners v_inn_house_rooms v_inn_house_doors)) args s 0 0 A := ⟨_, rfl⟩
  rw [← hQ]
  unfold fX10_size at hf
  refine lv_iload_n (pc := 0) hx hb dX10_size_0 rfl (lv_at hl 1 rfl) ?_
  by_cases c_1_0 : p0 = 0
  · replace hf := it_t c_1_0 hf
    refine lv_tableIn (pc := 1) (off := 63) (tgt := 64) hx hb dX10_size_1 (by rw [c_1_0]; decide) (by rw [c_1_0]; decide) (by rw [c_1_0]; rfl) (by decide) ?_
    refine lv_aload_n (pc := 64) hx hb dX10_size_64 rfl (lv_at hl 0 rfl) ?_
    refine r_get (pc := 65) C hP 0 rfl fl_X10_19 rfl dX10_size_65 ?_
    refine r_get (pc := 68) C hP 5 rfl fl_X10_105 rfl dX10_size_68 ?_
    refine r_get (pc := 71) C hP 6 rfl fl_X10_307 rfl dX10_size_71 ?_
    cases hf
    rw [hQ]
    exact r_iret C hr hP hD hS rfl dX10_size_74
  · replace hf := it_f c_1_0 hf
    by_cases c_1_1 : p0 = 1
    · replace hf := it_t c_1_1 hf
      refine lv_tableIn (pc := 1) (off := 74) (tgt := 75) hx hb dX10_size_1 (by rw [c_1_1]; decide) (by rw [c_1_1]; decide) (by rw [c_1_1]; rfl) (by decide) ?_
      refine lv_aload_n (pc := 75) hx hb dX10_size_75 rfl (lv_at hl 0 rfl) ?_
      refine r_get (pc := 76) C hP 0 rfl fl_X10_19 rfl dX10_size_76 ?_
      refine r_get (pc := 79) C hP 5 rfl fl_X10_105 rfl dX10_size_79 ?_
      refine r_get (pc := 82) C hP 6 rfl fl_X10_310 rfl dX10_size_82 ?_
      cases hf
      rw [hQ]
      exact r_iret C hr hP hD hS rfl dX10_size_85
    · replace hf := it_f c_1_1 hf
      by_cases c_1_2 : p0 = 2
      · replace hf := it_t c_1_2 hf
        refine lv_tableIn (pc := 1) (off := 85) (tgt := 86) hx hb dX10_size_1 (by rw [c_1_2]; decide) (by rw [c_1_2]; decide) (by rw [c_1_2]; rfl) (by decide) ?_
        refine lv_aload_n (pc := 86) hx hb dX10_size_86 rfl (lv_at hl 0 rfl) ?_
        refine r_get (pc := 87) C hP 0 rfl fl_X10_19 rfl dX10_size_87 ?_
        refine r_get (pc := 90) C hP 5 rfl fl_X10_313 rfl dX10_size_90 ?_
        cases hf
        rw [hQ]
        exact r_iret C hr hP hD hS rfl dX10_size_93
      · replace hf := it_f c_1_2 hf
        by_cases c_1_3 : p0 = 3
        · replace hf := it_t c_1_3 hf
          refine lv_tableIn (pc := 1) (off := 93) (tgt := 94) hx hb dX10_size_1 (by rw [c_1_3]; decide) (by rw [c_1_3]; decide) (by rw [c_1_3]; rfl) (by decide) ?_
          refine lv_aload_n (pc := 94) hx hb dX10_size_94 rfl (lv_at hl 0 rfl) ?_
          refine r_get (pc := 95) C hP 0 rfl fl_X10_19 rfl dX10_size_95 ?_
          refine r_get (pc := 98) C hP 5 rfl fl_X10_139 rfl dX10_size_98 ?_
          cases hf
          rw [hQ]
          exact r_iret C hr hP hD hS rfl dX10_size_101
        · replace hf := it_f c_1_3 hf
          by_cases c_1_4 : p0 = 4
          · replace hf := it_t c_1_4 hf
            refine lv_tableIn (pc := 1) (off := 101) (tgt := 102) hx hb dX10_size_1 (by rw [c_1_4]; decide) (by rw [c_1_4]; decide) (by rw [c_1_4]; rfl) (by decide) ?_
            refine lv_aload_n (pc := 102) hx hb dX10_size_102 rfl (lv_at hl 0 rfl) ?_
            refine r_get (pc := 103) C hP 0 rfl fl_X10_19 rfl dX10_size_103 ?_
            refine r_get (pc := 106) C hP 5 rfl fl_X10_92 rfl dX10_size_106 ?_
            cases hf
            rw [hQ]
            exact r_iret C hr hP hD hS rfl dX10_size_109
          · replace hf := it_f c_1_4 hf
            by_cases c_1_5 : p0 = 5
            · replace hf := it_t c_1_5 hf
              refine lv_tableIn (pc := 1) (off := 109) (tgt := 110) hx hb dX10_size_1 (by rw [c_1_5]; decide) (by rw [c_1_5]; decide) (by rw [c_1_5]; rfl) (by decide) ?_
              refine lv_aload_n (pc := 110) hx hb dX10_size_110 rfl (lv_at hl 0 rfl) ?_
              refine r_get (pc := 111) C hP 0 rfl fl_X10_19 rfl dX10_size_111 ?_
              refine r_get (pc := 114) C hP 5 rfl fl_X10_316 rfl dX10_size_114 ?_
              cases hf
              rw [hQ]
              exact r_iret C hr hP hD hS rfl dX10_size_117
            · replace hf := it_f c_1_5 hf
              by_cases c_1_6 : p0 = 6
              · replace hf := it_t c_1_6 hf
                refine lv_tableIn (pc := 1) (off := 117) (tgt := 118) hx hb dX10_size_1 (by rw [c_1_6]; decide) (by rw [c_1_6]; decide) (by rw [c_1_6]; rfl) (by decide) ?_
                refine lv_aload_n (pc := 118) hx hb dX10_size_118 rfl (lv_at hl 0 rfl) ?_
                refine r_get (pc := 119) C hP 0 rfl fl_X10_19 rfl dX10_size_119 ?_
                refine r_get (pc := 122) C hP 5 rfl fl_X10_172 rfl dX10_size_122 ?_
                cases hf
                rw [hQ]
                exact r_iret C hr hP hD hS rfl dX10_size_125
              · replace hf := it_f c_1_6 hf
                by_cases c_1_7 : p0 = 7
                · replace hf := it_t c_1_7 hf
                  refine lv_tableIn (pc := 1) (off := 125) (tgt := 126) hx hb dX10_size_1 (by rw [c_1_7]; decide) (by rw [c_1_7]; decide) (by rw [c_1_7]; rfl) (by decide) ?_
                  refine lv_aload_n (pc := 126) hx hb dX10_size_126 rfl (lv_at hl 0 rfl) ?_
                  refine r_get (pc := 127) C hP 0 rfl fl_X10_32 rfl dX10_size_127 ?_
                  refine r_get (pc := 130) C hP 3 rfl fl_X10_175 rfl dX10_size_130 ?_
                  cases hf
                  rw [hQ]
                  exact r_iret C hr hP hD hS rfl dX10_size_133
                · replace hf := it_f c_1_7 hf
                  by_cases c_1_8 : p0 = 8
                  · replace hf := it_t c_1_8 hf
                    refine lv_tableIn (pc := 1) (off := 133) (tgt := 134) hx hb dX10_size_1 (by rw [c_1_8]; decide) (by rw [c_1_8]; decide) (by rw [c_1_8]; rfl) (by decide) ?_
                    refine lv_aload_n (pc := 134) hx hb dX10_size_134 rfl (lv_at hl 0 rfl) ?_
                    refine r_get (pc := 135) C hP 0 rfl fl_X10_43 rfl dX10_size_135 ?_
                    refine r_get (pc := 138) C hP 4 rfl fl_X10_256 rfl dX10_size_138 ?_
                    cases hf
                    rw [hQ]
                    exact r_iret C hr hP hD hS rfl dX10_size_141
                  · replace hf := it_f c_1_8 hf
                    by_cases c_1_9 : p0 = 9
                    · replace hf := it_t c_1_9 hf
                      refine lv_tableIn (pc := 1) (off := 141) (tgt := 142) hx hb dX10_size_1 (by rw [c_1_9]; decide) (by rw [c_1_9]; decide) (by rw [c_1_9]; rfl) (by decide) ?_
                      refine lv_aload_n (pc := 142) hx hb dX10_size_142 rfl (lv_at hl 0 rfl) ?_
                      refine r_get (pc := 143) C hP 0 rfl fl_X10_242 rfl dX10_size_143 ?_
                      cases hf
                      rw [hQ]
                      exact r_iret C hr hP hD hS rfl dX10_size_146
                    · replace hf := it_f c_1_9 hf
                      by_cases c_1_10 : p0 = 10
                      · replace hf := it_t c_1_10 hf
                        refine lv_tableIn (pc := 1) (off := 146) (tgt := 147) hx hb dX10_size_1 (by rw [c_1_10]; decide) (by rw [c_1_10]; decide) (by rw [c_1_10]; rfl) (by decide) ?_
                        refine lv_aload_n (pc := 147) hx hb dX10_size_147 rfl (lv_at hl 0 rfl) ?_
                        refine r_get (pc := 148) C hP 0 rfl fl_X10_32 rfl dX10_size_148 ?_
                        refine r_get (pc := 151) C hP 3 rfl fl_X10_319 rfl dX10_size_151 ?_
                        cases hf
                        rw [hQ]
                        exact r_iret C hr hP hD hS rfl dX10_size_154
                      · replace hf := it_f c_1_10 hf
                        by_cases c_1_11 : p0 = 11
                        · replace hf := it_t c_1_11 hf
                          refine lv_tableIn (pc := 1) (off := 154) (tgt := 155) hx hb dX10_size_1 (by rw [c_1_11]; decide) (by rw [c_1_11]; decide) (by rw [c_1_11]; rfl) (by decide) ?_
                          refine lv_aload_n (pc := 155) hx hb dX10_size_155 rfl (lv_at hl 0 rfl) ?_
                          refine r_get (pc := 156) C hP 0 rfl fl_X10_12 rfl dX10_size_156 ?_
                          refine r_get (pc := 159) C hP 1 rfl fl_X10_54 rfl dX10_size_159 ?_
                          refine r_get (pc := 162) C hP 2 rfl fl_X10_58 rfl dX10_size_162 ?_
                          cases hf
                          rw [hQ]
                          exact r_iret C hr hP hD hS rfl dX10_size_165
                        · replace hf := it_f c_1_11 hf
                          refine lv_tableOut (pc := 1) (tgt := 166) hx hb dX10_size_1 (by have g0 := lv_neT (a := 0) c_1_0 (by decide); have g1 := lv_neT (a := 1) c_1_1 (by decide); have g2 := lv_neT (a := 2) c_1_2 (by decide); have g3 := lv_neT (a := 3) c_1_3 (by decide); have g4 := lv_neT (a := 4) c_1_4 (by decide); have g5 := lv_neT (a := 5) c_1_5 (by decide); have g6 := lv_neT (a := 6) c_1_6 (by decide); have g7 := lv_neT (a := 7) c_1_7 (by decide); have g8 := lv_neT (a := 8) c_1_8 (by decide); have g9 := lv_neT (a := 9) c_1_9 (by decide); have g10 := lv_neT (a := 10) c_1_10 (by decide); have g11 := lv_neT (a := 11) c_1_11 (by decide); omega) (by decide) ?_
                          refine lv_iconst (pc := 166) (v := (-1)) hx hb dX10_size_166 (by decide) ?_
                          cases hf
                          rw [hQ]
                          exact r_iret C hr hP hD hS rfl dX10_size_167
def wX10_trouble (E : EN) (h h_reader h_inn h_chosen h_night h_marks h_notes h_casts : Nat) (v_marked : Int32) (v_refusal : Int32) (v_latestFault : Int32) (v_faultPlace : Int32) : va_W := [(h, .inr (9, [.ref h_reader, .ref h_inn, .ref h_chosen, .ref h_night, .ref h_marks, .int v_marked, .ref h_notes, .ref h_casts, .int v_refusal, .int v_latestFault, .int v_faultPlace]))]
def fX10_trouble (N : Nat) (v_refusal : Int32) : Option Int32 := some v_refusal
set_option maxHeartbeats 4000000 in
set_option maxRecDepth 100000 in
theorem ctX10_trouble (l : Launch) (E : EN) (h h_reader h_inn h_chosen h_night h_marks h_notes h_casts : Nat) (v_marked : Int32) (v_refusal : Int32) (v_latestFault : Int32) (v_faultPlace : Int32) (N : Nat) (z : Int32) (hf : fX10_trouble N v_refusal = some z) : CTi l E yX10_trouble cX10_trouble 1 .int 0 0 [.ref h] (wX10_trouble E h h_reader h_inn h_chosen h_night h_marks h_notes h_casts v_marked v_refusal v_latestFault v_faultPlace) (z) (wX10_trouble E h h_reader h_inn h_chosen h_night h_marks h_notes h_casts v_marked v_refusal v_latestFault v_faultPlace) := by
  intro sz
  refine ct_body (by decide) (Nat.le_of_ble_eq_true rfl) ?_
  intro p e s m args below meth c A ls hAe C hr hin hP hD hS hl
  have C : CX p s m args meth c cX10_trouble RX10 1 E A := C
  have hl : lv_has ls 1 [(0, .ref h)] := hl
  have hx := C.1
  have hb := C.2.1
  rw [hAe]
  clear hAe
  obtain ⟨Q, hQ⟩ : ∃ Q, Q = MQ below (Qi E A (z) (wX10_trouble E h h_reader h_inn h_chosen h_night h_marks h_notes h_casts v_marked v_refusal v_latestFault v_faultPlace)) args s 0 0 A := ⟨_, rfl⟩
  rw [← hQ]
  unfold fX10_trouble at hf
  refine lv_aload_n (pc := 0) hx hb dX10_trouble_0 rfl (lv_at hl 0 rfl) ?_
  refine r_get (pc := 1) C hP 0 rfl fl_X10_98 rfl dX10_trouble_1 ?_
  cases hf
  rw [hQ]
  exact r_iret C hr hP hD hS rfl dX10_trouble_4
def wX12_thrown (E : EN) (h h_tape h_far h_from h_real h_other h_kept h_set h_w h_book h_noteSort h_whose h_what h_noteIs h_fitting h_dawn h_likes h_walked h_came : Nat) (v_thrown : Int32) (v_trouble : Int32) (v_where : Int32) (v_inn : Option Nat) (v_read : Option Nat) (v_taped : Int32) (v_size : Int32) (v_at : Int32) (v_sort : Int32) (v_place : Int32) (v_sign : Int32) (v_number : Int32) (v_fault : Int32) (v_wrongAt : Int32) (v_word : Int64) (v_marks : Int32) (v_notes : Int32) : va_W := [(h, .inr (11, [.int v_thrown, .int v_trouble, .int v_where, va_rf v_inn, va_rf v_read, .ref h_tape, .int v_taped, .int v_size, .int v_at, .int v_sort, .int v_place, .int v_sign, .int v_number, .int v_fault, .int v_wrongAt, .long v_word, .ref h_far, .ref h_from, .ref h_real, .ref h_other, .ref h_kept, .ref h_set, .ref h_w, .int v_marks, .int v_notes, .ref h_book, .ref h_noteSort, .ref h_whose, .ref h_what, .ref h_noteIs, .ref h_fitting, .ref h_dawn, .ref h_likes, .ref h_walked, .ref h_came]))]
def fX12_thrown (N : Nat) (v_thrown : Int32) : Option Int32 := some v_thrown
set_option maxHeartbeats 4000000 in
set_option maxRecDepth 100000 in
theorem ctX12_thrown (l : Launch) (E : EN) (h h_tape h_far h_from h_real h_other h_kept h_set h_w h_book h_noteSort h_whose h_what h_noteIs h_fitting h_dawn h_likes h_walked h_came : Nat) (v_thrown : Int32) (v_trouble : Int32) (v_where : Int32) (v_inn : Option Nat) (v_read : Option Nat) (v_taped : Int32) (v_size : Int32) (v_at : Int32) (v_sort : Int32) (v_place : Int32) (v_sign : Int32) (v_number : Int32) (v_fault : Int32) (v_wrongAt : Int32) (v_word : Int64) (v_marks : Int32) (v_notes : Int32) (N : Nat) (z : Int32) (hf : fX12_thrown N v_thrown = some z) : CTi l E yX12_thrown cX12_thrown 1 .int 0 0 [.ref h] (wX12_thrown E h h_tape h_far h_from h_real h_other h_kept h_set h_w h_book h_noteSort h_whose h_what h_noteIs h_fitting h_dawn h_likes h_walked h_came v_thrown v_trouble v_where v_inn v_read v_taped v_size v_at v_sort v_place v_sign v_number v_fault v_wrongAt v_word v_marks v_notes) (z) (wX12_thrown E h h_tape h_far h_from h_real h_other h_kept h_set h_w h_book h_noteSort h_whose h_what h_noteIs h_fitting h_dawn h_likes h_walked h_came v_thrown v_trouble v_where v_inn v_read v_taped v_size v_at v_sort v_place v_sign v_number v_fault v_wrongAt v_word v_marks v_notes) := by
  intro sz
  refine ct_body (by decide) (Nat.le_of_ble_eq_true rfl) ?_
  intro p e s m args below meth c A ls hAe C hr hin hP hD hS hl
  have C : CX p s m args meth c cX12_thrown RX12 1 E A := C
  have hl : lv_has ls 1 [(0, .ref h)] := hl
  have hx := C.1
  have hb := C.2.1
  rw [hAe]
  clear hAe
  obtain ⟨Q, hQ⟩ : ∃ Q, Q = MQ below (Qi E A (z) (wX12_thrown E h h_tape h_far h_from h_real h_other h_kept h_set h_w h_book h_noteSort h_whose h_what h_noteIs h_fitting h_dawn h_likes h_walked h_came v_thrown v_trouble v_where v_inn v_read v_taped v_size v_at v_sort v_place v_sign v_number v_fault v_wrongAt v_word v_marks v_notes)) args s 0 0 A := ⟨_, rfl⟩
  rw [← hQ]
  unfold fX12_thrown at hf
  refine lv_aload_n (pc := 0) hx hb dX12_thrown_0 rfl (lv_at hl 0 rfl) ?_
  refine r_get (pc := 1) C hP 0 rfl fl_X12_71 rfl dX12_thrown_1 ?_
  cases hf
  rw [hQ]
  exact r_iret C hr hP hD hS rfl dX12_thrown_4
def wX12_refused (E : EN) (h h_tape h_far h_from h_real h_other h_kept h_set h_w h_book h_noteSort h_whose h_what h_noteIs h_fitting h_dawn h_likes h_walked h_came : Nat) (v_thrown : Int32) (v_trouble : Int32) (v_where : Int32) (v_inn : Option Nat) (v_read : Option Nat) (v_taped : Int32) (v_size : Int32) (v_at : Int32) (v_sort : Int32) (v_place : Int32) (v_sign : Int32) (v_number : Int32) (v_fault : Int32) (v_wrongAt : Int32) (v_word : Int64) (v_marks : Int32) (v_notes : Int32) : va_W := [(h, .inr (11, [.int v_thrown, .int v_trouble, .int v_where, va_rf v_inn, va_rf v_read, .ref h_tape, .int v_taped, .int v_size, .int v_at, .int v_sort, .int v_place, .int v_sign, .int v_number, .int v_fault, .int v_wrongAt, .long v_word, .ref h_far, .ref h_from, .ref h_real, .ref h_other, .ref h_kept, .ref h_set, .ref h_w, .int v_marks, .int v_notes, .ref h_book, .ref h_noteSort, .ref h_whose, .ref h_what, .ref h_noteIs, .ref h_fitting, .ref h_dawn, .ref h_likes, .ref h_walked, .ref h_came]))]
def fX12_refused (N : Nat) (p0 : Int32) : Option (Int32 × Int32 × Int32) := some ((-1), p0, (-1))
set_option maxHeartbeats 4000000 in
set_option maxRecDepth 100000 in
theorem ctX12_refused (l : Launch) (E : EN) (h h_tape h_far h_from h_real h_other h_kept h_set h_w h_book h_noteSort h_whose h_what h_noteIs h_fitting h_dawn h_likes h_walked h_came : Nat) (v_thrown : Int32) (v_trouble : Int32) (v_where : Int32) (v_inn : Option Nat) (v_read : Option Nat) (v_taped : Int32) (v_size : Int32) (v_at : Int32) (v_sort : Int32) (v_place : Int32) (v_sign : Int32) (v_number : Int32) (v_fault : Int32) (v_wrongAt : Int32) (v_word : Int64) (v_marks : Int32) (v_notes : Int32) (N : Nat) (p0 : Int32) (z : Int32 × Int32 × Int32) (hf : fX12_refused N p0 = some z) : CTi l E yX12_refused cX12_refused 2 .int 0 0 [.ref h, .int p0] (wX12_refused E h h_tape h_far h_from h_real h_other h_kept h_set h_w h_book h_noteSort h_whose h_what h_noteIs h_fitting h_dawn h_likes h_walked h_came v_thrown v_trouble v_where v_inn v_read v_taped v_size v_at v_sort v_place v_sign v_number v_fault v_wrongAt v_word v_marks v_notes) (z.1) (wX12_refused E h h_tape h_far h_from h_real h_other h_kept h_set h_w h_book h_noteSort h_whose h_what h_noteIs h_fitting h_dawn h_likes h_walked h_came v_thrown z.2.1 z.2.2 v_inn v_read v_taped v_size v_at v_sort v_place v_sign v_number v_fault v_wrongAt v_word v_marks v_notes) := by
  intro sz
  refine ct_body (by decide) (Nat.le_of_ble_eq_true rfl) ?_
  intro p e s m args below meth c A ls hAe C hr hin hP hD hS hl
  have C : CX p s m args meth c cX12_refused RX12 2 E A := C
  have hl : lv_has ls 2 [(0, .ref h), (1, .int p0)] := hl
  have hx := C.1
  have hb := C.2.1
  rw [hAe]
  clear hAe
  obtain ⟨Q, hQ⟩ : ∃ Q, Q = MQ below (Qi E A (z.1) (wX12_refused E h h_tape h_far h_from h_real h_other h_kept h_set h_w h_book h_noteSort h_whose h_what h_noteIs h_fitting h_dawn h_likes h_walked h_came v_thrown z.2.1 z.2.2 v_inn v_read v_taped v_size v_at v_sort v_place v_sign v_number v_fault v_wrongAt v_word v_marks v_notes)) args s 0 0 A := ⟨_, rfl⟩
  rw [← hQ]
  unfold fX12_refused at hf
  refine lv_aload_n (pc := 0) hx hb dX12_refused_0 rfl (lv_at hl 0 rfl) ?_
  refine lv_iload_n (pc := 1) hx hb dX12_refused_1 rfl (lv_at hl 1 rfl) ?_
  refine r_put (pc := 2) (ws' := (wX12_refused E h h_tape h_far h_from h_real h_other h_kept h_set h_w h_book h_noteSort h_whose h_what h_noteIs h_fitting h_dawn h_likes h_walked h_came v_thrown p0 v_where v_inn v_read v_taped v_size v_at v_sort v_place v_sign v_number v_fault v_wrongAt v_word v_marks v_notes)) C hP hD hS 0 rfl fl_X12_74 rfl rfl (Nat.le_of_ble_eq_true rfl) rfl dX12_refused_2 ?_
  clear hP hD hS; intro H locs hP hD hS
  refine lv_aload_n (pc := 5) hx hb dX12_refused_5 rfl (lv_at hl 0 rfl) ?_
  refine lv_iconst (pc := 6) (v := (-1)) hx hb dX12_refused_6 (by decide) ?_
  refine r_put (pc := 7) (ws' := (wX12_refused E h h_tape h_far h_from h_real h_other h_kept h_set h_w h_book h_noteSort h_whose h_what h_noteIs h_fitting h_dawn h_likes h_walked h_came v_thrown p0 (-1) v_inn v_read v_taped v_size v_at v_sort v_place v_sign v_number v_fault v_wrongAt v_word v_marks v_notes)) C hP hD hS 0 rfl fl_X12_9 rfl rfl (Nat.le_of_ble_eq_true rfl) rfl dX12_refused_7 ?_
  clear hP hD hS; intro H locs hP hD hS
  refine lv_iconst (pc := 10) (v := (-1)) hx hb dX12_refused_10 (by decide) ?_
  cases hf
  rw [hQ]
  exact r_iret C hr hP hD hS rfl dX12_refused_11
def wX12_denied (E : EN) (h h_tape h_far h_from h_real h_other h_kept h_set h_w h_book h_noteSort h_whose h_what h_noteIs h_fitting h_dawn h_likes h_walked h_came : Nat) (v_thrown : Int32) (v_trouble : Int32) (v_where : Int32) (v_inn : Option Nat) (v_read : Option Nat) (v_taped : Int32) (v_size : Int32) (v_at : Int32) (v_sort : Int32) (v_place : Int32) (v_sign : Int32) (v_number : Int32) (v_fault : Int32) (v_wrongAt : Int32) (v_word : Int64) (v_marks : Int32) (v_notes : Int32) : va_W := [(h, .inr (11, [.int v_thrown, .int v_trouble, .int v_where, va_rf v_inn, va_rf v_read, .ref h_tape, .int v_taped, .int v_size, .int v_at, .int v_sort, .int v_place, .int v_sign, .int v_number, .int v_fault, .int v_wrongAt, .long v_word, .ref h_far, .ref h_from, .ref h_real, .ref h_other, .ref h_kept, .ref h_set, .ref h_w, .int v_marks, .int v_notes, .ref h_book, .ref h_noteSort, .ref h_whose, .ref h_what, .ref h_noteIs, .ref h_fitting, .ref h_dawn, .ref h_likes, .ref h_walked, .ref h_came]))]
def fX12_denied (N : Nat) (p0 : Int32) : Option (Int32 × Int32 × Int32) := (fX12_refused N p0).bind (un3 fun (r_2 : Int32) (v_trouble_2 : Int32) (v_where_2 : Int32) => some (0, v_trouble_2, v_where_2))
set_option maxHeartbeats 4000000 in
set_option maxRecDepth 100000 in
theorem ctX12_denied (l : Launch) (E : EN) (h h_tape h_far h_from h_real h_other h_kept h_set h_w h_book h_noteSort h_whose h_what h_noteIs h_fitting h_dawn h_likes h_walked h_came : Nat) (v_thrown : Int32) (v_trouble : Int32) (v_where : Int32) (v_inn : Option Nat) (v_read : Option Nat) (v_taped : Int32) (v_size : Int32) (v_at : Int32) (v_sort : Int32) (v_place : Int32) (v_sign : Int32) (v_number : Int32) (v_fault : Int32) (v_wrongAt : Int32) (v_word : Int64) (v_marks : Int32) (v_notes : Int32) (N : Nat) (p0 : Int32) (z : Int32 × Int32 × Int32) (hf : fX12_denied N p0 = some z) : CTi l E yX12_denied cX12_denied 2 .boolean 1 21 [.ref h, .int p0] (wX12_denied E h h_tape h_far h_from h_real h_other h_kept h_set h_w h_book h_noteSort h_whose h_what h_noteIs h_fitting h_dawn h_likes h_walked h_came v_thrown v_trouble v_where v_inn v_read v_taped v_size v_at v_sort v_place v_sign v_number v_fault v_wrongAt v_word v_marks v_notes) (z.1) (wX12_denied E h h_tape h_far h_from h_real h_other h_kept h_set h_w h_book h_noteSort h_whose h_what h_noteIs h_fitting h_dawn h_likes h_walked h_came v_thrown z.2.1 z.2.2 v_inn v_read v_taped v_size v_at v_sort v_place v_sign v_number v_fault v_wrongAt v_word v_marks v_notes) := by
  intro sz
  refine ct_body (by decide) (Nat.le_of_ble_eq_true rfl) ?_
  intro p e s m args below meth c A ls hAe C hr hin hP hD hS hl
  have C : CX p s m args meth c cX12_denied RX12 2 E A := C
  have hl : lv_has ls 2 [(0, .ref h), (1, .int p0)] := hl
  have hx := C.1
  have hb := C.2.1
  rw [hAe]
  clear hAe
  obtain ⟨Q, hQ⟩ : ∃ Q, Q = MQ below (Qi E A (z.1) (wX12_denied E h h_tape h_far h_from h_real h_other h_kept h_set h_w h_book h_noteSort h_whose h_what h_noteIs h_fitting h_dawn h_likes h_walked h_came v_thrown z.2.1 z.2.2 v_inn v_read v_taped v_size v_at v_sort v_place v_sign v_number v_fault v_wrongAt v_word v_marks v_notes)) args s 0 0 A := ⟨_, rfl⟩
  rw [← hQ]
  unfold fX12_denied at hf
  refine lv_aload_n (pc := 0) hx hb dX12_denied_0 rfl (lv_at hl 0 rfl) ?_
  refine lv_iload_n (pc := 1) hx hb dX12_denied_1 rfl (lv_at hl 1 rfl) ?_
  obtain ⟨r_2, v_trouble_2, v_where_2, hc_2, hf⟩ := bd3 hf
  refine r_dalVi (pc := 2) (ws' := (wX12_denied E h h_tape h_far h_from h_real h_other h_kept h_set h_w h_book h_noteSort h_whose h_what h_noteIs h_fitting h_dawn h_likes h_walked h_came v_thrown v_trouble_2 v_where_2 v_inn v_read v_taped v_size v_at v_sort v_place v_sign v_number v_fault v_wrongAt v_word v_marks v_notes)) (As := [.int p0]) (rest := []) C (ctX12_refused l E h h_tape h_far h_from h_real h_other h_kept h_set h_w h_book h_noteSort h_whose h_what h_noteIs h_fitting h_dawn h_likes h_walked h_came v_thrown v_trouble v_where v_inn v_read v_taped v_size v_at v_sort v_place v_sign v_number v_fault v_wrongAt v_word v_marks v_notes N p0 (r_2, v_trouble_2, v_where_2) hc_2) ml_X12_77 ⟨Nat.le_of_ble_eq_true rfl, Nat.le_of_ble_eq_true rfl⟩ hP hD hS 0 rfl rfl rfl [0] [1] 1 rfl rfl rfl rfl rfl rfl rfl hl.1 rfl (Nat.le_of_ble_eq_true rfl) ⟨Nat.zero_le _, Nat.zero_le _⟩ dX12_denied_2 ?_
  clear hP hD hS; intro H locs hP hD hS
  refine lv_pop (pc := 5) hx hb dX12_denied_5 rfl ?_
  refine lv_iconst (pc := 6) (v := 0) hx hb dX12_denied_6 (by decide) ?_
  cases hf
  rw [hQ]
  exact r_zret C hr hP hD hS (Or.inl rfl) rfl dX12_denied_7
def wX12_good (E : EN) (h h_tape h_far h_from h_real h_other h_kept h_set h_w h_book h_noteSort h_whose h_what h_noteIs h_fitting h_dawn h_likes h_walked h_came : Nat) (v_thrown : Int32) (v_trouble : Int32) (v_where : Int32) (v_inn : Option Nat) (v_read : Option Nat) (v_taped : Int32) (v_size : Int32) (v_at : Int32) (v_sort : Int32) (v_place : Int32) (v_sign : Int32) (v_number : Int32) (v_fault : Int32) (v_wrongAt : Int32) (v_word : Int64) (v_marks : Int32) (v_notes : Int32) : va_W := [(h, .inr (11, [.int v_thrown, .int v_trouble, .int v_where, va_rf v_inn, va_rf v_read, .ref h_tape, .int v_taped, .int v_size, .int v_at, .int v_sort, .int v_place, .int v_sign, .int v_number, .int v_fault, .int v_wrongAt, .long v_word, .ref h_far, .ref h_from, .ref h_real, .ref h_other, .ref h_kept, .ref h_set, .ref h_w, .int v_marks, .int v_notes, .ref h_book, .ref h_noteSort, .ref h_whose, .ref h_what, .ref h_noteIs, .ref h_fitting, .ref h_dawn, .ref h_likes, .ref h_walked, .ref h_came]))]
def fX12_good (N : Nat) (p0 : Int32) : Option (Int32 × Int32 × Int32) := some (p0, 0, (-1))
set_option maxHeartbeats 4000000 in
set_option maxRecDepth 100000 in
theorem ctX12_good (l : Launch) (E : EN) (h h_tape h_far h_from h_real h_other h_kept h_set h_w h_book h_noteSort h_whose h_what h_noteIs h_fitting h_dawn h_likes h_walked h_came : Nat) (v_thrown : Int32) (v_trouble : Int32) (v_where : Int32) (v_inn : Option Nat) (v_read : Option Nat) (v_taped : Int32) (v_size : Int32) (v_at : Int32) (v_sort : Int32) (v_place : Int32) (v_sign : Int32) (v_number : Int32) (v_fault : Int32) (v_wrongAt : Int32) (v_word : Int64) (v_marks : Int32) (v_notes : Int32) (N : Nat) (p0 : Int32) (z : Int32 × Int32 × Int32) (hf : fX12_good N p0 = some z) : CTi l E yX12_good cX12_good 2 .int 0 0 [.ref h, .int p0] (wX12_good E h h_tape h_far h_from h_real h_other h_kept h_set h_w h_book h_noteSort h_whose h_what h_noteIs h_fitting h_dawn h_likes h_walked h_came v_thrown v_trouble v_where v_inn v_read v_taped v_size v_at v_sort v_place v_sign v_number v_fault v_wrongAt v_word v_marks v_notes) (z.1) (wX12_good E h h_tape h_far h_from h_real h_other h_kept h_set h_w h_book h_noteSort h_whose h_what h_noteIs h_fitting h_dawn h_likes h_walked h_came v_thrown z.2.1 z.2.2 v_inn v_read v_taped v_size v_at v_sort v_place v_sign v_number v_fault v_wrongAt v_word v_marks v_notes) := by
  intro sz
  refine ct_body (by decide) (Nat.le_of_ble_eq_true rfl) ?_
  intro p e s m args below meth c A ls hAe C hr hin hP hD hS hl
  have C : CX p s m args meth c cX12_good RX12 2 E A := C
  have hl : lv_has ls 2 [(0, .ref h), (1, .int p0)] := hl
  have hx := C.1
  have hb := C.2.1
  rw [hAe]
  clear hAe
  obtain ⟨Q, hQ⟩ : ∃ Q, Q = MQ below (Qi E A (z.1) (wX12_good E h h_tape h_far h_from h_real h_other h_kept h_set h_w h_book h_noteSort h_whose h_what h_noteIs h_fitting h_dawn h_likes h_walked h_came v_thrown z.2.1 z.2.2 v_inn v_read v_taped v_size v_at v_sort v_place v_sign v_number v_fault v_wrongAt v_word v_marks v_notes)) args s 0 0 A := ⟨_, rfl⟩
  rw [← hQ]
  unfold fX12_good at hf
  refine lv_aload_n (pc := 0) hx hb dX12_good_0 rfl (lv_at hl 0 rfl) ?_
  refine lv_iconst (pc := 1) (v := 0) hx hb dX12_good_1 (by decide) ?_
  refine r_put (pc := 2) (ws' := (wX12_good E h h_tape h_far h_from h_real h_other h_kept h_set h_w h_book h_noteSort h_whose h_what h_noteIs h_fitting h_dawn h_likes h_walked h_came v_thrown 0 v_where v_inn v_read v_taped v_size v_at v_sort v_place v_sign v_number v_fault v_wrongAt v_word v_marks v_notes)) C hP hD hS 0 rfl fl_X12_74 rfl rfl (Nat.le_of_ble_eq_true rfl) rfl dX12_good_2 ?_
  clear hP hD hS; intro H locs hP hD hS
  refine lv_aload_n (pc := 5) hx hb dX12_good_5 rfl (lv_at hl 0 rfl) ?_
  refine lv_iconst (pc := 6) (v := (-1)) hx hb dX12_good_6 (by decide) ?_
  refine r_put (pc := 7) (ws' := (wX12_good E h h_tape h_far h_from h_real h_other h_kept h_set h_w h_book h_noteSort h_whose h_what h_noteIs h_fitting h_dawn h_likes h_walked h_came v_thrown 0 (-1) v_inn v_read v_taped v_size v_at v_sort v_place v_sign v_number v_fault v_wrongAt v_word v_marks v_notes)) C hP hD hS 0 rfl fl_X12_9 rfl rfl (Nat.le_of_ble_eq_true rfl) rfl dX12_good_7 ?_
  clear hP hD hS; intro H locs hP hD hS
  refine lv_iload_n (pc := 10) hx hb dX12_good_10 rfl (lv_at hl 1 rfl) ?_
  cases hf
  rw [hQ]
  exact r_iret C hr hP hD hS rfl dX12_good_11
def wX12_granted (E : EN) (h h_tape h_far h_from h_real h_other h_kept h_set h_w h_book h_noteSort h_whose h_what h_noteIs h_fitting h_dawn h_likes h_walked h_came : Nat) (v_thrown : Int32) (v_trouble : Int32) (v_where : Int32) (v_inn : Option Nat) (v_read : Option Nat) (v_taped : Int32) (v_size : Int32) (v_at : Int32) (v_sort : Int32) (v_place : Int32) (v_sign : Int32) (v_number : Int32) (v_fault : Int32) (v_wrongAt : Int32) (v_word : Int64) (v_marks : Int32) (v_notes : Int32) : va_W := [(h, .inr (11, [.int v_thrown, .int v_trouble, .int v_where, va_rf v_inn, va_rf v_read, .ref h_tape, .int v_taped, .int v_size, .int v_at, .int v_sort, .int v_place, .int v_sign, .int v_number, .int v_fault, .int v_wrongAt, .long v_word, .ref h_far, .ref h_from, .ref h_real, .ref h_other, .ref h_kept, .ref h_set, .ref h_w, .int v_marks, .int v_notes, .ref h_book, .ref h_noteSort, .ref h_whose, .ref h_what, .ref h_noteIs, .ref h_fitting, .ref h_dawn, .ref h_likes, .ref h_walked, .ref h_came]))]
def fX12_granted (N : Nat) : Option (Int32 × Int32 × Int32) := (fX12_good N 0).bind (un3 fun (r_2 : Int32) (v_trouble_2 : Int32) (v_where_2 : Int32) => some (1, v_trouble_2, v_where_2))
set_option maxHeartbeats 4000000 in
set_option maxRecDepth 100000 in
theorem ctX12_granted (l : Launch) (E : EN) (h h_tape h_far h_from h_real h_other h_kept h_set h_w h_book h_noteSort h_whose h_what h_noteIs h_fitting h_dawn h_likes h_walked h_came : Nat) (v_thrown : Int32) (v_trouble : Int32) (v_where : Int32) (v_inn : Option Nat) (v_read : Option Nat) (v_taped : Int32) (v_size : Int32) (v_at : Int32) (v_sort : Int32) (v_place : Int32) (v_sign : Int32) (v_number : Int32) (v_fault : Int32) (v_wrongAt : Int32) (v_word : Int64) (v_marks : Int32) (v_notes : Int32) (N : Nat) (z : Int32 × Int32 × Int32) (hf : fX12_granted N  = some z) : CTi l E yX12_granted cX12_granted 1 .boolean 1 21 [.ref h] (wX12_granted E h h_tape h_far h_from h_real h_other h_kept h_set h_w h_book h_noteSort h_whose h_what h_noteIs h_fitting h_dawn h_likes h_walked h_came v_thrown v_trouble v_where v_inn v_read v_taped v_size v_at v_sort v_place v_sign v_number v_fault v_wrongAt v_word v_marks v_notes) (z.1) (wX12_granted E h h_tape h_far h_from h_real h_other h_kept h_set h_w h_book h_noteSort h_whose h_what h_noteIs h_fitting h_dawn h_likes h_walked h_came v_thrown z.2.1 z.2.2 v_inn v_read v_taped v_size v_at v_sort v_place v_sign v_number v_fault v_wrongAt v_word v_marks v_notes) := by
  intro sz
  refine ct_body (by decide) (Nat.le_of_ble_eq_true rfl) ?_
  intro p e s m args below meth c A ls hAe C hr hin hP hD hS hl
  have C : CX p s m args meth c cX12_granted RX12 1 E A := C
  have hl : lv_has ls 1 [(0, .ref h)] := hl
  have hx := C.1
  have hb := C.2.1
  rw [hAe]
  clear hAe
  obtain ⟨Q, hQ⟩ : ∃ Q, Q = MQ below (Qi E A (z.1) (wX12_granted E h h_tape h_far h_from h_real h_other h_kept h_set h_w h_book h_noteSort h_whose h_what h_noteIs h_fitting h_dawn h_likes h_walked h_came v_thrown z.2.1 z.2.2 v_inn v_read v_taped v_size v_at v_sort v_place v_sign v_number v_fault v_wrongAt v_word v_marks v_notes)) args s 0 0 A := ⟨_, rfl⟩
  rw [← hQ]
  unfold fX12_granted at hf
  refine lv_aload_n (pc := 0) hx hb dX12_granted_0 rfl (lv_at hl 0 rfl) ?_
  refine lv_iconst (pc := 1) (v := 0) hx hb dX12_granted_1 (by decide) ?_
  obtain ⟨r_2, v_trouble_2, v_where_2, hc_2, hf⟩ := bd3 hf
  refine r_dalVi (pc := 2) (ws' := (wX12_granted E h h_tape h_far h_from h_real h_other h_kept h_set h_w h_book h_noteSort h_whose h_what h_noteIs h_fitting h_dawn h_likes h_walked h_came v_thrown v_trouble_2 v_where_2 v_inn v_read v_taped v_size v_at v_sort v_place v_sign v_number v_fault v_wrongAt v_word v_marks v_notes)) (As := [.int 0]) (rest := []) C (ctX12_good l E h h_tape h_far h_from h_real h_other h_kept h_set h_w h_book h_noteSort h_whose h_what h_noteIs h_fitting h_dawn h_likes h_walked h_came v_thrown v_trouble v_where v_inn v_read v_taped v_size v_at v_sort v_place v_sign v_number v_fault v_wrongAt v_word v_marks v_notes N 0 (r_2, v_trouble_2, v_where_2) hc_2) ml_X12_81 ⟨Nat.le_of_ble_eq_true rfl, Nat.le_of_ble_eq_true rfl⟩ hP hD hS 0 rfl rfl rfl [0] [1] 1 rfl rfl rfl rfl rfl rfl rfl hl.1 rfl (Nat.le_of_ble_eq_true rfl) ⟨Nat.zero_le _, Nat.zero_le _⟩ dX12_granted_2 ?_
  clear hP hD hS; intro H locs hP hD hS
  refine lv_pop (pc := 5) hx hb dX12_granted_5 rfl ?_
  refine lv_iconst (pc := 6) (v := 1) hx hb dX12_granted_6 (by decide) ?_
  cases hf
  rw [hQ]
  exact r_zret C hr hP hD hS (Or.inr rfl) rfl dX12_granted_7
def wX12_in (E : EN) : va_W := []
def fX12_in (N : Nat) (p0 : Int32) (p1 : Int32) (p2 : Int32) : Option Int32 := jn (un0 (some 0)) (fun j14 => if p0 < p1 then (j14 ()) else (if p2 < p0 then (j14 ()) else (some 1)))
set_option maxHeartbeats 4000000 in
set_option maxRecDepth 100000 in
theorem ctX12_in (l : Launch) (E : EN) (N : Nat) (p0 : Int32) (p1 : Int32) (p2 : Int32) (z : Int32) (hf : fX12_in N p0 p1 p2 = some z) : CTi l E yX12_in cX12_in 3 .boolean 0 0 [.int p0, .int p1, .int p2] (wX12_in E) (z) (wX12_in E) := by
  intro sz
  refine ct_body (by decide) (Nat.le_of_ble_eq_true rfl) ?_
  intro p e s m args below meth c A ls hAe C hr hin hP hD hS hl
  have C : CX p s m args meth c cX12_in RX12 3 E A := C
  have hl : lv_has ls 3 [(0, .int p0), (1, .int p1), (2, .int p2)] := hl
  have hx := C.1
  have hb := C.2.1
  rw [hAe]
  clear hAe
  obtain ⟨Q, hQ⟩ : ∃ Q, Q = MQ below (Qi E A (z) (wX12_in E)) args s 0 0 A := ⟨_, rfl⟩
  rw [← hQ]
  unfold fX12_in at hf
  refine lv_iload_n (pc := 0) hx hb dX12_in_0 rfl (lv_at hl 0 rfl) ?_
  refine lv_iload_n (pc := 1) hx hb dX12_in_1 rfl (lv_at hl 1 rfl) ?_
  refine jnK hf (fun j14 ej14 hf => ?_)
  have hj14 : j14 () = some z → AT p l e (rmOf 0 0) s m args below meth c E A Q 0 0 3 [] (wX12_in E) 14 [] := by
    intro  hf H locs ls hl hP hD hS
    rw [ej14] at hf
    replace hf := un0_s hf
    refine lv_iconst (pc := 14) (v := 0) hx hb dX12_in_14 (by decide) ?_
    cases hf
    rw [hQ]
    exact r_zret C hr hP hD hS (Or.inl rfl) rfl dX12_in_15
  clear ej14
  refine lv_icmp_lt (pc := 2) (tgt := 14) hx hb dX12_in_2 (by decide) (fun c_2 => ?_) (fun c_2 => ?_)
  · replace hf := it_t c_2 hf
    exact hj14  hf _ _ _ (lv_sub hl [] rfl) hP hD hS
  · replace hf := it_f c_2 hf
    refine lv_iload_n (pc := 5) hx hb dX12_in_5 rfl (lv_at hl 0 rfl) ?_
    refine lv_iload_n (pc := 6) hx hb dX12_in_6 rfl (lv_at hl 2 rfl) ?_
    refine lv_icmp_gt (pc := 7) (tgt := 14) hx hb dX12_in_7 (by decide) (fun c_7 => ?_) (fun c_7 => ?_)
    · replace hf := it_t c_7 hf
      exact hj14  hf _ _ _ (lv_sub hl [] rfl) hP hD hS
    · replace hf := it_f c_7 hf
      refine lv_iconst (pc := 10) (v := 1) hx hb dX12_in_10 (by decide) ?_
      refine lv_goto (pc := 11) (tgt := 15) hx hb dX12_in_11 (by decide) ?_
      cases hf
      rw [hQ]
      exact r_zret C hr hP hD hS (Or.inr rfl) rfl dX12_in_15
def wX12_has (E : EN) : va_W := []
def fX12_has (N : Nat) (p0 : Int32) (p1 : Int32) : Option Int32 := if ((p0 >>> (p1 &&& 31)) &&& 1) = 1 then (some 1) else (some 0)
set_option maxHeartbeats 4000000 in
set_option maxRecDepth 100000 in
theorem ctX12_has (l : Launch) (E : EN) (N : Nat) (p0 : Int32) (p1 : Int32) (z : Int32) (hf : fX12_has N p0 p1 = some z) : CTi l E yX12_has cX12_has 2 .boolean 0 0 [.int p0, .int p1] (wX12_has E) (z) (wX12_has E) := by
  intro sz
  refine ct_body (by decide) (Nat.le_of_ble_eq_true rfl) ?_
  intro p e s m args below meth c A ls hAe C hr hin hP hD hS hl
  have C : CX p s m args meth c cX12_has RX12 2 E A := C
  have hl : lv_has ls 2 [(0, .int p0), (1, .int p1)] := hl
  have hx := C.1
  have hb := C.2.1
  rw [hAe]
  clear hAe
  obtain ⟨Q, hQ⟩ : ∃ Q, Q = MQ below (Qi E A (z) (wX12_has E)) args s 0 0 A := ⟨_, rfl⟩
  rw [← hQ]
  unfold fX12_has at hf
  refine lv_iload_n (pc := 0) hx hb dX12_has_0 rfl (lv_at hl 0 rfl) ?_
  refine lv_iload_n (pc := 1) hx hb dX12_has_1 rfl (lv_at hl 1 rfl) ?_
  refine lv_ishr (pc := 2) hx hb dX12_has_2 ?_
  refine lv_iconst (pc := 3) (v := 1) hx hb dX12_has_3 (by decide) ?_
  refine lv_iand (pc := 4) hx hb dX12_has_4 ?_
  refine lv_iconst (pc := 5) (v := 1) hx hb dX12_has_5 (by decide) ?_
  refine lv_icmp_ne (pc := 6) (tgt := 13) hx hb dX12_has_6 (by decide) (fun c_6 => ?_) (fun c_6 => ?_)
  · replace hf := it_f c_6 hf
    refine lv_iconst (pc := 13) (v := 0) hx hb dX12_has_13 (by decide) ?_
    cases hf
    rw [hQ]
    exact r_zret C hr hP hD hS (Or.inl rfl) rfl dX12_has_14
  · replace hf := it_t c_6 hf
    refine lv_iconst (pc := 9) (v := 1) hx hb dX12_has_9 (by decide) ?_
    refine lv_goto (pc := 10) (tgt := 14) hx hb dX12_has_10 (by decide) ?_
    cases hf
    rw [hQ]
    exact r_zret C hr hP hD hS (Or.inr rfl) rfl dX12_has_14
def wX12_bits (E : EN) : va_W := []
def BX12_bits_4 (rec4 : (Int32 × Int32) → Option Int32) : (Int32 × Int32) → Option Int32 := un2 fun (x4_1 : Int32) (x4_2 : Int32) => if x4_2 = 0 then (some x4_1) else (rec4 (x4_1 + 1, x4_2 &&& (x4_2 - 1)))
def fX12_bits (N : Nat) (p0 : Int32) : Option Int32 := lp (BX12_bits_4) N (0, p0)
set_option maxHeartbeats 4000000 in
set_option maxRecDepth 100000 in
theorem ctX12_bits (l : Launch) (E : EN) (N : Nat) (p0 : Int32) (z : Int32) (hf : fX12_bits N p0 = some z) : CTi l E yX12_bits cX12_bits 3 .int 0 0 [.int p0] (wX12_bits E) (z) (wX12_bits E) := by
  intro sz
  refine ct_body (by decide) (Nat.le_of_ble_eq_true rfl) ?_
  intro p e s m args below meth c A ls hAe C hr hin hP hD hS hl
  have C : CX p s m args meth c cX12_bits RX12 3 E A := C
  have hl : lv_has ls 3 [(0, .int p0)] := hl
  have hx := C.1
  have hb := C.2.1
  rw [hAe]
  clear hAe
  obtain ⟨Q, hQ⟩ : ∃ Q, Q = MQ below (Qi E A (z) (wX12_bits E)) args s 0 0 A := ⟨_, rfl⟩
  rw [← hQ]
  unfold fX12_bits at hf
  refine lv_iconst (pc := 0) (v := 0) hx hb dX12_bits_0 (by decide) ?_
  refine lv_istore_n (pc := 1) (lv' := [(1, .int 0), (0, .int p0)]) hx hb dX12_bits_1 rfl hl (by decide) rfl (fun ls hl => ?_)
  refine lv_iload_n (pc := 2) hx hb dX12_bits_2 rfl (lv_at hl 1 rfl) ?_
  refine lv_istore_n (pc := 3) (lv' := [(2, .int p0), (1, .int 0), (0, .int p0)]) hx hb dX12_bits_3 rfl hl (by decide) rfl (fun ls hl => ?_)
  have key4 : ∀ (n : Nat) (x4_1 : Int32) (x4_2 : Int32) , lp (BX12_bits_4) n (x4_1, x4_2) = some z → AT p l e (rmOf 0 0) s m args below meth c E A Q 0 0 3 [(1, .int x4_1), (2, .int x4_2)] (wX12_bits E) 4 [] := by
    intro n
    induction n with
    | zero => intro x4_1 x4_2 hf; exact (lp_0 hf).elim
    | succ n ih4 =>
      intro x4_1 x4_2 hf H locs ls hl hP hD hS
      replace hf := lp_s hf
      generalize lp (BX12_bits_4) n = rec4 at ih4 hf
      unfold BX12_bits_4 at hf
      replace hf := un2_s hf
      refine lv_iload_n (pc := 4) hx hb dX12_bits_4 rfl (lv_at hl 1 rfl) ?_
      refine lv_if_eq (pc := 5) (tgt := 20) hx hb dX12_bits_5 (by decide) (fun c_5 => ?_) (fun c_5 => ?_)
      · replace hf := it_t c_5 hf
        refine lv_iload_n (pc := 20) hx hb dX12_bits_20 rfl (lv_at hl 0 rfl) ?_
        cases hf
        rw [hQ]
        exact r_iret C hr hP hD hS rfl dX12_bits_21
      · replace hf := it_f c_5 hf
        refine lv_iinc (pc := 8) (v := x4_1 + 1) (lv' := [(1, .int (x4_1 + 1)), (2, .int x4_2)]) hx hb dX12_bits_8 hl (k := 0) rfl rfl (by decide) rfl (fun ls hl => ?_)
        refine lv_iload_n (pc := 11) hx hb dX12_bits_11 rfl (lv_at hl 1 rfl) ?_
        refine lv_iload_n (pc := 12) hx hb dX12_bits_12 rfl (lv_at hl 1 rfl) ?_
        refine lv_iconst (pc := 13) (v := 1) hx hb dX12_bits_13 (by decide) ?_
        refine lv_isub (pc := 14) hx hb dX12_bits_14 ?_
        refine lv_iand (pc := 15) hx hb dX12_bits_15 ?_
        refine lv_istore_n (pc := 16) (lv' := [(2, .int (x4_2 &&& (x4_2 - 1))), (1, .int (x4_1 + 1))]) hx hb dX12_bits_16 rfl hl (by decide) rfl (fun ls hl => ?_)
        refine lv_goto (pc := 17) (tgt := 4) hx hb dX12_bits_17 (by decide) ?_
        exact ih4 (x4_1 + 1) (x4_2 &&& (x4_2 - 1)) hf _ _ _ (lv_sub hl [1, 0] rfl) hP hD hS
  exact key4 _ 0 p0 hf _ _ _ (lv_sub hl [1, 0] rfl) hP hD hS
def wX12_byteAt (E : EN) (h h_tape h_far h_from h_real h_other h_kept h_set h_w h_book h_noteSort h_whose h_what h_noteIs h_fitting h_dawn h_likes h_walked h_came : Nat) (v_thrown : Int32) (v_trouble : Int32) (v_where : Int32) (v_inn : Option Nat) (v_read : Option Nat) (v_taped : Int32) (v_size : Int32) (v_at : Int32) (v_sort : Int32) (v_place : Int32) (v_sign : Int32) (v_number : Int32) (v_fault : Int32) (v_wrongAt : Int32) (v_word : Int64) (v_marks : Int32) (v_notes : Int32) (v_tape : Nat → Int32) : va_W := [(h, .inr (11, [.int v_thrown, .int v_trouble, .int v_where, va_rf v_inn, va_rf v_read, .ref h_tape, .int v_taped, .int v_size, .int v_at, .int v_sort, .int v_place, .int v_sign, .int v_number, .int v_fault, .int v_wrongAt, .long v_word, .ref h_far, .ref h_from, .ref h_real, .ref h_other, .ref h_kept, .ref h_set, .ref h_w, .int v_marks, .int v_notes, .ref h_book, .ref h_noteSort, .ref h_whose, .ref h_what, .ref h_noteIs, .ref h_fitting, .ref h_dawn, .ref h_likes, .ref h_walked, .ref h_came])), (h_tape, aB E 900 v_tape)]
def fX12_byteAt (N : Nat) (p0 : Int32) (v_size : Int32) (v_tape : Nat → Int32) : Option Int32 := if v_size ≤ p0 then (some (-1)) else (gd p0 900 (some ((v_tape p0.toNatClampNeg) &&& 255)))
set_option maxHeartbeats 4000000 in
set_option maxRecDepth 100000 in
theorem ctX12_byteAt (l : Launch) (E : EN) (h h_tape h_far h_from h_real h_other h_kept h_set h_w h_book h_noteSort h_whose h_what h_noteIs h_fitting h_dawn h_likes h_walked h_came : Nat) (v_thrown : Int32) (v_trouble : Int32) (v_where : Int32) (v_inn : Option Nat) (v_read : Option Nat) (v_taped : Int32) (v_size : Int32) (v_at : Int32) (v_sort : Int32) (v_place : Int32) (v_sign : Int32) (v_number : Int32) (v_fault : Int32) (v_wrongAt : Int32) (v_word : Int64) (v_marks : Int32) (v_notes : Int32) (v_tape : Nat → Int32) (N : Nat) (p0 : Int32) (z : Int32) (hf : fX12_byteAt N p0 v_size v_tape = some z) : CTi l E yX12_byteAt cX12_byteAt 2 .int 0 0 [.ref h, .int p0] (wX12_byteAt E h h_tape h_far h_from h_real h_other h_kept h_set h_w h_book h_noteSort h_whose h_what h_noteIs h_fitting h_dawn h_likes h_walked h_came v_thrown v_trouble v_where v_inn v_read v_taped v_size v_at v_sort v_place v_sign v_number v_fault v_wrongAt v_word v_marks v_notes v_tape) (z) (wX12_byteAt E h h_tape h_far h_from h_real h_other h_kept h_set h_w h_book h_noteSort h_whose h_what h_noteIs h_fitting h_dawn h_likes h_walked h_came v_thrown v_trouble v_where v_inn v_read v_taped v_size v_at v_sort v_place v_sign v_number v_fault v_wrongAt v_word v_marks v_notes v_tape) := by
  intro sz
  refine ct_body (by decide) (Nat.le_of_ble_eq_true rfl) ?_
  intro p e s m args below meth c A ls hAe C hr hin hP hD hS hl
  have C : CX p s m args meth c cX12_byteAt RX12 2 E A := C
  have hl : lv_has ls 2 [(0, .ref h), (1, .int p0)] := hl
  have hx := C.1
  have hb := C.2.1
  rw [hAe]
  clear hAe
  obtain ⟨Q, hQ⟩ : ∃ Q, Q = MQ below (Qi E A (z) (wX12_byteAt E h h_tape h_far h_from h_real h_other h_kept h_set h_w h_book h_noteSort h_whose h_what h_noteIs h_fitting h_dawn h_likes h_walked h_came v_thrown v_trouble v_where v_inn v_read v_taped v_size v_at v_sort v_place v_sign v_number v_fault v_wrongAt v_word v_marks v_notes v_tape)) args s 0 0 A := ⟨_, rfl⟩
  rw [← hQ]
  unfold fX12_byteAt at hf
  refine lv_iload_n (pc := 0) hx hb dX12_byteAt_0 rfl (lv_at hl 1 rfl) ?_
  refine lv_aload_n (pc := 1) hx hb dX12_byteAt_1 rfl (lv_at hl 0 rfl) ?_
  refine r_get (pc := 2) C hP 0 rfl fl_X12_84 rfl dX12_byteAt_2 ?_
  refine lv_icmp_ge (pc := 5) (tgt := 21) hx hb dX12_byteAt_5 (by decide) (fun c_5 => ?_) (fun c_5 => ?_)
  · replace hf := it_t c_5 hf
    refine lv_iconst (pc := 21) (v := (-1)) hx hb dX12_byteAt_21 (by decide) ?_
    cases hf
    rw [hQ]
    exact r_iret C hr hP hD hS rfl dX12_byteAt_22
  · replace hf := it_f c_5 hf
    refine lv_aload_n (pc := 8) hx hb dX12_byteAt_8 rfl (lv_at hl 0 rfl) ?_
    refine r_get (pc := 9) C hP 0 rfl fl_X12_13 rfl dX12_byteAt_9 ?_
    refine lv_iload_n (pc := 12) hx hb dX12_byteAt_12 rfl (lv_at hl 1 rfl) ?_
    obtain ⟨hi_13, hf⟩ := gd_s hf
    refine r_bald (pc := 13) C hP 1 rfl hi_13 dX12_byteAt_13 ?_
    refine lv_sipush (pc := 14) (v := 255) hx hb dX12_byteAt_14 (by decide) ?_
    refine lv_iand (pc := 17) hx hb dX12_byteAt_17 ?_
    refine lv_goto (pc := 18) (tgt := 22) hx hb dX12_byteAt_18 (by decide) ?_
    cases hf
    rw [hQ]
    exact r_iret C hr hP hD hS rfl dX12_byteAt_22
def wX12_isLetter (E : EN) : va_W := []
def fX12_isLetter (N : Nat) (p0 : Int32) : Option Int32 := jn (un0 (some 0)) (fun j16 => if p0 < 97 then (j16 ()) else (if 122 < p0 then (j16 ()) else (some 1)))
set_option maxHeartbeats 4000000 in
set_option maxRecDepth 100000 in
theorem ctX12_isLetter (l : Launch) (E : EN) (N : Nat) (p0 : Int32) (z : Int32) (hf : fX12_isLetter N p0 = some z) : CTi l E yX12_isLetter cX12_isLetter 1 .boolean 0 0 [.int p0] (wX12_isLetter E) (z) (wX12_isLetter E) := by
  intro sz
  refine ct_body (by decide) (Nat.le_of_ble_eq_true rfl) ?_
  intro p e s m args below meth c A ls hAe C hr hin hP hD hS hl
  have C : CX p s m args meth c cX12_isLetter RX12 1 E A := C
  have hl : lv_has ls 1 [(0, .int p0)] := hl
  have hx := C.1
  have hb := C.2.1
  rw [hAe]
  clear hAe
  obtain ⟨Q, hQ⟩ : ∃ Q, Q = MQ below (Qi E A (z) (wX12_isLetter E)) args s 0 0 A := ⟨_, rfl⟩
  rw [← hQ]
  unfold fX12_isLetter at hf
  refine lv_iload_n (pc := 0) hx hb dX12_isLetter_0 rfl (lv_at hl 0 rfl) ?_
  refine lv_bipush (pc := 1) (v := 97) hx hb dX12_isLetter_1 (by decide) ?_
  refine jnK hf (fun j16 ej16 hf => ?_)
  have hj16 : j16 () = some z → AT p l e (rmOf 0 0) s m args below meth c E A Q 0 0 1 [] (wX12_isLetter E) 16 [] := by
    intro  hf H locs ls hl hP hD hS
    rw [ej16] at hf
    replace hf := un0_s hf
    refine lv_iconst (pc := 16) (v := 0) hx hb dX12_isLetter_16 (by decide) ?_
    cases hf
    rw [hQ]
    exact r_zret C hr hP hD hS (Or.inl rfl) rfl dX12_isLetter_17
  clear ej16
  refine lv_icmp_lt (pc := 3) (tgt := 16) hx hb dX12_isLetter_3 (by decide) (fun c_3 => ?_) (fun c_3 => ?_)
  · replace hf := it_t c_3 hf
    exact hj16  hf _ _ _ (lv_sub hl [] rfl) hP hD hS
  · replace hf := it_f c_3 hf
    refine lv_iload_n (pc := 6) hx hb dX12_isLetter_6 rfl (lv_at hl 0 rfl) ?_
    refine lv_bipush (pc := 7) (v := 122) hx hb dX12_isLetter_7 (by decide) ?_
    refine lv_icmp_gt (pc := 9) (tgt := 16) hx hb dX12_isLetter_9 (by decide) (fun c_9 => ?_) (fun c_9 => ?_)
    · replace hf := it_t c_9 hf
      exact hj16  hf _ _ _ (lv_sub hl [] rfl) hP hD hS
    · replace hf := it_f c_9 hf
      refine lv_iconst (pc := 12) (v := 1) hx hb dX12_isLetter_12 (by decide) ?_
      refine lv_goto (pc := 13) (tgt := 17) hx hb dX12_isLetter_13 (by decide) ?_
      cases hf
      rw [hQ]
      exact r_zret C hr hP hD hS (Or.inr rfl) rfl dX12_isLetter_17
def wX12_isDigit (E : EN) : va_W := []
def fX12_isDigit (N : Nat) (p0 : Int32) : Option Int32 := jn (un0 (some 0)) (fun j16 => if p0 < 48 then (j16 ()) else (if 57 < p0 then (j16 ()) else (some 1)))
set_option maxHeartbeats 4000000 in
set_option maxRecDepth 100000 in
theorem ctX12_isDigit (l : Launch) (E : EN) (N : Nat) (p0 : Int32) (z : Int32) (hf : fX12_isDigit N p0 = some z) : CTi l E yX12_isDigit cX12_isDigit 1 .boolean 0 0 [.int p0] (wX12_isDigit E) (z) (wX12_isDigit E) := by
  intro sz
  refine ct_body (by decide) (Nat.le_of_ble_eq_true rfl) ?_
  intro p e s m args below meth c A ls hAe C hr hin hP hD hS hl
  have C : CX p s m args meth c cX12_isDigit RX12 1 E A := C
  have hl : lv_has ls 1 [(0, .int p0)] := hl
  have hx := C.1
  have hb := C.2.1
  rw [hAe]
  clear hAe
  obtain ⟨Q, hQ⟩ : ∃ Q, Q = MQ below (Qi E A (z) (wX12_isDigit E)) args s 0 0 A := ⟨_, rfl⟩
  rw [← hQ]
  unfold fX12_isDigit at hf
  refine lv_iload_n (pc := 0) hx hb dX12_isDigit_0 rfl (lv_at hl 0 rfl) ?_
  refine lv_bipush (pc := 1) (v := 48) hx hb dX12_isDigit_1 (by decide) ?_
  refine jnK hf (fun j16 ej16 hf => ?_)
  have hj16 : j16 () = some z → AT p l e (rmOf 0 0) s m args below meth c E A Q 0 0 1 [] (wX12_isDigit E) 16 [] := by
    intro  hf H locs ls hl hP hD hS
    rw [ej16] at hf
    replace hf := un0_s hf
    refine lv_iconst (pc := 16) (v := 0) hx hb dX12_isDigit_16 (by decide) ?_
    cases hf
    rw [hQ]
    exact r_zret C hr hP hD hS (Or.inl rfl) rfl dX12_isDigit_17
  clear ej16
  refine lv_icmp_lt (pc := 3) (tgt := 16) hx hb dX12_isDigit_3 (by decide) (fun c_3 => ?_) (fun c_3 => ?_)
  · replace hf := it_t c_3 hf
    exact hj16  hf _ _ _ (lv_sub hl [] rfl) hP hD hS
  · replace hf := it_f c_3 hf
    refine lv_iload_n (pc := 6) hx hb dX12_isDigit_6 rfl (lv_at hl 0 rfl) ?_
    refine lv_bipush (pc := 7) (v := 57) hx hb dX12_isDigit_7 (by decide) ?_
    refine lv_icmp_gt (pc := 9) (tgt := 16) hx hb dX12_isDigit_9 (by decide) (fun c_9 => ?_) (fun c_9 => ?_)
    · replace hf := it_t c_9 hf
      exact hj16  hf _ _ _ (lv_sub hl [] rfl) hP hD hS
    · replace hf := it_f c_9 hf
      refine lv_iconst (pc := 12) (v := 1) hx hb dX12_isDigit_12 (by decide) ?_
      refine lv_goto (pc := 13) (tgt := 17) hx hb dX12_isDigit_13 (by decide) ?_
      cases hf
      rw [hQ]
      exact r_zret C hr hP hD hS (Or.inr rfl) rfl dX12_isDigit_17
def wJ0_coder_7d493 (E : EN) : va_W := []
def fJ0_coder_7d493 (N : Nat) : Option Int32 := if 1 = (0 : Int32) then (some 1) else (some 0)
set_option maxHeartbeats 4000000 in
set_option maxRecDepth 100000 in
theorem ctJ0_coder_7d493 (l : Launch) (E : EN) (k0 : Nat) (hk0 : k0 < 24) (N : Nat) (z : Int32) (hf : fJ0_coder_7d493 N  = some z) : CTi l E yJ0_coder_7d493 cJ0_coder_7d493 1 .byte 0 0 [.ref (E.2.2.2.2.1 k0)] (wJ0_coder_7d493 E) (z) (wJ0_coder_7d493 E) := by
  intro sz
  refine ct_body (by decide) (Nat.le_of_ble_eq_true rfl) ?_
  intro p e s m args below meth c A ls hAe C hr hin hP hD hS hl
  have C : CX p s m args meth c cJ0_coder_7d493 RJ0 1 E A := C
  have hl : lv_has ls 1 [(0, .ref (E.2.2.2.2.1 k0))] := hl
  have hx := C.1
  have hb := C.2.1
  rw [hAe]
  clear hAe
  obtain ⟨Q, hQ⟩ : ∃ Q, Q = MQ below (Qi E A (z) (wJ0_coder_7d493 E)) args s 0 0 A := ⟨_, rfl⟩
  rw [← hQ]
  unfold fJ0_coder_7d493 at hf
  refine r_gets (pc := 0) C C.kx.2.2.2.1 hS gs_J0_38 dJ0_coder_7d493_0 ?_
  refine lv_if_eq (pc := 3) (tgt := 13) hx hb dJ0_coder_7d493_3 (by decide) (fun c_3 => ?_) (fun c_3 => ?_)
  · replace hf := it_t c_3 hf
    refine lv_iconst (pc := 13) (v := 1) hx hb dJ0_coder_7d493_13 (by decide) ?_
    cases hf
    rw [hQ]
    exact r_xret C hr hP hD hS rfl rfl dJ0_coder_7d493_14
  · replace hf := it_f c_3 hf
    refine lv_aload_n (pc := 6) hx hb dJ0_coder_7d493_6 rfl (lv_at hl 0 rfl) ?_
    refine r_getc (pc := 7) C (C.kx.2.2.2.2.2 k0 hk0).2.1 hS sl_J0_15 dJ0_coder_7d493_7 ?_
    refine lv_goto (pc := 10) (tgt := 14) hx hb dJ0_coder_7d493_10 (by decide) ?_
    cases hf
    rw [hQ]
    exact r_xret C hr hP hD hS rfl rfl dJ0_coder_7d493_14
def wJ0_length_8abf5 (E : EN) : va_W := []
def fJ0_length_8abf5 (N : Nat) (k0 : Nat) : Option Int32 := (fJ0_coder_7d493 N).bind (un1 fun (r_6 : Int32) => some ((Int32.ofNat (stl k0)) >>> (r_6 &&& 31)))
set_option maxHeartbeats 4000000 in
set_option maxRecDepth 100000 in
theorem ctJ0_length_8abf5 (l : Launch) (E : EN) (k0 : Nat) (hk0 : k0 < 24) (N : Nat) (z : Int32) (hf : fJ0_length_8abf5 N k0 = some z) : CTi l E yJ0_length_8abf5 cJ0_length_8abf5 1 .int 1 20 [.ref (E.2.2.2.2.1 k0)] (wJ0_length_8abf5 E) (z) (wJ0_length_8abf5 E) := by
  intro sz
  refine ct_body (by decide) (Nat.le_of_ble_eq_true rfl) ?_
  intro p e s m args below meth c A ls hAe C hr hin hP hD hS hl
  have C : CX p s m args meth c cJ0_length_8abf5 RJ0 1 E A := C
  have hl : lv_has ls 1 [(0, .ref (E.2.2.2.2.1 k0))] := hl
  have hx := C.1
  have hb := C.2.1
  rw [hAe]
  clear hAe
  obtain ⟨Q, hQ⟩ : ∃ Q, Q = MQ below (Qi E A (z) (wJ0_length_8abf5 E)) args s 0 0 A := ⟨_, rfl⟩
  rw [← hQ]
  unfold fJ0_length_8abf5 at hf
  refine lv_aload_n (pc := 0) hx hb dJ0_length_8abf5_0 rfl (lv_at hl 0 rfl) ?_
  refine r_getc (pc := 1) C (C.kx.2.2.2.2.2 k0 hk0).2.2.1 hS sl_J0_9 dJ0_length_8abf5_1 ?_
  refine va_tlen (pc := 4) (v := Int32.ofNat (stl k0)) hx hb (C.kx.2.2.2.2.2 k0 hk0).2.2.2.1 hS rfl dJ0_length_8abf5_4 ?_
  refine lv_aload_n (pc := 5) hx hb dJ0_length_8abf5_5 rfl (lv_at hl 0 rfl) ?_
  obtain ⟨r_6, hc_6, hf⟩ := bd1 hf
  refine r_dalCi (pc := 6) (ws' := (wJ0_length_8abf5 E)) (As := []) (rest := [.int (Int32.ofNat (stl k0))]) C (ctJ0_coder_7d493 l E k0 hk0 N r_6 hc_6) ml_J0_335 ⟨Nat.le_of_ble_eq_true rfl, Nat.le_of_ble_eq_true rfl⟩ hP hD hS (recvO (C.kx.2.2.2.2.2 k0 hk0).1 hS) [] [] 0 rfl rfl rfl rfl rfl rfl rfl hl.1 rfl (Nat.le_of_ble_eq_true rfl) ⟨Nat.zero_le _, Nat.zero_le _⟩ dJ0_length_8abf5_6 ?_
  clear hP hD hS; intro H locs hP hD hS
  refine lv_ishr (pc := 9) hx hb dJ0_length_8abf5_9 ?_
  cases hf
  rw [hQ]
  exact r_iret C hr hP hD hS rfl dJ0_length_8abf5_10
def wJ0_isLatin1_aae02 (E : EN) : va_W := []
def fJ0_isLatin1_aae02 (N : Nat) : Option Int32 := jn (un0 (some 0)) (fun j17 => if 1 = (0 : Int32) then (j17 ()) else (if 0 = (0 : Int32) then (some 1) else (j17 ())))
set_option maxHeartbeats 4000000 in
set_option maxRecDepth 100000 in
theorem ctJ0_isLatin1_aae02 (l : Launch) (E : EN) (k0 : Nat) (hk0 : k0 < 24) (N : Nat) (z : Int32) (hf : fJ0_isLatin1_aae02 N  = some z) : CTi l E yJ0_isLatin1_aae02 cJ0_isLatin1_aae02 1 .boolean 0 0 [.ref (E.2.2.2.2.1 k0)] (wJ0_isLatin1_aae02 E) (z) (wJ0_isLatin1_aae02 E) := by
  intro sz
  refine ct_body (by decide) (Nat.le_of_ble_eq_true rfl) ?_
  intro p e s m args below meth c A ls hAe C hr hin hP hD hS hl
  have C : CX p s m args meth c cJ0_isLatin1_aae02 RJ0 1 E A := C
  have hl : lv_has ls 1 [(0, .ref (E.2.2.2.2.1 k0))] := hl
  have hx := C.1
  have hb := C.2.1
  rw [hAe]
  clear hAe
  obtain ⟨Q, hQ⟩ : ∃ Q, Q = MQ below (Qi E A (z) (wJ0_isLatin1_aae02 E)) args s 0 0 A := ⟨_, rfl⟩
  rw [← hQ]
  unfold fJ0_isLatin1_aae02 at hf
  refine r_gets (pc := 0) C C.kx.2.2.2.1 hS gs_J0_38 dJ0_isLatin1_aae02_0 ?_
  refine jnK hf (fun j17 ej17 hf => ?_)
  have hj17 : j17 () = some z → AT p l e (rmOf 0 0) s m args below meth c E A Q 0 0 1 [] (wJ0_isLatin1_aae02 E) 17 [] := by
    intro  hf H locs ls hl hP hD hS
    rw [ej17] at hf
    replace hf := un0_s hf
    refine lv_iconst (pc := 17) (v := 0) hx hb dJ0_isLatin1_aae02_17 (by decide) ?_
    cases hf
    rw [hQ]
    exact r_zret C hr hP hD hS (Or.inl rfl) rfl dJ0_isLatin1_aae02_18
  clear ej17
  refine lv_if_eq (pc := 3) (tgt := 17) hx hb dJ0_isLatin1_aae02_3 (by decide) (fun c_3 => ?_) (fun c_3 => ?_)
  · replace hf := it_t c_3 hf
    exact hj17  hf _ _ _ (lv_sub hl [] rfl) hP hD hS
  · replace hf := it_f c_3 hf
    refine lv_aload_n (pc := 6) hx hb dJ0_isLatin1_aae02_6 rfl (lv_at hl 0 rfl) ?_
    refine r_getc (pc := 7) C (C.kx.2.2.2.2.2 k0 hk0).2.1 hS sl_J0_15 dJ0_isLatin1_aae02_7 ?_
    refine lv_if_ne (pc := 10) (tgt := 17) hx hb dJ0_isLatin1_aae02_10 (by decide) (fun c_10 => ?_) (fun c_10 => ?_)
    · replace hf := it_f c_10 hf
      exact hj17  hf _ _ _ (lv_sub hl [] rfl) hP hD hS
    · replace hf := it_t c_10 hf
      refine lv_iconst (pc := 13) (v := 1) hx hb dJ0_isLatin1_aae02_13 (by decide) ?_
      refine lv_goto (pc := 14) (tgt := 18) hx hb dJ0_isLatin1_aae02_14 (by decide) ?_
      cases hf
      rw [hQ]
      exact r_zret C hr hP hD hS (Or.inr rfl) rfl dJ0_isLatin1_aae02_18
def wJ3_checkIndex_8e157 (E : EN) : va_W := []
def fJ3_checkIndex_8e157 (N : Nat) (p0 : Int32) (p1 : Int32) : Option Int32 := jn (un0 (none)) (fun j9 => if p0 < 0 then (j9 ()) else (if p0 < p1 then (some p0) else (j9 ())))
set_option maxHeartbeats 4000000 in
set_option maxRecDepth 100000 in
theorem ctJ3_checkIndex_8e157 (l : Launch) (E : EN) (N : Nat) (p0 : Int32) (p1 : Int32) (o2 : Option Nat) (z : Int32) (hf : fJ3_checkIndex_8e157 N p0 p1 = some z) : CTi l E yJ3_checkIndex_8e157 cJ3_checkIndex_8e157 3 .int 0 0 [.int p0, .int p1, va_rf o2] (wJ3_checkIndex_8e157 E) (z) (wJ3_checkIndex_8e157 E) := by
  intro sz
  refine ct_body (by decide) (by cases o2 <;> exact Nat.le_of_ble_eq_true rfl) ?_
  intro p e s m args below meth c A ls hAe C hr hin hP hD hS hl
  have C : CX p s m args meth c cJ3_checkIndex_8e157 RJ3 3 E A := C
  have hl : lv_has ls 3 [(0, .int p0), (1, .int p1), (2, va_rf o2)] := hl
  have hx := C.1
  have hb := C.2.1
  rw [hAe]
  clear hAe
  obtain ⟨Q, hQ⟩ : ∃ Q, Q = MQ below (Qi E A (z) (wJ3_checkIndex_8e157 E)) args s 0 0 A := ⟨_, rfl⟩
  rw [← hQ]
  unfold fJ3_checkIndex_8e157 at hf
  refine lv_iload_n (pc := 0) hx hb dJ3_checkIndex_8e157_0 rfl (lv_at hl 0 rfl) ?_
  refine jnK hf (fun j9 ej9 hf => ?_)
  have hj9 : j9 () = some z → AT p l e (rmOf 0 0) s m args below meth c E A Q 0 0 3 [(0, .int p0), (1, .int p1), (2, va_rf o2)] (wJ3_checkIndex_8e157 E) 9 [] := by
    intro  hf H locs ls hl hP hD hS
    rw [ej9] at hf
    replace hf := un0_s hf
    cases hf
  clear ej9
  refine lv_if_lt (pc := 1) (tgt := 9) hx hb dJ3_checkIndex_8e157_1 (by decide) (fun c_1 => ?_) (fun c_1 => ?_)
  · replace hf := it_t c_1 hf
    exact hj9  hf _ _ _ (lv_sub hl [0, 1, 2] rfl) hP hD hS
  · replace hf := it_f c_1 hf
    refine lv_iload_n (pc := 4) hx hb dJ3_checkIndex_8e157_4 rfl (lv_at hl 0 rfl) ?_
    refine lv_iload_n (pc := 5) hx hb dJ3_checkIndex_8e157_5 rfl (lv_at hl 1 rfl) ?_
    refine lv_icmp_lt (pc := 6) (tgt := 16) hx hb dJ3_checkIndex_8e157_6 (by decide) (fun c_6 => ?_) (fun c_6 => ?_)
    · replace hf := it_t c_6 hf
      refine lv_iload_n (pc := 16) hx hb dJ3_checkIndex_8e157_16 rfl (lv_at hl 0 rfl) ?_
      cases hf
      rw [hQ]
      exact r_iret C hr hP hD hS rfl dJ3_checkIndex_8e157_17
    · replace hf := it_f c_6 hf
      exact hj9  hf _ _ _ (lv_sub hl [0, 1, 2] rfl) hP hD hS
def wJ0_checkIndex_df160 (E : EN) : va_W := []
def fJ0_checkIndex_df160 (N : Nat) (p0 : Int32) (p1 : Int32) : Option Unit := (fJ3_checkIndex_8e157 N p0 p1).bind (un1 fun (r_5 : Int32) => some ())
set_option maxHeartbeats 4000000 in
set_option maxRecDepth 100000 in
theorem ctJ0_checkIndex_df160 (l : Launch) (E : EN) (N : Nat) (p0 : Int32) (p1 : Int32) (z : Unit) (hf : fJ0_checkIndex_df160 N p0 p1 = some z) : CTv l E yJ0_checkIndex_df160 cJ0_checkIndex_df160 2 1 22 [.int p0, .int p1] (wJ0_checkIndex_df160 E) (wJ0_checkIndex_df160 E) := by
  intro sz
  refine ct_body (by decide) (Nat.le_of_ble_eq_true rfl) ?_
  intro p e s m args below meth c A ls hAe C hr hin hP hD hS hl
  have C : CX p s m args meth c cJ0_checkIndex_df160 RJ0 2 E A := C
  have hl : lv_has ls 2 [(0, .int p0), (1, .int p1)] := hl
  have hx := C.1
  have hb := C.2.1
  rw [hAe]
  clear hAe
  obtain ⟨Q, hQ⟩ : ∃ Q, Q = MQ below (Qv E A (wJ0_checkIndex_df160 E)) args s 0 0 A := ⟨_, rfl⟩
  rw [← hQ]
  unfold fJ0_checkIndex_df160 at hf
  refine lv_iload_n (pc := 0) hx hb dJ0_checkIndex_df160_0 rfl (lv_at hl 0 rfl) ?_
  refine lv_iload_n (pc := 1) hx hb dJ0_checkIndex_df160_1 rfl (lv_at hl 1 rfl) ?_
  refine r_gets (pc := 2) C C.kx.2.2.2.2.1 hS gs_J0_1053 dJ0_checkIndex_df160_2 ?_
  obtain ⟨r_5, hc_5, hf⟩ := bd1 hf
  refine r_dalSi (pc := 5) (Cn := "") (h := 0) (ws' := (wJ0_checkIndex_df160 E)) (As := [.int p0, .int p1, va_rf E.2.2.2.2.2.2]) (rest := []) C (ctJ3_checkIndex_8e157 l E N p0 p1 E.2.2.2.2.2.2 r_5 hc_5) ml_J0_1059 ⟨Nat.le_of_ble_eq_true rfl, Nat.le_of_ble_eq_true rfl⟩ hP hD hS [] [] 0 rfl rfl rfl rfl rfl rfl rfl hl.1 rfl (Nat.le_of_ble_eq_true rfl) ⟨Nat.zero_le _, Nat.zero_le _⟩ dJ0_checkIndex_df160_5 ?_
  clear hP hD hS; intro H locs hP hD hS
  refine lv_pop (pc := 8) hx hb dJ0_checkIndex_df160_8 rfl ?_
  cases hf
  rw [hQ]
  exact r_vret C hr hP hD hS dJ0_checkIndex_df160_9
def wJ1_charAt_3b067 (E : EN) : va_W := []
def fJ1_charAt_3b067 (N : Nat) (k0 : Nat) (p1 : Int32) : Option Int32 := (fJ0_checkIndex_df160 N p1 (Int32.ofNat (stl k0))).bind (un0 (gd p1 (stl k0) (some ((((stb k0 p1.toNatClampNeg) &&& 255).toUInt32 % 65536).toInt32))))
set_option maxHeartbeats 4000000 in
set_option maxRecDepth 100000 in
theorem ctJ1_charAt_3b067 (l : Launch) (E : EN) (k0 : Nat) (hk0 : k0 < 24) (N : Nat) (p1 : Int32) (z : Int32) (hf : fJ1_charAt_3b067 N k0 p1 = some z) : CTi l E yJ1_charAt_3b067 cJ1_charAt_3b067 2 .char 2 43 [.ref (E.2.2.2.2.2.1 k0), .int p1] (wJ1_charAt_3b067 E) (z) (wJ1_charAt_3b067 E) := by
  intro sz
  refine ct_body (by decide) (Nat.le_of_ble_eq_true rfl) ?_
  intro p e s m args below meth c A ls hAe C hr hin hP hD hS hl
  have C : CX p s m args meth c cJ1_charAt_3b067 RJ1 2 E A := C
  have hl : lv_has ls 2 [(0, .ref (E.2.2.2.2.2.1 k0)), (1, .int p1)] := hl
  have hx := C.1
  have hb := C.2.1
  rw [hAe]
  clear hAe
  obtain ⟨Q, hQ⟩ : ∃ Q, Q = MQ below (Qi E A (z) (wJ1_charAt_3b067 E)) args s 0 0 A := ⟨_, rfl⟩
  rw [← hQ]
  unfold fJ1_charAt_3b067 at hf
  refine lv_iload_n (pc := 0) hx hb dJ1_charAt_3b067_0 rfl (lv_at hl 1 rfl) ?_
  refine lv_aload_n (pc := 1) hx hb dJ1_charAt_3b067_1 rfl (lv_at hl 0 rfl) ?_
  refine va_tlen (pc := 2) (v := Int32.ofNat (stl k0)) hx hb (C.kx.2.2.2.2.2 k0 hk0).2.2.2.1 hS rfl dJ1_charAt_3b067_2 ?_
  obtain ⟨hc_3, hf⟩ := bd0 hf
  refine r_dalSv (pc := 3) (Cn := "") (h := 0) (ws' := (wJ1_charAt_3b067 E)) (As := [.int p1, .int (Int32.ofNat (stl k0))]) (rest := []) C (ctJ0_checkIndex_df160 l E N p1 (Int32.ofNat (stl k0)) () hc_3) ml_J1_9 ⟨Nat.le_of_ble_eq_true rfl, Nat.le_of_ble_eq_true rfl⟩ hP hD hS [] [] 0 rfl rfl rfl rfl rfl rfl rfl hl.1 rfl (Nat.le_of_ble_eq_true rfl) ⟨Nat.zero_le _, Nat.zero_le _⟩ dJ1_charAt_3b067_3 ?_
  clear hP hD hS; intro H locs hP hD hS
  refine lv_aload_n (pc := 6) hx hb dJ1_charAt_3b067_6 rfl (lv_at hl 0 rfl) ?_
  refine lv_iload_n (pc := 7) hx hb dJ1_charAt_3b067_7 rfl (lv_at hl 1 rfl) ?_
  obtain ⟨hi_8, hf⟩ := gd_s hf
  refine va_tb (pc := 8) hx hb (C.kx.2.2.2.2.2 k0 hk0).2.2.2.1 hS hi_8 rfl dJ1_charAt_3b067_8 ?_
  refine lv_sipush (pc := 9) (v := 255) hx hb dJ1_charAt_3b067_9 (by decide) ?_
  refine lv_iand (pc := 12) hx hb dJ1_charAt_3b067_12 ?_
  refine lv_i2c (pc := 13) (v := (((stb k0 p1.toNatClampNeg) &&& 255).toUInt32 % 65536).toInt32) hx hb dJ1_charAt_3b067_13 rfl ?_
  cases hf
  rw [hQ]
  exact r_xret C hr hP hD hS (pk_nc _) rfl dJ1_charAt_3b067_14
def wJ0_charAt_5068e (E : EN) : va_W := []
def fJ0_charAt_5068e (N : Nat) (k0 : Nat) (p0 : Int32) : Option Int32 := (fJ0_isLatin1_aae02 N).bind (un1 fun (r_1 : Int32) => if r_1 = 0 then (none) else ((fJ1_charAt_3b067 N k0 p0).bind (un1 fun (r_12 : Int32) => hg r_12 (some r_12))))
set_option maxHeartbeats 4000000 in
set_option maxRecDepth 100000 in
theorem ctJ0_charAt_5068e (l : Launch) (E : EN) (k0 : Nat) (hk0 : k0 < 24) (N : Nat) (p0 : Int32) (z : Int32) (hf : fJ0_charAt_5068e N k0 p0 = some z) : CTi l E yJ0_charAt_5068e cJ0_charAt_5068e 2 .char 3 64 [.ref (E.2.2.2.2.1 k0), .int p0] (wJ0_charAt_5068e E) (z) (wJ0_charAt_5068e E) := by
  intro sz
  refine ct_body (by decide) (Nat.le_of_ble_eq_true rfl) ?_
  intro p e s m args below meth c A ls hAe C hr hin hP hD hS hl
  have C : CX p s m args meth c cJ0_charAt_5068e RJ0 2 E A := C
  have hl : lv_has ls 2 [(0, .ref (E.2.2.2.2.1 k0)), (1, .int p0)] := hl
  have hx := C.1
  have hb := C.2.1
  rw [hAe]
  clear hAe
  obtain ⟨Q, hQ⟩ : ∃ Q, Q = MQ below (Qi E A (z) (wJ0_charAt_5068e E)) args s 0 0 A := ⟨_, rfl⟩
  rw [← hQ]
  unfold fJ0_charAt_5068e at hf
  refine lv_aload_n (pc := 0) hx hb dJ0_charAt_5068e_0 rfl (lv_at hl 0 rfl) ?_
  obtain ⟨r_1, hc_1, hf⟩ := bd1 hf
  refine r_dalCi (pc := 1) (ws' := (wJ0_charAt_5068e E)) (As := []) (rest := []) C (ctJ0_isLatin1_aae02 l E k0 hk0 N r_1 hc_1) ml_J0_492 ⟨Nat.le_of_ble_eq_true rfl, Nat.le_of_ble_eq_true rfl⟩ hP hD hS (recvO (C.kx.2.2.2.2.2 k0 hk0).1 hS) [] [] 0 rfl rfl rfl rfl rfl rfl rfl hl.1 rfl (Nat.le_of_ble_eq_true rfl) ⟨Nat.zero_le _, Nat.zero_le _⟩ dJ0_charAt_5068e_1 ?_
  clear hP hD hS; intro H locs hP hD hS
  refine lv_if_eq (pc := 4) (tgt := 16) hx hb dJ0_charAt_5068e_4 (by decide) (fun c_4 => ?_) (fun c_4 => ?_)
  · replace hf := it_t c_4 hf
    refine lv_aload_n (pc := 16) hx hb dJ0_charAt_5068e_16 rfl (lv_at hl 0 rfl) ?_
    refine r_getc (pc := 17) C (C.kx.2.2.2.2.2 k0 hk0).2.2.1 hS sl_J0_9 dJ0_charAt_5068e_17 ?_
    refine lv_iload_n (pc := 20) hx hb dJ0_charAt_5068e_20 rfl (lv_at hl 1 rfl) ?_
    cases hf
  · replace hf := it_f c_4 hf
    refine lv_aload_n (pc := 7) hx hb dJ0_charAt_5068e_7 rfl (lv_at hl 0 rfl) ?_
    refine r_getc (pc := 8) C (C.kx.2.2.2.2.2 k0 hk0).2.2.1 hS sl_J0_9 dJ0_charAt_5068e_8 ?_
    refine lv_iload_n (pc := 11) hx hb dJ0_charAt_5068e_11 rfl (lv_at hl 1 rfl) ?_
    obtain ⟨r_12, hc_12, hf⟩ := bd1 hf
    refine r_dalSi (pc := 12) (Cn := "") (h := 0) (ws' := (wJ0_charAt_5068e E)) (As := [.ref (E.2.2.2.2.2.1 k0), .int p0]) (rest := []) C (ctJ1_charAt_3b067 l E k0 hk0 N p0 r_12 hc_12) ml_J0_495 ⟨Nat.le_of_ble_eq_true rfl, Nat.le_of_ble_eq_true rfl⟩ hP hD hS [] [] 0 rfl rfl rfl rfl rfl rfl rfl hl.1 rfl (Nat.le_of_ble_eq_true rfl) ⟨Nat.zero_le _, Nat.zero_le _⟩ dJ0_charAt_5068e_12 ?_
    clear hP hD hS; intro H locs hP hD hS
    obtain ⟨hz_15, hf⟩ := hg_s hf
    cases hf
    rw [hQ]
    exact r_xret C hr hP hD hS hz_15 rfl dJ0_charAt_5068e_15
def wX12_wordOf (E : EN) : va_W := []
def BX12_wordOf_4 (N : Nat) (k0 : Nat) (rec4 : (Int64 × Int32) → Option Int64) : (Int64 × Int32) → Option Int64 := un2 fun (x4_1 : Int64) (x4_3 : Int32) => (fJ0_length_8abf5 N k0).bind (un1 fun (r_6 : Int32) => if r_6 ≤ x4_3 then (some x4_1) else ((fJ0_charAt_5068e N k0 x4_3).bind (un1 fun (r_19 : Int32) => rec4 ((32 * x4_1) + (((r_19 - 97) + 1).toInt64), x4_3 + 1))))
def fX12_wordOf (N : Nat) (k0 : Nat) : Option Int64 := lp (BX12_wordOf_4 N k0) N (0, 0)
set_option maxHeartbeats 4000000 in
set_option maxRecDepth 100000 in
theorem ctX12_wordOf (l : Launch) (E : EN) (k0 : Nat) (hk0 : k0 < 24) (N : Nat) (z : Int64) (hf : fX12_wordOf N k0 = some z) : CTl l E yX12_wordOf cX12_wordOf 4 4 85 [.ref (E.2.2.2.2.1 k0)] (wX12_wordOf E) (z) (wX12_wordOf E) := by
  intro sz
  refine ct_body (by decide) (Nat.le_of_ble_eq_true rfl) ?_
  intro p e s m args below meth c A ls hAe C hr hin hP hD hS hl
  have C : CX p s m args meth c cX12_wordOf RX12 4 E A := C
  have hl : lv_has ls 4 [(0, .ref (E.2.2.2.2.1 k0))] := hl
  have hx := C.1
  have hb := C.2.1
  rw [hAe]
  clear hAe
  obtain ⟨Q, hQ⟩ : ∃ Q, Q = MQ below (Ql E A (z) (wX12_wordOf E)) args s 0 0 A := ⟨_, rfl⟩
  rw [← hQ]
  unfold fX12_wordOf at hf
  refine lv_lconst (pc := 0) (v := 0) hx hb dX12_wordOf_0 (by decide) ?_
  refine lv_lstore_n (pc := 1) (lv' := [(1, .long 0), (0, .ref (E.2.2.2.2.1 k0))]) hx hb dX12_wordOf_1 rfl hl (by decide) rfl (fun ls hl => ?_)
  refine lv_iconst (pc := 2) (v := 0) hx hb dX12_wordOf_2 (by decide) ?_
  refine lv_istore_n (pc := 3) (lv' := [(3, .int 0), (1, .long 0), (0, .ref (E.2.2.2.2.1 k0))]) hx hb dX12_wordOf_3 rfl hl (by decide) rfl (fun ls hl => ?_)
  have key4 : ∀ (n : Nat) (x4_1 : Int64) (x4_3 : Int32) , lp (BX12_wordOf_4 N k0) n (x4_1, x4_3) = some z → AT p l e (rmOf 4 85) s m args below meth c E A Q 0 0 4 [(0, .ref (E.2.2.2.2.1 k0)), (1, .long x4_1), (3, .int x4_3)] (wX12_wordOf E) 4 [] := by
    intro n
    induction n with
    | zero => intro x4_1 x4_3 hf; exact (lp_0 hf).elim
    | succ n ih4 =>
      intro x4_1 x4_3 hf H locs ls hl hP hD hS
      replace hf := lp_s hf
      generalize lp (BX12_wordOf_4 N k0) n = rec4 at ih4 hf
      unfold BX12_wordOf_4 at hf
      replace hf := un2_s hf
      refine lv_iload_n (pc := 4) hx hb dX12_wordOf_4 rfl (lv_at hl 2 rfl) ?_
      refine lv_aload_n (pc := 5) hx hb dX12_wordOf_5 rfl (lv_at hl 0 rfl) ?_
      obtain ⟨r_6, hc_6, hf⟩ := bd1 hf
      refine r_dalCi (pc := 6) (ws' := (wX12_wordOf E)) (As := []) (rest := [.int x4_3]) C (ctJ0_length_8abf5 l E k0 hk0 N r_6 hc_6) ml_X12_87 ⟨Nat.le_of_ble_eq_true rfl, Nat.le_of_ble_eq_true rfl⟩ hP hD hS (recvO (C.kx.2.2.2.2.2 k0 hk0).1 hS) [] [] 0 rfl rfl rfl rfl rfl rfl rfl hl.1 rfl (Nat.le_of_ble_eq_true rfl) ⟨Nat.zero_le _, Nat.zero_le _⟩ dX12_wordOf_6 ?_
      clear hP hD hS; intro H locs hP hD hS
      refine lv_icmp_ge (pc := 9) (tgt := 36) hx hb dX12_wordOf_9 (by decide) (fun c_9 => ?_) (fun c_9 => ?_)
      · replace hf := it_t c_9 hf
        refine lv_lload_n (pc := 36) hx hb dX12_wordOf_36 rfl (lv_at hl 1 rfl) ?_
        cases hf
        rw [hQ]
        exact r_lret C hr hP hD hS rfl dX12_wordOf_37
      · replace hf := it_f c_9 hf
        refine lv_ldc2 (pc := 12) (v := 32) hx hb C.2.2.2.1 (C.2.2.2.2.1 _ kl_X12_93) dX12_wordOf_12 ?_
        refine lv_lload_n (pc := 15) hx hb dX12_wordOf_15 rfl (lv_at hl 1 rfl) ?_
        refine lv_lmul (pc := 16) hx hb dX12_wordOf_16 ?_
        refine lv_aload_n (pc := 17) hx hb dX12_wordOf_17 rfl (lv_at hl 0 rfl) ?_
        refine lv_iload_n (pc := 18) hx hb dX12_wordOf_18 rfl (lv_at hl 2 rfl) ?_
        obtain ⟨r_19, hc_19, hf⟩ := bd1 hf
        refine r_dalCi (pc := 19) (ws' := (wX12_wordOf E)) (As := [.int x4_3]) (rest := [.long (32 * x4_1)]) C (ctJ0_charAt_5068e l E k0 hk0 N x4_3 r_19 hc_19) ml_X12_95 ⟨Nat.le_of_ble_eq_true rfl, Nat.le_of_ble_eq_true rfl⟩ hP hD hS (recvO (C.kx.2.2.2.2.2 k0 hk0).1 hS) [] [] 0 rfl rfl rfl rfl rfl rfl rfl hl.1 rfl (Nat.le_of_ble_eq_true rfl) ⟨Nat.zero_le _, Nat.zero_le _⟩ dX12_wordOf_19 ?_
        clear hP hD hS; intro H locs hP hD hS
        refine lv_bipush (pc := 22) (v := 97) hx hb dX12_wordOf_22 (by decide) ?_
        refine lv_isub (pc := 24) hx hb dX12_wordOf_24 ?_
        refine lv_iconst (pc := 25) (v := 1) hx hb dX12_wordOf_25 (by decide) ?_
        refine lv_iadd (pc := 26) hx hb dX12_wordOf_26 ?_
        refine lv_i2l (pc := 27) (v := ((r_19 - 97) + 1).toInt64) hx hb dX12_wordOf_27 rfl ?_
        refine lv_ladd (pc := 28) hx hb dX12_wordOf_28 ?_
        refine lv_lstore_n (pc := 29) (lv' := [(1, .long ((32 * x4_1) + (((r_19 - 97) + 1).toInt64))), (0, .ref (E.2.2.2.2.1 k0)), (3, .int x4_3)]) hx hb dX12_wordOf_29 rfl hl (by decide) rfl (fun ls hl => ?_)
        refine lv_iinc (pc := 30) (v := x4_3 + 1) (lv' := [(3, .int (x4_3 + 1)), (1, .long ((32 * x4_1) + (((r_19 - 97) + 1).toInt64))), (0, .ref (E.2.2.2.2.1 k0))]) hx hb dX12_wordOf_30 hl (k := 2) rfl rfl (by decide) rfl (fun ls hl => ?_)
        refine lv_goto (pc := 33) (tgt := 4) hx hb dX12_wordOf_33 (by decide) ?_
        exact ih4 ((32 * x4_1) + (((r_19 - 97) + 1).toInt64)) (x4_3 + 1) hf _ _ _ (lv_sub hl [2, 1, 0] rfl) hP hD hS
  exact key4 _ 0 0 hf _ _ _ (lv_sub hl [2, 1, 0] rfl) hP hD hS
def wX12_goesOn (E : EN) (h h_tape h_far h_from h_real h_other h_kept h_set h_w h_book h_noteSort h_whose h_what h_noteIs h_fitting h_dawn h_likes h_walked h_came : Nat) (v_thrown : Int32) (v_trouble : Int32) (v_where : Int32) (v_inn : Option Nat) (v_read : Option Nat) (v_taped : Int32) (v_size : Int32) (v_at : Int32) (v_sort : Int32) (v_place : Int32) (v_sign : Int32) (v_number : Int32) (v_fault : Int32) (v_wrongAt : Int32) (v_word : Int64) (v_marks : Int32) (v_notes : Int32) (v_tape : Nat → Int32) : va_W := [(h, .inr (11, [.int v_thrown, .int v_trouble, .int v_where, va_rf v_inn, va_rf v_read, .ref h_tape, .int v_taped, .int v_size, .int v_at, .int v_sort, .int v_place, .int v_sign, .int v_number, .int v_fault, .int v_wrongAt, .long v_word, .ref h_far, .ref h_from, .ref h_real, .ref h_other, .ref h_kept, .ref h_set, .ref h_w, .int v_marks, .int v_notes, .ref h_book, .ref h_noteSort, .ref h_whose, .ref h_what, .ref h_noteIs, .ref h_fitting, .ref h_dawn, .ref h_likes, .ref h_walked, .ref h_came])), (h_tape, aB E 900 v_tape)]
def BX12_goesOn_178 (N : Nat) (v_size : Int32) (v_tape : Nat → Int32) (K236 : (Int32 × Int32 × Int32) → Option (Int32 × Int32 × Int32 × Int32 × Int32 × Int64)) (rec178 : (Int32 × Int32 × Int32) → Option (Int32 × Int32 × Int32 × Int32 × Int32 × Int64)) : (Int32 × Int32 × Int32) → Option (Int32 × Int32 × Int32 × Int32 × Int32 × Int64) := un3 fun (x178_2 : Int32) (x178_at : Int32) (x178_number : Int32) => (fX12_byteAt N x178_at v_size v_tape).bind (un1 fun (r_183 : Int32) => (fX12_isDigit N r_183).bind (un1 fun (r_186 : Int32) => if r_186 = 0 then (K236 (x178_2, x178_at, x178_number)) else (jn (un1 fun (x220_number : Int32) => rec178 (x178_2 + 1, x178_at + 1, x220_number)) (fun j220 => if 3 ≤ x178_2 then (j220 x178_number) else ((fX12_byteAt N x178_at v_size v_tape).bind (un1 fun (r_210 : Int32) => j220 (((10 * x178_number) + r_210) - 48)))))))
def BX12_goesOn_89 (N : Nat) (v_size : Int32) (v_tape : Nat → Int32) (K152 : (Int32 × Int32 × Int64) → Option (Int32 × Int32 × Int32 × Int32 × Int32 × Int64)) (rec89 : (Int32 × Int32 × Int64) → Option (Int32 × Int32 × Int32 × Int32 × Int32 × Int64)) : (Int32 × Int32 × Int64) → Option (Int32 × Int32 × Int32 × Int32 × Int32 × Int64) := un3 fun (x89_2 : Int32) (x89_at : Int32) (x89_word : Int64) => (fX12_byteAt N x89_at v_size v_tape).bind (un1 fun (r_94 : Int32) => (fX12_isLetter N r_94).bind (un1 fun (r_97 : Int32) => if r_97 = 0 then (K152 (x89_2, x89_at, x89_word)) else (jn (un1 fun (x136_word : Int64) => rec89 (x89_2 + 1, x89_at + 1, x136_word)) (fun j136 => if 8 ≤ x89_2 then (j136 x89_word) else ((fX12_byteAt N x89_at v_size v_tape).bind (un1 fun (r_123 : Int32) => j136 ((32 * x89_word) + (((r_123 - 97) + 1).toInt64))))))))
def BX12_goesOn_9 (N : Nat) (v_size : Int32) (v_tape : Nat → Int32) (K35 : (Int32) → Option (Int32 × Int32 × Int32 × Int32 × Int32 × Int64)) (rec9 : (Int32) → Option (Int32 × Int32 × Int32 × Int32 × Int32 × Int64)) : (Int32) → Option (Int32 × Int32 × Int32 × Int32 × Int32 × Int64) := un1 fun (x9_at : Int32) => (fX12_byteAt N x9_at v_size v_tape).bind (un1 fun (r_14 : Int32) => if r_14 = 32 then (rec9 (x9_at + 1)) else (K35 x9_at))
def fX12_goesOn (N : Nat) (v_size : Int32) (v_at : Int32) (v_sort : Int32) (v_place : Int32) (v_sign : Int32) (v_number : Int32) (v_word : Int64) (v_tape : Nat → Int32) : Option (Int32 × Int32 × Int32 × Int32 × Int32 × Int64) := if v_sort = 5 then (some (v_at, v_sort, v_place, v_sign, v_number, v_word)) else (lp (BX12_goesOn_9 N v_size v_tape (un1 fun (x35_at : Int32) => (fX12_byteAt N x35_at v_size v_tape).bind (un1 fun (r_58 : Int32) => if r_58 = (-1) then (some (x35_at, 1, x35_at, 0, v_number, v_word)) else ((fX12_isLetter N r_58).bind (un1 fun (r_78 : Int32) => if r_78 = 0 then ((fX12_isDigit N r_58).bind (un1 fun (r_167 : Int32) => if r_167 = 0 then (jn (un0 (some (x35_at + 1, 4, x35_at, r_58, v_number, v_word))) (fun j261 => if r_58 = 59 then (j261 ()) else (if r_58 = 44 then (j261 ()) else (some (x35_at, 0, x35_at, 0, v_number, v_word))))) else (lp (BX12_goesOn_178 N v_size v_tape (un3 fun (x236_2 : Int32) (x236_at : Int32) (x236_number : Int32) => if 3 < x236_2 then (some (x236_at, 0, x35_at, 0, x236_number, v_word)) else (some (x236_at, 3, x35_at, 0, x236_number, v_word)))) N (0, x35_at, 0)))) else (lp (BX12_goesOn_89 N v_size v_tape (un3 fun (x152_2 : Int32) (x152_at : Int32) (x152_word : Int64) => if 8 < x152_2 then (some (x152_at, 0, x35_at, 0, v_number, x152_word)) else (some (x152_at, 2, x35_at, 0, v_number, x152_word)))) N (0, x35_at, 0))))))) N v_at)
set_option maxHeartbeats 4000000 in
set_option maxRecDepth 100000 in
theorem ctX12_goesOn (l : Launch) (E : EN) (h h_tape h_far h_from h_real h_other h_kept h_set h_w h_book h_noteSort h_whose h_what h_noteIs h_fitting h_dawn h_likes h_walked h_came : Nat) (v_thrown : Int32) (v_trouble : Int32) (v_where : Int32) (v_inn : Option Nat) (v_read : Option Nat) (v_taped : Int32) (v_size : Int32) (v_at : Int32) (v_sort : Int32) (v_place : Int32) (v_sign : Int32) (v_number : Int32) (v_fault : Int32) (v_wrongAt : Int32) (v_word : Int64) (v_marks : Int32) (v_notes : Int32) (v_tape : Nat → Int32) (N : Nat) (z : Int32 × Int32 × Int32 × Int32 × Int32 × Int64) (hf : fX12_goesOn N v_size v_at v_sort v_place v_sign v_number v_word v_tape = some z) : CTv l E yX12_goesOn cX12_goesOn 3 1 21 [.ref h] (wX12_goesOn E h h_tape h_far h_from h_real h_other h_kept h_set h_w h_book h_noteSort h_whose h_what h_noteIs h_fitting h_dawn h_likes h_walked h_came v_thrown v_trouble v_where v_inn v_read v_taped v_size v_at v_sort v_place v_sign v_number v_fault v_wrongAt v_word v_marks v_notes v_tape) (wX12_goesOn E h h_tape h_far h_from h_real h_other h_kept h_set h_w h_book h_noteSort h_whose h_what h_noteIs h_fitting h_dawn h_likes h_walked h_came v_thrown v_trouble v_where v_inn v_read v_taped v_size z.1 z.2.1 z.2.2.1 z.2.2.2.1 z.2.2.2.2.1 v_fault v_wrongAt z.2.2.2.2.2 v_marks v_notes v_tape) := by
  intro sz
  refine ct_body (by decide) (Nat.le_of_ble_eq_true rfl) ?_
  intro p e s m args below meth c A ls hAe C hr hin hP hD hS hl
  have C : CX p s m args meth c cX12_goesOn RX12 3 E A := C
  have hl : lv_has ls 3 [(0, .ref h)] := hl
  have hx := C.1
  have hb := C.2.1
  rw [hAe]
  clear hAe
  obtain ⟨Q, hQ⟩ : ∃ Q, Q = MQ below (Qv E A (wX12_goesOn E h h_tape h_far h_from h_real h_other h_kept h_set h_w h_book h_noteSort h_whose h_what h_noteIs h_fitting h_dawn h_likes h_walked h_came v_thrown v_trouble v_where v_inn v_read v_taped v_size z.1 z.2.1 z.2.2.1 z.2.2.2.1 z.2.2.2.2.1 v_fault v_wrongAt z.2.2.2.2.2 v_marks v_notes v_tape)) args s 0 0 A := ⟨_, rfl⟩
  rw [← hQ]
  unfold fX12_goesOn at hf
  refine lv_aload_n (pc := 0) hx hb dX12_goesOn_0 rfl (lv_at hl 0 rfl) ?_
  refine r_get (pc := 1) C hP 0 rfl fl_X12_99 rfl dX12_goesOn_1 ?_
  refine lv_iconst (pc := 4) (v := 5) hx hb dX12_goesOn_4 (by decide) ?_
  refine lv_icmp_ne (pc := 5) (tgt := 9) hx hb dX12_goesOn_5 (by decide) (fun c_5 => ?_) (fun c_5 => ?_)
  · replace hf := it_f c_5 hf
    refine lpK hf (fun K35 eK35 hf => ?_)
    have hK35 : ∀ (x35_at : Int32) , K35 x35_at = some z → AT p l e (rmOf 1 21) s m args below meth c E A Q 0 0 3 [(0, .ref h)] (wX12_goesOn E h h_tape h_far h_from h_real h_other h_kept h_set h_w h_book h_noteSort h_whose h_what h_noteIs h_fitting h_dawn h_likes h_walked h_came v_thrown v_trouble v_where v_inn v_read v_taped v_size x35_at v_sort v_place v_sign v_number v_fault v_wrongAt v_word v_marks v_notes v_tape) 35 [] := by
      intro x35_at hf H locs ls hl hP hD hS
      rw [eK35] at hf
      replace hf := un1_s hf
      refine lv_aload_n (pc := 35) hx hb dX12_goesOn_35 rfl (lv_at hl 0 rfl) ?_
      refine lv_aload_n (pc := 36) hx hb dX12_goesOn_36 rfl (lv_at hl 0 rfl) ?_
      refine r_get (pc := 37) C hP 0 rfl fl_X12_102 rfl dX12_goesOn_37 ?_
      refine r_put (pc := 40) (ws' := (wX12_goesOn E h h_tape h_far h_from h_real h_other h_kept h_set h_w h_book h_noteSort h_whose h_what h_noteIs h_fitting h_dawn h_likes h_walked h_came v_thrown v_trouble v_where v_inn v_read v_taped v_size x35_at v_sort x35_at v_sign v_number v_fault v_wrongAt v_word v_marks v_notes v_tape)) C hP hD hS 0 rfl fl_X12_108 rfl rfl (Nat.le_of_ble_eq_true rfl) rfl dX12_goesOn_40 ?_
      clear hP hD hS; intro H locs hP hD hS
      refine lv_aload_n (pc := 43) hx hb dX12_goesOn_43 rfl (lv_at hl 0 rfl) ?_
      refine lv_iconst (pc := 44) (v := 0) hx hb dX12_goesOn_44 (by decide) ?_
      refine r_put (pc := 45) (ws' := (wX12_goesOn E h h_tape h_far h_from h_real h_other h_kept h_set h_w h_book h_noteSort h_whose h_what h_noteIs h_fitting h_dawn h_likes h_walked h_came v_thrown v_trouble v_where v_inn v_read v_taped v_size x35_at 0 x35_at v_sign v_number v_fault v_wrongAt v_word v_marks v_notes v_tape)) C hP hD hS 0 rfl fl_X12_99 rfl rfl (Nat.le_of_ble_eq_true rfl) rfl dX12_goesOn_45 ?_
      clear hP hD hS; intro H locs hP hD hS
      refine lv_aload_n (pc := 48) hx hb dX12_goesOn_48 rfl (lv_at hl 0 rfl) ?_
      refine lv_iconst (pc := 49) (v := 0) hx hb dX12_goesOn_49 (by decide) ?_
      refine r_put (pc := 50) (ws' := (wX12_goesOn E h h_tape h_far h_from h_real h_other h_kept h_set h_w h_book h_noteSort h_whose h_what h_noteIs h_fitting h_dawn h_likes h_walked h_came v_thrown v_trouble v_where v_inn v_read v_taped v_size x35_at 0 x35_at 0 v_number v_fault v_wrongAt v_word v_marks v_notes v_tape)) C hP hD hS 0 rfl fl_X12_111 rfl rfl (Nat.le_of_ble_eq_true rfl) rfl dX12_goesOn_50 ?_
      clear hP hD hS; intro H locs hP hD hS
      refine lv_aload_n (pc := 53) hx hb dX12_goesOn_53 rfl (lv_at hl 0 rfl) ?_
      refine lv_aload_n (pc := 54) hx hb dX12_goesOn_54 rfl (lv_at hl 0 rfl) ?_
      refine r_get (pc := 55) C hP 0 rfl fl_X12_102 rfl dX12_goesOn_55 ?_
      obtain ⟨r_58, hc_58, hf⟩ := bd1 hf
      refine r_dalVi (pc := 58) (ws' := (wX12_goesOn E h h_tape h_far h_from h_real h_other h_kept h_set h_w h_book h_noteSort h_whose h_what h_noteIs h_fitting h_dawn h_likes h_walked h_came v_thrown v_trouble v_where v_inn v_read v_taped v_size x35_at 0 x35_at 0 v_number v_fault v_wrongAt v_word v_marks v_notes v_tape)) (As := [.int x35_at]) (rest := []) C (ctX12_byteAt l E h h_tape h_far h_from h_real h_other h_kept h_set h_w h_book h_noteSort h_whose h_what h_noteIs h_fitting h_dawn h_likes h_walked h_came v_thrown v_trouble v_where v_inn v_read v_taped v_size x35_at 0 x35_at 0 v_number v_fault v_wrongAt v_word v_marks v_notes v_tape N x35_at r_58 hc_58) ml_X12_105 ⟨Nat.le_of_ble_eq_true rfl, Nat.le_of_ble_eq_true rfl⟩ hP hD hS 0 rfl rfl rfl [0, 1] [2, 3] 2 rfl rfl rfl rfl rfl rfl rfl hl.1 rfl (Nat.le_of_ble_eq_true rfl) ⟨Nat.zero_le _, Nat.zero_le _⟩ dX12_goesOn_58 ?_
      clear hP hD hS; intro H locs hP hD hS
      refine lv_istore_n (pc := 61) (lv' := [(1, .int r_58), (0, .ref h)]) hx hb dX12_goesOn_61 rfl hl (by decide) rfl (fun ls hl => ?_)
      refine lv_iconst (pc := 62) (v := 0) hx hb dX12_goesOn_62 (by decide) ?_
      refine lv_istore_n (pc := 63) (lv' := [(2, .int 0), (1, .int r_58), (0, .ref h)]) hx hb dX12_goesOn_63 rfl hl (by decide) rfl (fun ls hl => ?_)
      refine lv_iload_n (pc := 64) hx hb dX12_goesOn_64 rfl (lv_at hl 1 rfl) ?_
      refine lv_iconst (pc := 65) (v := (-1)) hx hb dX12_goesOn_65 (by decide) ?_
      refine lv_icmp_ne (pc := 66) (tgt := 77) hx hb dX12_goesOn_66 (by decide) (fun c_66 => ?_) (fun c_66 => ?_)
      · replace hf := it_f c_66 hf
        refine lv_iload_n (pc := 77) hx hb dX12_goesOn_77 rfl (lv_at hl 1 rfl) ?_
        obtain ⟨r_78, hc_78, hf⟩ := bd1 hf
        refine r_dalSi (pc := 78) (Cn := "") (h := 0) (ws' := (wX12_goesOn E h h_tape h_far h_from h_real h_other h_kept h_set h_w h_book h_noteSort h_whose h_what h_noteIs h_fitting h_dawn h_likes h_walked h_came v_thrown v_trouble v_where v_inn v_read v_taped v_size x35_at 0 x35_at 0 v_number v_fault v_wrongAt v_word v_marks v_notes v_tape)) (As := [.int r_58]) (rest := []) C (ctX12_isLetter l E N r_58 r_78 hc_78) ml_X12_114 ⟨Nat.le_of_ble_eq_true rfl, Nat.le_of_ble_eq_true rfl⟩ hP hD hS [] [0, 1] 2 rfl rfl rfl rfl rfl rfl rfl hl.1 rfl (Nat.le_of_ble_eq_true rfl) ⟨Nat.zero_le _, Nat.zero_le _⟩ dX12_goesOn_78 ?_
        clear hP hD hS; intro H locs hP hD hS
        refine lv_if_eq (pc := 81) (tgt := 166) hx hb dX12_goesOn_81 (by decide) (fun c_81 => ?_) (fun c_81 => ?_)
        · replace hf := it_t c_81 hf
          refine lv_iload_n (pc := 166) hx hb dX12_goesOn_166 rfl (lv_at hl 1 rfl) ?_
          obtain ⟨r_167, hc_167, hf⟩ := bd1 hf
          refine r_dalSi (pc := 167) (Cn := "") (h := 0) (ws' := (wX12_goesOn E h h_tape h_far h_from h_real h_other h_kept h_set h_w h_book h_noteSort h_whose h_what h_noteIs h_fitting h_dawn h_likes h_walked h_came v_thrown v_trouble v_where v_inn v_read v_taped v_size x35_at 0 x35_at 0 v_number v_fault v_wrongAt v_word v_marks v_notes v_tape)) (As := [.int r_58]) (rest := []) C (ctX12_isDigit l E N r_58 r_167 hc_167) ml_X12_122 ⟨Nat.le_of_ble_eq_true rfl, Nat.le_of_ble_eq_true rfl⟩ hP hD hS [] [0, 1] 2 rfl rfl rfl rfl rfl rfl rfl hl.1 rfl (Nat.le_of_ble_eq_true rfl) ⟨Nat.zero_le _, Nat.zero_le _⟩ dX12_goesOn_167 ?_
          clear hP hD hS; intro H locs hP hD hS
          refine lv_if_eq (pc := 170) (tgt := 249) hx hb dX12_goesOn_170 (by decide) (fun c_170 => ?_) (fun c_170 => ?_)
          · replace hf := it_t c_170 hf
            refine lv_iload_n (pc := 249) hx hb dX12_goesOn_249 rfl (lv_at hl 1 rfl) ?_
            refine lv_bipush (pc := 250) (v := 59) hx hb dX12_goesOn_250 (by decide) ?_
            refine jnK hf (fun j261 ej261 hf => ?_)
            have hj261 : j261 () = some z → AT p l e (rmOf 1 21) s m args below meth c E A Q 0 0 3 [(0, .ref h), (1, .int r_58)] (wX12_goesOn E h h_tape h_far h_from h_real h_other h_kept h_set h_w h_book h_noteSort h_whose h_what h_noteIs h_fitting h_dawn h_likes h_walked h_came v_thrown v_trouble v_where v_inn v_read v_taped v_size x35_at 0 x35_at 0 v_number v_fault v_wrongAt v_word v_marks v_notes v_tape) 261 [] := by
              intro  hf H locs ls hl hP hD hS
              rw [ej261] at hf
              replace hf := un0_s hf
              refine lv_aload_n (pc := 261) hx hb dX12_goesOn_261 rfl (lv_at hl 0 rfl) ?_
              refine lv_iconst (pc := 262) (v := 4) hx hb dX12_goesOn_262 (by decide) ?_
              refine r_put (pc := 263) (ws' := (wX12_goesOn E h h_tape h_far h_from h_real h_other h_kept h_set h_w h_book h_noteSort h_whose h_what h_noteIs h_fitting h_dawn h_likes h_walked h_came v_thrown v_trouble v_where v_inn v_read v_taped v_size x35_at 4 x35_at 0 v_number v_fault v_wrongAt v_word v_marks v_notes v_tape)) C hP hD hS 0 rfl fl_X12_99 rfl rfl (Nat.le_of_ble_eq_true rfl) rfl dX12_goesOn_263 ?_
              clear hP hD hS; intro H locs hP hD hS
              refine lv_aload_n (pc := 266) hx hb dX12_goesOn_266 rfl (lv_at hl 0 rfl) ?_
              refine lv_iload_n (pc := 267) hx hb dX12_goesOn_267 rfl (lv_at hl 1 rfl) ?_
              refine r_put (pc := 268) (ws' := (wX12_goesOn E h h_tape h_far h_from h_real h_other h_kept h_set h_w h_book h_noteSort h_whose h_what h_noteIs h_fitting h_dawn h_likes h_walked h_came v_thrown v_trouble v_where v_inn v_read v_taped v_size x35_at 4 x35_at r_58 v_number v_fault v_wrongAt v_word v_marks v_notes v_tape)) C hP hD hS 0 rfl fl_X12_111 rfl rfl (Nat.le_of_ble_eq_true rfl) rfl dX12_goesOn_268 ?_
              clear hP hD hS; intro H locs hP hD hS
              refine lv_aload_n (pc := 271) hx hb dX12_goesOn_271 rfl (lv_at hl 0 rfl) ?_
              refine lv_dup (pc := 272) hx hb dX12_goesOn_272 rfl ?_
              refine r_get (pc := 273) C hP 0 rfl fl_X12_102 rfl dX12_goesOn_273 ?_
              refine lv_iconst (pc := 276) (v := 1) hx hb dX12_goesOn_276 (by decide) ?_
              refine lv_iadd (pc := 277) hx hb dX12_goesOn_277 ?_
              refine r_put (pc := 278) (ws' := (wX12_goesOn E h h_tape h_far h_from h_real h_other h_kept h_set h_w h_book h_noteSort h_whose h_what h_noteIs h_fitting h_dawn h_likes h_walked h_came v_thrown v_trouble v_where v_inn v_read v_taped v_size (x35_at + 1) 4 x35_at r_58 v_number v_fault v_wrongAt v_word v_marks v_notes v_tape)) C hP hD hS 0 rfl fl_X12_102 rfl rfl (Nat.le_of_ble_eq_true rfl) rfl dX12_goesOn_278 ?_
              clear hP hD hS; intro H locs hP hD hS
              cases hf
              rw [hQ]
              exact r_vret C hr hP hD hS dX12_goesOn_281
            clear ej261
            refine lv_icmp_eq (pc := 252) (tgt := 261) hx hb dX12_goesOn_252 (by decide) (fun c_252 => ?_) (fun c_252 => ?_)
            · replace hf := it_t c_252 hf
              exact hj261  hf _ _ _ (lv_sub hl [2, 1] rfl) hP hD hS
            · replace hf := it_f c_252 hf
              refine lv_iload_n (pc := 255) hx hb dX12_goesOn_255 rfl (lv_at hl 1 rfl) ?_
              refine lv_bipush (pc := 256) (v := 44) hx hb dX12_goesOn_256 (by decide) ?_
              refine lv_icmp_ne (pc := 258) (tgt := 281) hx hb dX12_goesOn_258 (by decide) (fun c_258 => ?_) (fun c_258 => ?_)
              · replace hf := it_f c_258 hf
                cases hf
                rw [hQ]
                exact r_vret C hr hP hD hS dX12_goesOn_281
              · replace hf := it_t c_258 hf
                exact hj261  hf _ _ _ (lv_sub hl [2, 1] rfl) hP hD hS
          · replace hf := it_f c_170 hf
            refine lv_aload_n (pc := 173) hx hb dX12_goesOn_173 rfl (lv_at hl 2 rfl) ?_
            refine lv_iconst (pc := 174) (v := 0) hx hb dX12_goesOn_174 (by decide) ?_
            refine r_put (pc := 175) (ws' := (wX12_goesOn E h h_tape h_far h_from h_real h_other h_kept h_set h_w h_book h_noteSort h_whose h_what h_noteIs h_fitting h_dawn h_likes h_walked h_came v_thrown v_trouble v_where v_inn v_read v_taped v_size x35_at 0 x35_at 0 0 v_fault v_wrongAt v_word v_marks v_notes v_tape)) C hP hD hS 0 rfl fl_X12_125 rfl rfl (Nat.le_of_ble_eq_true rfl) rfl dX12_goesOn_175 ?_
            clear hP hD hS; intro H locs hP hD hS
            refine lpK hf (fun K236 eK236 hf => ?_)
            have hK236 : ∀ (x236_2 : Int32) (x236_at : Int32) (x236_number : Int32) , K236 (x236_2, x236_at, x236_number) = some z → AT p l e (rmOf 1 21) s m args below meth c E A Q 0 0 3 [(0, .ref h), (2, .int x236_2)] (wX12_goesOn E h h_tape h_far h_from h_real h_other h_kept h_set h_w h_book h_noteSort h_whose h_what h_noteIs h_fitting h_dawn h_likes h_walked h_came v_thrown v_trouble v_where v_inn v_read v_taped v_size x236_at 0 x35_at 0 x236_number v_fault v_wrongAt v_word v_marks v_notes v_tape) 236 [] := by
              intro x236_2 x236_at x236_number hf H locs ls hl hP hD hS
              rw [eK236] at hf
              replace hf := un3_s hf
              refine lv_iload_n (pc := 236) hx hb dX12_goesOn_236 rfl (lv_at hl 1 rfl) ?_
              refine lv_iconst (pc := 237) (v := 3) hx hb dX12_goesOn_237 (by decide) ?_
              refine lv_icmp_gt (pc := 238) (tgt := 281) hx hb dX12_goesOn_238 (by decide) (fun c_238 => ?_) (fun c_238 => ?_)
              · replace hf := it_t c_238 hf
                cases hf
                rw [hQ]
                exact r_vret C hr hP hD hS dX12_goesOn_281
              · replace hf := it_f c_238 hf
                refine lv_aload_n (pc := 241) hx hb dX12_goesOn_241 rfl (lv_at hl 0 rfl) ?_
                refine lv_iconst (pc := 242) (v := 3) hx hb dX12_goesOn_242 (by decide) ?_
                refine r_put (pc := 243) (ws' := (wX12_goesOn E h h_tape h_far h_from h_real h_other h_kept h_set h_w h_book h_noteSort h_whose h_what h_noteIs h_fitting h_dawn h_likes h_walked h_came v_thrown v_trouble v_where v_inn v_read v_taped v_size x236_at 3 x35_at 0 x236_number v_fault v_wrongAt v_word v_marks v_notes v_tape)) C hP hD hS 0 rfl fl_X12_99 rfl rfl (Nat.le_of_ble_eq_true rfl) rfl dX12_goesOn_243 ?_
                clear hP hD hS; intro H locs hP hD hS
                refine lv_goto (pc := 246) (tgt := 281) hx hb dX12_goesOn_246 (by decide) ?_
                cases hf
                rw [hQ]
                exact r_vret C hr hP hD hS dX12_goesOn_281
            clear eK236
            have key178 : ∀ (n : Nat) (x178_2 : Int32) (x178_at : Int32) (x178_number : Int32) , lp (BX12_goesOn_178 N v_size v_tape K236) n (x178_2, x178_at, x178_number) = some z → AT p l e (rmOf 1 21) s m args below meth c E A Q 0 0 3 [(0, .ref h), (2, .int x178_2)] (wX12_goesOn E h h_tape h_far h_from h_real h_other h_kept h_set h_w h_book h_noteSort h_whose h_what h_noteIs h_fitting h_dawn h_likes h_walked h_came v_thrown v_trouble v_where v_inn v_read v_taped v_size x178_at 0 x35_at 0 x178_number v_fault v_wrongAt v_word v_marks v_notes v_tape) 178 [] := by
              intro n
              induction n with
              | zero => intro x178_2 x178_at x178_number hf; exact (lp_0 hf).elim
              | succ n ih178 =>
                intro x178_2 x178_at x178_number hf H locs ls hl hP hD hS
                replace hf := lp_s hf
                generalize lp (BX12_goesOn_178 N v_size v_tape K236) n = rec178 at ih178 hf
                unfold BX12_goesOn_178 at hf
                replace hf := un3_s hf
                refine lv_aload_n (pc := 178) hx hb dX12_goesOn_178 rfl (lv_at hl 0 rfl) ?_
                refine lv_aload_n (pc := 179) hx hb dX12_goesOn_179 rfl (lv_at hl 0 rfl) ?_
                refine r_get (pc := 180) C hP 0 rfl fl_X12_102 rfl dX12_goesOn_180 ?_
                obtain ⟨r_183, hc_183, hf⟩ := bd1 hf
                refine r_dalVi (pc := 183) (ws' := (wX12_goesOn E h h_tape h_far h_from h_real h_other h_kept h_set h_w h_book h_noteSort h_whose h_what h_noteIs h_fitting h_dawn h_likes h_walked h_came v_thrown v_trouble v_where v_inn v_read v_taped v_size x178_at 0 x35_at 0 x178_number v_fault v_wrongAt v_word v_marks v_notes v_tape)) (As := [.int x178_at]) (rest := []) C (ctX12_byteAt l E h h_tape h_far h_from h_real h_other h_kept h_set h_w h_book h_noteSort h_whose h_what h_noteIs h_fitting h_dawn h_likes h_walked h_came v_thrown v_trouble v_where v_inn v_read v_taped v_size x178_at 0 x35_at 0 x178_number v_fault v_wrongAt v_word v_marks v_notes v_tape N x178_at r_183 hc_183) ml_X12_105 ⟨Nat.le_of_ble_eq_true rfl, Nat.le_of_ble_eq_true rfl⟩ hP hD hS 0 rfl rfl rfl [0, 1] [2, 3] 2 rfl rfl rfl rfl rfl rfl rfl hl.1 rfl (Nat.le_of_ble_eq_true rfl) ⟨Nat.zero_le _, Nat.zero_le _⟩ dX12_goesOn_183 ?_
                clear hP hD hS; intro H locs hP hD hS
                obtain ⟨r_186, hc_186, hf⟩ := bd1 hf
                refine r_dalSi (pc := 186) (Cn := "") (h := 0) (ws' := (wX12_goesOn E h h_tape h_far h_from h_real h_other h_kept h_set h_w h_book h_noteSort h_whose h_what h_noteIs h_fitting h_dawn h_likes h_walked h_came v_thrown v_trouble v_where v_inn v_read v_taped v_size x178_at 0 x35_at 0 x178_number v_fault v_wrongAt v_word v_marks v_notes v_tape)) (As := [.int r_183]) (rest := []) C (ctX12_isDigit l E N r_183 r_186 hc_186) ml_X12_122 ⟨Nat.le_of_ble_eq_true rfl, Nat.le_of_ble_eq_true rfl⟩ hP hD hS [] [0, 1] 2 rfl rfl rfl rfl rfl rfl rfl hl.1 rfl (Nat.le_of_ble_eq_true rfl) ⟨Nat.zero_le _, Nat.zero_le _⟩ dX12_goesOn_186 ?_
                clear hP hD hS; intro H locs hP hD hS
                refine lv_if_eq (pc := 189) (tgt := 236) hx hb dX12_goesOn_189 (by decide) (fun c_189 => ?_) (fun c_189 => ?_)
                · replace hf := it_t c_189 hf
                  exact hK236 x178_2 x178_at x178_number hf _ _ _ (lv_sub hl [0, 1] rfl) hP hD hS
                · replace hf := it_f c_189 hf
                  refine lv_iload_n (pc := 192) hx hb dX12_goesOn_192 rfl (lv_at hl 1 rfl) ?_
                  refine lv_iconst (pc := 193) (v := 3) hx hb dX12_goesOn_193 (by decide) ?_
                  refine jnK hf (fun j220 ej220 hf => ?_)
                  have hj220 : ∀ (x220_number : Int32) , j220 x220_number = some z → AT p l e (rmOf 1 21) s m args below meth c E A Q 0 0 3 [(0, .ref h), (2, .int x178_2)] (wX12_goesOn E h h_tape h_far h_from h_real h_other h_kept h_set h_w h_book h_noteSort h_whose h_what h_noteIs h_fitting h_dawn h_likes h_walked h_came v_thrown v_trouble v_where v_inn v_read v_taped v_size x178_at 0 x35_at 0 x220_number v_fault v_wrongAt v_word v_marks v_notes v_tape) 220 [] := by
                    intro x220_number hf H locs ls hl hP hD hS
                    rw [ej220] at hf
                    replace hf := un1_s hf
                    refine lv_iinc (pc := 220) (v := x178_2 + 1) (lv' := [(2, .int (x178_2 + 1)), (0, .ref h)]) hx hb dX12_goesOn_220 hl (k := 1) rfl rfl (by decide) rfl (fun ls hl => ?_)
                    refine lv_aload_n (pc := 223) hx hb dX12_goesOn_223 rfl (lv_at hl 1 rfl) ?_
                    refine lv_dup (pc := 224) hx hb dX12_goesOn_224 rfl ?_
                    refine r_get (pc := 225) C hP 0 rfl fl_X12_102 rfl dX12_goesOn_225 ?_
                    refine lv_iconst (pc := 228) (v := 1) hx hb dX12_goesOn_228 (by decide) ?_
                    refine lv_iadd (pc := 229) hx hb dX12_goesOn_229 ?_
                    refine r_put (pc := 230) (ws' := (wX12_goesOn E h h_tape h_far h_from h_real h_other h_kept h_set h_w h_book h_noteSort h_whose h_what h_noteIs h_fitting h_dawn h_likes h_walked h_came v_thrown v_trouble v_where v_inn v_read v_taped v_size (x178_at + 1) 0 x35_at 0 x220_number v_fault v_wrongAt v_word v_marks v_notes v_tape)) C hP hD hS 0 rfl fl_X12_102 rfl rfl (Nat.le_of_ble_eq_true rfl) rfl dX12_goesOn_230 ?_
                    clear hP hD hS; intro H locs hP hD hS
                    refine lv_goto (pc := 233) (tgt := 178) hx hb dX12_goesOn_233 (by decide) ?_
                    exact ih178 (x178_2 + 1) (x178_at + 1) x220_number hf _ _ _ (lv_sub hl [1, 0] rfl) hP hD hS
                  clear ej220
                  refine lv_icmp_ge (pc := 194) (tgt := 220) hx hb dX12_goesOn_194 (by decide) (fun c_194 => ?_) (fun c_194 => ?_)
                  · replace hf := it_t c_194 hf
                    exact hj220 x178_number hf _ _ _ (lv_sub hl [0, 1] rfl) hP hD hS
                  · replace hf := it_f c_194 hf
                    refine lv_aload_n (pc := 197) hx hb dX12_goesOn_197 rfl (lv_at hl 0 rfl) ?_
                    refine lv_bipush (pc := 198) (v := 10) hx hb dX12_goesOn_198 (by decide) ?_
                    refine lv_aload_n (pc := 200) hx hb dX12_goesOn_200 rfl (lv_at hl 0 rfl) ?_
                    refine r_get (pc := 201) C hP 0 rfl fl_X12_125 rfl dX12_goesOn_201 ?_
                    refine lv_imul (pc := 204) hx hb dX12_goesOn_204 ?_
                    refine lv_aload_n (pc := 205) hx hb dX12_goesOn_205 rfl (lv_at hl 0 rfl) ?_
                    refine lv_aload_n (pc := 206) hx hb dX12_goesOn_206 rfl (lv_at hl 0 rfl) ?_
                    refine r_get (pc := 207) C hP 0 rfl fl_X12_102 rfl dX12_goesOn_207 ?_
                    obtain ⟨r_210, hc_210, hf⟩ := bd1 hf
                    refine r_dalVi (pc := 210) (ws' := (wX12_goesOn E h h_tape h_far h_from h_real h_other h_kept h_set h_w h_book h_noteSort h_whose h_what h_noteIs h_fitting h_dawn h_likes h_walked h_came v_thrown v_trouble v_where v_inn v_read v_taped v_size x178_at 0 x35_at 0 x178_number v_fault v_wrongAt v_word v_marks v_notes v_tape)) (As := [.int x178_at]) (rest := [.int (10 * x178_number), .ref h]) C (ctX12_byteAt l E h h_tape h_far h_from h_real h_other h_kept h_set h_w h_book h_noteSort h_whose h_what h_noteIs h_fitting h_dawn h_likes h_walked h_came v_thrown v_trouble v_where v_inn v_read v_taped v_size x178_at 0 x35_at 0 x178_number v_fault v_wrongAt v_word v_marks v_notes v_tape N x178_at r_210 hc_210) ml_X12_105 ⟨Nat.le_of_ble_eq_true rfl, Nat.le_of_ble_eq_true rfl⟩ hP hD hS 0 rfl rfl rfl [0, 1] [2, 3] 2 rfl rfl rfl rfl rfl rfl rfl hl.1 rfl (Nat.le_of_ble_eq_true rfl) ⟨Nat.zero_le _, Nat.zero_le _⟩ dX12_goesOn_210 ?_
                    clear hP hD hS; intro H locs hP hD hS
                    refine lv_iadd (pc := 213) hx hb dX12_goesOn_213 ?_
                    refine lv_bipush (pc := 214) (v := 48) hx hb dX12_goesOn_214 (by decide) ?_
                    refine lv_isub (pc := 216) hx hb dX12_goesOn_216 ?_
                    refine r_put (pc := 217) (ws' := (wX12_goesOn E h h_tape h_far h_from h_real h_other h_kept h_set h_w h_book h_noteSort h_whose h_what h_noteIs h_fitting h_dawn h_likes h_walked h_came v_thrown v_trouble v_where v_inn v_read v_taped v_size x178_at 0 x35_at 0 (((10 * x178_number) + r_210) - 48) v_fault v_wrongAt v_word v_marks v_notes v_tape)) C hP hD hS 0 rfl fl_X12_125 rfl rfl (Nat.le_of_ble_eq_true rfl) rfl dX12_goesOn_217 ?_
                    clear hP hD hS; intro H locs hP hD hS
                    exact hj220 (((10 * x178_number) + r_210) - 48) hf _ _ _ (lv_sub hl [0, 1] rfl) hP hD hS
            exact key178 _ 0 x35_at 0 hf _ _ _ (lv_sub hl [2, 0] rfl) hP hD hS
        · replace hf := it_f c_81 hf
          refine lv_aload_n (pc := 84) hx hb dX12_goesOn_84 rfl (lv_at hl 2 rfl) ?_
          refine lv_lconst (pc := 85) (v := 0) hx hb dX12_goesOn_85 (by decide) ?_
          refine r_put (pc := 86) (ws' := (wX12_goesOn E h h_tape h_far h_from h_real h_other h_kept h_set h_w h_book h_noteSort h_whose h_what h_noteIs h_fitting h_dawn h_likes h_walked h_came v_thrown v_trouble v_where v_inn v_read v_taped v_size x35_at 0 x35_at 0 v_number v_fault v_wrongAt 0 v_marks v_notes v_tape)) C hP hD hS 0 rfl fl_X12_118 rfl rfl (Nat.le_of_ble_eq_true rfl) rfl dX12_goesOn_86 ?_
          clear hP hD hS; intro H locs hP hD hS
          refine lpK hf (fun K152 eK152 hf => ?_)
          have hK152 : ∀ (x152_2 : Int32) (x152_at : Int32) (x152_word : Int64) , K152 (x152_2, x152_at, x152_word) = some z → AT p l e (rmOf 1 21) s m args below meth c E A Q 0 0 3 [(0, .ref h), (2, .int x152_2)] (wX12_goesOn E h h_tape h_far h_from h_real h_other h_kept h_set h_w h_book h_noteSort h_whose h_what h_noteIs h_fitting h_dawn h_likes h_walked h_came v_thrown v_trouble v_where v_inn v_read v_taped v_size x152_at 0 x35_at 0 v_number v_fault v_wrongAt x152_word v_marks v_notes v_tape) 152 [] := by
            intro x152_2 x152_at x152_word hf H locs ls hl hP hD hS
            rw [eK152] at hf
            replace hf := un3_s hf
            refine lv_iload_n (pc := 152) hx hb dX12_goesOn_152 rfl (lv_at hl 1 rfl) ?_
            refine lv_bipush (pc := 153) (v := 8) hx hb dX12_goesOn_153 (by decide) ?_
            refine lv_icmp_gt (pc := 155) (tgt := 281) hx hb dX12_goesOn_155 (by decide) (fun c_155 => ?_) (fun c_155 => ?_)
            · replace hf := it_t c_155 hf
              cases hf
              rw [hQ]
              exact r_vret C hr hP hD hS dX12_goesOn_281
            · replace hf := it_f c_155 hf
              refine lv_aload_n (pc := 158) hx hb dX12_goesOn_158 rfl (lv_at hl 0 rfl) ?_
              refine lv_iconst (pc := 159) (v := 2) hx hb dX12_goesOn_159 (by decide) ?_
              refine r_put (pc := 160) (ws' := (wX12_goesOn E h h_tape h_far h_from h_real h_other h_kept h_set h_w h_book h_noteSort h_whose h_what h_noteIs h_fitting h_dawn h_likes h_walked h_came v_thrown v_trouble v_where v_inn v_read v_taped v_size x152_at 2 x35_at 0 v_number v_fault v_wrongAt x152_word v_marks v_notes v_tape)) C hP hD hS 0 rfl fl_X12_99 rfl rfl (Nat.le_of_ble_eq_true rfl) rfl dX12_goesOn_160 ?_
              clear hP hD hS; intro H locs hP hD hS
              refine lv_goto (pc := 163) (tgt := 281) hx hb dX12_goesOn_163 (by decide) ?_
              cases hf
              rw [hQ]
              exact r_vret C hr hP hD hS dX12_goesOn_281
          clear eK152
          have key89 : ∀ (n : Nat) (x89_2 : Int32) (x89_at : Int32) (x89_word : Int64) , lp (BX12_goesOn_89 N v_size v_tape K152) n (x89_2, x89_at, x89_word) = some z → AT p l e (rmOf 1 21) s m args below meth c E A Q 0 0 3 [(0, .ref h), (2, .int x89_2)] (wX12_goesOn E h h_tape h_far h_from h_real h_other h_kept h_set h_w h_book h_noteSort h_whose h_what h_noteIs h_fitting h_dawn h_likes h_walked h_came v_thrown v_trouble v_where v_inn v_read v_taped v_size x89_at 0 x35_at 0 v_number v_fault v_wrongAt x89_word v_marks v_notes v_tape) 89 [] := by
            intro n
            induction n with
            | zero => intro x89_2 x89_at x89_word hf; exact (lp_0 hf).elim
            | succ n ih89 =>
              intro x89_2 x89_at x89_word hf H locs ls hl hP hD hS
              replace hf := lp_s hf
              generalize lp (BX12_goesOn_89 N v_size v_tape K152) n = rec89 at ih89 hf
              unfold BX12_goesOn_89 at hf
              replace hf := un3_s hf
              refine lv_aload_n (pc := 89) hx hb dX12_goesOn_89 rfl (lv_at hl 0 rfl) ?_
              refine lv_aload_n (pc := 90) hx hb dX12_goesOn_90 rfl (lv_at hl 0 rfl) ?_
              refine r_get (pc := 91) C hP 0 rfl fl_X12_102 rfl dX12_goesOn_91 ?_
              obtain ⟨r_94, hc_94, hf⟩ := bd1 hf
              refine r_dalVi (pc := 94) (ws' := (wX12_goesOn E h h_tape h_far h_from h_real h_other h_kept h_set h_w h_book h_noteSort h_whose h_what h_noteIs h_fitting h_dawn h_likes h_walked h_came v_thrown v_trouble v_where v_inn v_read v_taped v_size x89_at 0 x35_at 0 v_number v_fault v_wrongAt x89_word v_marks v_notes v_tape)) (As := [.int x89_at]) (rest := []) C (ctX12_byteAt l E h h_tape h_far h_from h_real h_other h_kept h_set h_w h_book h_noteSort h_whose h_what h_noteIs h_fitting h_dawn h_likes h_walked h_came v_thrown v_trouble v_where v_inn v_read v_taped v_size x89_at 0 x35_at 0 v_number v_fault v_wrongAt x89_word v_marks v_notes v_tape N x89_at r_94 hc_94) ml_X12_105 ⟨Nat.le_of_ble_eq_true rfl, Nat.le_of_ble_eq_true rfl⟩ hP hD hS 0 rfl rfl rfl [0, 1] [2, 3] 2 rfl rfl rfl rfl rfl rfl rfl hl.1 rfl (Nat.le_of_ble_eq_true rfl) ⟨Nat.zero_le _, Nat.zero_le _⟩ dX12_goesOn_94 ?_
              clear hP hD hS; intro H locs hP hD hS
              obtain ⟨r_97, hc_97, hf⟩ := bd1 hf
              refine r_dalSi (pc := 97) (Cn := "") (h := 0) (ws' := (wX12_goesOn E h h_tape h_far h_from h_real h_other h_kept h_set h_w h_book h_noteSort h_whose h_what h_noteIs h_fitting h_dawn h_likes h_walked h_came v_thrown v_trouble v_where v_inn v_read v_taped v_size x89_at 0 x35_at 0 v_number v_fault v_wrongAt x89_word v_marks v_notes v_tape)) (As := [.int r_94]) (rest := []) C (ctX12_isLetter l E N r_94 r_97 hc_97) ml_X12_114 ⟨Nat.le_of_ble_eq_true rfl, Nat.le_of_ble_eq_true rfl⟩ hP hD hS [] [0, 1] 2 rfl rfl rfl rfl rfl rfl rfl hl.1 rfl (Nat.le_of_ble_eq_true rfl) ⟨Nat.zero_le _, Nat.zero_le _⟩ dX12_goesOn_97 ?_
              clear hP hD hS; intro H locs hP hD hS
              refine lv_if_eq (pc := 100) (tgt := 152) hx hb dX12_goesOn_100 (by decide) (fun c_100 => ?_) (fun c_100 => ?_)
              · replace hf := it_t c_100 hf
                exact hK152 x89_2 x89_at x89_word hf _ _ _ (lv_sub hl [0, 1] rfl) hP hD hS
              · replace hf := it_f c_100 hf
                refine lv_iload_n (pc := 103) hx hb dX12_goesOn_103 rfl (lv_at hl 1 rfl) ?_
                refine lv_bipush (pc := 104) (v := 8) hx hb dX12_goesOn_104 (by decide) ?_
                refine jnK hf (fun j136 ej136 hf => ?_)
                have hj136 : ∀ (x136_word : Int64) , j136 x136_word = some z → AT p l e (rmOf 1 21) s m args below meth c E A Q 0 0 3 [(0, .ref h), (2, .int x89_2)] (wX12_goesOn E h h_tape h_far h_from h_real h_other h_kept h_set h_w h_book h_noteSort h_whose h_what h_noteIs h_fitting h_dawn h_likes h_walked h_came v_thrown v_trouble v_where v_inn v_read v_taped v_size x89_at 0 x35_at 0 v_number v_fault v_wrongAt x136_word v_marks v_notes v_tape) 136 [] := by
                  intro x136_word hf H locs ls hl hP hD hS
                  rw [ej136] at hf
                  replace hf := un1_s hf
                  refine lv_iinc (pc := 136) (v := x89_2 + 1) (lv' := [(2, .int (x89_2 + 1)), (0, .ref h)]) hx hb dX12_goesOn_136 hl (k := 1) rfl rfl (by decide) rfl (fun ls hl => ?_)
                  refine lv_aload_n (pc := 139) hx hb dX12_goesOn_139 rfl (lv_at hl 1 rfl) ?_
                  refine lv_dup (pc := 140) hx hb dX12_goesOn_140 rfl ?_
                  refine r_get (pc := 141) C hP 0 rfl fl_X12_102 rfl dX12_goesOn_141 ?_
                  refine lv_iconst (pc := 144) (v := 1) hx hb dX12_goesOn_144 (by decide) ?_
                  refine lv_iadd (pc := 145) hx hb dX12_goesOn_145 ?_
                  refine r_put (pc := 146) (ws' := (wX12_goesOn E h h_tape h_far h_from h_real h_other h_kept h_set h_w h_book h_noteSort h_whose h_what h_noteIs h_fitting h_dawn h_likes h_walked h_came v_thrown v_trouble v_where v_inn v_read v_taped v_size (x89_at + 1) 0 x35_at 0 v_number v_fault v_wrongAt x136_word v_marks v_notes v_tape)) C hP hD hS 0 rfl fl_X12_102 rfl rfl (Nat.le_of_ble_eq_true rfl) rfl dX12_goesOn_146 ?_
                  clear hP hD hS; intro H locs hP hD hS
                  refine lv_goto (pc := 149) (tgt := 89) hx hb dX12_goesOn_149 (by decide) ?_
                  exact ih89 (x89_2 + 1) (x89_at + 1) x136_word hf _ _ _ (lv_sub hl [1, 0] rfl) hP hD hS
                clear ej136
                refine lv_icmp_ge (pc := 106) (tgt := 136) hx hb dX12_goesOn_106 (by decide) (fun c_106 => ?_) (fun c_106 => ?_)
                · replace hf := it_t c_106 hf
                  exact hj136 x89_word hf _ _ _ (lv_sub hl [0, 1] rfl) hP hD hS
                · replace hf := it_f c_106 hf
                  refine lv_aload_n (pc := 109) hx hb dX12_goesOn_109 rfl (lv_at hl 0 rfl) ?_
                  refine lv_ldc2 (pc := 110) (v := 32) hx hb C.2.2.2.1 (C.2.2.2.2.1 _ kl_X12_93) dX12_goesOn_110 ?_
                  refine lv_aload_n (pc := 113) hx hb dX12_goesOn_113 rfl (lv_at hl 0 rfl) ?_
                  refine r_get (pc := 114) C hP 0 rfl fl_X12_118 rfl dX12_goesOn_114 ?_
                  refine lv_lmul (pc := 117) hx hb dX12_goesOn_117 ?_
                  refine lv_aload_n (pc := 118) hx hb dX12_goesOn_118 rfl (lv_at hl 0 rfl) ?_
                  refine lv_aload_n (pc := 119) hx hb dX12_goesOn_119 rfl (lv_at hl 0 rfl) ?_
                  refine r_get (pc := 120) C hP 0 rfl fl_X12_102 rfl dX12_goesOn_120 ?_
                  obtain ⟨r_123, hc_123, hf⟩ := bd1 hf
                  refine r_dalVi (pc := 123) (ws' := (wX12_goesOn E h h_tape h_far h_from h_real h_other h_kept h_set h_w h_book h_noteSort h_whose h_what h_noteIs h_fitting h_dawn h_likes h_walked h_came v_thrown v_trouble v_where v_inn v_read v_taped v_size x89_at 0 x35_at 0 v_number v_fault v_wrongAt x89_word v_marks v_notes v_tape)) (As := [.int x89_at]) (rest := [.long (32 * x89_word), .ref h]) C (ctX12_byteAt l E h h_tape h_far h_from h_real h_other h_kept h_set h_w h_book h_noteSort h_whose h_what h_noteIs h_fitting h_dawn h_likes h_walked h_came v_thrown v_trouble v_where v_inn v_read v_taped v_size x89_at 0 x35_at 0 v_number v_fault v_wrongAt x89_word v_marks v_notes v_tape N x89_at r_123 hc_123) ml_X12_105 ⟨Nat.le_of_ble_eq_true rfl, Nat.le_of_ble_eq_true rfl⟩ hP hD hS 0 rfl rfl rfl [0, 1] [2, 3] 2 rfl rfl rfl rfl rfl rfl rfl hl.1 rfl (Nat.le_of_ble_eq_true rfl) ⟨Nat.zero_le _, Nat.zero_le _⟩ dX12_goesOn_123 ?_
                  clear hP hD hS; intro H locs hP hD hS
                  refine lv_bipush (pc := 126) (v := 97) hx hb dX12_goesOn_126 (by decide) ?_
                  refine lv_isub (pc := 128) hx hb dX12_goesOn_128 ?_
                  refine lv_iconst (pc := 129) (v := 1) hx hb dX12_goesOn_129 (by decide) ?_
                  refine lv_iadd (pc := 130) hx hb dX12_goesOn_130 ?_
                  refine lv_i2l (pc := 131) (v := ((r_123 - 97) + 1).toInt64) hx hb dX12_goesOn_131 rfl ?_
                  refine lv_ladd (pc := 132) hx hb dX12_goesOn_132 ?_
                  refine r_put (pc := 133) (ws' := (wX12_goesOn E h h_tape h_far h_from h_real h_other h_kept h_set h_w h_book h_noteSort h_whose h_what h_noteIs h_fitting h_dawn h_likes h_walked h_came v_thrown v_trouble v_where v_inn v_read v_taped v_size x89_at 0 x35_at 0 v_number v_fault v_wrongAt ((32 * x89_word) + (((r_123 - 97) + 1).toInt64)) v_marks v_notes v_tape)) C hP hD hS 0 rfl fl_X12_118 rfl rfl (Nat.le_of_ble_eq_true rfl) rfl dX12_goesOn_133 ?_
                  clear hP hD hS; intro H locs hP hD hS
                  exact hj136 ((32 * x89_word) + (((r_123 - 97) + 1).toInt64)) hf _ _ _ (lv_sub hl [0, 1] rfl) hP hD hS
          exact key89 _ 0 x35_at 0 hf _ _ _ (lv_sub hl [2, 0] rfl) hP hD hS
      · replace hf := it_t c_66 hf
        refine lv_aload_n (pc := 69) hx hb dX12_goesOn_69 rfl (lv_at hl 2 rfl) ?_
        refine lv_iconst (pc := 70) (v := 1) hx hb dX12_goesOn_70 (by decide) ?_
        refine r_put (pc := 71) (ws' := (wX12_goesOn E h h_tape h_far h_from h_real h_other h_kept h_set h_w h_book h_noteSort h_whose h_what h_noteIs h_fitting h_dawn h_likes h_walked h_came v_thrown v_trouble v_where v_inn v_read v_taped v_size x35_at 1 x35_at 0 v_number v_fault v_wrongAt v_word v_marks v_notes v_tape)) C hP hD hS 0 rfl fl_X12_99 rfl rfl (Nat.le_of_ble_eq_true rfl) rfl dX12_goesOn_71 ?_
        clear hP hD hS; intro H locs hP hD hS
        refine lv_goto (pc := 74) (tgt := 281) hx hb dX12_goesOn_74 (by decide) ?_
        cases hf
        rw [hQ]
        exact r_vret C hr hP hD hS dX12_goesOn_281
    clear eK35
    have key9 : ∀ (n : Nat) (x9_at : Int32) , lp (BX12_goesOn_9 N v_size v_tape K35) n x9_at = some z → AT p l e (rmOf 1 21) s m args below meth c E A Q 0 0 3 [(0, .ref h)] (wX12_goesOn E h h_tape h_far h_from h_real h_other h_kept h_set h_w h_book h_noteSort h_whose h_what h_noteIs h_fitting h_dawn h_likes h_walked h_came v_thrown v_trouble v_where v_inn v_read v_taped v_size x9_at v_sort v_place v_sign v_number v_fault v_wrongAt v_word v_marks v_notes v_tape) 9 [] := by
      intro n
      induction n with
      | zero => intro x9_at hf; exact (lp_0 hf).elim
      | succ n ih9 =>
        intro x9_at hf H locs ls hl hP hD hS
        replace hf := lp_s hf
        generalize lp (BX12_goesOn_9 N v_size v_tape K35) n = rec9 at ih9 hf
        unfold BX12_goesOn_9 at hf
        replace hf := un1_s hf
        refine lv_aload_n (pc := 9) hx hb dX12_goesOn_9 rfl (lv_at hl 0 rfl) ?_
        refine lv_aload_n (pc := 10) hx hb dX12_goesOn_10 rfl (lv_at hl 0 rfl) ?_
        refine r_get (pc := 11) C hP 0 rfl fl_X12_102 rfl dX12_goesOn_11 ?_
        obtain ⟨r_14, hc_14, hf⟩ := bd1 hf
        refine r_dalVi (pc := 14) (ws' := (wX12_goesOn E h h_tape h_far h_from h_real h_other h_kept h_set h_w h_book h_noteSort h_whose h_what h_noteIs h_fitting h_dawn h_likes h_walked h_came v_thrown v_trouble v_where v_inn v_read v_taped v_size x9_at v_sort v_place v_sign v_number v_fault v_wrongAt v_word v_marks v_notes v_tape)) (As := [.int x9_at]) (rest := []) C (ctX12_byteAt l E h h_tape h_far h_from h_real h_other h_kept h_set h_w h_book h_noteSort h_whose h_what h_noteIs h_fitting h_dawn h_likes h_walked h_came v_thrown v_trouble v_where v_inn v_read v_taped v_size x9_at v_sort v_place v_sign v_number v_fault v_wrongAt v_word v_marks v_notes v_tape N x9_at r_14 hc_14) ml_X12_105 ⟨Nat.le_of_ble_eq_true rfl, Nat.le_of_ble_eq_true rfl⟩ hP hD hS 0 rfl rfl rfl [0, 1] [2, 3] 2 rfl rfl rfl rfl rfl rfl rfl hl.1 rfl (Nat.le_of_ble_eq_true rfl) ⟨Nat.zero_le _, Nat.zero_le _⟩ dX12_goesOn_14 ?_
        clear hP hD hS; intro H locs hP hD hS
        refine lv_bipush (pc := 17) (v := 32) hx hb dX12_goesOn_17 (by decide) ?_
        refine lv_icmp_ne (pc := 19) (tgt := 35) hx hb dX12_goesOn_19 (by decide) (fun c_19 => ?_) (fun c_19 => ?_)
        · replace hf := it_f c_19 hf
          exact hK35 x9_at hf _ _ _ (lv_sub hl [0] rfl) hP hD hS
        · replace hf := it_t c_19 hf
          refine lv_aload_n (pc := 22) hx hb dX12_goesOn_22 rfl (lv_at hl 0 rfl) ?_
          refine lv_dup (pc := 23) hx hb dX12_goesOn_23 rfl ?_
          refine r_get (pc := 24) C hP 0 rfl fl_X12_102 rfl dX12_goesOn_24 ?_
          refine lv_iconst (pc := 27) (v := 1) hx hb dX12_goesOn_27 (by decide) ?_
          refine lv_iadd (pc := 28) hx hb dX12_goesOn_28 ?_
          refine r_put (pc := 29) (ws' := (wX12_goesOn E h h_tape h_far h_from h_real h_other h_kept h_set h_w h_book h_noteSort h_whose h_what h_noteIs h_fitting h_dawn h_likes h_walked h_came v_thrown v_trouble v_where v_inn v_read v_taped v_size (x9_at + 1) v_sort v_place v_sign v_number v_fault v_wrongAt v_word v_marks v_notes v_tape)) C hP hD hS 0 rfl fl_X12_102 rfl rfl (Nat.le_of_ble_eq_true rfl) rfl dX12_goesOn_29 ?_
          clear hP hD hS; intro H locs hP hD hS
          refine lv_goto (pc := 32) (tgt := 9) hx hb dX12_goesOn_32 (by decide) ?_
          exact ih9 (x9_at + 1) hf _ _ _ (lv_sub hl [0] rfl) hP hD hS
    exact key9 _ v_at hf _ _ _ (lv_sub hl [0] rfl) hP hD hS
  · replace hf := it_t c_5 hf
    cases hf
    rw [hQ]
    exact r_vret C hr hP hD hS dX12_goesOn_8
def wX12_wrong (E : EN) (h h_tape h_far h_from h_real h_other h_kept h_set h_w h_book h_noteSort h_whose h_what h_noteIs h_fitting h_dawn h_likes h_walked h_came : Nat) (v_thrown : Int32) (v_trouble : Int32) (v_where : Int32) (v_inn : Option Nat) (v_read : Option Nat) (v_taped : Int32) (v_size : Int32) (v_at : Int32) (v_sort : Int32) (v_place : Int32) (v_sign : Int32) (v_number : Int32) (v_fault : Int32) (v_wrongAt : Int32) (v_word : Int64) (v_marks : Int32) (v_notes : Int32) : va_W := [(h, .inr (11, [.int v_thrown, .int v_trouble, .int v_where, va_rf v_inn, va_rf v_read, .ref h_tape, .int v_taped, .int v_size, .int v_at, .int v_sort, .int v_place, .int v_sign, .int v_number, .int v_fault, .int v_wrongAt, .long v_word, .ref h_far, .ref h_from, .ref h_real, .ref h_other, .ref h_kept, .ref h_set, .ref h_w, .int v_marks, .int v_notes, .ref h_book, .ref h_noteSort, .ref h_whose, .ref h_what, .ref h_noteIs, .ref h_fitting, .ref h_dawn, .ref h_likes, .ref h_walked, .ref h_came]))]
def fX12_wrong (N : Nat) (p0 : Int32) (v_sort : Int32) (v_place : Int32) (v_fault : Int32) (v_wrongAt : Int32) : Option (Int32 × Int32 × Int32) := if v_sort = 5 then (some (v_sort, v_fault, v_wrongAt)) else (some (5, p0, v_place))
set_option maxHeartbeats 4000000 in
set_option maxRecDepth 100000 in
theorem ctX12_wrong (l : Launch) (E : EN) (h h_tape h_far h_from h_real h_other h_kept h_set h_w h_book h_noteSort h_whose h_what h_noteIs h_fitting h_dawn h_likes h_walked h_came : Nat) (v_thrown : Int32) (v_trouble : Int32) (v_where : Int32) (v_inn : Option Nat) (v_read : Option Nat) (v_taped : Int32) (v_size : Int32) (v_at : Int32) (v_sort : Int32) (v_place : Int32) (v_sign : Int32) (v_number : Int32) (v_fault : Int32) (v_wrongAt : Int32) (v_word : Int64) (v_marks : Int32) (v_notes : Int32) (N : Nat) (p0 : Int32) (z : Int32 × Int32 × Int32) (hf : fX12_wrong N p0 v_sort v_place v_fault v_wrongAt = some z) : CTv l E yX12_wrong cX12_wrong 2 0 0 [.ref h, .int p0] (wX12_wrong E h h_tape h_far h_from h_real h_other h_kept h_set h_w h_book h_noteSort h_whose h_what h_noteIs h_fitting h_dawn h_likes h_walked h_came v_thrown v_trouble v_where v_inn v_read v_taped v_size v_at v_sort v_place v_sign v_number v_fault v_wrongAt v_word v_marks v_notes) (wX12_wrong E h h_tape h_far h_from h_real h_other h_kept h_set h_w h_book h_noteSort h_whose h_what h_noteIs h_fitting h_dawn h_likes h_walked h_came v_thrown v_trouble v_where v_inn v_read v_taped v_size v_at z.1 v_place v_sign v_number z.2.1 z.2.2 v_word v_marks v_notes) := by
  intro sz
  refine ct_body (by decide) (Nat.le_of_ble_eq_true rfl) ?_
  intro p e s m args below meth c A ls hAe C hr hin hP hD hS hl
  have C : CX p s m args meth c cX12_wrong RX12 2 E A := C
  have hl : lv_has ls 2 [(0, .ref h), (1, .int p0)] := hl
  have hx := C.1
  have hb := C.2.1
  rw [hAe]
  clear hAe
  obtain ⟨Q, hQ⟩ : ∃ Q, Q = MQ below (Qv E A (wX12_wrong E h h_tape h_far h_from h_real h_other h_kept h_set h_w h_book h_noteSort h_whose h_what h_noteIs h_fitting h_dawn h_likes h_walked h_came v_thrown v_trouble v_where v_inn v_read v_taped v_size v_at z.1 v_place v_sign v_number z.2.1 z.2.2 v_word v_marks v_notes)) args s 0 0 A := ⟨_, rfl⟩
  rw [← hQ]
  unfold fX12_wrong at hf
  refine lv_aload_n (pc := 0) hx hb dX12_wrong_0 rfl (lv_at hl 0 rfl) ?_
  refine r_get (pc := 1) C hP 0 rfl fl_X12_99 rfl dX12_wrong_1 ?_
  refine lv_iconst (pc := 4) (v := 5) hx hb dX12_wrong_4 (by decide) ?_
  refine lv_icmp_ne (pc := 5) (tgt := 9) hx hb dX12_wrong_5 (by decide) (fun c_5 => ?_) (fun c_5 => ?_)
  · replace hf := it_f c_5 hf
    refine lv_aload_n (pc := 9) hx hb dX12_wrong_9 rfl (lv_at hl 0 rfl) ?_
    refine lv_iload_n (pc := 10) hx hb dX12_wrong_10 rfl (lv_at hl 1 rfl) ?_
    refine r_put (pc := 11) (ws' := (wX12_wrong E h h_tape h_far h_from h_real h_other h_kept h_set h_w h_book h_noteSort h_whose h_what h_noteIs h_fitting h_dawn h_likes h_walked h_came v_thrown v_trouble v_where v_inn v_read v_taped v_size v_at v_sort v_place v_sign v_number p0 v_wrongAt v_word v_marks v_notes)) C hP hD hS 0 rfl fl_X12_128 rfl rfl (Nat.le_of_ble_eq_true rfl) rfl dX12_wrong_11 ?_
    clear hP hD hS; intro H locs hP hD hS
    refine lv_aload_n (pc := 14) hx hb dX12_wrong_14 rfl (lv_at hl 0 rfl) ?_
    refine lv_aload_n (pc := 15) hx hb dX12_wrong_15 rfl (lv_at hl 0 rfl) ?_
    refine r_get (pc := 16) C hP 0 rfl fl_X12_108 rfl dX12_wrong_16 ?_
    refine r_put (pc := 19) (ws' := (wX12_wrong E h h_tape h_far h_from h_real h_other h_kept h_set h_w h_book h_noteSort h_whose h_what h_noteIs h_fitting h_dawn h_likes h_walked h_came v_thrown v_trouble v_where v_inn v_read v_taped v_size v_at v_sort v_place v_sign v_number p0 v_place v_word v_marks v_notes)) C hP hD hS 0 rfl fl_X12_131 rfl rfl (Nat.le_of_ble_eq_true rfl) rfl dX12_wrong_19 ?_
    clear hP hD hS; intro H locs hP hD hS
    refine lv_aload_n (pc := 22) hx hb dX12_wrong_22 rfl (lv_at hl 0 rfl) ?_
    refine lv_iconst (pc := 23) (v := 5) hx hb dX12_wrong_23 (by decide) ?_
    refine r_put (pc := 24) (ws' := (wX12_wrong E h h_tape h_far h_from h_real h_other h_kept h_set h_w h_book h_noteSort h_whose h_what h_noteIs h_fitting h_dawn h_likes h_walked h_came v_thrown v_trouble v_where v_inn v_read v_taped v_size v_at 5 v_place v_sign v_number p0 v_place v_word v_marks v_notes)) C hP hD hS 0 rfl fl_X12_99 rfl rfl (Nat.le_of_ble_eq_true rfl) rfl dX12_wrong_24 ?_
    clear hP hD hS; intro H locs hP hD hS
    cases hf
    rw [hQ]
    exact r_vret C hr hP hD hS dX12_wrong_27
  · replace hf := it_t c_5 hf
    cases hf
    rw [hQ]
    exact r_vret C hr hP hD hS dX12_wrong_8
def wX12_isWord (E : EN) (h h_tape h_far h_from h_real h_other h_kept h_set h_w h_book h_noteSort h_whose h_what h_noteIs h_fitting h_dawn h_likes h_walked h_came : Nat) (v_thrown : Int32) (v_trouble : Int32) (v_where : Int32) (v_inn : Option Nat) (v_read : Option Nat) (v_taped : Int32) (v_size : Int32) (v_at : Int32) (v_sort : Int32) (v_place : Int32) (v_sign : Int32) (v_number : Int32) (v_fault : Int32) (v_wrongAt : Int32) (v_word : Int64) (v_marks : Int32) (v_notes : Int32) : va_W := [(h, .inr (11, [.int v_thrown, .int v_trouble, .int v_where, va_rf v_inn, va_rf v_read, .ref h_tape, .int v_taped, .int v_size, .int v_at, .int v_sort, .int v_place, .int v_sign, .int v_number, .int v_fault, .int v_wrongAt, .long v_word, .ref h_far, .ref h_from, .ref h_real, .ref h_other, .ref h_kept, .ref h_set, .ref h_w, .int v_marks, .int v_notes, .ref h_book, .ref h_noteSort, .ref h_whose, .ref h_what, .ref h_noteIs, .ref h_fitting, .ref h_dawn, .ref h_likes, .ref h_walked, .ref h_came]))]
def fX12_isWord (N : Nat) (k0 : Nat) (v_sort : Int32) (v_word : Int64) : Option Int32 := jn (un0 (some 0)) (fun j24 => if v_sort = 2 then ((fX12_wordOf N k0).bind (un1 fun (r_13 : Int64) => if (lg_cmp v_word r_13) = 0 then (some 1) else (j24 ()))) else (j24 ()))
set_option maxHeartbeats 4000000 in
set_option maxRecDepth 100000 in
theorem ctX12_isWord (l : Launch) (E : EN) (h h_tape h_far h_from h_real h_other h_kept h_set h_w h_book h_noteSort h_whose h_what h_noteIs h_fitting h_dawn h_likes h_walked h_came : Nat) (v_thrown : Int32) (v_trouble : Int32) (v_where : Int32) (v_inn : Option Nat) (v_read : Option Nat) (v_taped : Int32) (v_size : Int32) (v_at : Int32) (v_sort : Int32) (v_place : Int32) (v_sign : Int32) (v_number : Int32) (v_fault : Int32) (v_wrongAt : Int32) (v_word : Int64) (v_marks : Int32) (v_notes : Int32) (k0 : Nat) (hk0 : k0 < 24) (N : Nat) (z : Int32) (hf : fX12_isWord N k0 v_sort v_word = some z) : CTi l E yX12_isWord cX12_isWord 2 .boolean 5 108 [.ref h, .ref (E.2.2.2.2.1 k0)] (wX12_isWord E h h_tape h_far h_from h_real h_other h_kept h_set h_w h_book h_noteSort h_whose h_what h_noteIs h_fitting h_dawn h_likes h_walked h_came v_thrown v_trouble v_where v_inn v_read v_taped v_size v_at v_sort v_place v_sign v_number v_fault v_wrongAt v_word v_marks v_notes) (z) (wX12_isWord E h h_tape h_far h_from h_real h_other h_kept h_set h_w h_book h_noteSort h_whose h_what h_noteIs h_fitting h_dawn h_likes h_walked h_came v_thrown v_trouble v_where v_inn v_read v_taped v_size v_at v_sort v_place v_sign v_number v_fault v_wrongAt v_word v_marks v_notes) := by
  intro sz
  refine ct_body (by decide) (Nat.le_of_ble_eq_true rfl) ?_
  intro p e s m args below meth c A ls hAe C hr hin hP hD hS hl
  have C : CX p s m args meth c cX12_isWord RX12 2 E A := C
  have hl : lv_has ls 2 [(0, .ref h), (1, .ref (E.2.2.2.2.1 k0))] := hl
  have hx := C.1
  have hb := C.2.1
  rw [hAe]
  clear hAe
  obtain ⟨Q, hQ⟩ : ∃ Q, Q = MQ below (Qi E A (z) (wX12_isWord E h h_tape h_far h_from h_real h_other h_kept h_set h_w h_book h_noteSort h_whose h_what h_noteIs h_fitting h_dawn h_likes h_walked h_came v_thrown v_trouble v_where v_inn v_read v_taped v_size v_at v_sort v_place v_sign v_number v_fault v_wrongAt v_word v_marks v_notes)) args s 0 0 A := ⟨_, rfl⟩
  rw [← hQ]
  unfold fX12_isWord at hf
  refine lv_aload_n (pc := 0) hx hb dX12_isWord_0 rfl (lv_at hl 0 rfl) ?_
  refine r_get (pc := 1) C hP 0 rfl fl_X12_99 rfl dX12_isWord_1 ?_
  refine lv_iconst (pc := 4) (v := 2) hx hb dX12_isWord_4 (by decide) ?_
  refine jnK hf (fun j24 ej24 hf => ?_)
  have hj24 : j24 () = some z → AT p l e (rmOf 5 108) s m args below meth c E A Q 0 0 2 [] (wX12_isWord E h h_tape h_far h_from h_real h_other h_kept h_set h_w h_book h_noteSort h_whose h_what h_noteIs h_fitting h_dawn h_likes h_walked h_came v_thrown v_trouble v_where v_inn v_read v_taped v_size v_at v_sort v_place v_sign v_number v_fault v_wrongAt v_word v_marks v_notes) 24 [] := by
    intro  hf H locs ls hl hP hD hS
    rw [ej24] at hf
    replace hf := un0_s hf
    refine lv_iconst (pc := 24) (v := 0) hx hb dX12_isWord_24 (by decide) ?_
    cases hf
    rw [hQ]
    exact r_zret C hr hP hD hS (Or.inl rfl) rfl dX12_isWord_25
  clear ej24
  refine lv_icmp_ne (pc := 5) (tgt := 24) hx hb dX12_isWord_5 (by decide) (fun c_5 => ?_) (fun c_5 => ?_)
  · replace hf := it_f c_5 hf
    exact hj24  hf _ _ _ (lv_sub hl [] rfl) hP hD hS
  · replace hf := it_t c_5 hf
    refine lv_aload_n (pc := 8) hx hb dX12_isWord_8 rfl (lv_at hl 0 rfl) ?_
    refine r_get (pc := 9) C hP 0 rfl fl_X12_118 rfl dX12_isWord_9 ?_
    refine lv_aload_n (pc := 12) hx hb dX12_isWord_12 rfl (lv_at hl 1 rfl) ?_
    obtain ⟨r_13, hc_13, hf⟩ := bd1 hf
    refine r_dalSl (pc := 13) (Cn := "") (h := 0) (ws' := (wX12_isWord E h h_tape h_far h_from h_real h_other h_kept h_set h_w h_book h_noteSort h_whose h_what h_noteIs h_fitting h_dawn h_likes h_walked h_came v_thrown v_trouble v_where v_inn v_read v_taped v_size v_at v_sort v_place v_sign v_number v_fault v_wrongAt v_word v_marks v_notes)) (As := [.ref (E.2.2.2.2.1 k0)]) (rest := [.long v_word]) C (ctX12_wordOf l E k0 hk0 N r_13 hc_13) ml_X12_134 ⟨Nat.le_of_ble_eq_true rfl, Nat.le_of_ble_eq_true rfl⟩ hP hD hS [] [0] 1 rfl rfl rfl rfl rfl rfl rfl hl.1 rfl (Nat.le_of_ble_eq_true rfl) ⟨Nat.zero_le _, Nat.zero_le _⟩ dX12_isWord_13 ?_
    clear hP hD hS; intro H locs hP hD hS
    refine W.lcmp (pc := 16) hx hb dX12_isWord_16 ?_
    refine lv_if_ne (pc := 17) (tgt := 24) hx hb dX12_isWord_17 (by decide) (fun c_17 => ?_) (fun c_17 => ?_)
    · replace hf := it_f c_17 hf
      exact hj24  hf _ _ _ (lv_sub hl [] rfl) hP hD hS
    · replace hf := it_t c_17 hf
      refine lv_iconst (pc := 20) (v := 1) hx hb dX12_isWord_20 (by decide) ?_
      refine lv_goto (pc := 21) (tgt := 25) hx hb dX12_isWord_21 (by decide) ?_
      cases hf
      rw [hQ]
      exact r_zret C hr hP hD hS (Or.inr rfl) rfl dX12_isWord_25
def wX12_eatsWord (E : EN) (h h_tape h_far h_from h_real h_other h_kept h_set h_w h_book h_noteSort h_whose h_what h_noteIs h_fitting h_dawn h_likes h_walked h_came : Nat) (v_thrown : Int32) (v_trouble : Int32) (v_where : Int32) (v_inn : Option Nat) (v_read : Option Nat) (v_taped : Int32) (v_size : Int32) (v_at : Int32) (v_sort : Int32) (v_place : Int32) (v_sign : Int32) (v_number : Int32) (v_fault : Int32) (v_wrongAt : Int32) (v_word : Int64) (v_marks : Int32) (v_notes : Int32) (v_tape : Nat → Int32) : va_W := [(h, .inr (11, [.int v_thrown, .int v_trouble, .int v_where, va_rf v_inn, va_rf v_read, .ref h_tape, .int v_taped, .int v_size, .int v_at, .int v_sort, .int v_place, .int v_sign, .int v_number, .int v_fault, .int v_wrongAt, .long v_word, .ref h_far, .ref h_from, .ref h_real, .ref h_other, .ref h_kept, .ref h_set, .ref h_w, .int v_marks, .int v_notes, .ref h_book, .ref h_noteSort, .ref h_whose, .ref h_what, .ref h_noteIs, .ref h_fitting, .ref h_dawn, .ref h_likes, .ref h_walked, .ref h_came])), (h_tape, aB E 900 v_tape)]
def fX12_eatsWord (N : Nat) (k0 : Nat) (v_size : Int32) (v_at : Int32) (v_sort : Int32) (v_place : Int32) (v_sign : Int32) (v_number : Int32) (v_word : Int64) (v_tape : Nat → Int32) : Option (Int32 × Int32 × Int32 × Int32 × Int32 × Int32 × Int64) := (fX12_isWord N k0 v_sort v_word).bind (un1 fun (r_2 : Int32) => if r_2 = 0 then (zg r_2 (some (r_2, v_at, v_sort, v_place, v_sign, v_number, v_word))) else ((fX12_goesOn N v_size v_at v_sort v_place v_sign v_number v_word v_tape).bind (un6 fun (v_at_11 : Int32) (v_sort_11 : Int32) (v_place_11 : Int32) (v_sign_11 : Int32) (v_number_11 : Int32) (v_word_11 : Int64) => zg r_2 (some (r_2, v_at_11, v_sort_11, v_place_11, v_sign_11, v_number_11, v_word_11)))))
set_option maxHeartbeats 4000000 in
set_option maxRecDepth 100000 in
theorem ctX12_eatsWord (l : Launch) (E : EN) (h h_tape h_far h_from h_real h_other h_kept h_set h_w h_book h_noteSort h_whose h_what h_noteIs h_fitting h_dawn h_likes h_walked h_came : Nat) (v_thrown : Int32) (v_trouble : Int32) (v_where : Int32) (v_inn : Option Nat) (v_read : Option Nat) (v_taped : Int32) (v_size : Int32) (v_at : Int32) (v_sort : Int32) (v_place : Int32) (v_sign : Int32) (v_number : Int32) (v_fault : Int32) (v_wrongAt : Int32) (v_word : Int64) (v_marks : Int32) (v_notes : Int32) (v_tape : Nat → Int32) (k0 : Nat) (hk0 : k0 < 24) (N : Nat) (z : Int32 × Int32 × Int32 × Int32 × Int32 × Int32 × Int64) (hf : fX12_eatsWord N k0 v_size v_at v_sort v_place v_sign v_number v_word v_tape = some z) : CTi l E yX12_eatsWord cX12_eatsWord 3 .boolean 6 129 [.ref h, .ref (E.2.2.2.2.1 k0)] (wX12_eatsWord E h h_tape h_far h_from h_real h_other h_kept h_set h_w h_book h_noteSort h_whose h_what h_noteIs h_fitting h_dawn h_likes h_walked h_came v_thrown v_trouble v_where v_inn v_read v_taped v_size v_at v_sort v_place v_sign v_number v_fault v_wrongAt v_word v_marks v_notes v_tape) (z.1) (wX12_eatsWord E h h_tape h_far h_from h_real h_other h_kept h_set h_w h_book h_noteSort h_whose h_what h_noteIs h_fitting h_dawn h_likes h_walked h_came v_thrown v_trouble v_where v_inn v_read v_taped v_size z.2.1 z.2.2.1 z.2.2.2.1 z.2.2.2.2.1 z.2.2.2.2.2.1 v_fault v_wrongAt z.2.2.2.2.2.2 v_marks v_notes v_tape) := by
  intro sz
  refine ct_body (by decide) (Nat.le_of_ble_eq_true rfl) ?_
  intro p e s m args below meth c A ls hAe C hr hin hP hD hS hl
  have C : CX p s m args meth c cX12_eatsWord RX12 3 E A := C
  have hl : lv_has ls 3 [(0, .ref h), (1, .ref (E.2.2.2.2.1 k0))] := hl
  have hx := C.1
  have hb := C.2.1
  rw [hAe]
  clear hAe
  obtain ⟨Q, hQ⟩ : ∃ Q, Q = MQ below (Qi E A (z.1) (wX12_eatsWord E h h_tape h_far h_from h_real h_other h_kept h_set h_w h_book h_noteSort h_whose h_what h_noteIs h_fitting h_dawn h_likes h_walked h_came v_thrown v_trouble v_where v_inn v_read v_taped v_size z.2.1 z.2.2.1 z.2.2.2.1 z.2.2.2.2.1 z.2.2.2.2.2.1 v_fault v_wrongAt z.2.2.2.2.2.2 v_marks v_notes v_tape)) args s 0 0 A := ⟨_, rfl⟩
  rw [← hQ]
  unfold fX12_eatsWord at hf
  refine lv_aload_n (pc := 0) hx hb dX12_eatsWord_0 rfl (lv_at hl 0 rfl) ?_
  refine lv_aload_n (pc := 1) hx hb dX12_eatsWord_1 rfl (lv_at hl 1 rfl) ?_
  obtain ⟨r_2, hc_2, hf⟩ := bd1 hf
  refine r_dalVi (pc := 2) (ws' := (wX12_eatsWord E h h_tape h_far h_from h_real h_other h_kept h_set h_w h_book h_noteSort h_whose h_what h_noteIs h_fitting h_dawn h_likes h_walked h_came v_thrown v_trouble v_where v_inn v_read v_taped v_size v_at v_sort v_place v_sign v_number v_fault v_wrongAt v_word v_marks v_notes v_tape)) (As := [.ref (E.2.2.2.2.1 k0)]) (rest := []) C (ctX12_isWord l E h h_tape h_far h_from h_real h_other h_kept h_set h_w h_book h_noteSort h_whose h_what h_noteIs h_fitting h_dawn h_likes h_walked h_came v_thrown v_trouble v_where v_inn v_read v_taped v_size v_at v_sort v_place v_sign v_number v_fault v_wrongAt v_word v_marks v_notes k0 hk0 N r_2 hc_2) ml_X12_138 ⟨Nat.le_of_ble_eq_true rfl, Nat.le_of_ble_eq_true rfl⟩ hP hD hS 0 rfl rfl rfl [0] [2, 1] 2 rfl rfl rfl rfl rfl rfl rfl hl.1 rfl (Nat.le_of_ble_eq_true rfl) ⟨Nat.zero_le _, Nat.zero_le _⟩ dX12_eatsWord_2 ?_
  clear hP hD hS; intro H locs hP hD hS
  refine lv_istore_n (pc := 5) (lv' := [(2, .int r_2), (0, .ref h), (1, .ref (E.2.2.2.2.1 k0))]) hx hb dX12_eatsWord_5 rfl hl (by decide) rfl (fun ls hl => ?_)
  refine lv_iload_n (pc := 6) hx hb dX12_eatsWord_6 rfl (lv_at hl 0 rfl) ?_
  refine lv_if_eq (pc := 7) (tgt := 14) hx hb dX12_eatsWord_7 (by decide) (fun c_7 => ?_) (fun c_7 => ?_)
  · replace hf := it_t c_7 hf
    refine lv_iload_n (pc := 14) hx hb dX12_eatsWord_14 rfl (lv_at hl 0 rfl) ?_
    obtain ⟨hz_15, hf⟩ := zg_s hf
    cases hf
    rw [hQ]
    exact r_zret C hr hP hD hS hz_15 rfl dX12_eatsWord_15
  · replace hf := it_f c_7 hf
    refine lv_aload_n (pc := 10) hx hb dX12_eatsWord_10 rfl (lv_at hl 1 rfl) ?_
    obtain ⟨v_at_11, v_sort_11, v_place_11, v_sign_11, v_number_11, v_word_11, hc_11, hf⟩ := bd6 hf
    refine r_dalVv (pc := 11) (ws' := (wX12_eatsWord E h h_tape h_far h_from h_real h_other h_kept h_set h_w h_book h_noteSort h_whose h_what h_noteIs h_fitting h_dawn h_likes h_walked h_came v_thrown v_trouble v_where v_inn v_read v_taped v_size v_at_11 v_sort_11 v_place_11 v_sign_11 v_number_11 v_fault v_wrongAt v_word_11 v_marks v_notes v_tape)) (As := []) (rest := []) C (ctX12_goesOn l E h h_tape h_far h_from h_real h_other h_kept h_set h_w h_book h_noteSort h_whose h_what h_noteIs h_fitting h_dawn h_likes h_walked h_came v_thrown v_trouble v_where v_inn v_read v_taped v_size v_at v_sort v_place v_sign v_number v_fault v_wrongAt v_word v_marks v_notes v_tape N (v_at_11, v_sort_11, v_place_11, v_sign_11, v_number_11, v_word_11) hc_11) ml_X12_142 ⟨Nat.le_of_ble_eq_true rfl, Nat.le_of_ble_eq_true rfl⟩ hP hD hS 0 rfl rfl rfl [0, 1] [2, 3] 2 rfl rfl rfl rfl rfl rfl rfl hl.1 rfl (Nat.le_of_ble_eq_true rfl) ⟨Nat.zero_le _, Nat.zero_le _⟩ dX12_eatsWord_11 ?_
    clear hP hD hS; intro H locs hP hD hS
    refine lv_iload_n (pc := 14) hx hb dX12_eatsWord_14 rfl (lv_at hl 0 rfl) ?_
    obtain ⟨hz_15, hf⟩ := zg_s hf
    cases hf
    rw [hQ]
    exact r_zret C hr hP hD hS hz_15 rfl dX12_eatsWord_15
def wX12_eatsSign (E : EN) (h h_tape h_far h_from h_real h_other h_kept h_set h_w h_book h_noteSort h_whose h_what h_noteIs h_fitting h_dawn h_likes h_walked h_came : Nat) (v_thrown : Int32) (v_trouble : Int32) (v_where : Int32) (v_inn : Option Nat) (v_read : Option Nat) (v_taped : Int32) (v_size : Int32) (v_at : Int32) (v_sort : Int32) (v_place : Int32) (v_sign : Int32) (v_number : Int32) (v_fault : Int32) (v_wrongAt : Int32) (v_word : Int64) (v_marks : Int32) (v_notes : Int32) (v_tape : Nat → Int32) : va_W := [(h, .inr (11, [.int v_thrown, .int v_trouble, .int v_where, va_rf v_inn, va_rf v_read, .ref h_tape, .int v_taped, .int v_size, .int v_at, .int v_sort, .int v_place, .int v_sign, .int v_number, .int v_fault, .int v_wrongAt, .long v_word, .ref h_far, .ref h_from, .ref h_real, .ref h_other, .ref h_kept, .ref h_set, .ref h_w, .int v_marks, .int v_notes, .ref h_book, .ref h_noteSort, .ref h_whose, .ref h_what, .ref h_noteIs, .ref h_fitting, .ref h_dawn, .ref h_likes, .ref h_walked, .ref h_came])), (h_tape, aB E 900 v_tape)]
def fX12_eatsSign (N : Nat) (p0 : Int32) (v_size : Int32) (v_at : Int32) (v_sort : Int32) (v_place : Int32) (v_sign : Int32) (v_number : Int32) (v_word : Int64) (v_tape : Nat → Int32) : Option (Int32 × Int32 × Int32 × Int32 × Int32 × Int32 × Int64) := jn (un1 fun (x21_s0 : Int32) => if x21_s0 = 0 then (zg x21_s0 (some (x21_s0, v_at, v_sort, v_place, v_sign, v_number, v_word))) else ((fX12_goesOn N v_size v_at v_sort v_place v_sign v_number v_word v_tape).bind (un6 fun (v_at_27 : Int32) (v_sort_27 : Int32) (v_place_27 : Int32) (v_sign_27 : Int32) (v_number_27 : Int32) (v_word_27 : Int64) => zg x21_s0 (some (x21_s0, v_at_27, v_sort_27, v_place_27, v_sign_27, v_number_27, v_word_27))))) (fun j21 => jn (un0 (j21 0)) (fun j20 => if v_sort = 4 then (if v_sign = p0 then (j21 1) else (j20 ())) else (j20 ())))
set_option maxHeartbeats 4000000 in
set_option maxRecDepth 100000 in
theorem ctX12_eatsSign (l : Launch) (E : EN) (h h_tape h_far h_from h_real h_other h_kept h_set h_w h_book h_noteSort h_whose h_what h_noteIs h_fitting h_dawn h_likes h_walked h_came : Nat) (v_thrown : Int32) (v_trouble : Int32) (v_where : Int32) (v_inn : Option Nat) (v_read : Option Nat) (v_taped : Int32) (v_size : Int32) (v_at : Int32) (v_sort : Int32) (v_place : Int32) (v_sign : Int32) (v_number : Int32) (v_fault : Int32) (v_wrongAt : Int32) (v_word : Int64) (v_marks : Int32) (v_notes : Int32) (v_tape : Nat → Int32) (N : Nat) (p0 : Int32) (z : Int32 × Int32 × Int32 × Int32 × Int32 × Int32 × Int64) (hf : fX12_eatsSign N p0 v_size v_at v_sort v_place v_sign v_number v_word v_tape = some z) : CTi l E yX12_eatsSign cX12_eatsSign 3 .boolean 2 43 [.ref h, .int p0] (wX12_eatsSign E h h_tape h_far h_from h_real h_other h_kept h_set h_w h_book h_noteSort h_whose h_what h_noteIs h_fitting h_dawn h_likes h_walked h_came v_thrown v_trouble v_where v_inn v_read v_taped v_size v_at v_sort v_place v_sign v_number v_fault v_wrongAt v_word v_marks v_notes v_tape) (z.1) (wX12_eatsSign E h h_tape h_far h_from h_real h_other h_kept h_set h_w h_book h_noteSort h_whose h_what h_noteIs h_fitting h_dawn h_likes h_walked h_came v_thrown v_trouble v_where v_inn v_read v_taped v_size z.2.1 z.2.2.1 z.2.2.2.1 z.2.2.2.2.1 z.2.2.2.2.2.1 v_fault v_wrongAt z.2.2.2.2.2.2 v_marks v_notes v_tape) := by
  intro sz
  refine ct_body (by decide) (Nat.le_of_ble_eq_true rfl) ?_
  intro p e s m args below meth c A ls hAe C hr hin hP hD hS hl
  have C : CX p s m args meth c cX12_eatsSign RX12 3 E A := C
  have hl : lv_has ls 3 [(0, .ref h), (1, .int p0)] := hl
  have hx := C.1
  have hb := C.2.1
  rw [hAe]
  clear hAe
  obtain ⟨Q, hQ⟩ : ∃ Q, Q = MQ below (Qi E A (z.1) (wX12_eatsSign E h h_tape h_far h_from h_real h_other h_kept h_set h_w h_book h_noteSort h_whose h_what h_noteIs h_fitting h_dawn h_likes h_walked h_came v_thrown v_trouble v_where v_inn v_read v_taped v_size z.2.1 z.2.2.1 z.2.2.2.1 z.2.2.2.2.1 z.2.2.2.2.2.1 v_fault v_wrongAt z.2.2.2.2.2.2 v_marks v_notes v_tape)) args s 0 0 A := ⟨_, rfl⟩
  rw [← hQ]
  unfold fX12_eatsSign at hf
  refine lv_aload_n (pc := 0) hx hb dX12_eatsSign_0 rfl (lv_at hl 0 rfl) ?_
  refine r_get (pc := 1) C hP 0 rfl fl_X12_99 rfl dX12_eatsSign_1 ?_
  refine lv_iconst (pc := 4) (v := 4) hx hb dX12_eatsSign_4 (by decide) ?_
  refine jnK hf (fun j21 ej21 hf => ?_)
  have hj21 : ∀ (x21_s0 : Int32) , j21 x21_s0 = some z → AT p l e (rmOf 2 43) s m args below meth c E A Q 0 0 3 [(0, .ref h)] (wX12_eatsSign E h h_tape h_far h_from h_real h_other h_kept h_set h_w h_book h_noteSort h_whose h_what h_noteIs h_fitting h_dawn h_likes h_walked h_came v_thrown v_trouble v_where v_inn v_read v_taped v_size v_at v_sort v_place v_sign v_number v_fault v_wrongAt v_word v_marks v_notes v_tape) 21 [.int x21_s0] := by
    intro x21_s0 hf H locs ls hl hP hD hS
    rw [ej21] at hf
    replace hf := un1_s hf
    refine lv_istore_n (pc := 21) (lv' := [(2, .int x21_s0), (0, .ref h)]) hx hb dX12_eatsSign_21 rfl hl (by decide) rfl (fun ls hl => ?_)
    refine lv_iload_n (pc := 22) hx hb dX12_eatsSign_22 rfl (lv_at hl 0 rfl) ?_
    refine lv_if_eq (pc := 23) (tgt := 30) hx hb dX12_eatsSign_23 (by decide) (fun c_23 => ?_) (fun c_23 => ?_)
    · replace hf := it_t c_23 hf
      refine lv_iload_n (pc := 30) hx hb dX12_eatsSign_30 rfl (lv_at hl 0 rfl) ?_
      obtain ⟨hz_31, hf⟩ := zg_s hf
      cases hf
      rw [hQ]
      exact r_zret C hr hP hD hS hz_31 rfl dX12_eatsSign_31
    · replace hf := it_f c_23 hf
      refine lv_aload_n (pc := 26) hx hb dX12_eatsSign_26 rfl (lv_at hl 1 rfl) ?_
      obtain ⟨v_at_27, v_sort_27, v_place_27, v_sign_27, v_number_27, v_word_27, hc_27, hf⟩ := bd6 hf
      refine r_dalVv (pc := 27) (ws' := (wX12_eatsSign E h h_tape h_far h_from h_real h_other h_kept h_set h_w h_book h_noteSort h_whose h_what h_noteIs h_fitting h_dawn h_likes h_walked h_came v_thrown v_trouble v_where v_inn v_read v_taped v_size v_at_27 v_sort_27 v_place_27 v_sign_27 v_number_27 v_fault v_wrongAt v_word_27 v_marks v_notes v_tape)) (As := []) (rest := []) C (ctX12_goesOn l E h h_tape h_far h_from h_real h_other h_kept h_set h_w h_book h_noteSort h_whose h_what h_noteIs h_fitting h_dawn h_likes h_walked h_came v_thrown v_trouble v_where v_inn v_read v_taped v_size v_at v_sort v_place v_sign v_number v_fault v_wrongAt v_word v_marks v_notes v_tape N (v_at_27, v_sort_27, v_place_27, v_sign_27, v_number_27, v_word_27) hc_27) ml_X12_142 ⟨Nat.le_of_ble_eq_true rfl, Nat.le_of_ble_eq_true rfl⟩ hP hD hS 0 rfl rfl rfl [0, 1] [2, 3] 2 rfl rfl rfl rfl rfl rfl rfl hl.1 rfl (Nat.le_of_ble_eq_true rfl) ⟨Nat.zero_le _, Nat.zero_le _⟩ dX12_eatsSign_27 ?_
      clear hP hD hS; intro H locs hP hD hS
      refine lv_iload_n (pc := 30) hx hb dX12_eatsSign_30 rfl (lv_at hl 0 rfl) ?_
      obtain ⟨hz_31, hf⟩ := zg_s hf
      cases hf
      rw [hQ]
      exact r_zret C hr hP hD hS hz_31 rfl dX12_eatsSign_31
  clear ej21
  refine jnK hf (fun j20 ej20 hf => ?_)
  have hj20 : j20 () = some z → AT p l e (rmOf 2 43) s m args below meth c E A Q 0 0 3 [(0, .ref h)] (wX12_eatsSign E h h_tape h_far h_from h_real h_other h_kept h_set h_w h_book h_noteSort h_whose h_what h_noteIs h_fitting h_dawn h_likes h_walked h_came v_thrown v_trouble v_where v_inn v_read v_taped v_size v_at v_sort v_place v_sign v_number v_fault v_wrongAt v_word v_marks v_notes v_tape) 20 [] := by
    intro  hf H locs ls hl hP hD hS
    rw [ej20] at hf
    replace hf := un0_s hf
    refine lv_iconst (pc := 20) (v := 0) hx hb dX12_eatsSign_20 (by decide) ?_
    exact hj21 0 hf _ _ _ (lv_sub hl [0] rfl) hP hD hS
  clear ej20
  refine lv_icmp_ne (pc := 5) (tgt := 20) hx hb dX12_eatsSign_5 (by decide) (fun c_5 => ?_) (fun c_5 => ?_)
  · replace hf := it_f c_5 hf
    exact hj20  hf _ _ _ (lv_sub hl [0] rfl) hP hD hS
  · replace hf := it_t c_5 hf
    refine lv_aload_n (pc := 8) hx hb dX12_eatsSign_8 rfl (lv_at hl 0 rfl) ?_
    refine r_get (pc := 9) C hP 0 rfl fl_X12_111 rfl dX12_eatsSign_9 ?_
    refine lv_iload_n (pc := 12) hx hb dX12_eatsSign_12 rfl (lv_at hl 1 rfl) ?_
    refine lv_icmp_ne (pc := 13) (tgt := 20) hx hb dX12_eatsSign_13 (by decide) (fun c_13 => ?_) (fun c_13 => ?_)
    · replace hf := it_f c_13 hf
      exact hj20  hf _ _ _ (lv_sub hl [0] rfl) hP hD hS
    · replace hf := it_t c_13 hf
      refine lv_iconst (pc := 16) (v := 1) hx hb dX12_eatsSign_16 (by decide) ?_
      refine lv_goto (pc := 17) (tgt := 21) hx hb dX12_eatsSign_17 (by decide) ?_
      exact hj21 1 hf _ _ _ (lv_sub hl [0] rfl) hP hD hS
def wX12_needs (E : EN) (h h_tape h_far h_from h_real h_other h_kept h_set h_w h_book h_noteSort h_whose h_what h_noteIs h_fitting h_dawn h_likes h_walked h_came : Nat) (v_thrown : Int32) (v_trouble : Int32) (v_where : Int32) (v_inn : Option Nat) (v_read : Option Nat) (v_taped : Int32) (v_size : Int32) (v_at : Int32) (v_sort : Int32) (v_place : Int32) (v_sign : Int32) (v_number : Int32) (v_fault : Int32) (v_wrongAt : Int32) (v_word : Int64) (v_marks : Int32) (v_notes : Int32) (v_tape : Nat → Int32) : va_W := [(h, .inr (11, [.int v_thrown, .int v_trouble, .int v_where, va_rf v_inn, va_rf v_read, .ref h_tape, .int v_taped, .int v_size, .int v_at, .int v_sort, .int v_place, .int v_sign, .int v_number, .int v_fault, .int v_wrongAt, .long v_word, .ref h_far, .ref h_from, .ref h_real, .ref h_other, .ref h_kept, .ref h_set, .ref h_w, .int v_marks, .int v_notes, .ref h_book, .ref h_noteSort, .ref h_whose, .ref h_what, .ref h_noteIs, .ref h_fitting, .ref h_dawn, .ref h_likes, .ref h_walked, .ref h_came])), (h_tape, aB E 900 v_tape)]
def fX12_needs (N : Nat) (k0 : Nat) (v_size : Int32) (v_at : Int32) (v_sort : Int32) (v_place : Int32) (v_sign : Int32) (v_number : Int32) (v_fault : Int32) (v_wrongAt : Int32) (v_word : Int64) (v_tape : Nat → Int32) : Option (Int32 × Int32 × Int32 × Int32 × Int32 × Int32 × Int32 × Int64) := (fX12_isWord N k0 v_sort v_word).bind (un1 fun (r_2 : Int32) => if r_2 = 0 then ((fX12_wrong N 1 v_sort v_place v_fault v_wrongAt).bind (un3 fun (v_sort_10 : Int32) (v_fault_10 : Int32) (v_wrongAt_10 : Int32) => (fX12_goesOn N v_size v_at v_sort_10 v_place v_sign v_number v_word v_tape).bind (un6 fun (v_at_14 : Int32) (v_sort_14 : Int32) (v_place_14 : Int32) (v_sign_14 : Int32) (v_number_14 : Int32) (v_word_14 : Int64) => some (v_at_14, v_sort_14, v_place_14, v_sign_14, v_number_14, v_fault_10, v_wrongAt_10, v_word_14)))) else ((fX12_goesOn N v_size v_at v_sort v_place v_sign v_number v_word v_tape).bind (un6 fun (v_at_14 : Int32) (v_sort_14 : Int32) (v_place_14 : Int32) (v_sign_14 : Int32) (v_number_14 : Int32) (v_word_14 : Int64) => some (v_at_14, v_sort_14, v_place_14, v_sign_14, v_number_14, v_fault, v_wrongAt, v_word_14))))
set_option maxHeartbeats 4000000 in
set_option maxRecDepth 100000 in
theorem ctX12_needs (l : Launch) (E : EN) (h h_tape h_far h_from h_real h_other h_kept h_set h_w h_book h_noteSort h_whose h_what h_noteIs h_fitting h_dawn h_likes h_walked h_came : Nat) (v_thrown : Int32) (v_trouble : Int32) (v_where : Int32) (v_inn : Option Nat) (v_read : Option Nat) (v_taped : Int32) (v_size : Int32) (v_at : Int32) (v_sort : Int32) (v_place : Int32) (v_sign : Int32) (v_number : Int32) (v_fault : Int32) (v_wrongAt : Int32) (v_word : Int64) (v_marks : Int32) (v_notes : Int32) (v_tape : Nat → Int32) (k0 : Nat) (hk0 : k0 < 24) (N : Nat) (z : Int32 × Int32 × Int32 × Int32 × Int32 × Int32 × Int32 × Int64) (hf : fX12_needs N k0 v_size v_at v_sort v_place v_sign v_number v_fault v_wrongAt v_word v_tape = some z) : CTv l E yX12_needs cX12_needs 2 6 129 [.ref h, .ref (E.2.2.2.2.1 k0)] (wX12_needs E h h_tape h_far h_from h_real h_other h_kept h_set h_w h_book h_noteSort h_whose h_what h_noteIs h_fitting h_dawn h_likes h_walked h_came v_thrown v_trouble v_where v_inn v_read v_taped v_size v_at v_sort v_place v_sign v_number v_fault v_wrongAt v_word v_marks v_notes v_tape) (wX12_needs E h h_tape h_far h_from h_real h_other h_kept h_set h_w h_book h_noteSort h_whose h_what h_noteIs h_fitting h_dawn h_likes h_walked h_came v_thrown v_trouble v_where v_inn v_read v_taped v_size z.1 z.2.1 z.2.2.1 z.2.2.2.1 z.2.2.2.2.1 z.2.2.2.2.2.1 z.2.2.2.2.2.2.1 z.2.2.2.2.2.2.2 v_marks v_notes v_tape) := by
  intro sz
  refine ct_body (by decide) (Nat.le_of_ble_eq_true rfl) ?_
  intro p e s m args below meth c A ls hAe C hr hin hP hD hS hl
  have C : CX p s m args meth c cX12_needs RX12 2 E A := C
  have hl : lv_has ls 2 [(0, .ref h), (1, .ref (E.2.2.2.2.1 k0))] := hl
  have hx := C.1
  have hb := C.2.1
  rw [hAe]
  clear hAe
  obtain ⟨Q, hQ⟩ : ∃ Q, Q = MQ below (Qv E A (wX12_needs E h h_tape h_far h_from h_real h_other h_kept h_set h_w h_book h_noteSort h_whose h_what h_noteIs h_fitting h_dawn h_likes h_walked h_came v_thrown v_trouble v_where v_inn v_read v_taped v_size z.1 z.2.1 z.2.2.1 z.2.2.2.1 z.2.2.2.2.1 z.2.2.2.2.2.1 z.2.2.2.2.2.2.1 z.2.2.2.2.2.2.2 v_marks v_notes v_tape)) args s 0 0 A := ⟨_, rfl⟩
  rw [← hQ]
  unfold fX12_needs at hf
  refine lv_aload_n (pc := 0) hx hb dX12_needs_0 rfl (lv_at hl 0 rfl) ?_
  refine lv_aload_n (pc := 1) hx hb dX12_needs_1 rfl (lv_at hl 1 rfl) ?_
  obtain ⟨r_2, hc_2, hf⟩ := bd1 hf
  refine r_dalVi (pc := 2) (ws' := (wX12_needs E h h_tape h_far h_from h_real h_other h_kept h_set h_w h_book h_noteSort h_whose h_what h_noteIs h_fitting h_dawn h_likes h_walked h_came v_thrown v_trouble v_where v_inn v_read v_taped v_size v_at v_sort v_place v_sign v_number v_fault v_wrongAt v_word v_marks v_notes v_tape)) (As := [.ref (E.2.2.2.2.1 k0)]) (rest := []) C (ctX12_isWord l E h h_tape h_far h_from h_real h_other h_kept h_set h_w h_book h_noteSort h_whose h_what h_noteIs h_fitting h_dawn h_likes h_walked h_came v_thrown v_trouble v_where v_inn v_read v_taped v_size v_at v_sort v_place v_sign v_number v_fault v_wrongAt v_word v_marks v_notes k0 hk0 N r_2 hc_2) ml_X12_138 ⟨Nat.le_of_ble_eq_true rfl, Nat.le_of_ble_eq_true rfl⟩ hP hD hS 0 rfl rfl rfl [0] [2, 1] 2 rfl rfl rfl rfl rfl rfl rfl hl.1 rfl (Nat.le_of_ble_eq_true rfl) ⟨Nat.zero_le _, Nat.zero_le _⟩ dX12_needs_2 ?_
  clear hP hD hS; intro H locs hP hD hS
  refine lv_if_ne (pc := 5) (tgt := 13) hx hb dX12_needs_5 (by decide) (fun c_5 => ?_) (fun c_5 => ?_)
  · replace hf := it_f c_5 hf
    refine lv_aload_n (pc := 13) hx hb dX12_needs_13 rfl (lv_at hl 0 rfl) ?_
    obtain ⟨v_at_14, v_sort_14, v_place_14, v_sign_14, v_number_14, v_word_14, hc_14, hf⟩ := bd6 hf
    refine r_dalVv (pc := 14) (ws' := (wX12_needs E h h_tape h_far h_from h_real h_other h_kept h_set h_w h_book h_noteSort h_whose h_what h_noteIs h_fitting h_dawn h_likes h_walked h_came v_thrown v_trouble v_where v_inn v_read v_taped v_size v_at_14 v_sort_14 v_place_14 v_sign_14 v_number_14 v_fault v_wrongAt v_word_14 v_marks v_notes v_tape)) (As := []) (rest := []) C (ctX12_goesOn l E h h_tape h_far h_from h_real h_other h_kept h_set h_w h_book h_noteSort h_whose h_what h_noteIs h_fitting h_dawn h_likes h_walked h_came v_thrown v_trouble v_where v_inn v_read v_taped v_size v_at v_sort v_place v_sign v_number v_fault v_wrongAt v_word v_marks v_notes v_tape N (v_at_14, v_sort_14, v_place_14, v_sign_14, v_number_14, v_word_14) hc_14) ml_X12_142 ⟨Nat.le_of_ble_eq_true rfl, Nat.le_of_ble_eq_true rfl⟩ hP hD hS 0 rfl rfl rfl [0, 1] [2, 3] 2 rfl rfl rfl rfl rfl rfl rfl hl.1 rfl (Nat.le_of_ble_eq_true rfl) ⟨Nat.zero_le _, Nat.zero_le _⟩ dX12_needs_14 ?_
    clear hP hD hS; intro H locs hP hD hS
    cases hf
    rw [hQ]
    exact r_vret C hr hP hD hS dX12_needs_17
  · replace hf := it_t c_5 hf
    refine lv_aload_n (pc := 8) hx hb dX12_needs_8 rfl (lv_at hl 0 rfl) ?_
    refine lv_iconst (pc := 9) (v := 1) hx hb dX12_needs_9 (by decide) ?_
    obtain ⟨v_sort_10, v_fault_10, v_wrongAt_10, hc_10, hf⟩ := bd3 hf
    refine r_dalVv (pc := 10) (ws' := (wX12_needs E h h_tape h_far h_from h_real h_other h_kept h_set h_w h_book h_noteSort h_whose h_what h_noteIs h_fitting h_dawn h_likes h_walked h_came v_thrown v_trouble v_where v_inn v_read v_taped v_size v_at v_sort_10 v_place v_sign v_number v_fault_10 v_wrongAt_10 v_word v_marks v_notes v_tape)) (As := [.int 1]) (rest := []) C (ctX12_wrong l E h h_tape h_far h_from h_real h_other h_kept h_set h_w h_book h_noteSort h_whose h_what h_noteIs h_fitting h_dawn h_likes h_walked h_came v_thrown v_trouble v_where v_inn v_read v_taped v_size v_at v_sort v_place v_sign v_number v_fault v_wrongAt v_word v_marks v_notes N 1 (v_sort_10, v_fault_10, v_wrongAt_10) hc_10) ml_X12_145 ⟨Nat.le_of_ble_eq_true rfl, Nat.le_of_ble_eq_true rfl⟩ hP hD hS 0 rfl rfl rfl [0] [2, 1] 2 rfl rfl rfl rfl rfl rfl rfl hl.1 rfl (Nat.le_of_ble_eq_true rfl) ⟨Nat.zero_le _, Nat.zero_le _⟩ dX12_needs_10 ?_
    clear hP hD hS; intro H locs hP hD hS
    refine lv_aload_n (pc := 13) hx hb dX12_needs_13 rfl (lv_at hl 0 rfl) ?_
    obtain ⟨v_at_14, v_sort_14, v_place_14, v_sign_14, v_number_14, v_word_14, hc_14, hf⟩ := bd6 hf
    refine r_dalVv (pc := 14) (ws' := (wX12_needs E h h_tape h_far h_from h_real h_other h_kept h_set h_w h_book h_noteSort h_whose h_what h_noteIs h_fitting h_dawn h_likes h_walked h_came v_thrown v_trouble v_where v_inn v_read v_taped v_size v_at_14 v_sort_14 v_place_14 v_sign_14 v_number_14 v_fault_10 v_wrongAt_10 v_word_14 v_marks v_notes v_tape)) (As := []) (rest := []) C (ctX12_goesOn l E h h_tape h_far h_from h_real h_other h_kept h_set h_w h_book h_noteSort h_whose h_what h_noteIs h_fitting h_dawn h_likes h_walked h_came v_thrown v_trouble v_where v_inn v_read v_taped v_size v_at v_sort_10 v_place v_sign v_number v_fault_10 v_wrongAt_10 v_word v_marks v_notes v_tape N (v_at_14, v_sort_14, v_place_14, v_sign_14, v_number_14, v_word_14) hc_14) ml_X12_142 ⟨Nat.le_of_ble_eq_true rfl, Nat.le_of_ble_eq_true rfl⟩ hP hD hS 0 rfl rfl rfl [0, 1] [2, 3] 2 rfl rfl rfl rfl rfl rfl rfl hl.1 rfl (Nat.le_of_ble_eq_true rfl) ⟨Nat.zero_le _, Nat.zero_le _⟩ dX12_needs_14 ?_
    clear hP hD hS; intro H locs hP hD hS
    cases hf
    rw [hQ]
    exact r_vret C hr hP hD hS dX12_needs_17
def wX12_needsSign (E : EN) (h h_tape h_far h_from h_real h_other h_kept h_set h_w h_book h_noteSort h_whose h_what h_noteIs h_fitting h_dawn h_likes h_walked h_came : Nat) (v_thrown : Int32) (v_trouble : Int32) (v_where : Int32) (v_inn : Option Nat) (v_read : Option Nat) (v_taped : Int32) (v_size : Int32) (v_at : Int32) (v_sort : Int32) (v_place : Int32) (v_sign : Int32) (v_number : Int32) (v_fault : Int32) (v_wrongAt : Int32) (v_word : Int64) (v_marks : Int32) (v_notes : Int32) (v_tape : Nat → Int32) : va_W := [(h, .inr (11, [.int v_thrown, .int v_trouble, .int v_where, va_rf v_inn, va_rf v_read, .ref h_tape, .int v_taped, .int v_size, .int v_at, .int v_sort, .int v_place, .int v_sign, .int v_number, .int v_fault, .int v_wrongAt, .long v_word, .ref h_far, .ref h_from, .ref h_real, .ref h_other, .ref h_kept, .ref h_set, .ref h_w, .int v_marks, .int v_notes, .ref h_book, .ref h_noteSort, .ref h_whose, .ref h_what, .ref h_noteIs, .ref h_fitting, .ref h_dawn, .ref h_likes, .ref h_walked, .ref h_came])), (h_tape, aB E 900 v_tape)]
def fX12_needsSign (N : Nat) (p0 : Int32) (v_size : Int32) (v_at : Int32) (v_sort : Int32) (v_place : Int32) (v_sign : Int32) (v_number : Int32) (v_fault : Int32) (v_wrongAt : Int32) (v_word : Int64) (v_tape : Nat → Int32) : Option (Int32 × Int32 × Int32 × Int32 × Int32 × Int32 × Int32 × Int64) := jn (un0 ((fX12_wrong N 1 v_sort v_place v_fault v_wrongAt).bind (un3 fun (v_sort_18 : Int32) (v_fault_18 : Int32) (v_wrongAt_18 : Int32) => (fX12_goesOn N v_size v_at v_sort_18 v_place v_sign v_number v_word v_tape).bind (un6 fun (v_at_22 : Int32) (v_sort_22 : Int32) (v_place_22 : Int32) (v_sign_22 : Int32) (v_number_22 : Int32) (v_word_22 : Int64) => some (v_at_22, v_sort_22, v_place_22, v_sign_22, v_number_22, v_fault_18, v_wrongAt_18, v_word_22))))) (fun j16 => if v_sort = 4 then (if v_sign = p0 then ((fX12_goesOn N v_size v_at v_sort v_place v_sign v_number v_word v_tape).bind (un6 fun (v_at_22 : Int32) (v_sort_22 : Int32) (v_place_22 : Int32) (v_sign_22 : Int32) (v_number_22 : Int32) (v_word_22 : Int64) => some (v_at_22, v_sort_22, v_place_22, v_sign_22, v_number_22, v_fault, v_wrongAt, v_word_22))) else (j16 ())) else (j16 ()))
set_option maxHeartbeats 4000000 in
set_option maxRecDepth 100000 in
theorem ctX12_needsSign (l : Launch) (E : EN) (h h_tape h_far h_from h_real h_other h_kept h_set h_w h_book h_noteSort h_whose h_what h_noteIs h_fitting h_dawn h_likes h_walked h_came : Nat) (v_thrown : Int32) (v_trouble : Int32) (v_where : Int32) (v_inn : Option Nat) (v_read : Option Nat) (v_taped : Int32) (v_size : Int32) (v_at : Int32) (v_sort : Int32) (v_place : Int32) (v_sign : Int32) (v_number : Int32) (v_fault : Int32) (v_wrongAt : Int32) (v_word : Int64) (v_marks : Int32) (v_notes : Int32) (v_tape : Nat → Int32) (N : Nat) (p0 : Int32) (z : Int32 × Int32 × Int32 × Int32 × Int32 × Int32 × Int32 × Int64) (hf : fX12_needsSign N p0 v_size v_at v_sort v_place v_sign v_number v_fault v_wrongAt v_word v_tape = some z) : CTv l E yX12_needsSign cX12_needsSign 2 2 43 [.ref h, .int p0] (wX12_needsSign E h h_tape h_far h_from h_real h_other h_kept h_set h_w h_book h_noteSort h_whose h_what h_noteIs h_fitting h_dawn h_likes h_walked h_came v_thrown v_trouble v_where v_inn v_read v_taped v_size v_at v_sort v_place v_sign v_number v_fault v_wrongAt v_word v_marks v_notes v_tape) (wX12_needsSign E h h_tape h_far h_from h_real h_other h_kept h_set h_w h_book h_noteSort h_whose h_what h_noteIs h_fitting h_dawn h_likes h_walked h_came v_thrown v_trouble v_where v_inn v_read v_taped v_size z.1 z.2.1 z.2.2.1 z.2.2.2.1 z.2.2.2.2.1 z.2.2.2.2.2.1 z.2.2.2.2.2.2.1 z.2.2.2.2.2.2.2 v_marks v_notes v_tape) := by
  intro sz
  refine ct_body (by decide) (Nat.le_of_ble_eq_true rfl) ?_
  intro p e s m args below meth c A ls hAe C hr hin hP hD hS hl
  have C : CX p s m args meth c cX12_needsSign RX12 2 E A := C
  have hl : lv_has ls 2 [(0, .ref h), (1, .int p0)] := hl
  have hx := C.1
  have hb := C.2.1
  rw [hAe]
  clear hAe
  obtain ⟨Q, hQ⟩ : ∃ Q, Q = MQ below (Qv E A (wX12_needsSign E h h_tape h_far h_from h_real h_other h_kept h_set h_w h_book h_noteSort h_whose h_what h_noteIs h_fitting h_dawn h_likes h_walked h_came v_thrown v_trouble v_where v_inn v_read v_taped v_size z.1 z.2.1 z.2.2.1 z.2.2.2.1 z.2.2.2.2.1 z.2.2.2.2.2.1 z.2.2.2.2.2.2.1 z.2.2.2.2.2.2.2 v_marks v_notes v_tape)) args s 0 0 A := ⟨_, rfl⟩
  rw [← hQ]
  unfold fX12_needsSign at hf
  refine lv_aload_n (pc := 0) hx hb dX12_needsSign_0 rfl (lv_at hl 0 rfl) ?_
  refine r_get (pc := 1) C hP 0 rfl fl_X12_99 rfl dX12_needsSign_1 ?_
  refine lv_iconst (pc := 4) (v := 4) hx hb dX12_needsSign_4 (by decide) ?_
  refine jnK hf (fun j16 ej16 hf => ?_)
  have hj16 : j16 () = some z → AT p l e (rmOf 2 43) s m args below meth c E A Q 0 0 2 [(0, .ref h)] (wX12_needsSign E h h_tape h_far h_from h_real h_other h_kept h_set h_w h_book h_noteSort h_whose h_what h_noteIs h_fitting h_dawn h_likes h_walked h_came v_thrown v_trouble v_where v_inn v_read v_taped v_size v_at v_sort v_place v_sign v_number v_fault v_wrongAt v_word v_marks v_notes v_tape) 16 [] := by
    intro  hf H locs ls hl hP hD hS
    rw [ej16] at hf
    replace hf := un0_s hf
    refine lv_aload_n (pc := 16) hx hb dX12_needsSign_16 rfl (lv_at hl 0 rfl) ?_
    refine lv_iconst (pc := 17) (v := 1) hx hb dX12_needsSign_17 (by decide) ?_
    obtain ⟨v_sort_18, v_fault_18, v_wrongAt_18, hc_18, hf⟩ := bd3 hf
    refine r_dalVv (pc := 18) (ws' := (wX12_needsSign E h h_tape h_far h_from h_real h_other h_kept h_set h_w h_book h_noteSort h_whose h_what h_noteIs h_fitting h_dawn h_likes h_walked h_came v_thrown v_trouble v_where v_inn v_read v_taped v_size v_at v_sort_18 v_place v_sign v_number v_fault_18 v_wrongAt_18 v_word v_marks v_notes v_tape)) (As := [.int 1]) (rest := []) C (ctX12_wrong l E h h_tape h_far h_from h_real h_other h_kept h_set h_w h_book h_noteSort h_whose h_what h_noteIs h_fitting h_dawn h_likes h_walked h_came v_thrown v_trouble v_where v_inn v_read v_taped v_size v_at v_sort v_place v_sign v_number v_fault v_wrongAt v_word v_marks v_notes N 1 (v_sort_18, v_fault_18, v_wrongAt_18) hc_18) ml_X12_145 ⟨Nat.le_of_ble_eq_true rfl, Nat.le_of_ble_eq_true rfl⟩ hP hD hS 0 rfl rfl rfl [0] [2, 1] 2 rfl rfl rfl rfl rfl rfl rfl hl.1 rfl (Nat.le_of_ble_eq_true rfl) ⟨Nat.zero_le _, Nat.zero_le _⟩ dX12_needsSign_18 ?_
    clear hP hD hS; intro H locs hP hD hS
    refine lv_aload_n (pc := 21) hx hb dX12_needsSign_21 rfl (lv_at hl 0 rfl) ?_
    obtain ⟨v_at_22, v_sort_22, v_place_22, v_sign_22, v_number_22, v_word_22, hc_22, hf⟩ := bd6 hf
    refine r_dalVv (pc := 22) (ws' := (wX12_needsSign E h h_tape h_far h_from h_real h_other h_kept h_set h_w h_book h_noteSort h_whose h_what h_noteIs h_fitting h_dawn h_likes h_walked h_came v_thrown v_trouble v_where v_inn v_read v_taped v_size v_at_22 v_sort_22 v_place_22 v_sign_22 v_number_22 v_fault_18 v_wrongAt_18 v_word_22 v_marks v_notes v_tape)) (As := []) (rest := []) C (ctX12_goesOn l E h h_tape h_far h_from h_real h_other h_kept h_set h_w h_book h_noteSort h_whose h_what h_noteIs h_fitting h_dawn h_likes h_walked h_came v_thrown v_trouble v_where v_inn v_read v_taped v_size v_at v_sort_18 v_place v_sign v_number v_fault_18 v_wrongAt_18 v_word v_marks v_notes v_tape N (v_at_22, v_sort_22, v_place_22, v_sign_22, v_number_22, v_word_22) hc_22) ml_X12_142 ⟨Nat.le_of_ble_eq_true rfl, Nat.le_of_ble_eq_true rfl⟩ hP hD hS 0 rfl rfl rfl [0, 1] [2, 3] 2 rfl rfl rfl rfl rfl rfl rfl hl.1 rfl (Nat.le_of_ble_eq_true rfl) ⟨Nat.zero_le _, Nat.zero_le _⟩ dX12_needsSign_22 ?_
    clear hP hD hS; intro H locs hP hD hS
    cases hf
    rw [hQ]
    exact r_vret C hr hP hD hS dX12_needsSign_25
  clear ej16
  refine lv_icmp_ne (pc := 5) (tgt := 16) hx hb dX12_needsSign_5 (by decide) (fun c_5 => ?_) (fun c_5 => ?_)
  · replace hf := it_f c_5 hf
    exact hj16  hf _ _ _ (lv_sub hl [0] rfl) hP hD hS
  · replace hf := it_t c_5 hf
    refine lv_aload_n (pc := 8) hx hb dX12_needsSign_8 rfl (lv_at hl 0 rfl) ?_
    refine r_get (pc := 9) C hP 0 rfl fl_X12_111 rfl dX12_needsSign_9 ?_
    refine lv_iload_n (pc := 12) hx hb dX12_needsSign_12 rfl (lv_at hl 1 rfl) ?_
    refine lv_icmp_eq (pc := 13) (tgt := 21) hx hb dX12_needsSign_13 (by decide) (fun c_13 => ?_) (fun c_13 => ?_)
    · replace hf := it_t c_13 hf
      refine lv_aload_n (pc := 21) hx hb dX12_needsSign_21 rfl (lv_at hl 0 rfl) ?_
      obtain ⟨v_at_22, v_sort_22, v_place_22, v_sign_22, v_number_22, v_word_22, hc_22, hf⟩ := bd6 hf
      refine r_dalVv (pc := 22) (ws' := (wX12_needsSign E h h_tape h_far h_from h_real h_other h_kept h_set h_w h_book h_noteSort h_whose h_what h_noteIs h_fitting h_dawn h_likes h_walked h_came v_thrown v_trouble v_where v_inn v_read v_taped v_size v_at_22 v_sort_22 v_place_22 v_sign_22 v_number_22 v_fault v_wrongAt v_word_22 v_marks v_notes v_tape)) (As := []) (rest := []) C (ctX12_goesOn l E h h_tape h_far h_from h_real h_other h_kept h_set h_w h_book h_noteSort h_whose h_what h_noteIs h_fitting h_dawn h_likes h_walked h_came v_thrown v_trouble v_where v_inn v_read v_taped v_size v_at v_sort v_place v_sign v_number v_fault v_wrongAt v_word v_marks v_notes v_tape N (v_at_22, v_sort_22, v_place_22, v_sign_22, v_number_22, v_word_22) hc_22) ml_X12_142 ⟨Nat.le_of_ble_eq_true rfl, Nat.le_of_ble_eq_true rfl⟩ hP hD hS 0 rfl rfl rfl [0, 1] [2, 3] 2 rfl rfl rfl rfl rfl rfl rfl hl.1 rfl (Nat.le_of_ble_eq_true rfl) ⟨Nat.zero_le _, Nat.zero_le _⟩ dX12_needsSign_22 ?_
      clear hP hD hS; intro H locs hP hD hS
      cases hf
      rw [hQ]
      exact r_vret C hr hP hD hS dX12_needsSign_25
    · replace hf := it_f c_13 hf
      exact hj16  hf _ _ _ (lv_sub hl [0] rfl) hP hD hS
def wX12_whole (E : EN) (h h_tape h_far h_from h_real h_other h_kept h_set h_w h_book h_noteSort h_whose h_what h_noteIs h_fitting h_dawn h_likes h_walked h_came : Nat) (v_thrown : Int32) (v_trouble : Int32) (v_where : Int32) (v_inn : Option Nat) (v_read : Option Nat) (v_taped : Int32) (v_size : Int32) (v_at : Int32) (v_sort : Int32) (v_place : Int32) (v_sign : Int32) (v_number : Int32) (v_fault : Int32) (v_wrongAt : Int32) (v_word : Int64) (v_marks : Int32) (v_notes : Int32) : va_W := [(h, .inr (11, [.int v_thrown, .int v_trouble, .int v_where, va_rf v_inn, va_rf v_read, .ref h_tape, .int v_taped, .int v_size, .int v_at, .int v_sort, .int v_place, .int v_sign, .int v_number, .int v_fault, .int v_wrongAt, .long v_word, .ref h_far, .ref h_from, .ref h_real, .ref h_other, .ref h_kept, .ref h_set, .ref h_w, .int v_marks, .int v_notes, .ref h_book, .ref h_noteSort, .ref h_whose, .ref h_what, .ref h_noteIs, .ref h_fitting, .ref h_dawn, .ref h_likes, .ref h_walked, .ref h_came]))]
def fX12_whole (N : Nat) (p0 : Int32) (p1 : Int32) (v_sort : Int32) (v_place : Int32) (v_number : Int32) (v_fault : Int32) (v_wrongAt : Int32) : Option (Int32 × Int32 × Int32 × Int32) := jn (un3 fun (x33_sort : Int32) (x33_fault : Int32) (x33_wrongAt : Int32) => if x33_sort = 5 then (some (0, x33_sort, x33_fault, x33_wrongAt)) else (some (v_number, x33_sort, x33_fault, x33_wrongAt))) (fun j33 => if v_sort = 3 then ((fX12_in N v_number p0 p1).bind (un1 fun (r_22 : Int32) => if r_22 = 0 then ((fX12_wrong N 4 v_sort v_place v_fault v_wrongAt).bind (un3 fun (v_sort_30 : Int32) (v_fault_30 : Int32) (v_wrongAt_30 : Int32) => j33 (v_sort_30, v_fault_30, v_wrongAt_30))) else (j33 (v_sort, v_fault, v_wrongAt)))) else ((fX12_wrong N 1 v_sort v_place v_fault v_wrongAt).bind (un3 fun (v_sort_10 : Int32) (v_fault_10 : Int32) (v_wrongAt_10 : Int32) => j33 (v_sort_10, v_fault_10, v_wrongAt_10))))
set_option maxHeartbeats 4000000 in
set_option maxRecDepth 100000 in
theorem ctX12_whole (l : Launch) (E : EN) (h h_tape h_far h_from h_real h_other h_kept h_set h_w h_book h_noteSort h_whose h_what h_noteIs h_fitting h_dawn h_likes h_walked h_came : Nat) (v_thrown : Int32) (v_trouble : Int32) (v_where : Int32) (v_inn : Option Nat) (v_read : Option Nat) (v_taped : Int32) (v_size : Int32) (v_at : Int32) (v_sort : Int32) (v_place : Int32) (v_sign : Int32) (v_number : Int32) (v_fault : Int32) (v_wrongAt : Int32) (v_word : Int64) (v_marks : Int32) (v_notes : Int32) (N : Nat) (p0 : Int32) (p1 : Int32) (z : Int32 × Int32 × Int32 × Int32) (hf : fX12_whole N p0 p1 v_sort v_place v_number v_fault v_wrongAt = some z) : CTi l E yX12_whole cX12_whole 3 .int 1 22 [.ref h, .int p0, .int p1] (wX12_whole E h h_tape h_far h_from h_real h_other h_kept h_set h_w h_book h_noteSort h_whose h_what h_noteIs h_fitting h_dawn h_likes h_walked h_came v_thrown v_trouble v_where v_inn v_read v_taped v_size v_at v_sort v_place v_sign v_number v_fault v_wrongAt v_word v_marks v_notes) (z.1) (wX12_whole E h h_tape h_far h_from h_real h_other h_kept h_set h_w h_book h_noteSort h_whose h_what h_noteIs h_fitting h_dawn h_likes h_walked h_came v_thrown v_trouble v_where v_inn v_read v_taped v_size v_at z.2.1 v_place v_sign v_number z.2.2.1 z.2.2.2 v_word v_marks v_notes) := by
  intro sz
  refine ct_body (by decide) (Nat.le_of_ble_eq_true rfl) ?_
  intro p e s m args below meth c A ls hAe C hr hin hP hD hS hl
  have C : CX p s m args meth c cX12_whole RX12 3 E A := C
  have hl : lv_has ls 3 [(0, .ref h), (1, .int p0), (2, .int p1)] := hl
  have hx := C.1
  have hb := C.2.1
  rw [hAe]
  clear hAe
  obtain ⟨Q, hQ⟩ : ∃ Q, Q = MQ below (Qi E A (z.1) (wX12_whole E h h_tape h_far h_from h_real h_other h_kept h_set h_w h_book h_noteSort h_whose h_what h_noteIs h_fitting h_dawn h_likes h_walked h_came v_thrown v_trouble v_where v_inn v_read v_taped v_size v_at z.2.1 v_place v_sign v_number z.2.2.1 z.2.2.2 v_word v_marks v_notes)) args s 0 0 A := ⟨_, rfl⟩
  rw [← hQ]
  unfold fX12_whole at hf
  refine lv_aload_n (pc := 0) hx hb dX12_whole_0 rfl (lv_at hl 0 rfl) ?_
  refine r_get (pc := 1) C hP 0 rfl fl_X12_99 rfl dX12_whole_1 ?_
  refine lv_iconst (pc := 4) (v := 3) hx hb dX12_whole_4 (by decide) ?_
  refine jnK hf (fun j33 ej33 hf => ?_)
  have hj33 : ∀ (x33_sort : Int32) (x33_fault : Int32) (x33_wrongAt : Int32) , j33 (x33_sort, x33_fault, x33_wrongAt) = some z → AT p l e (rmOf 1 22) s m args below meth c E A Q 0 0 3 [(0, .ref h)] (wX12_whole E h h_tape h_far h_from h_real h_other h_kept h_set h_w h_book h_noteSort h_whose h_what h_noteIs h_fitting h_dawn h_likes h_walked h_came v_thrown v_trouble v_where v_inn v_read v_taped v_size v_at x33_sort v_place v_sign v_number x33_fault x33_wrongAt v_word v_marks v_notes) 33 [] := by
    intro x33_sort x33_fault x33_wrongAt hf H locs ls hl hP hD hS
    rw [ej33] at hf
    replace hf := un3_s hf
    refine lv_aload_n (pc := 33) hx hb dX12_whole_33 rfl (lv_at hl 0 rfl) ?_
    refine r_get (pc := 34) C hP 0 rfl fl_X12_99 rfl dX12_whole_34 ?_
    refine lv_iconst (pc := 37) (v := 5) hx hb dX12_whole_37 (by decide) ?_
    refine lv_icmp_ne (pc := 38) (tgt := 45) hx hb dX12_whole_38 (by decide) (fun c_38 => ?_) (fun c_38 => ?_)
    · replace hf := it_f c_38 hf
      refine lv_aload_n (pc := 45) hx hb dX12_whole_45 rfl (lv_at hl 0 rfl) ?_
      refine r_get (pc := 46) C hP 0 rfl fl_X12_125 rfl dX12_whole_46 ?_
      cases hf
      rw [hQ]
      exact r_iret C hr hP hD hS rfl dX12_whole_49
    · replace hf := it_t c_38 hf
      refine lv_iconst (pc := 41) (v := 0) hx hb dX12_whole_41 (by decide) ?_
      refine lv_goto (pc := 42) (tgt := 49) hx hb dX12_whole_42 (by decide) ?_
      cases hf
      rw [hQ]
      exact r_iret C hr hP hD hS rfl dX12_whole_49
  clear ej33
  refine lv_icmp_eq (pc := 5) (tgt := 16) hx hb dX12_whole_5 (by decide) (fun c_5 => ?_) (fun c_5 => ?_)
  · replace hf := it_t c_5 hf
    refine lv_aload_n (pc := 16) hx hb dX12_whole_16 rfl (lv_at hl 0 rfl) ?_
    refine r_get (pc := 17) C hP 0 rfl fl_X12_125 rfl dX12_whole_17 ?_
    refine lv_iload_n (pc := 20) hx hb dX12_whole_20 rfl (lv_at hl 1 rfl) ?_
    refine lv_iload_n (pc := 21) hx hb dX12_whole_21 rfl (lv_at hl 2 rfl) ?_
    obtain ⟨r_22, hc_22, hf⟩ := bd1 hf
    refine r_dalSi (pc := 22) (Cn := "") (h := 0) (ws' := (wX12_whole E h h_tape h_far h_from h_real h_other h_kept h_set h_w h_book h_noteSort h_whose h_what h_noteIs h_fitting h_dawn h_likes h_walked h_came v_thrown v_trouble v_where v_inn v_read v_taped v_size v_at v_sort v_place v_sign v_number v_fault v_wrongAt v_word v_marks v_notes)) (As := [.int v_number, .int p0, .int p1]) (rest := []) C (ctX12_in l E N v_number p0 p1 r_22 hc_22) ml_X12_149 ⟨Nat.le_of_ble_eq_true rfl, Nat.le_of_ble_eq_true rfl⟩ hP hD hS [] [0] 1 rfl rfl rfl rfl rfl rfl rfl hl.1 rfl (Nat.le_of_ble_eq_true rfl) ⟨Nat.zero_le _, Nat.zero_le _⟩ dX12_whole_22 ?_
    clear hP hD hS; intro H locs hP hD hS
    refine lv_if_ne (pc := 25) (tgt := 33) hx hb dX12_whole_25 (by decide) (fun c_25 => ?_) (fun c_25 => ?_)
    · replace hf := it_f c_25 hf
      exact hj33 v_sort v_fault v_wrongAt hf _ _ _ (lv_sub hl [0] rfl) hP hD hS
    · replace hf := it_t c_25 hf
      refine lv_aload_n (pc := 28) hx hb dX12_whole_28 rfl (lv_at hl 0 rfl) ?_
      refine lv_iconst (pc := 29) (v := 4) hx hb dX12_whole_29 (by decide) ?_
      obtain ⟨v_sort_30, v_fault_30, v_wrongAt_30, hc_30, hf⟩ := bd3 hf
      refine r_dalVv (pc := 30) (ws' := (wX12_whole E h h_tape h_far h_from h_real h_other h_kept h_set h_w h_book h_noteSort h_whose h_what h_noteIs h_fitting h_dawn h_likes h_walked h_came v_thrown v_trouble v_where v_inn v_read v_taped v_size v_at v_sort_30 v_place v_sign v_number v_fault_30 v_wrongAt_30 v_word v_marks v_notes)) (As := [.int 4]) (rest := []) C (ctX12_wrong l E h h_tape h_far h_from h_real h_other h_kept h_set h_w h_book h_noteSort h_whose h_what h_noteIs h_fitting h_dawn h_likes h_walked h_came v_thrown v_trouble v_where v_inn v_read v_taped v_size v_at v_sort v_place v_sign v_number v_fault v_wrongAt v_word v_marks v_notes N 4 (v_sort_30, v_fault_30, v_wrongAt_30) hc_30) ml_X12_145 ⟨Nat.le_of_ble_eq_true rfl, Nat.le_of_ble_eq_true rfl⟩ hP hD hS 0 rfl rfl rfl [0] [1] 1 rfl rfl rfl rfl rfl rfl rfl hl.1 rfl (Nat.le_of_ble_eq_true rfl) ⟨Nat.zero_le _, Nat.zero_le _⟩ dX12_whole_30 ?_
      clear hP hD hS; intro H locs hP hD hS
      exact hj33 v_sort_30 v_fault_30 v_wrongAt_30 hf _ _ _ (lv_sub hl [0] rfl) hP hD hS
  · replace hf := it_f c_5 hf
    refine lv_aload_n (pc := 8) hx hb dX12_whole_8 rfl (lv_at hl 0 rfl) ?_
    refine lv_iconst (pc := 9) (v := 1) hx hb dX12_whole_9 (by decide) ?_
    obtain ⟨v_sort_10, v_fault_10, v_wrongAt_10, hc_10, hf⟩ := bd3 hf
    refine r_dalVv (pc := 10) (ws' := (wX12_whole E h h_tape h_far h_from h_real h_other h_kept h_set h_w h_book h_noteSort h_whose h_what h_noteIs h_fitting h_dawn h_likes h_walked h_came v_thrown v_trouble v_where v_inn v_read v_taped v_size v_at v_sort_10 v_place v_sign v_number v_fault_10 v_wrongAt_10 v_word v_marks v_notes)) (As := [.int 1]) (rest := []) C (ctX12_wrong l E h h_tape h_far h_from h_real h_other h_kept h_set h_w h_book h_noteSort h_whose h_what h_noteIs h_fitting h_dawn h_likes h_walked h_came v_thrown v_trouble v_where v_inn v_read v_taped v_size v_at v_sort v_place v_sign v_number v_fault v_wrongAt v_word v_marks v_notes N 1 (v_sort_10, v_fault_10, v_wrongAt_10) hc_10) ml_X12_145 ⟨Nat.le_of_ble_eq_true rfl, Nat.le_of_ble_eq_true rfl⟩ hP hD hS 0 rfl rfl rfl [0] [1] 1 rfl rfl rfl rfl rfl rfl rfl hl.1 rfl (Nat.le_of_ble_eq_true rfl) ⟨Nat.zero_le _, Nat.zero_le _⟩ dX12_whole_10 ?_
    clear hP hD hS; intro H locs hP hD hS
    refine lv_goto (pc := 13) (tgt := 33) hx hb dX12_whole_13 (by decide) ?_
    exact hj33 v_sort_10 v_fault_10 v_wrongAt_10 hf _ _ _ (lv_sub hl [0] rfl) hP hD hS
def wX12_readWhole (E : EN) (h h_tape h_far h_from h_real h_other h_kept h_set h_w h_book h_noteSort h_whose h_what h_noteIs h_fitting h_dawn h_likes h_walked h_came : Nat) (v_thrown : Int32) (v_trouble : Int32) (v_where : Int32) (v_inn : Option Nat) (v_read : Option Nat) (v_taped : Int32) (v_size : Int32) (v_at : Int32) (v_sort : Int32) (v_place : Int32) (v_sign : Int32) (v_number : Int32) (v_fault : Int32) (v_wrongAt : Int32) (v_word : Int64) (v_marks : Int32) (v_notes : Int32) (v_tape : Nat → Int32) : va_W := [(h, .inr (11, [.int v_thrown, .int v_trouble, .int v_where, va_rf v_inn, va_rf v_read, .ref h_tape, .int v_taped, .int v_size, .int v_at, .int v_sort, .int v_place, .int v_sign, .int v_number, .int v_fault, .int v_wrongAt, .long v_word, .ref h_far, .ref h_from, .ref h_real, .ref h_other, .ref h_kept, .ref h_set, .ref h_w, .int v_marks, .int v_notes, .ref h_book, .ref h_noteSort, .ref h_whose, .ref h_what, .ref h_noteIs, .ref h_fitting, .ref h_dawn, .ref h_likes, .ref h_walked, .ref h_came])), (h_tape, aB E 900 v_tape)]
def fX12_readWhole (N : Nat) (p0 : Int32) (p1 : Int32) (v_size : Int32) (v_at : Int32) (v_sort : Int32) (v_place : Int32) (v_sign : Int32) (v_number : Int32) (v_fault : Int32) (v_wrongAt : Int32) (v_word : Int64) (v_tape : Nat → Int32) : Option (Int32 × Int32 × Int32 × Int32 × Int32 × Int32 × Int32 × Int32 × Int64) := (fX12_whole N p0 p1 v_sort v_place v_number v_fault v_wrongAt).bind (un4 fun (r_3 : Int32) (v_sort_3 : Int32) (v_fault_3 : Int32) (v_wrongAt_3 : Int32) => (fX12_goesOn N v_size v_at v_sort_3 v_place v_sign v_number v_word v_tape).bind (un6 fun (v_at_8 : Int32) (v_sort_8 : Int32) (v_place_8 : Int32) (v_sign_8 : Int32) (v_number_8 : Int32) (v_word_8 : Int64) => some (r_3, v_at_8, v_sort_8, v_place_8, v_sign_8, v_number_8, v_fault_3, v_wrongAt_3, v_word_8)))
set_option maxHeartbeats 4000000 in
set_option maxRecDepth 100000 in
theorem ctX12_readWhole (l : Launch) (E : EN) (h h_tape h_far h_from h_real h_other h_kept h_set h_w h_book h_noteSort h_whose h_what h_noteIs h_fitting h_dawn h_likes h_walked h_came : Nat) (v_thrown : Int32) (v_trouble : Int32) (v_where : Int32) (v_inn : Option Nat) (v_read : Option Nat) (v_taped : Int32) (v_size : Int32) (v_at : Int32) (v_sort : Int32) (v_place : Int32) (v_sign : Int32) (v_number : Int32) (v_fault : Int32) (v_wrongAt : Int32) (v_word : Int64) (v_marks : Int32) (v_notes : Int32) (v_tape : Nat → Int32) (N : Nat) (p0 : Int32) (p1 : Int32) (z : Int32 × Int32 × Int32 × Int32 × Int32 × Int32 × Int32 × Int32 × Int64) (hf : fX12_readWhole N p0 p1 v_size v_at v_sort v_place v_sign v_number v_fault v_wrongAt v_word v_tape = some z) : CTi l E yX12_readWhole cX12_readWhole 4 .int 2 44 [.ref h, .int p0, .int p1] (wX12_readWhole E h h_tape h_far h_from h_real h_other h_kept h_set h_w h_book h_noteSort h_whose h_what h_noteIs h_fitting h_dawn h_likes h_walked h_came v_thrown v_trouble v_where v_inn v_read v_taped v_size v_at v_sort v_place v_sign v_number v_fault v_wrongAt v_word v_marks v_notes v_tape) (z.1) (wX12_readWhole E h h_tape h_far h_from h_real h_other h_kept h_set h_w h_book h_noteSort h_whose h_what h_noteIs h_fitting h_dawn h_likes h_walked h_came v_thrown v_trouble v_where v_inn v_read v_taped v_size z.2.1 z.2.2.1 z.2.2.2.1 z.2.2.2.2.1 z.2.2.2.2.2.1 z.2.2.2.2.2.2.1 z.2.2.2.2.2.2.2.1 z.2.2.2.2.2.2.2.2 v_marks v_notes v_tape) := by
  intro sz
  refine ct_body (by decide) (Nat.le_of_ble_eq_true rfl) ?_
  intro p e s m args below meth c A ls hAe C hr hin hP hD hS hl
  have C : CX p s m args meth c cX12_readWhole RX12 4 E A := C
  have hl : lv_has ls 4 [(0, .ref h), (1, .int p0), (2, .int p1)] := hl
  have hx := C.1
  have hb := C.2.1
  rw [hAe]
  clear hAe
  obtain ⟨Q, hQ⟩ : ∃ Q, Q = MQ below (Qi E A (z.1) (wX12_readWhole E h h_tape h_far h_from h_real h_other h_kept h_set h_w h_book h_noteSort h_whose h_what h_noteIs h_fitting h_dawn h_likes h_walked h_came v_thrown v_trouble v_where v_inn v_read v_taped v_size z.2.1 z.2.2.1 z.2.2.2.1 z.2.2.2.2.1 z.2.2.2.2.2.1 z.2.2.2.2.2.2.1 z.2.2.2.2.2.2.2.1 z.2.2.2.2.2.2.2.2 v_marks v_notes v_tape)) args s 0 0 A := ⟨_, rfl⟩
  rw [← hQ]
  unfold fX12_readWhole at hf
  refine lv_aload_n (pc := 0) hx hb dX12_readWhole_0 rfl (lv_at hl 0 rfl) ?_
  refine lv_iload_n (pc := 1) hx hb dX12_readWhole_1 rfl (lv_at hl 1 rfl) ?_
  refine lv_iload_n (pc := 2) hx hb dX12_readWhole_2 rfl (lv_at hl 2 rfl) ?_
  obtain ⟨r_3, v_sort_3, v_fault_3, v_wrongAt_3, hc_3, hf⟩ := bd4 hf
  refine r_dalVi (pc := 3) (ws' := (wX12_readWhole E h h_tape h_far h_from h_real h_other h_kept h_set h_w h_book h_noteSort h_whose h_what h_noteIs h_fitting h_dawn h_likes h_walked h_came v_thrown v_trouble v_where v_inn v_read v_taped v_size v_at v_sort_3 v_place v_sign v_number v_fault_3 v_wrongAt_3 v_word v_marks v_notes v_tape)) (As := [.int p0, .int p1]) (rest := []) C (ctX12_whole l E h h_tape h_far h_from h_real h_other h_kept h_set h_w h_book h_noteSort h_whose h_what h_noteIs h_fitting h_dawn h_likes h_walked h_came v_thrown v_trouble v_where v_inn v_read v_taped v_size v_at v_sort v_place v_sign v_number v_fault v_wrongAt v_word v_marks v_notes N p0 p1 (r_3, v_sort_3, v_fault_3, v_wrongAt_3) hc_3) ml_X12_153 ⟨Nat.le_of_ble_eq_true rfl, Nat.le_of_ble_eq_true rfl⟩ hP hD hS 0 rfl rfl rfl [0] [2, 1] 2 rfl rfl rfl rfl rfl rfl rfl hl.1 rfl (Nat.le_of_ble_eq_true rfl) ⟨Nat.zero_le _, Nat.zero_le _⟩ dX12_readWhole_3 ?_
  clear hP hD hS; intro H locs hP hD hS
  refine lv_istore_n (pc := 6) (lv' := [(3, .int r_3), (0, .ref h), (1, .int p0), (2, .int p1)]) hx hb dX12_readWhole_6 rfl hl (by decide) rfl (fun ls hl => ?_)
  refine lv_aload_n (pc := 7) hx hb dX12_readWhole_7 rfl (lv_at hl 1 rfl) ?_
  obtain ⟨v_at_8, v_sort_8, v_place_8, v_sign_8, v_number_8, v_word_8, hc_8, hf⟩ := bd6 hf
  refine r_dalVv (pc := 8) (ws' := (wX12_readWhole E h h_tape h_far h_from h_real h_other h_kept h_set h_w h_book h_noteSort h_whose h_what h_noteIs h_fitting h_dawn h_likes h_walked h_came v_thrown v_trouble v_where v_inn v_read v_taped v_size v_at_8 v_sort_8 v_place_8 v_sign_8 v_number_8 v_fault_3 v_wrongAt_3 v_word_8 v_marks v_notes v_tape)) (As := []) (rest := []) C (ctX12_goesOn l E h h_tape h_far h_from h_real h_other h_kept h_set h_w h_book h_noteSort h_whose h_what h_noteIs h_fitting h_dawn h_likes h_walked h_came v_thrown v_trouble v_where v_inn v_read v_taped v_size v_at v_sort_3 v_place v_sign v_number v_fault_3 v_wrongAt_3 v_word v_marks v_notes v_tape N (v_at_8, v_sort_8, v_place_8, v_sign_8, v_number_8, v_word_8) hc_8) ml_X12_142 ⟨Nat.le_of_ble_eq_true rfl, Nat.le_of_ble_eq_true rfl⟩ hP hD hS 0 rfl rfl rfl [0, 1] [2, 3] 2 rfl rfl rfl rfl rfl rfl rfl hl.1 rfl (Nat.le_of_ble_eq_true rfl) ⟨Nat.zero_le _, Nat.zero_le _⟩ dX12_readWhole_8 ?_
  clear hP hD hS; intro H locs hP hD hS
  refine lv_iload_n (pc := 11) hx hb dX12_readWhole_11 rfl (lv_at hl 0 rfl) ?_
  cases hf
  rw [hQ]
  exact r_iret C hr hP hD hS rfl dX12_readWhole_12
def wX12_readPart (E : EN) (h h_tape h_far h_from h_real h_other h_kept h_set h_w h_book h_noteSort h_whose h_what h_noteIs h_fitting h_dawn h_likes h_walked h_came : Nat) (v_thrown : Int32) (v_trouble : Int32) (v_where : Int32) (v_inn : Option Nat) (v_read : Option Nat) (v_taped : Int32) (v_size : Int32) (v_at : Int32) (v_sort : Int32) (v_place : Int32) (v_sign : Int32) (v_number : Int32) (v_fault : Int32) (v_wrongAt : Int32) (v_word : Int64) (v_marks : Int32) (v_notes : Int32) (v_tape : Nat → Int32) : va_W := [(h, .inr (11, [.int v_thrown, .int v_trouble, .int v_where, va_rf v_inn, va_rf v_read, .ref h_tape, .int v_taped, .int v_size, .int v_at, .int v_sort, .int v_place, .int v_sign, .int v_number, .int v_fault, .int v_wrongAt, .long v_word, .ref h_far, .ref h_from, .ref h_real, .ref h_other, .ref h_kept, .ref h_set, .ref h_w, .int v_marks, .int v_notes, .ref h_book, .ref h_noteSort, .ref h_whose, .ref h_what, .ref h_noteIs, .ref h_fitting, .ref h_dawn, .ref h_likes, .ref h_walked, .ref h_came])), (h_tape, aB E 900 v_tape)]
def fX12_readPart (N : Nat) (k0 : Nat) (p1 : Int32) (p2 : Int32) (v_size : Int32) (v_at : Int32) (v_sort : Int32) (v_place : Int32) (v_sign : Int32) (v_number : Int32) (v_fault : Int32) (v_wrongAt : Int32) (v_word : Int64) (v_tape : Nat → Int32) : Option (Int32 × Int32 × Int32 × Int32 × Int32 × Int32 × Int32 × Int32 × Int64) := (fX12_needs N k0 v_size v_at v_sort v_place v_sign v_number v_fault v_wrongAt v_word v_tape).bind (un8 fun (v_at_2 : Int32) (v_sort_2 : Int32) (v_place_2 : Int32) (v_sign_2 : Int32) (v_number_2 : Int32) (v_fault_2 : Int32) (v_wrongAt_2 : Int32) (v_word_2 : Int64) => (fX12_readWhole N p1 p2 v_size v_at_2 v_sort_2 v_place_2 v_sign_2 v_number_2 v_fault_2 v_wrongAt_2 v_word_2 v_tape).bind (un9 fun (r_8 : Int32) (v_at_8 : Int32) (v_sort_8 : Int32) (v_place_8 : Int32) (v_sign_8 : Int32) (v_number_8 : Int32) (v_fault_8 : Int32) (v_wrongAt_8 : Int32) (v_word_8 : Int64) => some (r_8, v_at_8, v_sort_8, v_place_8, v_sign_8, v_number_8, v_fault_8, v_wrongAt_8, v_word_8)))
set_option maxHeartbeats 4000000 in
set_option maxRecDepth 100000 in
theorem ctX12_readPart (l : Launch) (E : EN) (h h_tape h_far h_from h_real h_other h_kept h_set h_w h_book h_noteSort h_whose h_what h_noteIs h_fitting h_dawn h_likes h_walked h_came : Nat) (v_thrown : Int32) (v_trouble : Int32) (v_where : Int32) (v_inn : Option Nat) (v_read : Option Nat) (v_taped : Int32) (v_size : Int32) (v_at : Int32) (v_sort : Int32) (v_place : Int32) (v_sign : Int32) (v_number : Int32) (v_fault : Int32) (v_wrongAt : Int32) (v_word : Int64) (v_marks : Int32) (v_notes : Int32) (v_tape : Nat → Int32) (k0 : Nat) (hk0 : k0 < 24) (N : Nat) (p1 : Int32) (p2 : Int32) (z : Int32 × Int32 × Int32 × Int32 × Int32 × Int32 × Int32 × Int32 × Int64) (hf : fX12_readPart N k0 p1 p2 v_size v_at v_sort v_place v_sign v_number v_fault v_wrongAt v_word v_tape = some z) : CTi l E yX12_readPart cX12_readPart 4 .int 7 150 [.ref h, .ref (E.2.2.2.2.1 k0), .int p1, .int p2] (wX12_readPart E h h_tape h_far h_from h_real h_other h_kept h_set h_w h_book h_noteSort h_whose h_what h_noteIs h_fitting h_dawn h_likes h_walked h_came v_thrown v_trouble v_where v_inn v_read v_taped v_size v_at v_sort v_place v_sign v_number v_fault v_wrongAt v_word v_marks v_notes v_tape) (z.1) (wX12_readPart E h h_tape h_far h_from h_real h_other h_kept h_set h_w h_book h_noteSort h_whose h_what h_noteIs h_fitting h_dawn h_likes h_walked h_came v_thrown v_trouble v_where v_inn v_read v_taped v_size z.2.1 z.2.2.1 z.2.2.2.1 z.2.2.2.2.1 z.2.2.2.2.2.1 z.2.2.2.2.2.2.1 z.2.2.2.2.2.2.2.1 z.2.2.2.2.2.2.2.2 v_marks v_notes v_tape) := by
  intro sz
  refine ct_body (by decide) (Nat.le_of_ble_eq_true rfl) ?_
  intro p e s m args below meth c A ls hAe C hr hin hP hD hS hl
  have C : CX p s m args meth c cX12_readPart RX12 4 E A := C
  have hl : lv_has ls 4 [(0, .ref h), (1, .ref (E.2.2.2.2.1 k0)), (2, .int p1), (3, .int p2)] := hl
  have hx := C.1
  have hb := C.2.1
  rw [hAe]
  clear hAe
  obtain ⟨Q, hQ⟩ : ∃ Q, Q = MQ below (Qi E A (z.1) (wX12_readPart E h h_tape h_far h_from h_real h_other h_kept h_set h_w h_book h_noteSort h_whose h_what h_noteIs h_fitting h_dawn h_likes h_walked h_came v_thrown v_trouble v_where v_inn v_read v_taped v_size z.2.1 z.2.2.1 z.2.2.2.1 z.2.2.2.2.1 z.2.2.2.2.2.1 z.2.2.2.2.2.2.1 z.2.2.2.2.2.2.2.1 z.2.2.2.2.2.2.2.2 v_marks v_notes v_tape)) args s 0 0 A := ⟨_, rfl⟩
  rw [← hQ]
  unfold fX12_readPart at hf
  refine lv_aload_n (pc := 0) hx hb dX12_readPart_0 rfl (lv_at hl 0 rfl) ?_
  refine lv_aload_n (pc := 1) hx hb dX12_readPart_1 rfl (lv_at hl 1 rfl) ?_
  obtain ⟨v_at_2, v_sort_2, v_place_2, v_sign_2, v_number_2, v_fault_2, v_wrongAt_2, v_word_2, hc_2, hf⟩ := bd8 hf
  refine r_dalVv (pc := 2) (ws' := (wX12_readPart E h h_tape h_far h_from h_real h_other h_kept h_set h_w h_book h_noteSort h_whose h_what h_noteIs h_fitting h_dawn h_likes h_walked h_came v_thrown v_trouble v_where v_inn v_read v_taped v_size v_at_2 v_sort_2 v_place_2 v_sign_2 v_number_2 v_fault_2 v_wrongAt_2 v_word_2 v_marks v_notes v_tape)) (As := [.ref (E.2.2.2.2.1 k0)]) (rest := []) C (ctX12_needs l E h h_tape h_far h_from h_real h_other h_kept h_set h_w h_book h_noteSort h_whose h_what h_noteIs h_fitting h_dawn h_likes h_walked h_came v_thrown v_trouble v_where v_inn v_read v_taped v_size v_at v_sort v_place v_sign v_number v_fault v_wrongAt v_word v_marks v_notes v_tape k0 hk0 N (v_at_2, v_sort_2, v_place_2, v_sign_2, v_number_2, v_fault_2, v_wrongAt_2, v_word_2) hc_2) ml_X12_157 ⟨Nat.le_of_ble_eq_true rfl, Nat.le_of_ble_eq_true rfl⟩ hP hD hS 0 rfl rfl rfl [0, 1] [2, 3] 2 rfl rfl rfl rfl rfl rfl rfl hl.1 rfl (Nat.le_of_ble_eq_true rfl) ⟨Nat.zero_le _, Nat.zero_le _⟩ dX12_readPart_2 ?_
  clear hP hD hS; intro H locs hP hD hS
  refine lv_aload_n (pc := 5) hx hb dX12_readPart_5 rfl (lv_at hl 0 rfl) ?_
  refine lv_iload_n (pc := 6) hx hb dX12_readPart_6 rfl (lv_at hl 2 rfl) ?_
  refine lv_iload_n (pc := 7) hx hb dX12_readPart_7 rfl (lv_at hl 3 rfl) ?_
  obtain ⟨r_8, v_at_8, v_sort_8, v_place_8, v_sign_8, v_number_8, v_fault_8, v_wrongAt_8, v_word_8, hc_8, hf⟩ := bd9 hf
  refine r_dalVi (pc := 8) (ws' := (wX12_readPart E h h_tape h_far h_from h_real h_other h_kept h_set h_w h_book h_noteSort h_whose h_what h_noteIs h_fitting h_dawn h_likes h_walked h_came v_thrown v_trouble v_where v_inn v_read v_taped v_size v_at_8 v_sort_8 v_place_8 v_sign_8 v_number_8 v_fault_8 v_wrongAt_8 v_word_8 v_marks v_notes v_tape)) (As := [.int p1, .int p2]) (rest := []) C (ctX12_readWhole l E h h_tape h_far h_from h_real h_other h_kept h_set h_w h_book h_noteSort h_whose h_what h_noteIs h_fitting h_dawn h_likes h_walked h_came v_thrown v_trouble v_where v_inn v_read v_taped v_size v_at_2 v_sort_2 v_place_2 v_sign_2 v_number_2 v_fault_2 v_wrongAt_2 v_word_2 v_marks v_notes v_tape N p1 p2 (r_8, v_at_8, v_sort_8, v_place_8, v_sign_8, v_number_8, v_fault_8, v_wrongAt_8, v_word_8) hc_8) ml_X12_161 ⟨Nat.le_of_ble_eq_true rfl, Nat.le_of_ble_eq_true rfl⟩ hP hD hS 0 rfl rfl rfl [0, 1] [2, 3] 2 rfl rfl rfl rfl rfl rfl rfl hl.1 rfl (Nat.le_of_ble_eq_true rfl) ⟨Nat.zero_le _, Nat.zero_le _⟩ dX12_readPart_8 ?_
  clear hP hD hS; intro H locs hP hD hS
  cases hf
  rw [hQ]
  exact r_iret C hr hP hD hS rfl dX12_readPart_11
def wX12_isName (E : EN) (h h_tape h_far h_from h_real h_other h_kept h_set h_w h_book h_noteSort h_whose h_what h_noteIs h_fitting h_dawn h_likes h_walked h_came : Nat) (v_thrown : Int32) (v_trouble : Int32) (v_where : Int32) (v_inn : Option Nat) (v_read : Option Nat) (v_taped : Int32) (v_size : Int32) (v_at : Int32) (v_sort : Int32) (v_place : Int32) (v_sign : Int32) (v_number : Int32) (v_fault : Int32) (v_wrongAt : Int32) (v_word : Int64) (v_marks : Int32) (v_notes : Int32) : va_W := [(h, .inr (11, [.int v_thrown, .int v_trouble, .int v_where, va_rf v_inn, va_rf v_read, .ref h_tape, .int v_taped, .int v_size, .int v_at, .int v_sort, .int v_place, .int v_sign, .int v_number, .int v_fault, .int v_wrongAt, .long v_word, .ref h_far, .ref h_from, .ref h_real, .ref h_other, .ref h_kept, .ref h_set, .ref h_w, .int v_marks, .int v_notes, .ref h_book, .ref h_noteSort, .ref h_whose, .ref h_what, .ref h_noteIs, .ref h_fitting, .ref h_dawn, .ref h_likes, .ref h_walked, .ref h_came]))]
def fX12_isName (N : Nat) (v_sort : Int32) (v_word : Int64) : Option Int32 := if v_sort = 2 then ((fX12_isWord N 0 v_sort v_word).bind (un1 fun (r_11 : Int32) => if r_11 = 0 then ((fX12_isWord N 1 v_sort v_word).bind (un1 fun (r_20 : Int32) => if r_20 = 0 then ((fX12_isWord N 2 v_sort v_word).bind (un1 fun (r_29 : Int32) => if r_29 = 0 then ((fX12_isWord N 3 v_sort v_word).bind (un1 fun (r_38 : Int32) => if r_38 = 0 then ((fX12_isWord N 4 v_sort v_word).bind (un1 fun (r_47 : Int32) => if r_47 = 0 then ((fX12_isWord N 5 v_sort v_word).bind (un1 fun (r_56 : Int32) => if r_56 = 0 then ((fX12_isWord N 6 v_sort v_word).bind (un1 fun (r_65 : Int32) => if r_65 = 0 then ((fX12_isWord N 7 v_sort v_word).bind (un1 fun (r_74 : Int32) => if r_74 = 0 then ((fX12_isWord N 8 v_sort v_word).bind (un1 fun (r_83 : Int32) => if r_83 = 0 then ((fX12_isWord N 9 v_sort v_word).bind (un1 fun (r_92 : Int32) => if r_92 = 0 then ((fX12_isWord N 10 v_sort v_word).bind (un1 fun (r_103 : Int32) => jn (un0 (some 0)) (fun j185 => if r_103 = 0 then ((fX12_isWord N 11 v_sort v_word).bind (un1 fun (r_112 : Int32) => if r_112 = 0 then ((fX12_isWord N 12 v_sort v_word).bind (un1 fun (r_121 : Int32) => if r_121 = 0 then ((fX12_isWord N 13 v_sort v_word).bind (un1 fun (r_130 : Int32) => if r_130 = 0 then ((fX12_isWord N 14 v_sort v_word).bind (un1 fun (r_139 : Int32) => if r_139 = 0 then ((fX12_isWord N 15 v_sort v_word).bind (un1 fun (r_148 : Int32) => if r_148 = 0 then ((fX12_isWord N 16 v_sort v_word).bind (un1 fun (r_157 : Int32) => if r_157 = 0 then ((fX12_isWord N 17 v_sort v_word).bind (un1 fun (r_166 : Int32) => if r_166 = 0 then ((fX12_isWord N 18 v_sort v_word).bind (un1 fun (r_175 : Int32) => if r_175 = 0 then (some 1) else (j185 ()))) else (j185 ()))) else (j185 ()))) else (j185 ()))) else (j185 ()))) else (j185 ()))) else (j185 ()))) else (j185 ()))) else (j185 ())))) else (some 0))) else (some 0))) else (some 0))) else (some 0))) else (some 0))) else (some 0))) else (some 0))) else (some 0))) else (some 0))) else (some 0))) else (some 0)
set_option maxHeartbeats 4000000 in
set_option maxRecDepth 100000 in
theorem ctX12_isName (l : Launch) (E : EN) (h h_tape h_far h_from h_real h_other h_kept h_set h_w h_book h_noteSort h_whose h_what h_noteIs h_fitting h_dawn h_likes h_walked h_came : Nat) (v_thrown : Int32) (v_trouble : Int32) (v_where : Int32) (v_inn : Option Nat) (v_read : Option Nat) (v_taped : Int32) (v_size : Int32) (v_at : Int32) (v_sort : Int32) (v_place : Int32) (v_sign : Int32) (v_number : Int32) (v_fault : Int32) (v_wrongAt : Int32) (v_word : Int64) (v_marks : Int32) (v_notes : Int32) (N : Nat) (z : Int32) (hf : fX12_isName N v_sort v_word = some z) : CTi l E yX12_isName cX12_isName 1 .boolean 6 129 [.ref h] (wX12_isName E h h_tape h_far h_from h_real h_other h_kept h_set h_w h_book h_noteSort h_whose h_what h_noteIs h_fitting h_dawn h_likes h_walked h_came v_thrown v_trouble v_where v_inn v_read v_taped v_size v_at v_sort v_place v_sign v_number v_fault v_wrongAt v_word v_marks v_notes) (z) (wX12_isName E h h_tape h_far h_from h_real h_other h_kept h_set h_w h_book h_noteSort h_whose h_what h_noteIs h_fitting h_dawn h_likes h_walked h_came v_thrown v_trouble v_where v_inn v_read v_taped v_size v_at v_sort v_place v_sign v_number v_fault v_wrongAt v_word v_marks v_notes) := by
  intro sz
  refine ct_body (by decide) (Nat.le_of_ble_eq_true rfl) ?_
  intro p e s m args below meth c A ls hAe C hr hin hP hD hS hl
  have C : CX p s m args meth c cX12_isName RX12 1 E A := C
  have hl : lv_has ls 1 [(0, .ref h)] := hl
  have hx := C.1
  have hb := C.2.1
  rw [hAe]
  clear hAe
  obtain ⟨Q, hQ⟩ : ∃ Q, Q = MQ below (Qi E A (z) (wX12_isName E h h_tape h_far h_from h_real h_other h_kept h_set h_w h_book h_noteSort h_whose h_what h_noteIs h_fitting h_dawn h_likes h_walked h_came v_thrown v_trouble v_where v_inn v_read v_taped v_size v_at v_sort v_place v_sign v_number v_fault v_wrongAt v_word v_marks v_notes)) args s 0 0 A := ⟨_, rfl⟩
  rw [← hQ]
  unfold fX12_isName at hf
  refine lv_aload_n (pc := 0) hx hb dX12_isName_0 rfl (lv_at hl 0 rfl) ?_
  refine r_get (pc := 1) C hP 0 rfl fl_X12_99 rfl dX12_isName_1 ?_
  refine lv_iconst (pc := 4) (v := 2) hx hb dX12_isName_4 (by decide) ?_
  refine lv_icmp_ne (pc := 5) (tgt := 98) hx hb dX12_isName_5 (by decide) (fun c_5 => ?_) (fun c_5 => ?_)
  · replace hf := it_f c_5 hf
    refine lv_iconst (pc := 98) (v := 0) hx hb dX12_isName_98 (by decide) ?_
    cases hf
    rw [hQ]
    exact r_zret C hr hP hD hS (Or.inl rfl) rfl dX12_isName_99
  · replace hf := it_t c_5 hf
    refine lv_aload_n (pc := 8) hx hb dX12_isName_8 rfl (lv_at hl 0 rfl) ?_
    refine r_ldcS (pc := 9) C (C.kx.2.2.2.2.2 0 (by decide)).2.2.2.2 dX12_isName_9 ?_
    obtain ⟨r_11, hc_11, hf⟩ := bd1 hf
    refine r_dalVi (pc := 11) (ws' := (wX12_isName E h h_tape h_far h_from h_real h_other h_kept h_set h_w h_book h_noteSort h_whose h_what h_noteIs h_fitting h_dawn h_likes h_walked h_came v_thrown v_trouble v_where v_inn v_read v_taped v_size v_at v_sort v_place v_sign v_number v_fault v_wrongAt v_word v_marks v_notes)) (As := [.ref (E.2.2.2.2.1 0)]) (rest := []) C (ctX12_isWord l E h h_tape h_far h_from h_real h_other h_kept h_set h_w h_book h_noteSort h_whose h_what h_noteIs h_fitting h_dawn h_likes h_walked h_came v_thrown v_trouble v_where v_inn v_read v_taped v_size v_at v_sort v_place v_sign v_number v_fault v_wrongAt v_word v_marks v_notes 0 (by decide) N r_11 hc_11) ml_X12_138 ⟨Nat.le_of_ble_eq_true rfl, Nat.le_of_ble_eq_true rfl⟩ hP hD hS 0 rfl rfl rfl [0] [1] 1 rfl rfl rfl rfl rfl rfl rfl hl.1 rfl (Nat.le_of_ble_eq_true rfl) ⟨Nat.zero_le _, Nat.zero_le _⟩ dX12_isName_11 ?_
    clear hP hD hS; intro H locs hP hD hS
    refine lv_if_ne (pc := 14) (tgt := 98) hx hb dX12_isName_14 (by decide) (fun c_14 => ?_) (fun c_14 => ?_)
    · replace hf := it_f c_14 hf
      refine lv_iconst (pc := 98) (v := 0) hx hb dX12_isName_98 (by decide) ?_
      cases hf
      rw [hQ]
      exact r_zret C hr hP hD hS (Or.inl rfl) rfl dX12_isName_99
    · replace hf := it_t c_14 hf
      refine lv_aload_n (pc := 17) hx hb dX12_isName_17 rfl (lv_at hl 0 rfl) ?_
      refine r_ldcS (pc := 18) C (C.kx.2.2.2.2.2 1 (by decide)).2.2.2.2 dX12_isName_18 ?_
      obtain ⟨r_20, hc_20, hf⟩ := bd1 hf
      refine r_dalVi (pc := 20) (ws' := (wX12_isName E h h_tape h_far h_from h_real h_other h_kept h_set h_w h_book h_noteSort h_whose h_what h_noteIs h_fitting h_dawn h_likes h_walked h_came v_thrown v_trouble v_where v_inn v_read v_taped v_size v_at v_sort v_place v_sign v_number v_fault v_wrongAt v_word v_marks v_notes)) (As := [.ref (E.2.2.2.2.1 1)]) (rest := []) C (ctX12_isWord l E h h_tape h_far h_from h_real h_other h_kept h_set h_w h_book h_noteSort h_whose h_what h_noteIs h_fitting h_dawn h_likes h_walked h_came v_thrown v_trouble v_where v_inn v_read v_taped v_size v_at v_sort v_place v_sign v_number v_fault v_wrongAt v_word v_marks v_notes 1 (by decide) N r_20 hc_20) ml_X12_138 ⟨Nat.le_of_ble_eq_true rfl, Nat.le_of_ble_eq_true rfl⟩ hP hD hS 0 rfl rfl rfl [0] [1] 1 rfl rfl rfl rfl rfl rfl rfl hl.1 rfl (Nat.le_of_ble_eq_true rfl) ⟨Nat.zero_le _, Nat.zero_le _⟩ dX12_isName_20 ?_
      clear hP hD hS; intro H locs hP hD hS
      refine lv_if_ne (pc := 23) (tgt := 98) hx hb dX12_isName_23 (by decide) (fun c_23 => ?_) (fun c_23 => ?_)
      · replace hf := it_f c_23 hf
        refine lv_iconst (pc := 98) (v := 0) hx hb dX12_isName_98 (by decide) ?_
        cases hf
        rw [hQ]
        exact r_zret C hr hP hD hS (Or.inl rfl) rfl dX12_isName_99
      · replace hf := it_t c_23 hf
        refine lv_aload_n (pc := 26) hx hb dX12_isName_26 rfl (lv_at hl 0 rfl) ?_
        refine r_ldcS (pc := 27) C (C.kx.2.2.2.2.2 2 (by decide)).2.2.2.2 dX12_isName_27 ?_
        obtain ⟨r_29, hc_29, hf⟩ := bd1 hf
        refine r_dalVi (pc := 29) (ws' := (wX12_isName E h h_tape h_far h_from h_real h_other h_kept h_set h_w h_book h_noteSort h_whose h_what h_noteIs h_fitting h_dawn h_likes h_walked h_came v_thrown v_trouble v_where v_inn v_read v_taped v_size v_at v_sort v_place v_sign v_number v_fault v_wrongAt v_word v_marks v_notes)) (As := [.ref (E.2.2.2.2.1 2)]) (rest := []) C (ctX12_isWord l E h h_tape h_far h_from h_real h_other h_kept h_set h_w h_book h_noteSort h_whose h_what h_noteIs h_fitting h_dawn h_likes h_walked h_came v_thrown v_trouble v_where v_inn v_read v_taped v_size v_at v_sort v_place v_sign v_number v_fault v_wrongAt v_word v_marks v_notes 2 (by decide) N r_29 hc_29) ml_X12_138 ⟨Nat.le_of_ble_eq_true rfl, Nat.le_of_ble_eq_true rfl⟩ hP hD hS 0 rfl rfl rfl [0] [1] 1 rfl rfl rfl rfl rfl rfl rfl hl.1 rfl (Nat.le_of_ble_eq_true rfl) ⟨Nat.zero_le _, Nat.zero_le _⟩ dX12_isName_29 ?_
        clear hP hD hS; intro H locs hP hD hS
        refine lv_if_ne (pc := 32) (tgt := 98) hx hb dX12_isName_32 (by decide) (fun c_32 => ?_) (fun c_32 => ?_)
        · replace hf := it_f c_32 hf
          refine lv_iconst (pc := 98) (v := 0) hx hb dX12_isName_98 (by decide) ?_
          cases hf
          rw [hQ]
          exact r_zret C hr hP hD hS (Or.inl rfl) rfl dX12_isName_99
        · replace hf := it_t c_32 hf
          refine lv_aload_n (pc := 35) hx hb dX12_isName_35 rfl (lv_at hl 0 rfl) ?_
          refine r_ldcS (pc := 36) C (C.kx.2.2.2.2.2 3 (by decide)).2.2.2.2 dX12_isName_36 ?_
          obtain ⟨r_38, hc_38, hf⟩ := bd1 hf
          refine r_dalVi (pc := 38) (ws' := (wX12_isName E h h_tape h_far h_from h_real h_other h_kept h_set h_w h_book h_noteSort h_whose h_what h_noteIs h_fitting h_dawn h_likes h_walked h_came v_thrown v_trouble v_where v_inn v_read v_taped v_size v_at v_sort v_place v_sign v_number v_fault v_wrongAt v_word v_marks v_notes)) (As := [.ref (E.2.2.2.2.1 3)]) (rest := []) C (ctX12_isWord l E h h_tape h_far h_from h_real h_other h_kept h_set h_w h_book h_noteSort h_whose h_what h_noteIs h_fitting h_dawn h_likes h_walked h_came v_thrown v_trouble v_where v_inn v_read v_taped v_size v_at v_sort v_place v_sign v_number v_fault v_wrongAt v_word v_marks v_notes 3 (by decide) N r_38 hc_38) ml_X12_138 ⟨Nat.le_of_ble_eq_true rfl, Nat.le_of_ble_eq_true rfl⟩ hP hD hS 0 rfl rfl rfl [0] [1] 1 rfl rfl rfl rfl rfl rfl rfl hl.1 rfl (Nat.le_of_ble_eq_true rfl) ⟨Nat.zero_le _, Nat.zero_le _⟩ dX12_isName_38 ?_
          clear hP hD hS; intro H locs hP hD hS
          refine lv_if_ne (pc := 41) (tgt := 98) hx hb dX12_isName_41 (by decide) (fun c_41 => ?_) (fun c_41 => ?_)
          · replace hf := it_f c_41 hf
            refine lv_iconst (pc := 98) (v := 0) hx hb dX12_isName_98 (by decide) ?_
            cases hf
            rw [hQ]
            exact r_zret C hr hP hD hS (Or.inl rfl) rfl dX12_isName_99
          · replace hf := it_t c_41 hf
            refine lv_aload_n (pc := 44) hx hb dX12_isName_44 rfl (lv_at hl 0 rfl) ?_
            refine r_ldcS (pc := 45) C (C.kx.2.2.2.2.2 4 (by decide)).2.2.2.2 dX12_isName_45 ?_
            obtain ⟨r_47, hc_47, hf⟩ := bd1 hf
            refine r_dalVi (pc := 47) (ws' := (wX12_isName E h h_tape h_far h_from h_real h_other h_kept h_set h_w h_book h_noteSort h_whose h_what h_noteIs h_fitting h_dawn h_likes h_walked h_came v_thrown v_trouble v_where v_inn v_read v_taped v_size v_at v_sort v_place v_sign v_number v_fault v_wrongAt v_word v_marks v_notes)) (As := [.ref (E.2.2.2.2.1 4)]) (rest := []) C (ctX12_isWord l E h h_tape h_far h_from h_real h_other h_kept h_set h_w h_book h_noteSort h_whose h_what h_noteIs h_fitting h_dawn h_likes h_walked h_came v_thrown v_trouble v_where v_inn v_read v_taped v_size v_at v_sort v_place v_sign v_number v_fault v_wrongAt v_word v_marks v_notes 4 (by decide) N r_47 hc_47) ml_X12_138 ⟨Nat.le_of_ble_eq_true rfl, Nat.le_of_ble_eq_true rfl⟩ hP hD hS 0 rfl rfl rfl [0] [1] 1 rfl rfl rfl rfl rfl rfl rfl hl.1 rfl (Nat.le_of_ble_eq_true rfl) ⟨Nat.zero_le _, Nat.zero_le _⟩ dX12_isName_47 ?_
            clear hP hD hS; intro H locs hP hD hS
            refine lv_if_ne (pc := 50) (tgt := 98) hx hb dX12_isName_50 (by decide) (fun c_50 => ?_) (fun c_50 => ?_)
            · replace hf := it_f c_50 hf
              refine lv_iconst (pc := 98) (v := 0) hx hb dX12_isName_98 (by decide) ?_
              cases hf
              rw [hQ]
              exact r_zret C hr hP hD hS (Or.inl rfl) rfl dX12_isName_99
            · replace hf := it_t c_50 hf
              refine lv_aload_n (pc := 53) hx hb dX12_isName_53 rfl (lv_at hl 0 rfl) ?_
              refine r_ldcS (pc := 54) C (C.kx.2.2.2.2.2 5 (by decide)).2.2.2.2 dX12_isName_54 ?_
              obtain ⟨r_56, hc_56, hf⟩ := bd1 hf
              refine r_dalVi (pc := 56) (ws' := (wX12_isName E h h_tape h_far h_from h_real h_other h_kept h_set h_w h_book h_noteSort h_whose h_what h_noteIs h_fitting h_dawn h_likes h_walked h_came v_thrown v_trouble v_where v_inn v_read v_taped v_size v_at v_sort v_place v_sign v_number v_fault v_wrongAt v_word v_marks v_notes)) (As := [.ref (E.2.2.2.2.1 5)]) (rest := []) C (ctX12_isWord l E h h_tape h_far h_from h_real h_other h_kept h_set h_w h_book h_noteSort h_whose h_what h_noteIs h_fitting h_dawn h_likes h_walked h_came v_thrown v_trouble v_where v_inn v_read v_taped v_size v_at v_sort v_place v_sign v_number v_fault v_wrongAt v_word v_marks v_notes 5 (by decide) N r_56 hc_56) ml_X12_138 ⟨Nat.le_of_ble_eq_true rfl, Nat.le_of_ble_eq_true rfl⟩ hP hD hS 0 rfl rfl rfl [0] [1] 1 rfl rfl rfl rfl rfl rfl rfl hl.1 rfl (Nat.le_of_ble_eq_true rfl) ⟨Nat.zero_le _, Nat.zero_le _⟩ dX12_isName_56 ?_
              clear hP hD hS; intro H locs hP hD hS
              refine lv_if_ne (pc := 59) (tgt := 98) hx hb dX12_isName_59 (by decide) (fun c_59 => ?_) (fun c_59 => ?_)
              · replace hf := it_f c_59 hf
                refine lv_iconst (pc := 98) (v := 0) hx hb dX12_isName_98 (by decide) ?_
                cases hf
                rw [hQ]
                exact r_zret C hr hP hD hS (Or.inl rfl) rfl dX12_isName_99
              · replace hf := it_t c_59 hf
                refine lv_aload_n (pc := 62) hx hb dX12_isName_62 rfl (lv_at hl 0 rfl) ?_
                refine r_ldcS (pc := 63) C (C.kx.2.2.2.2.2 6 (by decide)).2.2.2.2 dX12_isName_63 ?_
                obtain ⟨r_65, hc_65, hf⟩ := bd1 hf
                refine r_dalVi (pc := 65) (ws' := (wX12_isName E h h_tape h_far h_from h_real h_other h_kept h_set h_w h_book h_noteSort h_whose h_what h_noteIs h_fitting h_dawn h_likes h_walked h_came v_thrown v_trouble v_where v_inn v_read v_taped v_size v_at v_sort v_place v_sign v_number v_fault v_wrongAt v_word v_marks v_notes)) (As := [.ref (E.2.2.2.2.1 6)]) (rest := []) C (ctX12_isWord l E h h_tape h_far h_from h_real h_other h_kept h_set h_w h_book h_noteSort h_whose h_what h_noteIs h_fitting h_dawn h_likes h_walked h_came v_thrown v_trouble v_where v_inn v_read v_taped v_size v_at v_sort v_place v_sign v_number v_fault v_wrongAt v_word v_marks v_notes 6 (by decide) N r_65 hc_65) ml_X12_138 ⟨Nat.le_of_ble_eq_true rfl, Nat.le_of_ble_eq_true rfl⟩ hP hD hS 0 rfl rfl rfl [0] [1] 1 rfl rfl rfl rfl rfl rfl rfl hl.1 rfl (Nat.le_of_ble_eq_true rfl) ⟨Nat.zero_le _, Nat.zero_le _⟩ dX12_isName_65 ?_
                clear hP hD hS; intro H locs hP hD hS
                refine lv_if_ne (pc := 68) (tgt := 98) hx hb dX12_isName_68 (by decide) (fun c_68 => ?_) (fun c_68 => ?_)
                · replace hf := it_f c_68 hf
                  refine lv_iconst (pc := 98) (v := 0) hx hb dX12_isName_98 (by decide) ?_
                  cases hf
                  rw [hQ]
                  exact r_zret C hr hP hD hS (Or.inl rfl) rfl dX12_isName_99
                · replace hf := it_t c_68 hf
                  refine lv_aload_n (pc := 71) hx hb dX12_isName_71 rfl (lv_at hl 0 rfl) ?_
                  refine r_ldcS (pc := 72) C (C.kx.2.2.2.2.2 7 (by decide)).2.2.2.2 dX12_isName_72 ?_
                  obtain ⟨r_74, hc_74, hf⟩ := bd1 hf
                  refine r_dalVi (pc := 74) (ws' := (wX12_isName E h h_tape h_far h_from h_real h_other h_kept h_set h_w h_book h_noteSort h_whose h_what h_noteIs h_fitting h_dawn h_likes h_walked h_came v_thrown v_trouble v_where v_inn v_read v_taped v_size v_at v_sort v_place v_sign v_number v_fault v_wrongAt v_word v_marks v_notes)) (As := [.ref (E.2.2.2.2.1 7)]) (rest := []) C (ctX12_isWord l E h h_tape h_far h_from h_real h_other h_kept h_set h_w h_book h_noteSort h_whose h_what h_noteIs h_fitting h_dawn h_likes h_walked h_came v_thrown v_trouble v_where v_inn v_read v_taped v_size v_at v_sort v_place v_sign v_number v_fault v_wrongAt v_word v_marks v_notes 7 (by decide) N r_74 hc_74) ml_X12_138 ⟨Nat.le_of_ble_eq_true rfl, Nat.le_of_ble_eq_true rfl⟩ hP hD hS 0 rfl rfl rfl [0] [1] 1 rfl rfl rfl rfl rfl rfl rfl hl.1 rfl (Nat.le_of_ble_eq_true rfl) ⟨Nat.zero_le _, Nat.zero_le _⟩ dX12_isName_74 ?_
                  clear hP hD hS; intro H locs hP hD hS
                  refine lv_if_ne (pc := 77) (tgt := 98) hx hb dX12_isName_77 (by decide) (fun c_77 => ?_) (fun c_77 => ?_)
                  · replace hf := it_f c_77 hf
                    refine lv_iconst (pc := 98) (v := 0) hx hb dX12_isName_98 (by decide) ?_
                    cases hf
                    rw [hQ]
                    exact r_zret C hr hP hD hS (Or.inl rfl) rfl dX12_isName_99
                  · replace hf := it_t c_77 hf
                    refine lv_aload_n (pc := 80) hx hb dX12_isName_80 rfl (lv_at hl 0 rfl) ?_
                    refine r_ldcS (pc := 81) C (C.kx.2.2.2.2.2 8 (by decide)).2.2.2.2 dX12_isName_81 ?_
                    obtain ⟨r_83, hc_83, hf⟩ := bd1 hf
                    refine r_dalVi (pc := 83) (ws' := (wX12_isName E h h_tape h_far h_from h_real h_other h_kept h_set h_w h_book h_noteSort h_whose h_what h_noteIs h_fitting h_dawn h_likes h_walked h_came v_thrown v_trouble v_where v_inn v_read v_taped v_size v_at v_sort v_place v_sign v_number v_fault v_wrongAt v_word v_marks v_notes)) (As := [.ref (E.2.2.2.2.1 8)]) (rest := []) C (ctX12_isWord l E h h_tape h_far h_from h_real h_other h_kept h_set h_w h_book h_noteSort h_whose h_what h_noteIs h_fitting h_dawn h_likes h_walked h_came v_thrown v_trouble v_where v_inn v_read v_taped v_size v_at v_sort v_place v_sign v_number v_fault v_wrongAt v_word v_marks v_notes 8 (by decide) N r_83 hc_83) ml_X12_138 ⟨Nat.le_of_ble_eq_true rfl, Nat.le_of_ble_eq_true rfl⟩ hP hD hS 0 rfl rfl rfl [0] [1] 1 rfl rfl rfl rfl rfl rfl rfl hl.1 rfl (Nat.le_of_ble_eq_true rfl) ⟨Nat.zero_le _, Nat.zero_le _⟩ dX12_isName_83 ?_
                    clear hP hD hS; intro H locs hP hD hS
                    refine lv_if_ne (pc := 86) (tgt := 98) hx hb dX12_isName_86 (by decide) (fun c_86 => ?_) (fun c_86 => ?_)
                    · replace hf := it_f c_86 hf
                      refine lv_iconst (pc := 98) (v := 0) hx hb dX12_isName_98 (by decide) ?_
                      cases hf
                      rw [hQ]
                      exact r_zret C hr hP hD hS (Or.inl rfl) rfl dX12_isName_99
                    · replace hf := it_t c_86 hf
                      refine lv_aload_n (pc := 89) hx hb dX12_isName_89 rfl (lv_at hl 0 rfl) ?_
                      refine r_ldcS (pc := 90) C (C.kx.2.2.2.2.2 9 (by decide)).2.2.2.2 dX12_isName_90 ?_
                      obtain ⟨r_92, hc_92, hf⟩ := bd1 hf
                      refine r_dalVi (pc := 92) (ws' := (wX12_isName E h h_tape h_far h_from h_real h_other h_kept h_set h_w h_book h_noteSort h_whose h_what h_noteIs h_fitting h_dawn h_likes h_walked h_came v_thrown v_trouble v_where v_inn v_read v_taped v_size v_at v_sort v_place v_sign v_number v_fault v_wrongAt v_word v_marks v_notes)) (As := [.ref (E.2.2.2.2.1 9)]) (rest := []) C (ctX12_isWord l E h h_tape h_far h_from h_real h_other h_kept h_set h_w h_book h_noteSort h_whose h_what h_noteIs h_fitting h_dawn h_likes h_walked h_came v_thrown v_trouble v_where v_inn v_read v_taped v_size v_at v_sort v_place v_sign v_number v_fault v_wrongAt v_word v_marks v_notes 9 (by decide) N r_92 hc_92) ml_X12_138 ⟨Nat.le_of_ble_eq_true rfl, Nat.le_of_ble_eq_true rfl⟩ hP hD hS 0 rfl rfl rfl [0] [1] 1 rfl rfl rfl rfl rfl rfl rfl hl.1 rfl (Nat.le_of_ble_eq_true rfl) ⟨Nat.zero_le _, Nat.zero_le _⟩ dX12_isName_92 ?_
                      clear hP hD hS; intro H locs hP hD hS
                      refine lv_if_eq (pc := 95) (tgt := 100) hx hb dX12_isName_95 (by decide) (fun c_95 => ?_) (fun c_95 => ?_)
                      · replace hf := it_t c_95 hf
                        refine lv_aload_n (pc := 100) hx hb dX12_isName_100 rfl (lv_at hl 0 rfl) ?_
                        refine r_ldcS (pc := 101) C (C.kx.2.2.2.2.2 10 (by decide)).2.2.2.2 dX12_isName_101 ?_
                        obtain ⟨r_103, hc_103, hf⟩ := bd1 hf
                        refine r_dalVi (pc := 103) (ws' := (wX12_isName E h h_tape h_far h_from h_real h_other h_kept h_set h_w h_book h_noteSort h_whose h_what h_noteIs h_fitting h_dawn h_likes h_walked h_came v_thrown v_trouble v_where v_inn v_read v_taped v_size v_at v_sort v_place v_sign v_number v_fault v_wrongAt v_word v_marks v_notes)) (As := [.ref (E.2.2.2.2.1 10)]) (rest := []) C (ctX12_isWord l E h h_tape h_far h_from h_real h_other h_kept h_set h_w h_book h_noteSort h_whose h_what h_noteIs h_fitting h_dawn h_likes h_walked h_came v_thrown v_trouble v_where v_inn v_read v_taped v_size v_at v_sort v_place v_sign v_number v_fault v_wrongAt v_word v_marks v_notes 10 (by decide) N r_103 hc_103) ml_X12_138 ⟨Nat.le_of_ble_eq_true rfl, Nat.le_of_ble_eq_true rfl⟩ hP hD hS 0 rfl rfl rfl [0] [1] 1 rfl rfl rfl rfl rfl rfl rfl hl.1 rfl (Nat.le_of_ble_eq_true rfl) ⟨Nat.zero_le _, Nat.zero_le _⟩ dX12_isName_103 ?_
                        clear hP hD hS; intro H locs hP hD hS
                        refine jnK hf (fun j185 ej185 hf => ?_)
                        have hj185 : j185 () = some z → AT p l e (rmOf 6 129) s m args below meth c E A Q 0 0 1 [] (wX12_isName E h h_tape h_far h_from h_real h_other h_kept h_set h_w h_book h_noteSort h_whose h_what h_noteIs h_fitting h_dawn h_likes h_walked h_came v_thrown v_trouble v_where v_inn v_read v_taped v_size v_at v_sort v_place v_sign v_number v_fault v_wrongAt v_word v_marks v_notes) 185 [] := by
                          intro  hf H locs ls hl hP hD hS
                          rw [ej185] at hf
                          replace hf := un0_s hf
                          refine lv_iconst (pc := 185) (v := 0) hx hb dX12_isName_185 (by decide) ?_
                          cases hf
                          rw [hQ]
                          exact r_zret C hr hP hD hS (Or.inl rfl) rfl dX12_isName_186
                        clear ej185
                        refine lv_if_ne (pc := 106) (tgt := 185) hx hb dX12_isName_106 (by decide) (fun c_106 => ?_) (fun c_106 => ?_)
                        · replace hf := it_f c_106 hf
                          exact hj185  hf _ _ _ (lv_sub hl [] rfl) hP hD hS
                        · replace hf := it_t c_106 hf
                          refine lv_aload_n (pc := 109) hx hb dX12_isName_109 rfl (lv_at hl 0 rfl) ?_
                          refine r_ldcS (pc := 110) C (C.kx.2.2.2.2.2 11 (by decide)).2.2.2.2 dX12_isName_110 ?_
                          obtain ⟨r_112, hc_112, hf⟩ := bd1 hf
                          refine r_dalVi (pc := 112) (ws' := (wX12_isName E h h_tape h_far h_from h_real h_other h_kept h_set h_w h_book h_noteSort h_whose h_what h_noteIs h_fitting h_dawn h_likes h_walked h_came v_thrown v_trouble v_where v_inn v_read v_taped v_size v_at v_sort v_place v_sign v_number v_fault v_wrongAt v_word v_marks v_notes)) (As := [.ref (E.2.2.2.2.1 11)]) (rest := []) C (ctX12_isWord l E h h_tape h_far h_from h_real h_other h_kept h_set h_w h_book h_noteSort h_whose h_what h_noteIs h_fitting h_dawn h_likes h_walked h_came v_thrown v_trouble v_where v_inn v_read v_taped v_size v_at v_sort v_place v_sign v_number v_fault v_wrongAt v_word v_marks v_notes 11 (by decide) N r_112 hc_112) ml_X12_138 ⟨Nat.le_of_ble_eq_true rfl, Nat.le_of_ble_eq_true rfl⟩ hP hD hS 0 rfl rfl rfl [0] [1] 1 rfl rfl rfl rfl rfl rfl rfl hl.1 rfl (Nat.le_of_ble_eq_true rfl) ⟨Nat.zero_le _, Nat.zero_le _⟩ dX12_isName_112 ?_
                          clear hP hD hS; intro H locs hP hD hS
                          refine lv_if_ne (pc := 115) (tgt := 185) hx hb dX12_isName_115 (by decide) (fun c_115 => ?_) (fun c_115 => ?_)
                          · replace hf := it_f c_115 hf
                            exact hj185  hf _ _ _ (lv_sub hl [] rfl) hP hD hS
                          · replace hf := it_t c_115 hf
                            refine lv_aload_n (pc := 118) hx hb dX12_isName_118 rfl (lv_at hl 0 rfl) ?_
                            refine r_ldcS (pc := 119) C (C.kx.2.2.2.2.2 12 (by decide)).2.2.2.2 dX12_isName_119 ?_
                            obtain ⟨r_121, hc_121, hf⟩ := bd1 hf
                            refine r_dalVi (pc := 121) (ws' := (wX12_isName E h h_tape h_far h_from h_real h_other h_kept h_set h_w h_book h_noteSort h_whose h_what h_noteIs h_fitting h_dawn h_likes h_walked h_came v_thrown v_trouble v_where v_inn v_read v_taped v_size v_at v_sort v_place v_sign v_number v_fault v_wrongAt v_word v_marks v_notes)) (As := [.ref (E.2.2.2.2.1 12)]) (rest := []) C (ctX12_isWord l E h h_tape h_far h_from h_real h_other h_kept h_set h_w h_book h_noteSort h_whose h_what h_noteIs h_fitting h_dawn h_likes h_walked h_came v_thrown v_trouble v_where v_inn v_read v_taped v_size v_at v_sort v_place v_sign v_number v_fault v_wrongAt v_word v_marks v_notes 12 (by decide) N r_121 hc_121) ml_X12_138 ⟨Nat.le_of_ble_eq_true rfl, Nat.le_of_ble_eq_true rfl⟩ hP hD hS 0 rfl rfl rfl [0] [1] 1 rfl rfl rfl rfl rfl rfl rfl hl.1 rfl (Nat.le_of_ble_eq_true rfl) ⟨Nat.zero_le _, Nat.zero_le _⟩ dX12_isName_121 ?_
                            clear hP hD hS; intro H locs hP hD hS
                            refine lv_if_ne (pc := 124) (tgt := 185) hx hb dX12_isName_124 (by decide) (fun c_124 => ?_) (fun c_124 => ?_)
                            · replace hf := it_f c_124 hf
                              exact hj185  hf _ _ _ (lv_sub hl [] rfl) hP hD hS
                            · replace hf := it_t c_124 hf
                              refine lv_aload_n (pc := 127) hx hb dX12_isName_127 rfl (lv_at hl 0 rfl) ?_
                              refine r_ldcS (pc := 128) C (C.kx.2.2.2.2.2 13 (by decide)).2.2.2.2 dX12_isName_128 ?_
                              obtain ⟨r_130, hc_130, hf⟩ := bd1 hf
                              refine r_dalVi (pc := 130) (ws' := (wX12_isName E h h_tape h_far h_from h_real h_other h_kept h_set h_w h_book h_noteSort h_whose h_what h_noteIs h_fitting h_dawn h_likes h_walked h_came v_thrown v_trouble v_where v_inn v_read v_taped v_size v_at v_sort v_place v_sign v_number v_fault v_wrongAt v_word v_marks v_notes)) (As := [.ref (E.2.2.2.2.1 13)]) (rest := []) C (ctX12_isWord l E h h_tape h_far h_from h_real h_other h_kept h_set h_w h_book h_noteSort h_whose h_what h_noteIs h_fitting h_dawn h_likes h_walked h_came v_thrown v_trouble v_where v_inn v_read v_taped v_size v_at v_sort v_place v_sign v_number v_fault v_wrongAt v_word v_marks v_notes 13 (by decide) N r_130 hc_130) ml_X12_138 ⟨Nat.le_of_ble_eq_true rfl, Nat.le_of_ble_eq_true rfl⟩ hP hD hS 0 rfl rfl rfl [0] [1] 1 rfl rfl rfl rfl rfl rfl rfl hl.1 rfl (Nat.le_of_ble_eq_true rfl) ⟨Nat.zero_le _, Nat.zero_le _⟩ dX12_isName_130 ?_
                              clear hP hD hS; intro H locs hP hD hS
                              refine lv_if_ne (pc := 133) (tgt := 185) hx hb dX12_isName_133 (by decide) (fun c_133 => ?_) (fun c_133 => ?_)
                              · replace hf := it_f c_133 hf
                                exact hj185  hf _ _ _ (lv_sub hl [] rfl) hP hD hS
                              · replace hf := it_t c_133 hf
                                refine lv_aload_n (pc := 136) hx hb dX12_isName_136 rfl (lv_at hl 0 rfl) ?_
                                refine r_ldcS (pc := 137) C (C.kx.2.2.2.2.2 14 (by decide)).2.2.2.2 dX12_isName_137 ?_
                                obtain ⟨r_139, hc_139, hf⟩ := bd1 hf
                                refine r_dalVi (pc := 139) (ws' := (wX12_isName E h h_tape h_far h_from h_real h_other h_kept h_set h_w h_book h_noteSort h_whose h_what h_noteIs h_fitting h_dawn h_likes h_walked h_came v_thrown v_trouble v_where v_inn v_read v_taped v_size v_at v_sort v_place v_sign v_number v_fault v_wrongAt v_word v_marks v_notes)) (As := [.ref (E.2.2.2.2.1 14)]) (rest := []) C (ctX12_isWord l E h h_tape h_far h_from h_real h_other h_kept h_set h_w h_book h_noteSort h_whose h_what h_noteIs h_fitting h_dawn h_likes h_walked h_came v_thrown v_trouble v_where v_inn v_read v_taped v_size v_at v_sort v_place v_sign v_number v_fault v_wrongAt v_word v_marks v_notes 14 (by decide) N r_139 hc_139) ml_X12_138 ⟨Nat.le_of_ble_eq_true rfl, Nat.le_of_ble_eq_true rfl⟩ hP hD hS 0 rfl rfl rfl [0] [1] 1 rfl rfl rfl rfl rfl rfl rfl hl.1 rfl (Nat.le_of_ble_eq_true rfl) ⟨Nat.zero_le _, Nat.zero_le _⟩ dX12_isName_139 ?_
                                clear hP hD hS; intro H locs hP hD hS
                                refine lv_if_ne (pc := 142) (tgt := 185) hx hb dX12_isName_142 (by decide) (fun c_142 => ?_) (fun c_142 => ?_)
                                · replace hf := it_f c_142 hf
                                  exact hj185  hf _ _ _ (lv_sub hl [] rfl) hP hD hS
                                · replace hf := it_t c_142 hf
                                  refine lv_aload_n (pc := 145) hx hb dX12_isName_145 rfl (lv_at hl 0 rfl) ?_
                                  refine r_ldcS (pc := 146) C (C.kx.2.2.2.2.2 15 (by decide)).2.2.2.2 dX12_isName_146 ?_
                                  obtain ⟨r_148, hc_148, hf⟩ := bd1 hf
                                  refine r_dalVi (pc := 148) (ws' := (wX12_isName E h h_tape h_far h_from h_real h_other h_kept h_set h_w h_book h_noteSort h_whose h_what h_noteIs h_fitting h_dawn h_likes h_walked h_came v_thrown v_trouble v_where v_inn v_read v_taped v_size v_at v_sort v_place v_sign v_number v_fault v_wrongAt v_word v_marks v_notes)) (As := [.ref (E.2.2.2.2.1 15)]) (rest := []) C (ctX12_isWord l E h h_tape h_far h_from h_real h_other h_kept h_set h_w h_book h_noteSort h_whose h_what h_noteIs h_fitting h_dawn h_likes h_walked h_came v_thrown v_trouble v_where v_inn v_read v_taped v_size v_at v_sort v_place v_sign v_number v_fault v_wrongAt v_word v_marks v_notes 15 (by decide) N r_148 hc_148) ml_X12_138 ⟨Nat.le_of_ble_eq_true rfl, Nat.le_of_ble_eq_true rfl⟩ hP hD hS 0 rfl rfl rfl [0] [1] 1 rfl rfl rfl rfl rfl rfl rfl hl.1 rfl (Nat.le_of_ble_eq_true rfl) ⟨Nat.zero_le _, Nat.zero_le _⟩ dX12_isName_148 ?_
                                  clear hP hD hS; intro H locs hP hD hS
                                  refine lv_if_ne (pc := 151) (tgt := 185) hx hb dX12_isName_151 (by decide) (fun c_151 => ?_) (fun c_151 => ?_)
                                  · replace hf := it_f c_151 hf
                                    exact hj185  hf _ _ _ (lv_sub hl [] rfl) hP hD hS
                                  · replace hf := it_t c_151 hf
                                    refine lv_aload_n (pc := 154) hx hb dX12_isName_154 rfl (lv_at hl 0 rfl) ?_
                                    refine r_ldcS (pc := 155) C (C.kx.2.2.2.2.2 16 (by decide)).2.2.2.2 dX12_isName_155 ?_
                                    obtain ⟨r_157, hc_157, hf⟩ := bd1 hf
                                    refine r_dalVi (pc := 157) (ws' := (wX12_isName E h h_tape h_far h_from h_real h_other h_kept h_set h_w h_book h_noteSort h_whose h_what h_noteIs h_fitting h_dawn h_likes h_walked h_came v_thrown v_trouble v_where v_inn v_read v_taped v_size v_at v_sort v_place v_sign v_number v_fault v_wrongAt v_word v_marks v_notes)) (As := [.ref (E.2.2.2.2.1 16)]) (rest := []) C (ctX12_isWord l E h h_tape h_far h_from h_real h_other h_kept h_set h_w h_book h_noteSort h_whose h_what h_noteIs h_fitting h_dawn h_likes h_walked h_came v_thrown v_trouble v_where v_inn v_read v_taped v_size v_at v_sort v_place v_sign v_number v_fault v_wrongAt v_word v_marks v_notes 16 (by decide) N r_157 hc_157) ml_X12_138 ⟨Nat.le_of_ble_eq_true rfl, Nat.le_of_ble_eq_true rfl⟩ hP hD hS 0 rfl rfl rfl [0] [1] 1 rfl rfl rfl rfl rfl rfl rfl hl.1 rfl (Nat.le_of_ble_eq_true rfl) ⟨Nat.zero_le _, Nat.zero_le _⟩ dX12_isName_157 ?_
                                    clear hP hD hS; intro H locs hP hD hS
                                    refine lv_if_ne (pc := 160) (tgt := 185) hx hb dX12_isName_160 (by decide) (fun c_160 => ?_) (fun c_160 => ?_)
                                    · replace hf := it_f c_160 hf
                                      exact hj185  hf _ _ _ (lv_sub hl [] rfl) hP hD hS
                                    · replace hf := it_t c_160 hf
                                      refine lv_aload_n (pc := 163) hx hb dX12_isName_163 rfl (lv_at hl 0 rfl) ?_
                                      refine r_ldcS (pc := 164) C (C.kx.2.2.2.2.2 17 (by decide)).2.2.2.2 dX12_isName_164 ?_
                                      obtain ⟨r_166, hc_166, hf⟩ := bd1 hf
                                      refine r_dalVi (pc := 166) (ws' := (wX12_isName E h h_tape h_far h_from h_real h_other h_kept h_set h_w h_book h_noteSort h_whose h_what h_noteIs h_fitting h_dawn h_likes h_walked h_came v_thrown v_trouble v_where v_inn v_read v_taped v_size v_at v_sort v_place v_sign v_number v_fault v_wrongAt v_word v_marks v_notes)) (As := [.ref (E.2.2.2.2.1 17)]) (rest := []) C (ctX12_isWord l E h h_tape h_far h_from h_real h_other h_kept h_set h_w h_book h_noteSort h_whose h_what h_noteIs h_fitting h_dawn h_likes h_walked h_came v_thrown v_trouble v_where v_inn v_read v_taped v_size v_at v_sort v_place v_sign v_number v_fault v_wrongAt v_word v_marks v_notes 17 (by decide) N r_166 hc_166) ml_X12_138 ⟨Nat.le_of_ble_eq_true rfl, Nat.le_of_ble_eq_true rfl⟩ hP hD hS 0 rfl rfl rfl [0] [1] 1 rfl rfl rfl rfl rfl rfl rfl hl.1 rfl (Nat.le_of_ble_eq_true rfl) ⟨Nat.zero_le _, Nat.zero_le _⟩ dX12_isName_166 ?_
                                      clear hP hD hS; intro H locs hP hD hS
                                      refine lv_if_ne (pc := 169) (tgt := 185) hx hb dX12_isName_169 (by decide) (fun c_169 => ?_) (fun c_169 => ?_)
                                      · replace hf := it_f c_169 hf
                                        exact hj185  hf _ _ _ (lv_sub hl [] rfl) hP hD hS
                                      · replace hf := it_t c_169 hf
                                        refine lv_aload_n (pc := 172) hx hb dX12_isName_172 rfl (lv_at hl 0 rfl) ?_
                                        refine r_ldcS (pc := 173) C (C.kx.2.2.2.2.2 18 (by decide)).2.2.2.2 dX12_isName_173 ?_
                                        obtain ⟨r_175, hc_175, hf⟩ := bd1 hf
                                        refine r_dalVi (pc := 175) (ws' := (wX12_isName E h h_tape h_far h_from h_real h_other h_kept h_set h_w h_book h_noteSort h_whose h_what h_noteIs h_fitting h_dawn h_likes h_walked h_came v_thrown v_trouble v_where v_inn v_read v_taped v_size v_at v_sort v_place v_sign v_number v_fault v_wrongAt v_word v_marks v_notes)) (As := [.ref (E.2.2.2.2.1 18)]) (rest := []) C (ctX12_isWord l E h h_tape h_far h_from h_real h_other h_kept h_set h_w h_book h_noteSort h_whose h_what h_noteIs h_fitting h_dawn h_likes h_walked h_came v_thrown v_trouble v_where v_inn v_read v_taped v_size v_at v_sort v_place v_sign v_number v_fault v_wrongAt v_word v_marks v_notes 18 (by decide) N r_175 hc_175) ml_X12_138 ⟨Nat.le_of_ble_eq_true rfl, Nat.le_of_ble_eq_true rfl⟩ hP hD hS 0 rfl rfl rfl [0] [1] 1 rfl rfl rfl rfl rfl rfl rfl hl.1 rfl (Nat.le_of_ble_eq_true rfl) ⟨Nat.zero_le _, Nat.zero_le _⟩ dX12_isName_175 ?_
                                        clear hP hD hS; intro H locs hP hD hS
                                        refine lv_if_ne (pc := 178) (tgt := 185) hx hb dX12_isName_178 (by decide) (fun c_178 => ?_) (fun c_178 => ?_)
                                        · replace hf := it_f c_178 hf
                                          exact hj185  hf _ _ _ (lv_sub hl [] rfl) hP hD hS
                                        · replace hf := it_t c_178 hf
                                          refine lv_iconst (pc := 181) (v := 1) hx hb dX12_isName_181 (by decide) ?_
                                          refine lv_goto (pc := 182) (tgt := 186) hx hb dX12_isName_182 (by decide) ?_
                                          cases hf
                                          rw [hQ]
                                          exact r_zret C hr hP hD hS (Or.inr rfl) rfl dX12_isName_186
                      · replace hf := it_f c_95 hf
                        refine lv_iconst (pc := 98) (v := 0) hx hb dX12_isName_98 (by decide) ?_
                        cases hf
                        rw [hQ]
                        exact r_zret C hr hP hD hS (Or.inl rfl) rfl dX12_isName_99
def wX12_begins (E : EN) (h h_tape h_far h_from h_real h_other h_kept h_set h_w h_book h_noteSort h_whose h_what h_noteIs h_fitting h_dawn h_likes h_walked h_came : Nat) (v_thrown : Int32) (v_trouble : Int32) (v_where : Int32) (v_inn : Option Nat) (v_read : Option Nat) (v_taped : Int32) (v_size : Int32) (v_at : Int32) (v_sort : Int32) (v_place : Int32) (v_sign : Int32) (v_number : Int32) (v_fault : Int32) (v_wrongAt : Int32) (v_word : Int64) (v_marks : Int32) (v_notes : Int32) (v_tape : Nat → Int32) : va_W := [(h, .inr (11, [.int v_thrown, .int v_trouble, .int v_where, va_rf v_inn, va_rf v_read, .ref h_tape, .int v_taped, .int v_size, .int v_at, .int v_sort, .int v_place, .int v_sign, .int v_number, .int v_fault, .int v_wrongAt, .long v_word, .ref h_far, .ref h_from, .ref h_real, .ref h_other, .ref h_kept, .ref h_set, .ref h_w, .int v_marks, .int v_notes, .ref h_book, .ref h_noteSort, .ref h_whose, .ref h_what, .ref h_noteIs, .ref h_fitting, .ref h_dawn, .ref h_likes, .ref h_walked, .ref h_came])), (h_tape, aB E 900 v_tape)]
def fX12_begins (N : Nat) (p0 : Int32) (p1 : Int32) (v_size : Int32) (v_at : Int32) (v_sort : Int32) (v_place : Int32) (v_sign : Int32) (v_number : Int32) (v_fault : Int32) (v_wrongAt : Int32) (v_word : Int64) (v_tape : Nat → Int32) : Option (Int32 × Int32 × Int32 × Int32 × Int32 × Int32 × Int32 × Int64) := if p0 = p1 then ((fX12_wrong N 5 v_sort v_place v_fault v_wrongAt).bind (un3 fun (v_sort_7 : Int32) (v_fault_7 : Int32) (v_wrongAt_7 : Int32) => (fX12_goesOn N v_size v_at v_sort_7 v_place v_sign v_number v_word v_tape).bind (un6 fun (v_at_11 : Int32) (v_sort_11 : Int32) (v_place_11 : Int32) (v_sign_11 : Int32) (v_number_11 : Int32) (v_word_11 : Int64) => some (v_at_11, v_sort_11, v_place_11, v_sign_11, v_number_11, v_fault_7, v_wrongAt_7, v_word_11)))) else ((fX12_goesOn N v_size v_at v_sort v_place v_sign v_number v_word v_tape).bind (un6 fun (v_at_11 : Int32) (v_sort_11 : Int32) (v_place_11 : Int32) (v_sign_11 : Int32) (v_number_11 : Int32) (v_word_11 : Int64) => some (v_at_11, v_sort_11, v_place_11, v_sign_11, v_number_11, v_fault, v_wrongAt, v_word_11)))
set_option maxHeartbeats 4000000 in
set_option maxRecDepth 100000 in
theorem ctX12_begins (l : Launch) (E : EN) (h h_tape h_far h_from h_real h_other h_kept h_set h_w h_book h_noteSort h_whose h_what h_noteIs h_fitting h_dawn h_likes h_walked h_came : Nat) (v_thrown : Int32) (v_trouble : Int32) (v_where : Int32) (v_inn : Option Nat) (v_read : Option Nat) (v_taped : Int32) (v_size : Int32) (v_at : Int32) (v_sort : Int32) (v_place : Int32) (v_sign : Int32) (v_number : Int32) (v_fault : Int32) (v_wrongAt : Int32) (v_word : Int64) (v_marks : Int32) (v_notes : Int32) (v_tape : Nat → Int32) (N : Nat) (p0 : Int32) (p1 : Int32) (z : Int32 × Int32 × Int32 × Int32 × Int32 × Int32 × Int32 × Int64) (hf : fX12_begins N p0 p1 v_size v_at v_sort v_place v_sign v_number v_fault v_wrongAt v_word v_tape = some z) : CTv l E yX12_begins cX12_begins 3 2 43 [.ref h, .int p0, .int p1] (wX12_begins E h h_tape h_far h_from h_real h_other h_kept h_set h_w h_book h_noteSort h_whose h_what h_noteIs h_fitting h_dawn h_likes h_walked h_came v_thrown v_trouble v_where v_inn v_read v_taped v_size v_at v_sort v_place v_sign v_number v_fault v_wrongAt v_word v_marks v_notes v_tape) (wX12_begins E h h_tape h_far h_from h_real h_other h_kept h_set h_w h_book h_noteSort h_whose h_what h_noteIs h_fitting h_dawn h_likes h_walked h_came v_thrown v_trouble v_where v_inn v_read v_taped v_size z.1 z.2.1 z.2.2.1 z.2.2.2.1 z.2.2.2.2.1 z.2.2.2.2.2.1 z.2.2.2.2.2.2.1 z.2.2.2.2.2.2.2 v_marks v_notes v_tape) := by
  intro sz
  refine ct_body (by decide) (Nat.le_of_ble_eq_true rfl) ?_
  intro p e s m args below meth c A ls hAe C hr hin hP hD hS hl
  have C : CX p s m args meth c cX12_begins RX12 3 E A := C
  have hl : lv_has ls 3 [(0, .ref h), (1, .int p0), (2, .int p1)] := hl
  have hx := C.1
  have hb := C.2.1
  rw [hAe]
  clear hAe
  obtain ⟨Q, hQ⟩ : ∃ Q, Q = MQ below (Qv E A (wX12_begins E h h_tape h_far h_from h_real h_other h_kept h_set h_w h_book h_noteSort h_whose h_what h_noteIs h_fitting h_dawn h_likes h_walked h_came v_thrown v_trouble v_where v_inn v_read v_taped v_size z.1 z.2.1 z.2.2.1 z.2.2.2.1 z.2.2.2.2.1 z.2.2.2.2.2.1 z.2.2.2.2.2.2.1 z.2.2.2.2.2.2.2 v_marks v_notes v_tape)) args s 0 0 A := ⟨_, rfl⟩
  rw [← hQ]
  unfold fX12_begins at hf
  refine lv_iload_n (pc := 0) hx hb dX12_begins_0 rfl (lv_at hl 1 rfl) ?_
  refine lv_iload_n (pc := 1) hx hb dX12_begins_1 rfl (lv_at hl 2 rfl) ?_
  refine lv_icmp_ne (pc := 2) (tgt := 10) hx hb dX12_begins_2 (by decide) (fun c_2 => ?_) (fun c_2 => ?_)
  · replace hf := it_f c_2 hf
    refine lv_aload_n (pc := 10) hx hb dX12_begins_10 rfl (lv_at hl 0 rfl) ?_
    obtain ⟨v_at_11, v_sort_11, v_place_11, v_sign_11, v_number_11, v_word_11, hc_11, hf⟩ := bd6 hf
    refine r_dalVv (pc := 11) (ws' := (wX12_begins E h h_tape h_far h_from h_real h_other h_kept h_set h_w h_book h_noteSort h_whose h_what h_noteIs h_fitting h_dawn h_likes h_walked h_came v_thrown v_trouble v_where v_inn v_read v_taped v_size v_at_11 v_sort_11 v_place_11 v_sign_11 v_number_11 v_fault v_wrongAt v_word_11 v_marks v_notes v_tape)) (As := []) (rest := []) C (ctX12_goesOn l E h h_tape h_far h_from h_real h_other h_kept h_set h_w h_book h_noteSort h_whose h_what h_noteIs h_fitting h_dawn h_likes h_walked h_came v_thrown v_trouble v_where v_inn v_read v_taped v_size v_at v_sort v_place v_sign v_number v_fault v_wrongAt v_word v_marks v_notes v_tape N (v_at_11, v_sort_11, v_place_11, v_sign_11, v_number_11, v_word_11) hc_11) ml_X12_142 ⟨Nat.le_of_ble_eq_true rfl, Nat.le_of_ble_eq_true rfl⟩ hP hD hS 0 rfl rfl rfl [0, 1] [2, 3] 2 rfl rfl rfl rfl rfl rfl rfl hl.1 rfl (Nat.le_of_ble_eq_true rfl) ⟨Nat.zero_le _, Nat.zero_le _⟩ dX12_begins_11 ?_
    clear hP hD hS; intro H locs hP hD hS
    cases hf
    rw [hQ]
    exact r_vret C hr hP hD hS dX12_begins_14
  · replace hf := it_t c_2 hf
    refine lv_aload_n (pc := 5) hx hb dX12_begins_5 rfl (lv_at hl 0 rfl) ?_
    refine lv_iconst (pc := 6) (v := 5) hx hb dX12_begins_6 (by decide) ?_
    obtain ⟨v_sort_7, v_fault_7, v_wrongAt_7, hc_7, hf⟩ := bd3 hf
    refine r_dalVv (pc := 7) (ws' := (wX12_begins E h h_tape h_far h_from h_real h_other h_kept h_set h_w h_book h_noteSort h_whose h_what h_noteIs h_fitting h_dawn h_likes h_walked h_came v_thrown v_trouble v_where v_inn v_read v_taped v_size v_at v_sort_7 v_place v_sign v_number v_fault_7 v_wrongAt_7 v_word v_marks v_notes v_tape)) (As := [.int 5]) (rest := []) C (ctX12_wrong l E h h_tape h_far h_from h_real h_other h_kept h_set h_w h_book h_noteSort h_whose h_what h_noteIs h_fitting h_dawn h_likes h_walked h_came v_thrown v_trouble v_where v_inn v_read v_taped v_size v_at v_sort v_place v_sign v_number v_fault v_wrongAt v_word v_marks v_notes N 5 (v_sort_7, v_fault_7, v_wrongAt_7) hc_7) ml_X12_145 ⟨Nat.le_of_ble_eq_true rfl, Nat.le_of_ble_eq_true rfl⟩ hP hD hS 0 rfl rfl rfl [0] [2, 1] 2 rfl rfl rfl rfl rfl rfl rfl hl.1 rfl (Nat.le_of_ble_eq_true rfl) ⟨Nat.zero_le _, Nat.zero_le _⟩ dX12_begins_7 ?_
    clear hP hD hS; intro H locs hP hD hS
    refine lv_aload_n (pc := 10) hx hb dX12_begins_10 rfl (lv_at hl 0 rfl) ?_
    obtain ⟨v_at_11, v_sort_11, v_place_11, v_sign_11, v_number_11, v_word_11, hc_11, hf⟩ := bd6 hf
    refine r_dalVv (pc := 11) (ws' := (wX12_begins E h h_tape h_far h_from h_real h_other h_kept h_set h_w h_book h_noteSort h_whose h_what h_noteIs h_fitting h_dawn h_likes h_walked h_came v_thrown v_trouble v_where v_inn v_read v_taped v_size v_at_11 v_sort_11 v_place_11 v_sign_11 v_number_11 v_fault_7 v_wrongAt_7 v_word_11 v_marks v_notes v_tape)) (As := []) (rest := []) C (ctX12_goesOn l E h h_tape h_far h_from h_real h_other h_kept h_set h_w h_book h_noteSort h_whose h_what h_noteIs h_fitting h_dawn h_likes h_walked h_came v_thrown v_trouble v_where v_inn v_read v_taped v_size v_at v_sort_7 v_place v_sign v_number v_fault_7 v_wrongAt_7 v_word v_marks v_notes v_tape N (v_at_11, v_sort_11, v_place_11, v_sign_11, v_number_11, v_word_11) hc_11) ml_X12_142 ⟨Nat.le_of_ble_eq_true rfl, Nat.le_of_ble_eq_true rfl⟩ hP hD hS 0 rfl rfl rfl [0, 1] [2, 3] 2 rfl rfl rfl rfl rfl rfl rfl hl.1 rfl (Nat.le_of_ble_eq_true rfl) ⟨Nat.zero_le _, Nat.zero_le _⟩ dX12_begins_11 ?_
    clear hP hD hS; intro H locs hP hD hS
    cases hf
    rw [hQ]
    exact r_vret C hr hP hD hS dX12_begins_14
def wX12_adds (E : EN) (h h_read h_tape h_far h_from h_real h_other h_kept h_set h_w h_book h_noteSort h_whose h_what h_noteIs h_fitting h_dawn h_likes h_walked h_came h_read_creak h_read_doorA h_read_doorB h_read_how h_read_lies h_read_isCold h_read_falls h_read_isFull h_read_isTold h_read_act h_read_what h_read_then h_read_met h_read_bed h_read_dream h_read_listens h_read_name h_read_nameSort h_read_nameNumber : Nat) (v_thrown : Int32) (v_trouble : Int32) (v_where : Int32) (v_inn : Option Nat) (v_taped : Int32) (v_size : Int32) (v_at : Int32) (v_sort : Int32) (v_place : Int32) (v_sign : Int32) (v_number : Int32) (v_fault : Int32) (v_wrongAt : Int32) (v_word : Int64) (v_marks : Int32) (v_notes : Int32) (v_read_minutes : Int32) (v_read_rooms : Int32) (v_read_doors : Int32) (v_read_things : Int32) (v_read_dreams : Int32) (v_read_sleepers : Int32) (v_read_listeners : Int32) (v_read_names : Int32) (v_read_name : Nat → Int64) (v_read_nameSort : Nat → Int32) (v_read_nameNumber : Nat → Int32) : va_W := [(h, .inr (11, [.int v_thrown, .int v_trouble, .int v_where, va_rf v_inn, .ref h_read, .ref h_tape, .int v_taped, .int v_size, .int v_at, .int v_sort, .int v_place, .int v_sign, .int v_number, .int v_fault, .int v_wrongAt, .long v_word, .ref h_far, .ref h_from, .ref h_real, .ref h_other, .ref h_kept, .ref h_set, .ref h_w, .int v_marks, .int v_notes, .ref h_book, .ref h_noteSort, .ref h_whose, .ref h_what, .ref h_noteIs, .ref h_fitting, .ref h_dawn, .ref h_likes, .ref h_walked, .ref h_came])), (h_read, .inr (10, [.int v_read_minutes, .int v_read_rooms, .int v_read_doors, .int v_read_things, .int v_read_dreams, .int v_read_sleepers, .int v_read_listeners, .int v_read_names, .ref h_read_creak, .ref h_read_doorA, .ref h_read_doorB, .ref h_read_how, .ref h_read_lies, .ref h_read_isCold, .ref h_read_falls, .ref h_read_isFull, .ref h_read_isTold, .ref h_read_act, .ref h_read_what, .ref h_read_then, .ref h_read_met, .ref h_read_bed, .ref h_read_dream, .ref h_read_listens, .ref h_read_name, .ref h_read_nameSort, .ref h_read_nameNumber])), (h_read_name, aJ E 19 v_read_name), (h_read_nameSort, aI E 19 v_read_nameSort), (h_read_nameNumber, aI E 19 v_read_nameNumber)]
def fX12_adds (N : Nat) (p0 : Int32) (p1 : Int32) (v_sort : Int32) (v_word : Int64) (v_read_names : Int32) (v_read_name : Nat → Int64) (v_read_nameSort : Nat → Int32) (v_read_nameNumber : Nat → Int32) : Option (Int32 × (Nat → Int64) × (Nat → Int32) × (Nat → Int32)) := if v_sort = 5 then (some (v_read_names, v_read_name, v_read_nameSort, v_read_nameNumber)) else (gd v_read_names 19 (gd v_read_names 19 (gd v_read_names 19 (some (v_read_names + 1, vp_updL v_read_name v_read_names.toNatClampNeg v_word, upd v_read_nameSort v_read_names.toNatClampNeg p0, upd v_read_nameNumber v_read_names.toNatClampNeg p1)))))
set_option maxHeartbeats 4000000 in
set_option maxRecDepth 100000 in
theorem ctX12_adds (l : Launch) (E : EN) (h h_read h_tape h_far h_from h_real h_other h_kept h_set h_w h_book h_noteSort h_whose h_what h_noteIs h_fitting h_dawn h_likes h_walked h_came h_read_creak h_read_doorA h_read_doorB h_read_how h_read_lies h_read_isCold h_read_falls h_read_isFull h_read_isTold h_read_act h_read_what h_read_then h_read_met h_read_bed h_read_dream h_read_listens h_read_name h_read_nameSort h_read_nameNumber : Nat) (v_thrown : Int32) (v_trouble : Int32) (v_where : Int32) (v_inn : Option Nat) (v_taped : Int32) (v_size : Int32) (v_at : Int32) (v_sort : Int32) (v_place : Int32) (v_sign : Int32) (v_number : Int32) (v_fault : Int32) (v_wrongAt : Int32) (v_word : Int64) (v_marks : Int32) (v_notes : Int32) (v_read_minutes : Int32) (v_read_rooms : Int32) (v_read_doors : Int32) (v_read_things : Int32) (v_read_dreams : Int32) (v_read_sleepers : Int32) (v_read_listeners : Int32) (v_read_names : Int32) (v_read_name : Nat → Int64) (v_read_nameSort : Nat → Int32) (v_read_nameNumber : Nat → Int32) (N : Nat) (p0 : Int32) (p1 : Int32) (z : Int32 × (Nat → Int64) × (Nat → Int32) × (Nat → Int32)) (hf : fX12_adds N p0 p1 v_sort v_word v_read_names v_read_name v_read_nameSort v_read_nameNumber = some z) : CTv l E yX12_adds cX12_adds 3 0 0 [.ref h, .int p0, .int p1] (wX12_adds E h h_read h_tape h_far h_from h_real h_other h_kept h_set h_w h_book h_noteSort h_whose h_what h_noteIs h_fitting h_dawn h_likes h_walked h_came h_read_creak h_read_doorA h_read_doorB h_read_how h_read_lies h_read_isCold h_read_falls h_read_isFull h_read_isTold h_read_act h_read_what h_read_then h_read_met h_read_bed h_read_dream h_read_listens h_read_name h_read_nameSort h_read_nameNumber v_thrown v_trouble v_where v_inn v_taped v_size v_at v_sort v_place v_sign v_number v_fault v_wrongAt v_word v_marks v_notes v_read_minutes v_read_rooms v_read_doors v_read_things v_read_dreams v_read_sleepers v_read_listeners v_read_names v_read_name v_read_nameSort v_read_nameNumber) (wX12_adds E h h_read h_tape h_far h_from h_real h_other h_kept h_set h_w h_book h_noteSort h_whose h_what h_noteIs h_fitting h_dawn h_likes h_walked h_came h_read_creak h_read_doorA h_read_doorB h_read_how h_read_lies h_read_isCold h_read_falls h_read_isFull h_read_isTold h_read_act h_read_what h_read_then h_read_met h_read_bed h_read_dream h_read_listens h_read_name h_read_nameSort h_read_nameNumber v_thrown v_trouble v_where v_inn v_taped v_size v_at v_sort v_place v_sign v_number v_fault v_wrongAt v_word v_marks v_notes v_read_minutes v_read_rooms v_read_doors v_read_things v_read_dreams v_read_sleepers v_read_listeners z.1 z.2.1 z.2.2.1 z.2.2.2) := by
  intro sz
  refine ct_body (by decide) (Nat.le_of_ble_eq_true rfl) ?_
  intro p e s m args below meth c A ls hAe C hr hin hP hD hS hl
  have C : CX p s m args meth c cX12_adds RX12 3 E A := C
  have hl : lv_has ls 3 [(0, .ref h), (1, .int p0), (2, .int p1)] := hl
  have hx := C.1
  have hb := C.2.1
  rw [hAe]
  clear hAe
  obtain ⟨Q, hQ⟩ : ∃ Q, Q = MQ below (Qv E A (wX12_adds E h h_read h_tape h_far h_from h_real h_other h_kept h_set h_w h_book h_noteSort h_whose h_what h_noteIs h_fitting h_dawn h_likes h_walked h_came h_read_creak h_read_doorA h_read_doorB h_read_how h_read_lies h_read_isCold h_read_falls h_read_isFull h_read_isTold h_read_act h_read_what h_read_then h_read_met h_read_bed h_read_dream h_read_listens h_read_name h_read_nameSort h_read_nameNumber v_thrown v_trouble v_where v_inn v_taped v_size v_at v_sort v_place v_sign v_number v_fault v_wrongAt v_word v_marks v_notes v_read_minutes v_read_rooms v_read_doors v_read_things v_read_dreams v_read_sleepers v_read_listeners z.1 z.2.1 z.2.2.1 z.2.2.2)) args s 0 0 A := ⟨_, rfl⟩
  rw [← hQ]
  unfold fX12_adds at hf
  refine lv_aload_n (pc := 0) hx hb dX12_adds_0 rfl (lv_at hl 0 rfl) ?_
  refine r_get (pc := 1) C hP 0 rfl fl_X12_99 rfl dX12_adds_1 ?_
  refine lv_iconst (pc := 4) (v := 5) hx hb dX12_adds_4 (by decide) ?_
  refine lv_icmp_ne (pc := 5) (tgt := 9) hx hb dX12_adds_5 (by decide) (fun c_5 => ?_) (fun c_5 => ?_)
  · replace hf := it_f c_5 hf
    refine lv_aload_n (pc := 9) hx hb dX12_adds_9 rfl (lv_at hl 0 rfl) ?_
    refine r_get (pc := 10) C hP 0 rfl fl_X12_202 rfl dX12_adds_10 ?_
    refine r_get (pc := 13) C hP 1 rfl fl_X12_206 rfl dX12_adds_13 ?_
    refine lv_aload_n (pc := 16) hx hb dX12_adds_16 rfl (lv_at hl 0 rfl) ?_
    refine r_get (pc := 17) C hP 0 rfl fl_X12_202 rfl dX12_adds_17 ?_
    refine r_get (pc := 20) C hP 1 rfl fl_X12_211 rfl dX12_adds_20 ?_
    refine lv_aload_n (pc := 23) hx hb dX12_adds_23 rfl (lv_at hl 0 rfl) ?_
    refine r_get (pc := 24) C hP 0 rfl fl_X12_118 rfl dX12_adds_24 ?_
    obtain ⟨hi_27, hf⟩ := gd_s hf
    refine r_last (pc := 27) (ws' := (wX12_adds E h h_read h_tape h_far h_from h_real h_other h_kept h_set h_w h_book h_noteSort h_whose h_what h_noteIs h_fitting h_dawn h_likes h_walked h_came h_read_creak h_read_doorA h_read_doorB h_read_how h_read_lies h_read_isCold h_read_falls h_read_isFull h_read_isTold h_read_act h_read_what h_read_then h_read_met h_read_bed h_read_dream h_read_listens h_read_name h_read_nameSort h_read_nameNumber v_thrown v_trouble v_where v_inn v_taped v_size v_at v_sort v_place v_sign v_number v_fault v_wrongAt v_word v_marks v_notes v_read_minutes v_read_rooms v_read_doors v_read_things v_read_dreams v_read_sleepers v_read_listeners v_read_names (vp_updL v_read_name v_read_names.toNatClampNeg v_word) v_read_nameSort v_read_nameNumber)) C hP hD hS 2 rfl hi_27 rfl dX12_adds_27 ?_
    clear hP hD hS; intro H locs hP hD hS
    refine lv_aload_n (pc := 28) hx hb dX12_adds_28 rfl (lv_at hl 0 rfl) ?_
    refine r_get (pc := 29) C hP 0 rfl fl_X12_202 rfl dX12_adds_29 ?_
    refine r_get (pc := 32) C hP 1 rfl fl_X12_214 rfl dX12_adds_32 ?_
    refine lv_aload_n (pc := 35) hx hb dX12_adds_35 rfl (lv_at hl 0 rfl) ?_
    refine r_get (pc := 36) C hP 0 rfl fl_X12_202 rfl dX12_adds_36 ?_
    refine r_get (pc := 39) C hP 1 rfl fl_X12_211 rfl dX12_adds_39 ?_
    refine lv_iload_n (pc := 42) hx hb dX12_adds_42 rfl (lv_at hl 1 rfl) ?_
    obtain ⟨hi_43, hf⟩ := gd_s hf
    refine r_iast (pc := 43) (ws' := (wX12_adds E h h_read h_tape h_far h_from h_real h_other h_kept h_set h_w h_book h_noteSort h_whose h_what h_noteIs h_fitting h_dawn h_likes h_walked h_came h_read_creak h_read_doorA h_read_doorB h_read_how h_read_lies h_read_isCold h_read_falls h_read_isFull h_read_isTold h_read_act h_read_what h_read_then h_read_met h_read_bed h_read_dream h_read_listens h_read_name h_read_nameSort h_read_nameNumber v_thrown v_trouble v_where v_inn v_taped v_size v_at v_sort v_place v_sign v_number v_fault v_wrongAt v_word v_marks v_notes v_read_minutes v_read_rooms v_read_doors v_read_things v_read_dreams v_read_sleepers v_read_listeners v_read_names (vp_updL v_read_name v_read_names.toNatClampNeg v_word) (upd v_read_nameSort v_read_names.toNatClampNeg p0) v_read_nameNumber)) C hP hD hS 3 rfl hi_43 rfl dX12_adds_43 ?_
    clear hP hD hS; intro H locs hP hD hS
    refine lv_aload_n (pc := 44) hx hb dX12_adds_44 rfl (lv_at hl 0 rfl) ?_
    refine r_get (pc := 45) C hP 0 rfl fl_X12_202 rfl dX12_adds_45 ?_
    refine r_get (pc := 48) C hP 1 rfl fl_X12_217 rfl dX12_adds_48 ?_
    refine lv_aload_n (pc := 51) hx hb dX12_adds_51 rfl (lv_at hl 0 rfl) ?_
    refine r_get (pc := 52) C hP 0 rfl fl_X12_202 rfl dX12_adds_52 ?_
    refine r_get (pc := 55) C hP 1 rfl fl_X12_211 rfl dX12_adds_55 ?_
    refine lv_iload_n (pc := 58) hx hb dX12_adds_58 rfl (lv_at hl 2 rfl) ?_
    obtain ⟨hi_59, hf⟩ := gd_s hf
    refine r_iast (pc := 59) (ws' := (wX12_adds E h h_read h_tape h_far h_from h_real h_other h_kept h_set h_w h_book h_noteSort h_whose h_what h_noteIs h_fitting h_dawn h_likes h_walked h_came h_read_creak h_read_doorA h_read_doorB h_read_how h_read_lies h_read_isCold h_read_falls h_read_isFull h_read_isTold h_read_act h_read_what h_read_then h_read_met h_read_bed h_read_dream h_read_listens h_read_name h_read_nameSort h_read_nameNumber v_thrown v_trouble v_where v_inn v_taped v_size v_at v_sort v_place v_sign v_number v_fault v_wrongAt v_word v_marks v_notes v_read_minutes v_read_rooms v_read_doors v_read_things v_read_dreams v_read_sleepers v_read_listeners v_read_names (vp_updL v_read_name v_read_names.toNatClampNeg v_word) (upd v_read_nameSort v_read_names.toNatClampNeg p0) (upd v_read_nameNumber v_read_names.toNatClampNeg p1))) C hP hD hS 4 rfl hi_59 rfl dX12_adds_59 ?_
    clear hP hD hS; intro H locs hP hD hS
    refine lv_aload_n (pc := 60) hx hb dX12_adds_60 rfl (lv_at hl 0 rfl) ?_
    refine r_get (pc := 61) C hP 0 rfl fl_X12_202 rfl dX12_adds_61 ?_
    refine lv_dup (pc := 64) hx hb dX12_adds_64 rfl ?_
    refine r_get (pc := 65) C hP 1 rfl fl_X12_211 rfl dX12_adds_65 ?_
    refine lv_iconst (pc := 68) (v := 1) hx hb dX12_adds_68 (by decide) ?_
    refine lv_iadd (pc := 69) hx hb dX12_adds_69 ?_
    refine r_put (pc := 70) (ws' := (wX12_adds E h h_read h_tape h_far h_from h_real h_other h_kept h_set h_w h_book h_noteSort h_whose h_what h_noteIs h_fitting h_dawn h_likes h_walked h_came h_read_creak h_read_doorA h_read_doorB h_read_how h_read_lies h_read_isCold h_read_falls h_read_isFull h_read_isTold h_read_act h_read_what h_read_then h_read_met h_read_bed h_read_dream h_read_listens h_read_name h_read_nameSort h_read_nameNumber v_thrown v_trouble v_where v_inn v_taped v_size v_at v_sort v_place v_sign v_number v_fault v_wrongAt v_word v_marks v_notes v_read_minutes v_read_rooms v_read_doors v_read_things v_read_dreams v_read_sleepers v_read_listeners (v_read_names + 1) (vp_updL v_read_name v_read_names.toNatClampNeg v_word) (upd v_read_nameSort v_read_names.toNatClampNeg p0) (upd v_read_nameNumber v_read_names.toNatClampNeg p1))) C hP hD hS 1 rfl fl_X12_211 rfl rfl (Nat.le_of_ble_eq_true rfl) rfl dX12_adds_70 ?_
    clear hP hD hS; intro H locs hP hD hS
    cases hf
    rw [hQ]
    exact r_vret C hr hP hD hS dX12_adds_73
  · replace hf := it_t c_5 hf
    cases hf
    rw [hQ]
    exact r_vret C hr hP hD hS dX12_adds_8
def wX11_find (E : EN) (h h_creak h_doorA h_doorB h_how h_lies h_isCold h_falls h_isFull h_isTold h_act h_what h_then h_met h_bed h_dream h_listens h_name h_nameSort h_nameNumber : Nat) (v_minutes : Int32) (v_rooms : Int32) (v_doors : Int32) (v_things : Int32) (v_dreams : Int32) (v_sleepers : Int32) (v_listeners : Int32) (v_names : Int32) (v_name : Nat → Int64) : va_W := [(h, .inr (10, [.int v_minutes, .int v_rooms, .int v_doors, .int v_things, .int v_dreams, .int v_sleepers, .int v_listeners, .int v_names, .ref h_creak, .ref h_doorA, .ref h_doorB, .ref h_how, .ref h_lies, .ref h_isCold, .ref h_falls, .ref h_isFull, .ref h_isTold, .ref h_act, .ref h_what, .ref h_then, .ref h_met, .ref h_bed, .ref h_dream, .ref h_listens, .ref h_name, .ref h_nameSort, .ref h_nameNumber])), (h_name, aJ E 19 v_name)]
def BX11_find_2 (v_names : Int32) (v_name : Nat → Int64) (p0 : Int64) (rec2 : (Int32) → Option Int32) : (Int32) → Option Int32 := un1 fun (x2_3 : Int32) => if v_names ≤ x2_3 then (some (-1)) else (gd x2_3 19 (if (lg_cmp (v_name x2_3.toNatClampNeg) p0) = 0 then (some x2_3) else (rec2 (x2_3 + 1))))
def fX11_find (N : Nat) (p0 : Int64) (v_names : Int32) (v_name : Nat → Int64) : Option Int32 := lp (BX11_find_2 v_names v_name p0) N 0
set_option maxHeartbeats 4000000 in
set_option maxRecDepth 100000 in
theorem ctX11_find (l : Launch) (E : EN) (h h_creak h_doorA h_doorB h_how h_lies h_isCold h_falls h_isFull h_isTold h_act h_what h_then h_met h_bed h_dream h_listens h_name h_nameSort h_nameNumber : Nat) (v_minutes : Int32) (v_rooms : Int32) (v_doors : Int32) (v_things : Int32) (v_dreams : Int32) (v_sleepers : Int32) (v_listeners : Int32) (v_names : Int32) (v_name : Nat → Int64) (N : Nat) (p0 : Int64) (z : Int32) (hf : fX11_find N p0 v_names v_name = some z) : CTi l E yX11_find cX11_find 4 .int 0 0 [.ref h, .long p0] (wX11_find E h h_creak h_doorA h_doorB h_how h_lies h_isCold h_falls h_isFull h_isTold h_act h_what h_then h_met h_bed h_dream h_listens h_name h_nameSort h_nameNumber v_minutes v_rooms v_doors v_things v_dreams v_sleepers v_listeners v_names v_name) (z) (wX11_find E h h_creak h_doorA h_doorB h_how h_lies h_isCold h_falls h_isFull h_isTold h_act h_what h_then h_met h_bed h_dream h_listens h_name h_nameSort h_nameNumber v_minutes v_rooms v_doors v_things v_dreams v_sleepers v_listeners v_names v_name) := by
  intro sz
  refine ct_body (by decide) (Nat.le_of_ble_eq_true rfl) ?_
  intro p e s m args below meth c A ls hAe C hr hin hP hD hS hl
  have C : CX p s m args meth c cX11_find RX11 4 E A := C
  have hl : lv_has ls 4 [(0, .ref h), (1, .long p0)] := hl
  have hx := C.1
  have hb := C.2.1
  rw [hAe]
  clear hAe
  obtain ⟨Q, hQ⟩ : ∃ Q, Q = MQ below (Qi E A (z) (wX11_find E h h_creak h_doorA h_doorB h_how h_lies h_isCold h_falls h_isFull h_isTold h_act h_what h_then h_met h_bed h_dream h_listens h_name h_nameSort h_nameNumber v_minutes v_rooms v_doors v_things v_dreams v_sleepers v_listeners v_names v_name)) args s 0 0 A := ⟨_, rfl⟩
  rw [← hQ]
  unfold fX11_find at hf
  refine lv_iconst (pc := 0) (v := 0) hx hb dX11_find_0 (by decide) ?_
  refine lv_istore_n (pc := 1) (lv' := [(3, .int 0), (0, .ref h), (1, .long p0)]) hx hb dX11_find_1 rfl hl (by decide) rfl (fun ls hl => ?_)
  have key2 : ∀ (n : Nat) (x2_3 : Int32) , lp (BX11_find_2 v_names v_name p0) n x2_3 = some z → AT p l e (rmOf 0 0) s m args below meth c E A Q 0 0 4 [(0, .ref h), (1, .long p0), (3, .int x2_3)] (wX11_find E h h_creak h_doorA h_doorB h_how h_lies h_isCold h_falls h_isFull h_isTold h_act h_what h_then h_met h_bed h_dream h_listens h_name h_nameSort h_nameNumber v_minutes v_rooms v_doors v_things v_dreams v_sleepers v_listeners v_names v_name) 2 [] := by
    intro n
    induction n with
    | zero => intro x2_3 hf; exact (lp_0 hf).elim
    | succ n ih2 =>
      intro x2_3 hf H locs ls hl hP hD hS
      replace hf := lp_s hf
      generalize lp (BX11_find_2 v_names v_name p0) n = rec2 at ih2 hf
      unfold BX11_find_2 at hf
      replace hf := un1_s hf
      refine lv_iload_n (pc := 2) hx hb dX11_find_2 rfl (lv_at hl 2 rfl) ?_
      refine lv_aload_n (pc := 3) hx hb dX11_find_3 rfl (lv_at hl 0 rfl) ?_
      refine r_get (pc := 4) C hP 0 rfl fl_X11_71 rfl dX11_find_4 ?_
      refine lv_icmp_ge (pc := 7) (tgt := 29) hx hb dX11_find_7 (by decide) (fun c_7 => ?_) (fun c_7 => ?_)
      · replace hf := it_t c_7 hf
        refine lv_iconst (pc := 29) (v := (-1)) hx hb dX11_find_29 (by decide) ?_
        cases hf
        rw [hQ]
        exact r_iret C hr hP hD hS rfl dX11_find_30
      · replace hf := it_f c_7 hf
        refine lv_aload_n (pc := 10) hx hb dX11_find_10 rfl (lv_at hl 0 rfl) ?_
        refine r_get (pc := 11) C hP 0 rfl fl_X11_61 rfl dX11_find_11 ?_
        refine lv_iload_n (pc := 14) hx hb dX11_find_14 rfl (lv_at hl 2 rfl) ?_
        obtain ⟨hi_15, hf⟩ := gd_s hf
        refine r_lald (pc := 15) C hP 1 rfl hi_15 dX11_find_15 ?_
        refine lv_lload_n (pc := 16) hx hb dX11_find_16 rfl (lv_at hl 1 rfl) ?_
        refine W.lcmp (pc := 17) hx hb dX11_find_17 ?_
        refine lv_if_ne (pc := 18) (tgt := 23) hx hb dX11_find_18 (by decide) (fun c_18 => ?_) (fun c_18 => ?_)
        · replace hf := it_f c_18 hf
          refine lv_iinc (pc := 23) (v := x2_3 + 1) (lv' := [(3, .int (x2_3 + 1)), (0, .ref h), (1, .long p0)]) hx hb dX11_find_23 hl (k := 2) rfl rfl (by decide) rfl (fun ls hl => ?_)
          refine lv_goto (pc := 26) (tgt := 2) hx hb dX11_find_26 (by decide) ?_
          exact ih2 (x2_3 + 1) hf _ _ _ (lv_sub hl [1, 2, 0] rfl) hP hD hS
        · replace hf := it_t c_18 hf
          refine lv_iload_n (pc := 21) hx hb dX11_find_21 rfl (lv_at hl 2 rfl) ?_
          cases hf
          rw [hQ]
          exact r_iret C hr hP hD hS rfl dX11_find_22
  exact key2 _ 0 hf _ _ _ (lv_sub hl [1, 2, 0] rfl) hP hD hS
def wX12_readFresh (E : EN) (h h_read h_tape h_far h_from h_real h_other h_kept h_set h_w h_book h_noteSort h_whose h_what h_noteIs h_fitting h_dawn h_likes h_walked h_came h_read_creak h_read_doorA h_read_doorB h_read_how h_read_lies h_read_isCold h_read_falls h_read_isFull h_read_isTold h_read_act h_read_what h_read_then h_read_met h_read_bed h_read_dream h_read_listens h_read_name h_read_nameSort h_read_nameNumber : Nat) (v_thrown : Int32) (v_trouble : Int32) (v_where : Int32) (v_inn : Option Nat) (v_taped : Int32) (v_size : Int32) (v_at : Int32) (v_sort : Int32) (v_place : Int32) (v_sign : Int32) (v_number : Int32) (v_fault : Int32) (v_wrongAt : Int32) (v_word : Int64) (v_marks : Int32) (v_notes : Int32) (v_read_minutes : Int32) (v_read_rooms : Int32) (v_read_doors : Int32) (v_read_things : Int32) (v_read_dreams : Int32) (v_read_sleepers : Int32) (v_read_listeners : Int32) (v_read_names : Int32) (v_read_name : Nat → Int64) (v_read_nameSort : Nat → Int32) (v_read_nameNumber : Nat → Int32) (v_tape : Nat → Int32) : va_W := [(h, .inr (11, [.int v_thrown, .int v_trouble, .int v_where, va_rf v_inn, .ref h_read, .ref h_tape, .int v_taped, .int v_size, .int v_at, .int v_sort, .int v_place, .int v_sign, .int v_number, .int v_fault, .int v_wrongAt, .long v_word, .ref h_far, .ref h_from, .ref h_real, .ref h_other, .ref h_kept, .ref h_set, .ref h_w, .int v_marks, .int v_notes, .ref h_book, .ref h_noteSort, .ref h_whose, .ref h_what, .ref h_noteIs, .ref h_fitting, .ref h_dawn, .ref h_likes, .ref h_walked, .ref h_came])), (h_read, .inr (10, [.int v_read_minutes, .int v_read_rooms, .int v_read_doors, .int v_read_things, .int v_read_dreams, .int v_read_sleepers, .int v_read_listeners, .int v_read_names, .ref h_read_creak, .ref h_read_doorA, .ref h_read_doorB, .ref h_read_how, .ref h_read_lies, .ref h_read_isCold, .ref h_read_falls, .ref h_read_isFull, .ref h_read_isTold, .ref h_read_act, .ref h_read_what, .ref h_read_then, .ref h_read_met, .ref h_read_bed, .ref h_read_dream, .ref h_read_listens, .ref h_read_name, .ref h_read_nameSort, .ref h_read_nameNumber])), (h_read_name, aJ E 19 v_read_name), (h_read_nameSort, aI E 19 v_read_nameSort), (h_read_nameNumber, aI E 19 v_read_nameNumber), (h_tape, aB E 900 v_tape)]
def fX12_readFresh (N : Nat) (p0 : Int32) (p1 : Int32) (v_size : Int32) (v_at : Int32) (v_sort : Int32) (v_place : Int32) (v_sign : Int32) (v_number : Int32) (v_fault : Int32) (v_wrongAt : Int32) (v_word : Int64) (v_read_names : Int32) (v_read_name : Nat → Int64) (v_read_nameSort : Nat → Int32) (v_read_nameNumber : Nat → Int32) (v_tape : Nat → Int32) : Option (Int32 × Int32 × Int32 × Int32 × Int32 × Int32 × Int32 × Int64 × Int32 × (Nat → Int64) × (Nat → Int32) × (Nat → Int32)) := (fX12_isName N v_sort v_word).bind (un1 fun (r_1 : Int32) => jn (un3 fun (x12_sort : Int32) (x12_fault : Int32) (x12_wrongAt : Int32) => (fX11_find N v_word v_read_names v_read_name).bind (un1 fun (r_20 : Int32) => jn (un3 fun (x32_sort : Int32) (x32_fault : Int32) (x32_wrongAt : Int32) => (fX12_adds N p0 p1 x32_sort v_word v_read_names v_read_name v_read_nameSort v_read_nameNumber).bind (un4 fun (v_read_names_35 : Int32) (v_read_name_35 : Nat → Int64) (v_read_nameSort_35 : Nat → Int32) (v_read_nameNumber_35 : Nat → Int32) => (fX12_goesOn N v_size v_at x32_sort v_place v_sign v_number v_word v_tape).bind (un6 fun (v_at_39 : Int32) (v_sort_39 : Int32) (v_place_39 : Int32) (v_sign_39 : Int32) (v_number_39 : Int32) (v_word_39 : Int64) => some (v_at_39, v_sort_39, v_place_39, v_sign_39, v_number_39, x32_fault, x32_wrongAt, v_word_39, v_read_names_35, v_read_name_35, v_read_nameSort_35, v_read_nameNumber_35)))) (fun j32 => if r_20 = (-1) then (j32 (x12_sort, x12_fault, x12_wrongAt)) else ((fX12_wrong N 3 x12_sort v_place x12_fault x12_wrongAt).bind (un3 fun (v_sort_29 : Int32) (v_fault_29 : Int32) (v_wrongAt_29 : Int32) => j32 (v_sort_29, v_fault_29, v_wrongAt_29)))))) (fun j12 => if r_1 = 0 then ((fX12_wrong N 1 v_sort v_place v_fault v_wrongAt).bind (un3 fun (v_sort_9 : Int32) (v_fault_9 : Int32) (v_wrongAt_9 : Int32) => j12 (v_sort_9, v_fault_9, v_wrongAt_9))) else (j12 (v_sort, v_fault, v_wrongAt))))
set_option maxHeartbeats 4000000 in
set_option maxRecDepth 100000 in
theorem ctX12_readFresh (l : Launch) (E : EN) (h h_read h_tape h_far h_from h_real h_other h_kept h_set h_w h_book h_noteSort h_whose h_what h_noteIs h_fitting h_dawn h_likes h_walked h_came h_read_creak h_read_doorA h_read_doorB h_read_how h_read_lies h_read_isCold h_read_falls h_read_isFull h_read_isTold h_read_act h_read_what h_read_then h_read_met h_read_bed h_read_dream h_read_listens h_read_name h_read_nameSort h_read_nameNumber : Nat) (v_thrown : Int32) (v_trouble : Int32) (v_where : Int32) (v_inn : Option Nat) (v_taped : Int32) (v_size : Int32) (v_at : Int32) (v_sort : Int32) (v_place : Int32) (v_sign : Int32) (v_number : Int32) (v_fault : Int32) (v_wrongAt : Int32) (v_word : Int64) (v_marks : Int32) (v_notes : Int32) (v_read_minutes : Int32) (v_read_rooms : Int32) (v_read_doors : Int32) (v_read_things : Int32) (v_read_dreams : Int32) (v_read_sleepers : Int32) (v_read_listeners : Int32) (v_read_names : Int32) (v_read_name : Nat → Int64) (v_read_nameSort : Nat → Int32) (v_read_nameNumber : Nat → Int32) (v_tape : Nat → Int32) (N : Nat) (p0 : Int32) (p1 : Int32) (z : Int32 × Int32 × Int32 × Int32 × Int32 × Int32 × Int32 × Int64 × Int32 × (Nat → Int64) × (Nat → Int32) × (Nat → Int32)) (hf : fX12_readFresh N p0 p1 v_size v_at v_sort v_place v_sign v_number v_fault v_wrongAt v_word v_read_names v_read_name v_read_nameSort v_read_nameNumber v_tape = some z) : CTv l E yX12_readFresh cX12_readFresh 3 7 149 [.ref h, .int p0, .int p1] (wX12_readFresh E h h_read h_tape h_far h_from h_real h_other h_kept h_set h_w h_book h_noteSort h_whose h_what h_noteIs h_fitting h_dawn h_likes h_walked h_came h_read_creak h_read_doorA h_read_doorB h_read_how h_read_lies h_read_isCold h_read_falls h_read_isFull h_read_isTold h_read_act h_read_what h_read_then h_read_met h_read_bed h_read_dream h_read_listens h_read_name h_read_nameSort h_read_nameNumber v_thrown v_trouble v_where v_inn v_taped v_size v_at v_sort v_place v_sign v_number v_fault v_wrongAt v_word v_marks v_notes v_read_minutes v_read_rooms v_read_doors v_read_things v_read_dreams v_read_sleepers v_read_listeners v_read_names v_read_name v_read_nameSort v_read_nameNumber v_tape) (wX12_readFresh E h h_read h_tape h_far h_from h_real h_other h_kept h_set h_w h_book h_noteSort h_whose h_what h_noteIs h_fitting h_dawn h_likes h_walked h_came h_read_creak h_read_doorA h_read_doorB h_read_how h_read_lies h_read_isCold h_read_falls h_read_isFull h_read_isTold h_read_act h_read_what h_read_then h_read_met h_read_bed h_read_dream h_read_listens h_read_name h_read_nameSort h_read_nameNumber v_thrown v_trouble v_where v_inn v_taped v_size z.1 z.2.1 z.2.2.1 z.2.2.2.1 z.2.2.2.2.1 z.2.2.2.2.2.1 z.2.2.2.2.2.2.1 z.2.2.2.2.2.2.2.1 v_marks v_notes v_read_minutes v_read_rooms v_read_doors v_read_things v_read_dreams v_read_sleepers v_read_listeners z.2.2.2.2.2.2.2.2.1 z.2.2.2.2.2.2.2.2.2.1 z.2.2.2.2.2.2.2.2.2.2.1 z.2.2.2.2.2.2.2.2.2.2.2 v_tape) := by
  intro sz
  refine ct_body (by decide) (Nat.le_of_ble_eq_true rfl) ?_
  intro p e s m args below meth c A ls hAe C hr hin hP hD hS hl
  have C : CX p s m args meth c cX12_readFresh RX12 3 E A := C
  have hl : lv_has ls 3 [(0, .ref h), (1, .int p0), (2, .int p1)] := hl
  have hx := C.1
  have hb := C.2.1
  rw [hAe]
  clear hAe
  obtain ⟨Q, hQ⟩ : ∃ Q, Q = MQ below (Qv E A (wX12_readFresh E h h_read h_tape h_far h_from h_real h_other h_kept h_set h_w h_book h_noteSort h_whose h_what h_noteIs h_fitting h_dawn h_likes h_walked h_came h_read_creak h_read_doorA h_read_doorB h_read_how h_read_lies h_read_isCold h_read_falls h_read_isFull h_read_isTold h_read_act h_read_what h_read_then h_read_met h_read_bed h_read_dream h_read_listens h_read_name h_read_nameSort h_read_nameNumber v_thrown v_trouble v_where v_inn v_taped v_size z.1 z.2.1 z.2.2.1 z.2.2.2.1 z.2.2.2.2.1 z.2.2.2.2.2.1 z.2.2.2.2.2.2.1 z.2.2.2.2.2.2.2.1 v_marks v_notes v_read_minutes v_read_rooms v_read_doors v_read_things v_read_dreams v_read_sleepers v_read_listeners z.2.2.2.2.2.2.2.2.1 z.2.2.2.2.2.2.2.2.2.1 z.2.2.2.2.2.2.2.2.2.2.1 z.2.2.2.2.2.2.2.2.2.2.2 v_tape)) args s 0 0 A := ⟨_, rfl⟩
  rw [← hQ]
  unfold fX12_readFresh at hf
  refine lv_aload_n (pc := 0) hx hb dX12_readFresh_0 rfl (lv_at hl 0 rfl) ?_
  obtain ⟨r_1, hc_1, hf⟩ := bd1 hf
  refine r_dalVi (pc := 1) (ws' := (wX12_readFresh E h h_read h_tape h_far h_from h_real h_other h_kept h_set h_w h_book h_noteSort h_whose h_what h_noteIs h_fitting h_dawn h_likes h_walked h_came h_read_creak h_read_doorA h_read_doorB h_read_how h_read_lies h_read_isCold h_read_falls h_read_isFull h_read_isTold h_read_act h_read_what h_read_then h_read_met h_read_bed h_read_dream h_read_listens h_read_name h_read_nameSort h_read_nameNumber v_thrown v_trouble v_where v_inn v_taped v_size v_at v_sort v_place v_sign v_number v_fault v_wrongAt v_word v_marks v_notes v_read_minutes v_read_rooms v_read_doors v_read_things v_read_dreams v_read_sleepers v_read_listeners v_read_names v_read_name v_read_nameSort v_read_nameNumber v_tape)) (As := []) (rest := []) C (ctX12_isName l E h h_tape h_far h_from h_real h_other h_kept h_set h_w h_book h_noteSort h_whose h_what h_noteIs h_fitting h_dawn h_likes h_walked h_came v_thrown v_trouble v_where v_inn (some h_read) v_taped v_size v_at v_sort v_place v_sign v_number v_fault v_wrongAt v_word v_marks v_notes N r_1 hc_1) ml_X12_220 ⟨Nat.le_of_ble_eq_true rfl, Nat.le_of_ble_eq_true rfl⟩ hP hD hS 0 rfl rfl rfl [0] [6, 1, 2, 3, 4, 5] 6 rfl rfl rfl rfl rfl rfl rfl hl.1 rfl (Nat.le_of_ble_eq_true rfl) ⟨Nat.zero_le _, Nat.zero_le _⟩ dX12_readFresh_1 ?_
  clear hP hD hS; intro H locs hP hD hS
  refine jnK hf (fun j12 ej12 hf => ?_)
  have hj12 : ∀ (x12_sort : Int32) (x12_fault : Int32) (x12_wrongAt : Int32) , j12 (x12_sort, x12_fault, x12_wrongAt) = some z → AT p l e (rmOf 7 149) s m args below meth c E A Q 0 0 3 [(0, .ref h), (1, .int p0), (2, .int p1)] (wX12_readFresh E h h_read h_tape h_far h_from h_real h_other h_kept h_set h_w h_book h_noteSort h_whose h_what h_noteIs h_fitting h_dawn h_likes h_walked h_came h_read_creak h_read_doorA h_read_doorB h_read_how h_read_lies h_read_isCold h_read_falls h_read_isFull h_read_isTold h_read_act h_read_what h_read_then h_read_met h_read_bed h_read_dream h_read_listens h_read_name h_read_nameSort h_read_nameNumber v_thrown v_trouble v_where v_inn v_taped v_size v_at x12_sort v_place v_sign v_number x12_fault x12_wrongAt v_word v_marks v_notes v_read_minutes v_read_rooms v_read_doors v_read_things v_read_dreams v_read_sleepers v_read_listeners v_read_names v_read_name v_read_nameSort v_read_nameNumber v_tape) 12 [] := by
    intro x12_sort x12_fault x12_wrongAt hf H locs ls hl hP hD hS
    rw [ej12] at hf
    replace hf := un3_s hf
    refine lv_aload_n (pc := 12) hx hb dX12_readFresh_12 rfl (lv_at hl 0 rfl) ?_
    refine r_get (pc := 13) C hP 0 rfl fl_X12_202 rfl dX12_readFresh_13 ?_
    refine lv_aload_n (pc := 16) hx hb dX12_readFresh_16 rfl (lv_at hl 0 rfl) ?_
    refine r_get (pc := 17) C hP 0 rfl fl_X12_118 rfl dX12_readFresh_17 ?_
    obtain ⟨r_20, hc_20, hf⟩ := bd1 hf
    refine r_dalVi (pc := 20) (ws' := (wX12_readFresh E h h_read h_tape h_far h_from h_real h_other h_kept h_set h_w h_book h_noteSort h_whose h_what h_noteIs h_fitting h_dawn h_likes h_walked h_came h_read_creak h_read_doorA h_read_doorB h_read_how h_read_lies h_read_isCold h_read_falls h_read_isFull h_read_isTold h_read_act h_read_what h_read_then h_read_met h_read_bed h_read_dream h_read_listens h_read_name h_read_nameSort h_read_nameNumber v_thrown v_trouble v_where v_inn v_taped v_size v_at x12_sort v_place v_sign v_number x12_fault x12_wrongAt v_word v_marks v_notes v_read_minutes v_read_rooms v_read_doors v_read_things v_read_dreams v_read_sleepers v_read_listeners v_read_names v_read_name v_read_nameSort v_read_nameNumber v_tape)) (As := [.long v_word]) (rest := []) C (ctX11_find l E h_read h_read_creak h_read_doorA h_read_doorB h_read_how h_read_lies h_read_isCold h_read_falls h_read_isFull h_read_isTold h_read_act h_read_what h_read_then h_read_met h_read_bed h_read_dream h_read_listens h_read_name h_read_nameSort h_read_nameNumber v_read_minutes v_read_rooms v_read_doors v_read_things v_read_dreams v_read_sleepers v_read_listeners v_read_names v_read_name N v_word r_20 hc_20) ml_X12_224 ⟨Nat.le_of_ble_eq_true rfl, Nat.le_of_ble_eq_true rfl⟩ hP hD hS 1 rfl rfl rfl [1, 2] [0, 6, 7, 3, 4, 5] 6 rfl rfl rfl rfl rfl rfl rfl hl.1 rfl (Nat.le_of_ble_eq_true rfl) ⟨Nat.zero_le _, Nat.zero_le _⟩ dX12_readFresh_20 ?_
    clear hP hD hS; intro H locs hP hD hS
    refine lv_iconst (pc := 23) (v := (-1)) hx hb dX12_readFresh_23 (by decide) ?_
    refine jnK hf (fun j32 ej32 hf => ?_)
    have hj32 : ∀ (x32_sort : Int32) (x32_fault : Int32) (x32_wrongAt : Int32) , j32 (x32_sort, x32_fault, x32_wrongAt) = some z → AT p l e (rmOf 7 149) s m args below meth c E A Q 0 0 3 [(0, .ref h), (1, .int p0), (2, .int p1)] (wX12_readFresh E h h_read h_tape h_far h_from h_real h_other h_kept h_set h_w h_book h_noteSort h_whose h_what h_noteIs h_fitting h_dawn h_likes h_walked h_came h_read_creak h_read_doorA h_read_doorB h_read_how h_read_lies h_read_isCold h_read_falls h_read_isFull h_read_isTold h_read_act h_read_what h_read_then h_read_met h_read_bed h_read_dream h_read_listens h_read_name h_read_nameSort h_read_nameNumber v_thrown v_trouble v_where v_inn v_taped v_size v_at x32_sort v_place v_sign v_number x32_fault x32_wrongAt v_word v_marks v_notes v_read_minutes v_read_rooms v_read_doors v_read_things v_read_dreams v_read_sleepers v_read_listeners v_read_names v_read_name v_read_nameSort v_read_nameNumber v_tape) 32 [] := by
      intro x32_sort x32_fault x32_wrongAt hf H locs ls hl hP hD hS
      rw [ej32] at hf
      replace hf := un3_s hf
      refine lv_aload_n (pc := 32) hx hb dX12_readFresh_32 rfl (lv_at hl 0 rfl) ?_
      refine lv_iload_n (pc := 33) hx hb dX12_readFresh_33 rfl (lv_at hl 1 rfl) ?_
      refine lv_iload_n (pc := 34) hx hb dX12_readFresh_34 rfl (lv_at hl 2 rfl) ?_
      obtain ⟨v_read_names_35, v_read_name_35, v_read_nameSort_35, v_read_nameNumber_35, hc_35, hf⟩ := bd4 hf
      refine r_dalVv (pc := 35) (ws' := (wX12_readFresh E h h_read h_tape h_far h_from h_real h_other h_kept h_set h_w h_book h_noteSort h_whose h_what h_noteIs h_fitting h_dawn h_likes h_walked h_came h_read_creak h_read_doorA h_read_doorB h_read_how h_read_lies h_read_isCold h_read_falls h_read_isFull h_read_isTold h_read_act h_read_what h_read_then h_read_met h_read_bed h_read_dream h_read_listens h_read_name h_read_nameSort h_read_nameNumber v_thrown v_trouble v_where v_inn v_taped v_size v_at x32_sort v_place v_sign v_number x32_fault x32_wrongAt v_word v_marks v_notes v_read_minutes v_read_rooms v_read_doors v_read_things v_read_dreams v_read_sleepers v_read_listeners v_read_names_35 v_read_name_35 v_read_nameSort_35 v_read_nameNumber_35 v_tape)) (As := [.int p0, .int p1]) (rest := []) C (ctX12_adds l E h h_read h_tape h_far h_from h_real h_other h_kept h_set h_w h_book h_noteSort h_whose h_what h_noteIs h_fitting h_dawn h_likes h_walked h_came h_read_creak h_read_doorA h_read_doorB h_read_how h_read_lies h_read_isCold h_read_falls h_read_isFull h_read_isTold h_read_act h_read_what h_read_then h_read_met h_read_bed h_read_dream h_read_listens h_read_name h_read_nameSort h_read_nameNumber v_thrown v_trouble v_where v_inn v_taped v_size v_at x32_sort v_place v_sign v_number x32_fault x32_wrongAt v_word v_marks v_notes v_read_minutes v_read_rooms v_read_doors v_read_things v_read_dreams v_read_sleepers v_read_listeners v_read_names v_read_name v_read_nameSort v_read_nameNumber N p0 p1 (v_read_names_35, v_read_name_35, v_read_nameSort_35, v_read_nameNumber_35) hc_35) ml_X12_228 ⟨Nat.le_of_ble_eq_true rfl, Nat.le_of_ble_eq_true rfl⟩ hP hD hS 0 rfl rfl rfl [0, 1, 2, 3, 4] [6, 7, 8, 9, 10, 5] 6 rfl rfl rfl rfl rfl rfl rfl hl.1 rfl (Nat.le_of_ble_eq_true rfl) ⟨Nat.zero_le _, Nat.zero_le _⟩ dX12_readFresh_35 ?_
      clear hP hD hS; intro H locs hP hD hS
      refine lv_aload_n (pc := 38) hx hb dX12_readFresh_38 rfl (lv_at hl 0 rfl) ?_
      obtain ⟨v_at_39, v_sort_39, v_place_39, v_sign_39, v_number_39, v_word_39, hc_39, hf⟩ := bd6 hf
      refine r_dalVv (pc := 39) (ws' := (wX12_readFresh E h h_read h_tape h_far h_from h_real h_other h_kept h_set h_w h_book h_noteSort h_whose h_what h_noteIs h_fitting h_dawn h_likes h_walked h_came h_read_creak h_read_doorA h_read_doorB h_read_how h_read_lies h_read_isCold h_read_falls h_read_isFull h_read_isTold h_read_act h_read_what h_read_then h_read_met h_read_bed h_read_dream h_read_listens h_read_name h_read_nameSort h_read_nameNumber v_thrown v_trouble v_where v_inn v_taped v_size v_at_39 v_sort_39 v_place_39 v_sign_39 v_number_39 x32_fault x32_wrongAt v_word_39 v_marks v_notes v_read_minutes v_read_rooms v_read_doors v_read_things v_read_dreams v_read_sleepers v_read_listeners v_read_names_35 v_read_name_35 v_read_nameSort_35 v_read_nameNumber_35 v_tape)) (As := []) (rest := []) C (ctX12_goesOn l E h h_tape h_far h_from h_real h_other h_kept h_set h_w h_book h_noteSort h_whose h_what h_noteIs h_fitting h_dawn h_likes h_walked h_came v_thrown v_trouble v_where v_inn (some h_read) v_taped v_size v_at x32_sort v_place v_sign v_number x32_fault x32_wrongAt v_word v_marks v_notes v_tape N (v_at_39, v_sort_39, v_place_39, v_sign_39, v_number_39, v_word_39) hc_39) ml_X12_142 ⟨Nat.le_of_ble_eq_true rfl, Nat.le_of_ble_eq_true rfl⟩ hP hD hS 0 rfl rfl rfl [0, 5] [6, 1, 2, 3, 4, 7] 6 rfl rfl rfl rfl rfl rfl rfl hl.1 rfl (Nat.le_of_ble_eq_true rfl) ⟨Nat.zero_le _, Nat.zero_le _⟩ dX12_readFresh_39 ?_
      clear hP hD hS; intro H locs hP hD hS
      cases hf
      rw [hQ]
      exact r_vret C hr hP hD hS dX12_readFresh_42
    clear ej32
    refine lv_icmp_eq (pc := 24) (tgt := 32) hx hb dX12_readFresh_24 (by decide) (fun c_24 => ?_) (fun c_24 => ?_)
    · replace hf := it_t c_24 hf
      exact hj32 x12_sort x12_fault x12_wrongAt hf _ _ _ (lv_sub hl [0, 1, 2] rfl) hP hD hS
    · replace hf := it_f c_24 hf
      refine lv_aload_n (pc := 27) hx hb dX12_readFresh_27 rfl (lv_at hl 0 rfl) ?_
      refine lv_iconst (pc := 28) (v := 3) hx hb dX12_readFresh_28 (by decide) ?_
      obtain ⟨v_sort_29, v_fault_29, v_wrongAt_29, hc_29, hf⟩ := bd3 hf
      refine r_dalVv (pc := 29) (ws' := (wX12_readFresh E h h_read h_tape h_far h_from h_real h_other h_kept h_set h_w h_book h_noteSort h_whose h_what h_noteIs h_fitting h_dawn h_likes h_walked h_came h_read_creak h_read_doorA h_read_doorB h_read_how h_read_lies h_read_isCold h_read_falls h_read_isFull h_read_isTold h_read_act h_read_what h_read_then h_read_met h_read_bed h_read_dream h_read_listens h_read_name h_read_nameSort h_read_nameNumber v_thrown v_trouble v_where v_inn v_taped v_size v_at v_sort_29 v_place v_sign v_number v_fault_29 v_wrongAt_29 v_word v_marks v_notes v_read_minutes v_read_rooms v_read_doors v_read_things v_read_dreams v_read_sleepers v_read_listeners v_read_names v_read_name v_read_nameSort v_read_nameNumber v_tape)) (As := [.int 3]) (rest := []) C (ctX12_wrong l E h h_tape h_far h_from h_real h_other h_kept h_set h_w h_book h_noteSort h_whose h_what h_noteIs h_fitting h_dawn h_likes h_walked h_came v_thrown v_trouble v_where v_inn (some h_read) v_taped v_size v_at x12_sort v_place v_sign v_number x12_fault x12_wrongAt v_word v_marks v_notes N 3 (v_sort_29, v_fault_29, v_wrongAt_29) hc_29) ml_X12_145 ⟨Nat.le_of_ble_eq_true rfl, Nat.le_of_ble_eq_true rfl⟩ hP hD hS 0 rfl rfl rfl [0] [6, 1, 2, 3, 4, 5] 6 rfl rfl rfl rfl rfl rfl rfl hl.1 rfl (Nat.le_of_ble_eq_true rfl) ⟨Nat.zero_le _, Nat.zero_le _⟩ dX12_readFresh_29 ?_
      clear hP hD hS; intro H locs hP hD hS
      exact hj32 v_sort_29 v_fault_29 v_wrongAt_29 hf _ _ _ (lv_sub hl [0, 1, 2] rfl) hP hD hS
  clear ej12
  refine lv_if_ne (pc := 4) (tgt := 12) hx hb dX12_readFresh_4 (by decide) (fun c_4 => ?_) (fun c_4 => ?_)
  · replace hf := it_f c_4 hf
    exact hj12 v_sort v_fault v_wrongAt hf _ _ _ (lv_sub hl [0, 1, 2] rfl) hP hD hS
  · replace hf := it_t c_4 hf
    refine lv_aload_n (pc := 7) hx hb dX12_readFresh_7 rfl (lv_at hl 0 rfl) ?_
    refine lv_iconst (pc := 8) (v := 1) hx hb dX12_readFresh_8 (by decide) ?_
    obtain ⟨v_sort_9, v_fault_9, v_wrongAt_9, hc_9, hf⟩ := bd3 hf
    refine r_dalVv (pc := 9) (ws' := (wX12_readFresh E h h_read h_tape h_far h_from h_real h_other h_kept h_set h_w h_book h_noteSort h_whose h_what h_noteIs h_fitting h_dawn h_likes h_walked h_came h_read_creak h_read_doorA h_read_doorB h_read_how h_read_lies h_read_isCold h_read_falls h_read_isFull h_read_isTold h_read_act h_read_what h_read_then h_read_met h_read_bed h_read_dream h_read_listens h_read_name h_read_nameSort h_read_nameNumber v_thrown v_trouble v_where v_inn v_taped v_size v_at v_sort_9 v_place v_sign v_number v_fault_9 v_wrongAt_9 v_word v_marks v_notes v_read_minutes v_read_rooms v_read_doors v_read_things v_read_dreams v_read_sleepers v_read_listeners v_read_names v_read_name v_read_nameSort v_read_nameNumber v_tape)) (As := [.int 1]) (rest := []) C (ctX12_wrong l E h h_tape h_far h_from h_real h_other h_kept h_set h_w h_book h_noteSort h_whose h_what h_noteIs h_fitting h_dawn h_likes h_walked h_came v_thrown v_trouble v_where v_inn (some h_read) v_taped v_size v_at v_sort v_place v_sign v_number v_fault v_wrongAt v_word v_marks v_notes N 1 (v_sort_9, v_fault_9, v_wrongAt_9) hc_9) ml_X12_145 ⟨Nat.le_of_ble_eq_true rfl, Nat.le_of_ble_eq_true rfl⟩ hP hD hS 0 rfl rfl rfl [0] [6, 1, 2, 3, 4, 5] 6 rfl rfl rfl rfl rfl rfl rfl hl.1 rfl (Nat.le_of_ble_eq_true rfl) ⟨Nat.zero_le _, Nat.zero_le _⟩ dX12_readFresh_9 ?_
    clear hP hD hS; intro H locs hP hD hS
    exact hj12 v_sort_9 v_fault_9 v_wrongAt_9 hf _ _ _ (lv_sub hl [0, 1, 2] rfl) hP hD hS
def wX12_known (E : EN) (h h_read h_tape h_far h_from h_real h_other h_kept h_set h_w h_book h_noteSort h_whose h_what h_noteIs h_fitting h_dawn h_likes h_walked h_came h_read_creak h_read_doorA h_read_doorB h_read_how h_read_lies h_read_isCold h_read_falls h_read_isFull h_read_isTold h_read_act h_read_what h_read_then h_read_met h_read_bed h_read_dream h_read_listens h_read_name h_read_nameSort h_read_nameNumber : Nat) (v_thrown : Int32) (v_trouble : Int32) (v_where : Int32) (v_inn : Option Nat) (v_taped : Int32) (v_size : Int32) (v_at : Int32) (v_sort : Int32) (v_place : Int32) (v_sign : Int32) (v_number : Int32) (v_fault : Int32) (v_wrongAt : Int32) (v_word : Int64) (v_marks : Int32) (v_notes : Int32) (v_read_minutes : Int32) (v_read_rooms : Int32) (v_read_doors : Int32) (v_read_things : Int32) (v_read_dreams : Int32) (v_read_sleepers : Int32) (v_read_listeners : Int32) (v_read_names : Int32) (v_read_name : Nat → Int64) (v_read_nameNumber : Nat → Int32) (v_read_nameSort : Nat → Int32) : va_W := [(h, .inr (11, [.int v_thrown, .int v_trouble, .int v_where, va_rf v_inn, .ref h_read, .ref h_tape, .int v_taped, .int v_size, .int v_at, .int v_sort, .int v_place, .int v_sign, .int v_number, .int v_fault, .int v_wrongAt, .long v_word, .ref h_far, .ref h_from, .ref h_real, .ref h_other, .ref h_kept, .ref h_set, .ref h_w, .int v_marks, .int v_notes, .ref h_book, .ref h_noteSort, .ref h_whose, .ref h_what, .ref h_noteIs, .ref h_fitting, .ref h_dawn, .ref h_likes, .ref h_walked, .ref h_came])), (h_read, .inr (10, [.int v_read_minutes, .int v_read_rooms, .int v_read_doors, .int v_read_things, .int v_read_dreams, .int v_read_sleepers, .int v_read_listeners, .int v_read_names, .ref h_read_creak, .ref h_read_doorA, .ref h_read_doorB, .ref h_read_how, .ref h_read_lies, .ref h_read_isCold, .ref h_read_falls, .ref h_read_isFull, .ref h_read_isTold, .ref h_read_act, .ref h_read_what, .ref h_read_then, .ref h_read_met, .ref h_read_bed, .ref h_read_dream, .ref h_read_listens, .ref h_read_name, .ref h_read_nameSort, .ref h_read_nameNumber])), (h_read_name, aJ E 19 v_read_name), (h_read_nameNumber, aI E 19 v_read_nameNumber), (h_read_nameSort, aI E 19 v_read_nameSort)]
def fX12_known (N : Nat) (p0 : Int32) (v_sort : Int32) (v_place : Int32) (v_fault : Int32) (v_wrongAt : Int32) (v_word : Int64) (v_read_names : Int32) (v_read_name : Nat → Int64) (v_read_nameNumber : Nat → Int32) (v_read_nameSort : Nat → Int32) : Option (Int32 × Int32 × Int32 × Int32) := (fX12_isName N v_sort v_word).bind (un1 fun (r_1 : Int32) => jn (un3 fun (x12_sort : Int32) (x12_fault : Int32) (x12_wrongAt : Int32) => (fX11_find N v_word v_read_names v_read_name).bind (un1 fun (r_20 : Int32) => jn (un3 fun (x47_sort : Int32) (x47_fault : Int32) (x47_wrongAt : Int32) => if x47_sort = 5 then (some (0, x47_sort, x47_fault, x47_wrongAt)) else (gd r_20 19 (some (v_read_nameNumber r_20.toNatClampNeg, x47_sort, x47_fault, x47_wrongAt)))) (fun j47 => jn (un0 ((fX12_wrong N 2 x12_sort v_place x12_fault x12_wrongAt).bind (un3 fun (v_sort_44 : Int32) (v_fault_44 : Int32) (v_wrongAt_44 : Int32) => j47 (v_sort_44, v_fault_44, v_wrongAt_44)))) (fun j42 => if r_20 = (-1) then (j42 ()) else (gd r_20 19 (if (v_read_nameSort r_20.toNatClampNeg) = p0 then (j47 (x12_sort, x12_fault, x12_wrongAt)) else (j42 ()))))))) (fun j12 => if r_1 = 0 then ((fX12_wrong N 1 v_sort v_place v_fault v_wrongAt).bind (un3 fun (v_sort_9 : Int32) (v_fault_9 : Int32) (v_wrongAt_9 : Int32) => j12 (v_sort_9, v_fault_9, v_wrongAt_9))) else (j12 (v_sort, v_fault, v_wrongAt))))
set_option maxHeartbeats 4000000 in
set_option maxRecDepth 100000 in
theorem ctX12_known (l : Launch) (E : EN) (h h_read h_tape h_far h_from h_real h_other h_kept h_set h_w h_book h_noteSort h_whose h_what h_noteIs h_fitting h_dawn h_likes h_walked h_came h_read_creak h_read_doorA h_read_doorB h_read_how h_read_lies h_read_isCold h_read_falls h_read_isFull h_read_isTold h_read_act h_read_what h_read_then h_read_met h_read_bed h_read_dream h_read_listens h_read_name h_read_nameSort h_read_nameNumber : Nat) (v_thrown : Int32) (v_trouble : Int32) (v_where : Int32) (v_inn : Option Nat) (v_taped : Int32) (v_size : Int32) (v_at : Int32) (v_sort : Int32) (v_place : Int32) (v_sign : Int32) (v_number : Int32) (v_fault : Int32) (v_wrongAt : Int32) (v_word : Int64) (v_marks : Int32) (v_notes : Int32) (v_read_minutes : Int32) (v_read_rooms : Int32) (v_read_doors : Int32) (v_read_things : Int32) (v_read_dreams : Int32) (v_read_sleepers : Int32) (v_read_listeners : Int32) (v_read_names : Int32) (v_read_name : Nat → Int64) (v_read_nameNumber : Nat → Int32) (v_read_nameSort : Nat → Int32) (N : Nat) (p0 : Int32) (z : Int32 × Int32 × Int32 × Int32) (hf : fX12_known N p0 v_sort v_place v_fault v_wrongAt v_word v_read_names v_read_name v_read_nameNumber v_read_nameSort = some z) : CTi l E yX12_known cX12_known 3 .int 7 149 [.ref h, .int p0] (wX12_known E h h_read h_tape h_far h_from h_real h_other h_kept h_set h_w h_book h_noteSort h_whose h_what h_noteIs h_fitting h_dawn h_likes h_walked h_came h_read_creak h_read_doorA h_read_doorB h_read_how h_read_lies h_read_isCold h_read_falls h_read_isFull h_read_isTold h_read_act h_read_what h_read_then h_read_met h_read_bed h_read_dream h_read_listens h_read_name h_read_nameSort h_read_nameNumber v_thrown v_trouble v_where v_inn v_taped v_size v_at v_sort v_place v_sign v_number v_fault v_wrongAt v_word v_marks v_notes v_read_minutes v_read_rooms v_read_doors v_read_things v_read_dreams v_read_sleepers v_read_listeners v_read_names v_read_name v_read_nameNumber v_read_nameSort) (z.1) (wX12_known E h h_read h_tape h_far h_from h_real h_other h_kept h_set h_w h_book h_noteSort h_whose h_what h_noteIs h_fitting h_dawn h_likes h_walked h_came h_read_creak h_read_doorA h_read_doorB h_read_how h_read_lies h_read_isCold h_read_falls h_read_isFull h_read_isTold h_read_act h_read_what h_read_then h_read_met h_read_bed h_read_dream h_read_listens h_read_name h_read_nameSort h_read_nameNumber v_thrown v_trouble v_where v_inn v_taped v_size v_at z.2.1 v_place v_sign v_number z.2.2.1 z.2.2.2 v_word v_marks v_notes v_read_minutes v_read_rooms v_read_doors v_read_things v_read_dreams v_read_sleepers v_read_listeners v_read_names v_read_name v_read_nameNumber v_read_nameSort) := by
  intro sz
  refine ct_body (by decide) (Nat.le_of_ble_eq_true rfl) ?_
  intro p e s m args below meth c A ls hAe C hr hin hP hD hS hl
  have C : CX p s m args meth c cX12_known RX12 3 E A := C
  have hl : lv_has ls 3 [(0, .ref h), (1, .int p0)] := hl
  have hx := C.1
  have hb := C.2.1
  rw [hAe]
  clear hAe
  obtain ⟨Q, hQ⟩ : ∃ Q, Q = MQ below (Qi E A (z.1) (wX12_known E h h_read h_tape h_far h_from h_real h_other h_kept h_set h_w h_book h_noteSort h_whose h_what h_noteIs h_fitting h_dawn h_likes h_walked h_came h_read_creak h_read_doorA h_read_doorB h_read_how h_read_lies h_read_isCold h_read_falls h_read_isFull h_read_isTold h_read_act h_read_what h_read_then h_read_met h_read_bed h_read_dream h_read_listens h_read_name h_read_nameSort h_read_nameNumber v_thrown v_trouble v_where v_inn v_taped v_size v_at z.2.1 v_place v_sign v_number z.2.2.1 z.2.2.2 v_word v_marks v_notes v_read_minutes v_read_rooms v_read_doors v_read_things v_read_dreams v_read_sleepers v_read_listeners v_read_names v_read_name v_read_nameNumber v_read_nameSort)) args s 0 0 A := ⟨_, rfl⟩
  rw [← hQ]
  unfold fX12_known at hf
  refine lv_aload_n (pc := 0) hx hb dX12_known_0 rfl (lv_at hl 0 rfl) ?_
  obtain ⟨r_1, hc_1, hf⟩ := bd1 hf
  refine r_dalVi (pc := 1) (ws' := (wX12_known E h h_read h_tape h_far h_from h_real h_other h_kept h_set h_w h_book h_noteSort h_whose h_what h_noteIs h_fitting h_dawn h_likes h_walked h_came h_read_creak h_read_doorA h_read_doorB h_read_how h_read_lies h_read_isCold h_read_falls h_read_isFull h_read_isTold h_read_act h_read_what h_read_then h_read_met h_read_bed h_read_dream h_read_listens h_read_name h_read_nameSort h_read_nameNumber v_thrown v_trouble v_where v_inn v_taped v_size v_at v_sort v_place v_sign v_number v_fault v_wrongAt v_word v_marks v_notes v_read_minutes v_read_rooms v_read_doors v_read_things v_read_dreams v_read_sleepers v_read_listeners v_read_names v_read_name v_read_nameNumber v_read_nameSort)) (As := []) (rest := []) C (ctX12_isName l E h h_tape h_far h_from h_real h_other h_kept h_set h_w h_book h_noteSort h_whose h_what h_noteIs h_fitting h_dawn h_likes h_walked h_came v_thrown v_trouble v_where v_inn (some h_read) v_taped v_size v_at v_sort v_place v_sign v_number v_fault v_wrongAt v_word v_marks v_notes N r_1 hc_1) ml_X12_220 ⟨Nat.le_of_ble_eq_true rfl, Nat.le_of_ble_eq_true rfl⟩ hP hD hS 0 rfl rfl rfl [0] [5, 1, 2, 3, 4] 5 rfl rfl rfl rfl rfl rfl rfl hl.1 rfl (Nat.le_of_ble_eq_true rfl) ⟨Nat.zero_le _, Nat.zero_le _⟩ dX12_known_1 ?_
  clear hP hD hS; intro H locs hP hD hS
  refine jnK hf (fun j12 ej12 hf => ?_)
  have hj12 : ∀ (x12_sort : Int32) (x12_fault : Int32) (x12_wrongAt : Int32) , j12 (x12_sort, x12_fault, x12_wrongAt) = some z → AT p l e (rmOf 7 149) s m args below meth c E A Q 0 0 3 [(0, .ref h), (1, .int p0)] (wX12_known E h h_read h_tape h_far h_from h_real h_other h_kept h_set h_w h_book h_noteSort h_whose h_what h_noteIs h_fitting h_dawn h_likes h_walked h_came h_read_creak h_read_doorA h_read_doorB h_read_how h_read_lies h_read_isCold h_read_falls h_read_isFull h_read_isTold h_read_act h_read_what h_read_then h_read_met h_read_bed h_read_dream h_read_listens h_read_name h_read_nameSort h_read_nameNumber v_thrown v_trouble v_where v_inn v_taped v_size v_at x12_sort v_place v_sign v_number x12_fault x12_wrongAt v_word v_marks v_notes v_read_minutes v_read_rooms v_read_doors v_read_things v_read_dreams v_read_sleepers v_read_listeners v_read_names v_read_name v_read_nameNumber v_read_nameSort) 12 [] := by
    intro x12_sort x12_fault x12_wrongAt hf H locs ls hl hP hD hS
    rw [ej12] at hf
    replace hf := un3_s hf
    refine lv_aload_n (pc := 12) hx hb dX12_known_12 rfl (lv_at hl 0 rfl) ?_
    refine r_get (pc := 13) C hP 0 rfl fl_X12_202 rfl dX12_known_13 ?_
    refine lv_aload_n (pc := 16) hx hb dX12_known_16 rfl (lv_at hl 0 rfl) ?_
    refine r_get (pc := 17) C hP 0 rfl fl_X12_118 rfl dX12_known_17 ?_
    obtain ⟨r_20, hc_20, hf⟩ := bd1 hf
    refine r_dalVi (pc := 20) (ws' := (wX12_known E h h_read h_tape h_far h_from h_real h_other h_kept h_set h_w h_book h_noteSort h_whose h_what h_noteIs h_fitting h_dawn h_likes h_walked h_came h_read_creak h_read_doorA h_read_doorB h_read_how h_read_lies h_read_isCold h_read_falls h_read_isFull h_read_isTold h_read_act h_read_what h_read_then h_read_met h_read_bed h_read_dream h_read_listens h_read_name h_read_nameSort h_read_nameNumber v_thrown v_trouble v_where v_inn v_taped v_size v_at x12_sort v_place v_sign v_number x12_fault x12_wrongAt v_word v_marks v_notes v_read_minutes v_read_rooms v_read_doors v_read_things v_read_dreams v_read_sleepers v_read_listeners v_read_names v_read_name v_read_nameNumber v_read_nameSort)) (As := [.long v_word]) (rest := []) C (ctX11_find l E h_read h_read_creak h_read_doorA h_read_doorB h_read_how h_read_lies h_read_isCold h_read_falls h_read_isFull h_read_isTold h_read_act h_read_what h_read_then h_read_met h_read_bed h_read_dream h_read_listens h_read_name h_read_nameSort h_read_nameNumber v_read_minutes v_read_rooms v_read_doors v_read_things v_read_dreams v_read_sleepers v_read_listeners v_read_names v_read_name N v_word r_20 hc_20) ml_X12_224 ⟨Nat.le_of_ble_eq_true rfl, Nat.le_of_ble_eq_true rfl⟩ hP hD hS 1 rfl rfl rfl [1, 2] [0, 5, 6, 3, 4] 5 rfl rfl rfl rfl rfl rfl rfl hl.1 rfl (Nat.le_of_ble_eq_true rfl) ⟨Nat.zero_le _, Nat.zero_le _⟩ dX12_known_20 ?_
    clear hP hD hS; intro H locs hP hD hS
    refine lv_istore_n (pc := 23) (lv' := [(2, .int r_20), (0, .ref h), (1, .int p0)]) hx hb dX12_known_23 rfl hl (by decide) rfl (fun ls hl => ?_)
    refine lv_iload_n (pc := 24) hx hb dX12_known_24 rfl (lv_at hl 0 rfl) ?_
    refine lv_iconst (pc := 25) (v := (-1)) hx hb dX12_known_25 (by decide) ?_
    refine jnK hf (fun j47 ej47 hf => ?_)
    have hj47 : ∀ (x47_sort : Int32) (x47_fault : Int32) (x47_wrongAt : Int32) , j47 (x47_sort, x47_fault, x47_wrongAt) = some z → AT p l e (rmOf 7 149) s m args below meth c E A Q 0 0 3 [(0, .ref h), (2, .int r_20)] (wX12_known E h h_read h_tape h_far h_from h_real h_other h_kept h_set h_w h_book h_noteSort h_whose h_what h_noteIs h_fitting h_dawn h_likes h_walked h_came h_read_creak h_read_doorA h_read_doorB h_read_how h_read_lies h_read_isCold h_read_falls h_read_isFull h_read_isTold h_read_act h_read_what h_read_then h_read_met h_read_bed h_read_dream h_read_listens h_read_name h_read_nameSort h_read_nameNumber v_thrown v_trouble v_where v_inn v_taped v_size v_at x47_sort v_place v_sign v_number x47_fault x47_wrongAt v_word v_marks v_notes v_read_minutes v_read_rooms v_read_doors v_read_things v_read_dreams v_read_sleepers v_read_listeners v_read_names v_read_name v_read_nameNumber v_read_nameSort) 47 [] := by
      intro x47_sort x47_fault x47_wrongAt hf H locs ls hl hP hD hS
      rw [ej47] at hf
      replace hf := un3_s hf
      refine lv_aload_n (pc := 47) hx hb dX12_known_47 rfl (lv_at hl 0 rfl) ?_
      refine r_get (pc := 48) C hP 0 rfl fl_X12_99 rfl dX12_known_48 ?_
      refine lv_iconst (pc := 51) (v := 5) hx hb dX12_known_51 (by decide) ?_
      refine lv_icmp_ne (pc := 52) (tgt := 59) hx hb dX12_known_52 (by decide) (fun c_52 => ?_) (fun c_52 => ?_)
      · replace hf := it_f c_52 hf
        refine lv_aload_n (pc := 59) hx hb dX12_known_59 rfl (lv_at hl 0 rfl) ?_
        refine r_get (pc := 60) C hP 0 rfl fl_X12_202 rfl dX12_known_60 ?_
        refine r_get (pc := 63) C hP 1 rfl fl_X12_217 rfl dX12_known_63 ?_
        refine lv_iload_n (pc := 66) hx hb dX12_known_66 rfl (lv_at hl 1 rfl) ?_
        obtain ⟨hi_67, hf⟩ := gd_s hf
        refine r_iald (pc := 67) C hP 3 rfl hi_67 dX12_known_67 ?_
        cases hf
        rw [hQ]
        exact r_iret C hr hP hD hS rfl dX12_known_68
      · replace hf := it_t c_52 hf
        refine lv_iconst (pc := 55) (v := 0) hx hb dX12_known_55 (by decide) ?_
        refine lv_goto (pc := 56) (tgt := 68) hx hb dX12_known_56 (by decide) ?_
        cases hf
        rw [hQ]
        exact r_iret C hr hP hD hS rfl dX12_known_68
    clear ej47
    refine jnK hf (fun j42 ej42 hf => ?_)
    have hj42 : j42 () = some z → AT p l e (rmOf 7 149) s m args below meth c E A Q 0 0 3 [(0, .ref h), (2, .int r_20)] (wX12_known E h h_read h_tape h_far h_from h_real h_other h_kept h_set h_w h_book h_noteSort h_whose h_what h_noteIs h_fitting h_dawn h_likes h_walked h_came h_read_creak h_read_doorA h_read_doorB h_read_how h_read_lies h_read_isCold h_read_falls h_read_isFull h_read_isTold h_read_act h_read_what h_read_then h_read_met h_read_bed h_read_dream h_read_listens h_read_name h_read_nameSort h_read_nameNumber v_thrown v_trouble v_where v_inn v_taped v_size v_at x12_sort v_place v_sign v_number x12_fault x12_wrongAt v_word v_marks v_notes v_read_minutes v_read_rooms v_read_doors v_read_things v_read_dreams v_read_sleepers v_read_listeners v_read_names v_read_name v_read_nameNumber v_read_nameSort) 42 [] := by
      intro  hf H locs ls hl hP hD hS
      rw [ej42] at hf
      replace hf := un0_s hf
      refine lv_aload_n (pc := 42) hx hb dX12_known_42 rfl (lv_at hl 0 rfl) ?_
      refine lv_iconst (pc := 43) (v := 2) hx hb dX12_known_43 (by decide) ?_
      obtain ⟨v_sort_44, v_fault_44, v_wrongAt_44, hc_44, hf⟩ := bd3 hf
      refine r_dalVv (pc := 44) (ws' := (wX12_known E h h_read h_tape h_far h_from h_real h_other h_kept h_set h_w h_book h_noteSort h_whose h_what h_noteIs h_fitting h_dawn h_likes h_walked h_came h_read_creak h_read_doorA h_read_doorB h_read_how h_read_lies h_read_isCold h_read_falls h_read_isFull h_read_isTold h_read_act h_read_what h_read_then h_read_met h_read_bed h_read_dream h_read_listens h_read_name h_read_nameSort h_read_nameNumber v_thrown v_trouble v_where v_inn v_taped v_size v_at v_sort_44 v_place v_sign v_number v_fault_44 v_wrongAt_44 v_word v_marks v_notes v_read_minutes v_read_rooms v_read_doors v_read_things v_read_dreams v_read_sleepers v_read_listeners v_read_names v_read_name v_read_nameNumber v_read_nameSort)) (As := [.int 2]) (rest := []) C (ctX12_wrong l E h h_tape h_far h_from h_real h_other h_kept h_set h_w h_book h_noteSort h_whose h_what h_noteIs h_fitting h_dawn h_likes h_walked h_came v_thrown v_trouble v_where v_inn (some h_read) v_taped v_size v_at x12_sort v_place v_sign v_number x12_fault x12_wrongAt v_word v_marks v_notes N 2 (v_sort_44, v_fault_44, v_wrongAt_44) hc_44) ml_X12_145 ⟨Nat.le_of_ble_eq_true rfl, Nat.le_of_ble_eq_true rfl⟩ hP hD hS 0 rfl rfl rfl [0] [5, 1, 2, 3, 4] 5 rfl rfl rfl rfl rfl rfl rfl hl.1 rfl (Nat.le_of_ble_eq_true rfl) ⟨Nat.zero_le _, Nat.zero_le _⟩ dX12_known_44 ?_
      clear hP hD hS; intro H locs hP hD hS
      exact hj47 v_sort_44 v_fault_44 v_wrongAt_44 hf _ _ _ (lv_sub hl [0, 1] rfl) hP hD hS
    clear ej42
    refine lv_icmp_eq (pc := 26) (tgt := 42) hx hb dX12_known_26 (by decide) (fun c_26 => ?_) (fun c_26 => ?_)
    · replace hf := it_t c_26 hf
      exact hj42  hf _ _ _ (lv_sub hl [1, 0] rfl) hP hD hS
    · replace hf := it_f c_26 hf
      refine lv_aload_n (pc := 29) hx hb dX12_known_29 rfl (lv_at hl 1 rfl) ?_
      refine r_get (pc := 30) C hP 0 rfl fl_X12_202 rfl dX12_known_30 ?_
      refine r_get (pc := 33) C hP 1 rfl fl_X12_214 rfl dX12_known_33 ?_
      refine lv_iload_n (pc := 36) hx hb dX12_known_36 rfl (lv_at hl 0 rfl) ?_
      obtain ⟨hi_37, hf⟩ := gd_s hf
      refine r_iald (pc := 37) C hP 4 rfl hi_37 dX12_known_37 ?_
      refine lv_iload_n (pc := 38) hx hb dX12_known_38 rfl (lv_at hl 2 rfl) ?_
      refine lv_icmp_eq (pc := 39) (tgt := 47) hx hb dX12_known_39 (by decide) (fun c_39 => ?_) (fun c_39 => ?_)
      · replace hf := it_t c_39 hf
        exact hj47 x12_sort x12_fault x12_wrongAt hf _ _ _ (lv_sub hl [1, 0] rfl) hP hD hS
      · replace hf := it_f c_39 hf
        exact hj42  hf _ _ _ (lv_sub hl [1, 0] rfl) hP hD hS
  clear ej12
  refine lv_if_ne (pc := 4) (tgt := 12) hx hb dX12_known_4 (by decide) (fun c_4 => ?_) (fun c_4 => ?_)
  · replace hf := it_f c_4 hf
    exact hj12 v_sort v_fault v_wrongAt hf _ _ _ (lv_sub hl [0, 1] rfl) hP hD hS
  · replace hf := it_t c_4 hf
    refine lv_aload_n (pc := 7) hx hb dX12_known_7 rfl (lv_at hl 0 rfl) ?_
    refine lv_iconst (pc := 8) (v := 1) hx hb dX12_known_8 (by decide) ?_
    obtain ⟨v_sort_9, v_fault_9, v_wrongAt_9, hc_9, hf⟩ := bd3 hf
    refine r_dalVv (pc := 9) (ws' := (wX12_known E h h_read h_tape h_far h_from h_real h_other h_kept h_set h_w h_book h_noteSort h_whose h_what h_noteIs h_fitting h_dawn h_likes h_walked h_came h_read_creak h_read_doorA h_read_doorB h_read_how h_read_lies h_read_isCold h_read_falls h_read_isFull h_read_isTold h_read_act h_read_what h_read_then h_read_met h_read_bed h_read_dream h_read_listens h_read_name h_read_nameSort h_read_nameNumber v_thrown v_trouble v_where v_inn v_taped v_size v_at v_sort_9 v_place v_sign v_number v_fault_9 v_wrongAt_9 v_word v_marks v_notes v_read_minutes v_read_rooms v_read_doors v_read_things v_read_dreams v_read_sleepers v_read_listeners v_read_names v_read_name v_read_nameNumber v_read_nameSort)) (As := [.int 1]) (rest := []) C (ctX12_wrong l E h h_tape h_far h_from h_real h_other h_kept h_set h_w h_book h_noteSort h_whose h_what h_noteIs h_fitting h_dawn h_likes h_walked h_came v_thrown v_trouble v_where v_inn (some h_read) v_taped v_size v_at v_sort v_place v_sign v_number v_fault v_wrongAt v_word v_marks v_notes N 1 (v_sort_9, v_fault_9, v_wrongAt_9) hc_9) ml_X12_145 ⟨Nat.le_of_ble_eq_true rfl, Nat.le_of_ble_eq_true rfl⟩ hP hD hS 0 rfl rfl rfl [0] [5, 1, 2, 3, 4] 5 rfl rfl rfl rfl rfl rfl rfl hl.1 rfl (Nat.le_of_ble_eq_true rfl) ⟨Nat.zero_le _, Nat.zero_le _⟩ dX12_known_9 ?_
    clear hP hD hS; intro H locs hP hD hS
    exact hj12 v_sort_9 v_fault_9 v_wrongAt_9 hf _ _ _ (lv_sub hl [0, 1] rfl) hP hD hS
def wX12_readKnown (E : EN) (h h_read h_tape h_far h_from h_real h_other h_kept h_set h_w h_book h_noteSort h_whose h_what h_noteIs h_fitting h_dawn h_likes h_walked h_came h_read_creak h_read_doorA h_read_doorB h_read_how h_read_lies h_read_isCold h_read_falls h_read_isFull h_read_isTold h_read_act h_read_what h_read_then h_read_met h_read_bed h_read_dream h_read_listens h_read_name h_read_nameSort h_read_nameNumber : Nat) (v_thrown : Int32) (v_trouble : Int32) (v_where : Int32) (v_inn : Option Nat) (v_taped : Int32) (v_size : Int32) (v_at : Int32) (v_sort : Int32) (v_place : Int32) (v_sign : Int32) (v_number : Int32) (v_fault : Int32) (v_wrongAt : Int32) (v_word : Int64) (v_marks : Int32) (v_notes : Int32) (v_read_minutes : Int32) (v_read_rooms : Int32) (v_read_doors : Int32) (v_read_things : Int32) (v_read_dreams : Int32) (v_read_sleepers : Int32) (v_read_listeners : Int32) (v_read_names : Int32) (v_read_name : Nat → Int64) (v_read_nameNumber : Nat → Int32) (v_read_nameSort : Nat → Int32) (v_tape : Nat → Int32) : va_W := [(h, .inr (11, [.int v_thrown, .int v_trouble, .int v_where, va_rf v_inn, .ref h_read, .ref h_tape, .int v_taped, .int v_size, .int v_at, .int v_sort, .int v_place, .int v_sign, .int v_number, .int v_fault, .int v_wrongAt, .long v_word, .ref h_far, .ref h_from, .ref h_real, .ref h_other, .ref h_kept, .ref h_set, .ref h_w, .int v_marks, .int v_notes, .ref h_book, .ref h_noteSort, .ref h_whose, .ref h_what, .ref h_noteIs, .ref h_fitting, .ref h_dawn, .ref h_likes, .ref h_walked, .ref h_came])), (h_read, .inr (10, [.int v_read_minutes, .int v_read_rooms, .int v_read_doors, .int v_read_things, .int v_read_dreams, .int v_read_sleepers, .int v_read_listeners, .int v_read_names, .ref h_read_creak, .ref h_read_doorA, .ref h_read_doorB, .ref h_read_how, .ref h_read_lies, .ref h_read_isCold, .ref h_read_falls, .ref h_read_isFull, .ref h_read_isTold, .ref h_read_act, .ref h_read_what, .ref h_read_then, .ref h_read_met, .ref h_read_bed, .ref h_read_dream, .ref h_read_listens, .ref h_read_name, .ref h_read_nameSort, .ref h_read_nameNumber])), (h_read_name, aJ E 19 v_read_name), (h_read_nameNumber, aI E 19 v_read_nameNumber), (h_read_nameSort, aI E 19 v_read_nameSort), (h_tape, aB E 900 v_tape)]
def fX12_readKnown (N : Nat) (p0 : Int32) (v_size : Int32) (v_at : Int32) (v_sort : Int32) (v_place : Int32) (v_sign : Int32) (v_number : Int32) (v_fault : Int32) (v_wrongAt : Int32) (v_word : Int64) (v_read_names : Int32) (v_read_name : Nat → Int64) (v_read_nameNumber : Nat → Int32) (v_read_nameSort : Nat → Int32) (v_tape : Nat → Int32) : Option (Int32 × Int32 × Int32 × Int32 × Int32 × Int32 × Int32 × Int32 × Int64) := (fX12_known N p0 v_sort v_place v_fault v_wrongAt v_word v_read_names v_read_name v_read_nameNumber v_read_nameSort).bind (un4 fun (r_2 : Int32) (v_sort_2 : Int32) (v_fault_2 : Int32) (v_wrongAt_2 : Int32) => (fX12_goesOn N v_size v_at v_sort_2 v_place v_sign v_number v_word v_tape).bind (un6 fun (v_at_7 : Int32) (v_sort_7 : Int32) (v_place_7 : Int32) (v_sign_7 : Int32) (v_number_7 : Int32) (v_word_7 : Int64) => some (r_2, v_at_7, v_sort_7, v_place_7, v_sign_7, v_number_7, v_fault_2, v_wrongAt_2, v_word_7)))
set_option maxHeartbeats 4000000 in
set_option maxRecDepth 100000 in
theorem ctX12_readKnown (l : Launch) (E : EN) (h h_read h_tape h_far h_from h_real h_other h_kept h_set h_w h_book h_noteSort h_whose h_what h_noteIs h_fitting h_dawn h_likes h_walked h_came h_read_creak h_read_doorA h_read_doorB h_read_how h_read_lies h_read_isCold h_read_falls h_read_isFull h_read_isTold h_read_act h_read_what h_read_then h_read_met h_read_bed h_read_dream h_read_listens h_read_name h_read_nameSort h_read_nameNumber : Nat) (v_thrown : Int32) (v_trouble : Int32) (v_where : Int32) (v_inn : Option Nat) (v_taped : Int32) (v_size : Int32) (v_at : Int32) (v_sort : Int32) (v_place : Int32) (v_sign : Int32) (v_number : Int32) (v_fault : Int32) (v_wrongAt : Int32) (v_word : Int64) (v_marks : Int32) (v_notes : Int32) (v_read_minutes : Int32) (v_read_rooms : Int32) (v_read_doors : Int32) (v_read_things : Int32) (v_read_dreams : Int32) (v_read_sleepers : Int32) (v_read_listeners : Int32) (v_read_names : Int32) (v_read_name : Nat → Int64) (v_read_nameNumber : Nat → Int32) (v_read_nameSort : Nat → Int32) (v_tape : Nat → Int32) (N : Nat) (p0 : Int32) (z : Int32 × Int32 × Int32 × Int32 × Int32 × Int32 × Int32 × Int32 × Int64) (hf : fX12_readKnown N p0 v_size v_at v_sort v_place v_sign v_number v_fault v_wrongAt v_word v_read_names v_read_name v_read_nameNumber v_read_nameSort v_tape = some z) : CTi l E yX12_readKnown cX12_readKnown 3 .int 8 171 [.ref h, .int p0] (wX12_readKnown E h h_read h_tape h_far h_from h_real h_other h_kept h_set h_w h_book h_noteSort h_whose h_what h_noteIs h_fitting h_dawn h_likes h_walked h_came h_read_creak h_read_doorA h_read_doorB h_read_how h_read_lies h_read_isCold h_read_falls h_read_isFull h_read_isTold h_read_act h_read_what h_read_then h_read_met h_read_bed h_read_dream h_read_listens h_read_name h_read_nameSort h_read_nameNumber v_thrown v_trouble v_where v_inn v_taped v_size v_at v_sort v_place v_sign v_number v_fault v_wrongAt v_word v_marks v_notes v_read_minutes v_read_rooms v_read_doors v_read_things v_read_dreams v_read_sleepers v_read_listeners v_read_names v_read_name v_read_nameNumber v_read_nameSort v_tape) (z.1) (wX12_readKnown E h h_read h_tape h_far h_from h_real h_other h_kept h_set h_w h_book h_noteSort h_whose h_what h_noteIs h_fitting h_dawn h_likes h_walked h_came h_read_creak h_read_doorA h_read_doorB h_read_how h_read_lies h_read_isCold h_read_falls h_read_isFull h_read_isTold h_read_act h_read_what h_read_then h_read_met h_read_bed h_read_dream h_read_listens h_read_name h_read_nameSort h_read_nameNumber v_thrown v_trouble v_where v_inn v_taped v_size z.2.1 z.2.2.1 z.2.2.2.1 z.2.2.2.2.1 z.2.2.2.2.2.1 z.2.2.2.2.2.2.1 z.2.2.2.2.2.2.2.1 z.2.2.2.2.2.2.2.2 v_marks v_notes v_read_minutes v_read_rooms v_read_doors v_read_things v_read_dreams v_read_sleepers v_read_listeners v_read_names v_read_name v_read_nameNumber v_read_nameSort v_tape) := by
  intro sz
  refine ct_body (by decide) (Nat.le_of_ble_eq_true rfl) ?_
  intro p e s m args below meth c A ls hAe C hr hin hP hD hS hl
  have C : CX p s m args meth c cX12_readKnown RX12 3 E A := C
  have hl : lv_has ls 3 [(0, .ref h), (1, .int p0)] := hl
  have hx := C.1
  have hb := C.2.1
  rw [hAe]
  clear hAe
  obtain ⟨Q, hQ⟩ : ∃ Q, Q = MQ below (Qi E A (z.1) (wX12_readKnown E h h_read h_tape h_far h_from h_real h_other h_kept h_set h_w h_book h_noteSort h_whose h_what h_noteIs h_fitting h_dawn h_likes h_walked h_came h_read_creak h_read_doorA h_read_doorB h_read_how h_read_lies h_read_isCold h_read_falls h_read_isFull h_read_isTold h_read_act h_read_what h_read_then h_read_met h_read_bed h_read_dream h_read_listens h_read_name h_read_nameSort h_read_nameNumber v_thrown v_trouble v_where v_inn v_taped v_size z.2.1 z.2.2.1 z.2.2.2.1 z.2.2.2.2.1 z.2.2.2.2.2.1 z.2.2.2.2.2.2.1 z.2.2.2.2.2.2.2.1 z.2.2.2.2.2.2.2.2 v_marks v_notes v_read_minutes v_read_rooms v_read_doors v_read_things v_read_dreams v_read_sleepers v_read_listeners v_read_names v_read_name v_read_nameNumber v_read_nameSort v_tape)) args s 0 0 A := ⟨_, rfl⟩
  rw [← hQ]
  unfold fX12_readKnown at hf
  refine lv_aload_n (pc := 0) hx hb dX12_readKnown_0 rfl (lv_at hl 0 rfl) ?_
  refine lv_iload_n (pc := 1) hx hb dX12_readKnown_1 rfl (lv_at hl 1 rfl) ?_
  obtain ⟨r_2, v_sort_2, v_fault_2, v_wrongAt_2, hc_2, hf⟩ := bd4 hf
  refine r_dalVi (pc := 2) (ws' := (wX12_readKnown E h h_read h_tape h_far h_from h_real h_other h_kept h_set h_w h_book h_noteSort h_whose h_what h_noteIs h_fitting h_dawn h_likes h_walked h_came h_read_creak h_read_doorA h_read_doorB h_read_how h_read_lies h_read_isCold h_read_falls h_read_isFull h_read_isTold h_read_act h_read_what h_read_then h_read_met h_read_bed h_read_dream h_read_listens h_read_name h_read_nameSort h_read_nameNumber v_thrown v_trouble v_where v_inn v_taped v_size v_at v_sort_2 v_place v_sign v_number v_fault_2 v_wrongAt_2 v_word v_marks v_notes v_read_minutes v_read_rooms v_read_doors v_read_things v_read_dreams v_read_sleepers v_read_listeners v_read_names v_read_name v_read_nameNumber v_read_nameSort v_tape)) (As := [.int p0]) (rest := []) C (ctX12_known l E h h_read h_tape h_far h_from h_real h_other h_kept h_set h_w h_book h_noteSort h_whose h_what h_noteIs h_fitting h_dawn h_likes h_walked h_came h_read_creak h_read_doorA h_read_doorB h_read_how h_read_lies h_read_isCold h_read_falls h_read_isFull h_read_isTold h_read_act h_read_what h_read_then h_read_met h_read_bed h_read_dream h_read_listens h_read_name h_read_nameSort h_read_nameNumber v_thrown v_trouble v_where v_inn v_taped v_size v_at v_sort v_place v_sign v_number v_fault v_wrongAt v_word v_marks v_notes v_read_minutes v_read_rooms v_read_doors v_read_things v_read_dreams v_read_sleepers v_read_listeners v_read_names v_read_name v_read_nameNumber v_read_nameSort N p0 (r_2, v_sort_2, v_fault_2, v_wrongAt_2) hc_2) ml_X12_232 ⟨Nat.le_of_ble_eq_true rfl, Nat.le_of_ble_eq_true rfl⟩ hP hD hS 0 rfl rfl rfl [0, 1, 2, 3, 4] [6, 7, 8, 9, 10, 5] 6 rfl rfl rfl rfl rfl rfl rfl hl.1 rfl (Nat.le_of_ble_eq_true rfl) ⟨Nat.zero_le _, Nat.zero_le _⟩ dX12_readKnown_2 ?_
  clear hP hD hS; intro H locs hP hD hS
  refine lv_istore_n (pc := 5) (lv' := [(2, .int r_2), (0, .ref h), (1, .int p0)]) hx hb dX12_readKnown_5 rfl hl (by decide) rfl (fun ls hl => ?_)
  refine lv_aload_n (pc := 6) hx hb dX12_readKnown_6 rfl (lv_at hl 1 rfl) ?_
  obtain ⟨v_at_7, v_sort_7, v_place_7, v_sign_7, v_number_7, v_word_7, hc_7, hf⟩ := bd6 hf
  refine r_dalVv (pc := 7) (ws' := (wX12_readKnown E h h_read h_tape h_far h_from h_real h_other h_kept h_set h_w h_book h_noteSort h_whose h_what h_noteIs h_fitting h_dawn h_likes h_walked h_came h_read_creak h_read_doorA h_read_doorB h_read_how h_read_lies h_read_isCold h_read_falls h_read_isFull h_read_isTold h_read_act h_read_what h_read_then h_read_met h_read_bed h_read_dream h_read_listens h_read_name h_read_nameSort h_read_nameNumber v_thrown v_trouble v_where v_inn v_taped v_size v_at_7 v_sort_7 v_place_7 v_sign_7 v_number_7 v_fault_2 v_wrongAt_2 v_word_7 v_marks v_notes v_read_minutes v_read_rooms v_read_doors v_read_things v_read_dreams v_read_sleepers v_read_listeners v_read_names v_read_name v_read_nameNumber v_read_nameSort v_tape)) (As := []) (rest := []) C (ctX12_goesOn l E h h_tape h_far h_from h_real h_other h_kept h_set h_w h_book h_noteSort h_whose h_what h_noteIs h_fitting h_dawn h_likes h_walked h_came v_thrown v_trouble v_where v_inn (some h_read) v_taped v_size v_at v_sort_2 v_place v_sign v_number v_fault_2 v_wrongAt_2 v_word v_marks v_notes v_tape N (v_at_7, v_sort_7, v_place_7, v_sign_7, v_number_7, v_word_7) hc_7) ml_X12_142 ⟨Nat.le_of_ble_eq_true rfl, Nat.le_of_ble_eq_true rfl⟩ hP hD hS 0 rfl rfl rfl [0, 5] [6, 1, 2, 3, 4, 7] 6 rfl rfl rfl rfl rfl rfl rfl hl.1 rfl (Nat.le_of_ble_eq_true rfl) ⟨Nat.zero_le _, Nat.zero_le _⟩ dX12_readKnown_7 ?_
  clear hP hD hS; intro H locs hP hD hS
  refine lv_iload_n (pc := 10) hx hb dX12_readKnown_10 rfl (lv_at hl 0 rfl) ?_
  cases hf
  rw [hQ]
  exact r_iret C hr hP hD hS rfl dX12_readKnown_11
def wX12_readHouse (E : EN) (h h_read h_tape h_far h_from h_real h_other h_kept h_set h_w h_book h_noteSort h_whose h_what h_noteIs h_fitting h_dawn h_likes h_walked h_came h_read_creak h_read_doorA h_read_doorB h_read_how h_read_lies h_read_isCold h_read_falls h_read_isFull h_read_isTold h_read_act h_read_what h_read_then h_read_met h_read_bed h_read_dream h_read_listens h_read_name h_read_nameSort h_read_nameNumber : Nat) (v_thrown : Int32) (v_trouble : Int32) (v_where : Int32) (v_inn : Option Nat) (v_taped : Int32) (v_size : Int32) (v_at : Int32) (v_sort : Int32) (v_place : Int32) (v_sign : Int32) (v_number : Int32) (v_fault : Int32) (v_wrongAt : Int32) (v_word : Int64) (v_marks : Int32) (v_notes : Int32) (v_read_minutes : Int32) (v_read_rooms : Int32) (v_read_doors : Int32) (v_read_things : Int32) (v_read_dreams : Int32) (v_read_sleepers : Int32) (v_read_listeners : Int32) (v_read_names : Int32) (v_tape : Nat → Int32) : va_W := [(h, .inr (11, [.int v_thrown, .int v_trouble, .int v_where, va_rf v_inn, .ref h_read, .ref h_tape, .int v_taped, .int v_size, .int v_at, .int v_sort, .int v_place, .int v_sign, .int v_number, .int v_fault, .int v_wrongAt, .long v_word, .ref h_far, .ref h_from, .ref h_real, .ref h_other, .ref h_kept, .ref h_set, .ref h_w, .int v_marks, .int v_notes, .ref h_book, .ref h_noteSort, .ref h_whose, .ref h_what, .ref h_noteIs, .ref h_fitting, .ref h_dawn, .ref h_likes, .ref h_walked, .ref h_came])), (h_read, .inr (10, [.int v_read_minutes, .int v_read_rooms, .int v_read_doors, .int v_read_things, .int v_read_dreams, .int v_read_sleepers, .int v_read_listeners, .int v_read_names, .ref h_read_creak, .ref h_read_doorA, .ref h_read_doorB, .ref h_read_how, .ref h_read_lies, .ref h_read_isCold, .ref h_read_falls, .ref h_read_isFull, .ref h_read_isTold, .ref h_read_act, .ref h_read_what, .ref h_read_then, .ref h_read_met, .ref h_read_bed, .ref h_read_dream, .ref h_read_listens, .ref h_read_name, .ref h_read_nameSort, .ref h_read_nameNumber])), (h_tape, aB E 900 v_tape)]
def fX12_readHouse (N : Nat) (v_size : Int32) (v_at : Int32) (v_sort : Int32) (v_place : Int32) (v_sign : Int32) (v_number : Int32) (v_fault : Int32) (v_wrongAt : Int32) (v_word : Int64) (v_read_minutes : Int32) (v_tape : Nat → Int32) : Option (Int32 × Int32 × Int32 × Int32 × Int32 × Int32 × Int32 × Int64 × Int32) := jn (un3 fun (x15_sort : Int32) (x15_fault : Int32) (x15_wrongAt : Int32) => (fX12_goesOn N v_size v_at x15_sort v_place v_sign v_number v_word v_tape).bind (un6 fun (v_at_16 : Int32) (v_sort_16 : Int32) (v_place_16 : Int32) (v_sign_16 : Int32) (v_number_16 : Int32) (v_word_16 : Int64) => (fX12_readPart N 19 1 40 v_size v_at_16 v_sort_16 v_place_16 v_sign_16 v_number_16 x15_fault x15_wrongAt v_word_16 v_tape).bind (un9 fun (r_26 : Int32) (v_at_26 : Int32) (v_sort_26 : Int32) (v_place_26 : Int32) (v_sign_26 : Int32) (v_number_26 : Int32) (v_fault_26 : Int32) (v_wrongAt_26 : Int32) (v_word_26 : Int64) => if v_sort_26 = 5 then (some (v_at_26, v_sort_26, v_place_26, v_sign_26, v_number_26, v_fault_26, v_wrongAt_26, v_word_26, v_read_minutes)) else (some (v_at_26, v_sort_26, v_place_26, v_sign_26, v_number_26, v_fault_26, v_wrongAt_26, v_word_26, r_26))))) (fun j15 => if v_read_minutes ≤ 0 then (j15 (v_sort, v_fault, v_wrongAt)) else ((fX12_wrong N 3 v_sort v_place v_fault v_wrongAt).bind (un3 fun (v_sort_12 : Int32) (v_fault_12 : Int32) (v_wrongAt_12 : Int32) => j15 (v_sort_12, v_fault_12, v_wrongAt_12))))
set_option maxHeartbeats 4000000 in
set_option maxRecDepth 100000 in
theorem ctX12_readHouse (l : Launch) (E : EN) (h h_read h_tape h_far h_from h_real h_other h_kept h_set h_w h_book h_noteSort h_whose h_what h_noteIs h_fitting h_dawn h_likes h_walked h_came h_read_creak h_read_doorA h_read_doorB h_read_how h_read_lies h_read_isCold h_read_falls h_read_isFull h_read_isTold h_read_act h_read_what h_read_then h_read_met h_read_bed h_read_dream h_read_listens h_read_name h_read_nameSort h_read_nameNumber : Nat) (v_thrown : Int32) (v_trouble : Int32) (v_where : Int32) (v_inn : Option Nat) (v_taped : Int32) (v_size : Int32) (v_at : Int32) (v_sort : Int32) (v_place : Int32) (v_sign : Int32) (v_number : Int32) (v_fault : Int32) (v_wrongAt : Int32) (v_word : Int64) (v_marks : Int32) (v_notes : Int32) (v_read_minutes : Int32) (v_read_rooms : Int32) (v_read_doors : Int32) (v_read_things : Int32) (v_read_dreams : Int32) (v_read_sleepers : Int32) (v_read_listeners : Int32) (v_read_names : Int32) (v_tape : Nat → Int32) (N : Nat) (z : Int32 × Int32 × Int32 × Int32 × Int32 × Int32 × Int32 × Int64 × Int32) (hf : fX12_readHouse N v_size v_at v_sort v_place v_sign v_number v_fault v_wrongAt v_word v_read_minutes v_tape = some z) : CTv l E yX12_readHouse cX12_readHouse 2 8 173 [.ref h] (wX12_readHouse E h h_read h_tape h_far h_from h_real h_other h_kept h_set h_w h_book h_noteSort h_whose h_what h_noteIs h_fitting h_dawn h_likes h_walked h_came h_read_creak h_read_doorA h_read_doorB h_read_how h_read_lies h_read_isCold h_read_falls h_read_isFull h_read_isTold h_read_act h_read_what h_read_then h_read_met h_read_bed h_read_dream h_read_listens h_read_name h_read_nameSort h_read_nameNumber v_thrown v_trouble v_where v_inn v_taped v_size v_at v_sort v_place v_sign v_number v_fault v_wrongAt v_word v_marks v_notes v_read_minutes v_read_rooms v_read_doors v_read_things v_read_dreams v_read_sleepers v_read_listeners v_read_names v_tape) (wX12_readHouse E h h_read h_tape h_far h_from h_real h_other h_kept h_set h_w h_book h_noteSort h_whose h_what h_noteIs h_fitting h_dawn h_likes h_walked h_came h_read_creak h_read_doorA h_read_doorB h_read_how h_read_lies h_read_isCold h_read_falls h_read_isFull h_read_isTold h_read_act h_read_what h_read_then h_read_met h_read_bed h_read_dream h_read_listens h_read_name h_read_nameSort h_read_nameNumber v_thrown v_trouble v_where v_inn v_taped v_size z.1 z.2.1 z.2.2.1 z.2.2.2.1 z.2.2.2.2.1 z.2.2.2.2.2.1 z.2.2.2.2.2.2.1 z.2.2.2.2.2.2.2.1 v_marks v_notes z.2.2.2.2.2.2.2.2 v_read_rooms v_read_doors v_read_things v_read_dreams v_read_sleepers v_read_listeners v_read_names v_tape) := by
  intro sz
  refine ct_body (by decide) (Nat.le_of_ble_eq_true rfl) ?_
  intro p e s m args below meth c A ls hAe C hr hin hP hD hS hl
  have C : CX p s m args meth c cX12_readHouse RX12 2 E A := C
  have hl : lv_has ls 2 [(0, .ref h)] := hl
  have hx := C.1
  have hb := C.2.1
  rw [hAe]
  clear hAe
  obtain ⟨Q, hQ⟩ : ∃ Q, Q = MQ below (Qv E A (wX12_readHouse E h h_read h_tape h_far h_from h_real h_other h_kept h_set h_w h_book h_noteSort h_whose h_what h_noteIs h_fitting h_dawn h_likes h_walked h_came h_read_creak h_read_doorA h_read_doorB h_read_how h_read_lies h_read_isCold h_read_falls h_read_isFull h_read_isTold h_read_act h_read_what h_read_then h_read_met h_read_bed h_read_dream h_read_listens h_read_name h_read_nameSort h_read_nameNumber v_thrown v_trouble v_where v_inn v_taped v_size z.1 z.2.1 z.2.2.1 z.2.2.2.1 z.2.2.2.2.1 z.2.2.2.2.2.1 z.2.2.2.2.2.2.1 z.2.2.2.2.2.2.2.1 v_marks v_notes z.2.2.2.2.2.2.2.2 v_read_rooms v_read_doors v_read_things v_read_dreams v_read_sleepers v_read_listeners v_read_names v_tape)) args s 0 0 A := ⟨_, rfl⟩
  rw [← hQ]
  unfold fX12_readHouse at hf
  refine lv_aload_n (pc := 0) hx hb dX12_readHouse_0 rfl (lv_at hl 0 rfl) ?_
  refine r_get (pc := 1) C hP 0 rfl fl_X12_202 rfl dX12_readHouse_1 ?_
  refine r_get (pc := 4) C hP 1 rfl fl_X12_241 rfl dX12_readHouse_4 ?_
  refine jnK hf (fun j15 ej15 hf => ?_)
  have hj15 : ∀ (x15_sort : Int32) (x15_fault : Int32) (x15_wrongAt : Int32) , j15 (x15_sort, x15_fault, x15_wrongAt) = some z → AT p l e (rmOf 8 173) s m args below meth c E A Q 0 0 2 [(0, .ref h)] (wX12_readHouse E h h_read h_tape h_far h_from h_real h_other h_kept h_set h_w h_book h_noteSort h_whose h_what h_noteIs h_fitting h_dawn h_likes h_walked h_came h_read_creak h_read_doorA h_read_doorB h_read_how h_read_lies h_read_isCold h_read_falls h_read_isFull h_read_isTold h_read_act h_read_what h_read_then h_read_met h_read_bed h_read_dream h_read_listens h_read_name h_read_nameSort h_read_nameNumber v_thrown v_trouble v_where v_inn v_taped v_size v_at x15_sort v_place v_sign v_number x15_fault x15_wrongAt v_word v_marks v_notes v_read_minutes v_read_rooms v_read_doors v_read_things v_read_dreams v_read_sleepers v_read_listeners v_read_names v_tape) 15 [] := by
    intro x15_sort x15_fault x15_wrongAt hf H locs ls hl hP hD hS
    rw [ej15] at hf
    replace hf := un3_s hf
    refine lv_aload_n (pc := 15) hx hb dX12_readHouse_15 rfl (lv_at hl 0 rfl) ?_
    obtain ⟨v_at_16, v_sort_16, v_place_16, v_sign_16, v_number_16, v_word_16, hc_16, hf⟩ := bd6 hf
    refine r_dalVv (pc := 16) (ws' := (wX12_readHouse E h h_read h_tape h_far h_from h_real h_other h_kept h_set h_w h_book h_noteSort h_whose h_what h_noteIs h_fitting h_dawn h_likes h_walked h_came h_read_creak h_read_doorA h_read_doorB h_read_how h_read_lies h_read_isCold h_read_falls h_read_isFull h_read_isTold h_read_act h_read_what h_read_then h_read_met h_read_bed h_read_dream h_read_listens h_read_name h_read_nameSort h_read_nameNumber v_thrown v_trouble v_where v_inn v_taped v_size v_at_16 v_sort_16 v_place_16 v_sign_16 v_number_16 x15_fault x15_wrongAt v_word_16 v_marks v_notes v_read_minutes v_read_rooms v_read_doors v_read_things v_read_dreams v_read_sleepers v_read_listeners v_read_names v_tape)) (As := []) (rest := []) C (ctX12_goesOn l E h h_tape h_far h_from h_real h_other h_kept h_set h_w h_book h_noteSort h_whose h_what h_noteIs h_fitting h_dawn h_likes h_walked h_came v_thrown v_trouble v_where v_inn (some h_read) v_taped v_size v_at x15_sort v_place v_sign v_number x15_fault x15_wrongAt v_word v_marks v_notes v_tape N (v_at_16, v_sort_16, v_place_16, v_sign_16, v_number_16, v_word_16) hc_16) ml_X12_142 ⟨Nat.le_of_ble_eq_true rfl, Nat.le_of_ble_eq_true rfl⟩ hP hD hS 0 rfl rfl rfl [0, 2] [3, 1, 4] 3 rfl rfl rfl rfl rfl rfl rfl hl.1 rfl (Nat.le_of_ble_eq_true rfl) ⟨Nat.zero_le _, Nat.zero_le _⟩ dX12_readHouse_16 ?_
    clear hP hD hS; intro H locs hP hD hS
    refine lv_aload_n (pc := 19) hx hb dX12_readHouse_19 rfl (lv_at hl 0 rfl) ?_
    refine r_ldcSw (pc := 20) C (C.kx.2.2.2.2.2 19 (by decide)).2.2.2.2 dX12_readHouse_20 ?_
    refine lv_iconst (pc := 23) (v := 1) hx hb dX12_readHouse_23 (by decide) ?_
    refine lv_bipush (pc := 24) (v := 40) hx hb dX12_readHouse_24 (by decide) ?_
    obtain ⟨r_26, v_at_26, v_sort_26, v_place_26, v_sign_26, v_number_26, v_fault_26, v_wrongAt_26, v_word_26, hc_26, hf⟩ := bd9 hf
    refine r_dalVi (pc := 26) (ws' := (wX12_readHouse E h h_read h_tape h_far h_from h_real h_other h_kept h_set h_w h_book h_noteSort h_whose h_what h_noteIs h_fitting h_dawn h_likes h_walked h_came h_read_creak h_read_doorA h_read_doorB h_read_how h_read_lies h_read_isCold h_read_falls h_read_isFull h_read_isTold h_read_act h_read_what h_read_then h_read_met h_read_bed h_read_dream h_read_listens h_read_name h_read_nameSort h_read_nameNumber v_thrown v_trouble v_where v_inn v_taped v_size v_at_26 v_sort_26 v_place_26 v_sign_26 v_number_26 v_fault_26 v_wrongAt_26 v_word_26 v_marks v_notes v_read_minutes v_read_rooms v_read_doors v_read_things v_read_dreams v_read_sleepers v_read_listeners v_read_names v_tape)) (As := [.ref (E.2.2.2.2.1 19), .int 1, .int 40]) (rest := []) C (ctX12_readPart l E h h_tape h_far h_from h_real h_other h_kept h_set h_w h_book h_noteSort h_whose h_what h_noteIs h_fitting h_dawn h_likes h_walked h_came v_thrown v_trouble v_where v_inn (some h_read) v_taped v_size v_at_16 v_sort_16 v_place_16 v_sign_16 v_number_16 x15_fault x15_wrongAt v_word_16 v_marks v_notes v_tape 19 (by decide) N 1 40 (r_26, v_at_26, v_sort_26, v_place_26, v_sign_26, v_number_26, v_fault_26, v_wrongAt_26, v_word_26) hc_26) ml_X12_272 ⟨Nat.le_of_ble_eq_true rfl, Nat.le_of_ble_eq_true rfl⟩ hP hD hS 0 rfl rfl rfl [0, 2] [3, 1, 4] 3 rfl rfl rfl rfl rfl rfl rfl hl.1 rfl (Nat.le_of_ble_eq_true rfl) ⟨Nat.zero_le _, Nat.zero_le _⟩ dX12_readHouse_26 ?_
    clear hP hD hS; intro H locs hP hD hS
    refine lv_istore_n (pc := 29) (lv' := [(1, .int r_26), (0, .ref h)]) hx hb dX12_readHouse_29 rfl hl (by decide) rfl (fun ls hl => ?_)
    refine lv_aload_n (pc := 30) hx hb dX12_readHouse_30 rfl (lv_at hl 1 rfl) ?_
    refine r_get (pc := 31) C hP 0 rfl fl_X12_99 rfl dX12_readHouse_31 ?_
    refine lv_iconst (pc := 34) (v := 5) hx hb dX12_readHouse_34 (by decide) ?_
    refine lv_icmp_eq (pc := 35) (tgt := 46) hx hb dX12_readHouse_35 (by decide) (fun c_35 => ?_) (fun c_35 => ?_)
    · replace hf := it_t c_35 hf
      cases hf
      rw [hQ]
      exact r_vret C hr hP hD hS dX12_readHouse_46
    · replace hf := it_f c_35 hf
      refine lv_aload_n (pc := 38) hx hb dX12_readHouse_38 rfl (lv_at hl 1 rfl) ?_
      refine r_get (pc := 39) C hP 0 rfl fl_X12_202 rfl dX12_readHouse_39 ?_
      refine lv_iload_n (pc := 42) hx hb dX12_readHouse_42 rfl (lv_at hl 0 rfl) ?_
      refine r_put (pc := 43) (ws' := (wX12_readHouse E h h_read h_tape h_far h_from h_real h_other h_kept h_set h_w h_book h_noteSort h_whose h_what h_noteIs h_fitting h_dawn h_likes h_walked h_came h_read_creak h_read_doorA h_read_doorB h_read_how h_read_lies h_read_isCold h_read_falls h_read_isFull h_read_isTold h_read_act h_read_what h_read_then h_read_met h_read_bed h_read_dream h_read_listens h_read_name h_read_nameSort h_read_nameNumber v_thrown v_trouble v_where v_inn v_taped v_size v_at_26 v_sort_26 v_place_26 v_sign_26 v_number_26 v_fault_26 v_wrongAt_26 v_word_26 v_marks v_notes r_26 v_read_rooms v_read_doors v_read_things v_read_dreams v_read_sleepers v_read_listeners v_read_names v_tape)) C hP hD hS 1 rfl fl_X12_241 rfl rfl (Nat.le_of_ble_eq_true rfl) rfl dX12_readHouse_43 ?_
      clear hP hD hS; intro H locs hP hD hS
      cases hf
      rw [hQ]
      exact r_vret C hr hP hD hS dX12_readHouse_46
  clear ej15
  refine lv_if_le (pc := 7) (tgt := 15) hx hb dX12_readHouse_7 (by decide) (fun c_7 => ?_) (fun c_7 => ?_)
  · replace hf := it_t c_7 hf
    exact hj15 v_sort v_fault v_wrongAt hf _ _ _ (lv_sub hl [0] rfl) hP hD hS
  · replace hf := it_f c_7 hf
    refine lv_aload_n (pc := 10) hx hb dX12_readHouse_10 rfl (lv_at hl 0 rfl) ?_
    refine lv_iconst (pc := 11) (v := 3) hx hb dX12_readHouse_11 (by decide) ?_
    obtain ⟨v_sort_12, v_fault_12, v_wrongAt_12, hc_12, hf⟩ := bd3 hf
    refine r_dalVv (pc := 12) (ws' := (wX12_readHouse E h h_read h_tape h_far h_from h_real h_other h_kept h_set h_w h_book h_noteSort h_whose h_what h_noteIs h_fitting h_dawn h_likes h_walked h_came h_read_creak h_read_doorA h_read_doorB h_read_how h_read_lies h_read_isCold h_read_falls h_read_isFull h_read_isTold h_read_act h_read_what h_read_then h_read_met h_read_bed h_read_dream h_read_listens h_read_name h_read_nameSort h_read_nameNumber v_thrown v_trouble v_where v_inn v_taped v_size v_at v_sort_12 v_place v_sign v_number v_fault_12 v_wrongAt_12 v_word v_marks v_notes v_read_minutes v_read_rooms v_read_doors v_read_things v_read_dreams v_read_sleepers v_read_listeners v_read_names v_tape)) (As := [.int 3]) (rest := []) C (ctX12_wrong l E h h_tape h_far h_from h_real h_other h_kept h_set h_w h_book h_noteSort h_whose h_what h_noteIs h_fitting h_dawn h_likes h_walked h_came v_thrown v_trouble v_where v_inn (some h_read) v_taped v_size v_at v_sort v_place v_sign v_number v_fault v_wrongAt v_word v_marks v_notes N 3 (v_sort_12, v_fault_12, v_wrongAt_12) hc_12) ml_X12_145 ⟨Nat.le_of_ble_eq_true rfl, Nat.le_of_ble_eq_true rfl⟩ hP hD hS 0 rfl rfl rfl [0] [3, 1, 2] 3 rfl rfl rfl rfl rfl rfl rfl hl.1 rfl (Nat.le_of_ble_eq_true rfl) ⟨Nat.zero_le _, Nat.zero_le _⟩ dX12_readHouse_12 ?_
    clear hP hD hS; intro H locs hP hD hS
    exact hj15 v_sort_12 v_fault_12 v_wrongAt_12 hf _ _ _ (lv_sub hl [0] rfl) hP hD hS
def wX12_readRoom (E : EN) (h h_read h_tape h_far h_from h_real h_other h_kept h_set h_w h_book h_noteSort h_whose h_what h_noteIs h_fitting h_dawn h_likes h_walked h_came h_read_creak h_read_doorA h_read_doorB h_read_how h_read_lies h_read_isCold h_read_falls h_read_isFull h_read_isTold h_read_act h_read_what h_read_then h_read_met h_read_bed h_read_dream h_read_listens h_read_name h_read_nameSort h_read_nameNumber : Nat) (v_thrown : Int32) (v_trouble : Int32) (v_where : Int32) (v_inn : Option Nat) (v_taped : Int32) (v_size : Int32) (v_at : Int32) (v_sort : Int32) (v_place : Int32) (v_sign : Int32) (v_number : Int32) (v_fault : Int32) (v_wrongAt : Int32) (v_word : Int64) (v_marks : Int32) (v_notes : Int32) (v_read_minutes : Int32) (v_read_rooms : Int32) (v_read_doors : Int32) (v_read_things : Int32) (v_read_dreams : Int32) (v_read_sleepers : Int32) (v_read_listeners : Int32) (v_read_names : Int32) (v_tape : Nat → Int32) (v_read_name : Nat → Int64) (v_read_nameSort : Nat → Int32) (v_read_nameNumber : Nat → Int32) (v_read_creak : Nat → Int32) (v_read_isCold : Nat → Int32) : va_W := [(h, .inr (11, [.int v_thrown, .int v_trouble, .int v_where, va_rf v_inn, .ref h_read, .ref h_tape, .int v_taped, .int v_size, .int v_at, .int v_sort, .int v_place, .int v_sign, .int v_number, .int v_fault, .int v_wrongAt, .long v_word, .ref h_far, .ref h_from, .ref h_real, .ref h_other, .ref h_kept, .ref h_set, .ref h_w, .int v_marks, .int v_notes, .ref h_book, .ref h_noteSort, .ref h_whose, .ref h_what, .ref h_noteIs, .ref h_fitting, .ref h_dawn, .ref h_likes, .ref h_walked, .ref h_came])), (h_read, .inr (10, [.int v_read_minutes, .int v_read_rooms, .int v_read_doors, .int v_read_things, .int v_read_dreams, .int v_read_sleepers, .int v_read_listeners, .int v_read_names, .ref h_read_creak, .ref h_read_doorA, .ref h_read_doorB, .ref h_read_how, .ref h_read_lies, .ref h_read_isCold, .ref h_read_falls, .ref h_read_isFull, .ref h_read_isTold, .ref h_read_act, .ref h_read_what, .ref h_read_then, .ref h_read_met, .ref h_read_bed, .ref h_read_dream, .ref h_read_listens, .ref h_read_name, .ref h_read_nameSort, .ref h_read_nameNumber])), (h_tape, aB E 900 v_tape), (h_read_name, aJ E 19 v_read_name), (h_read_nameSort, aI E 19 v_read_nameSort), (h_read_nameNumber, aI E 19 v_read_nameNumber), (h_read_creak, aI E 8 v_read_creak), (h_read_isCold, aZ E 8 v_read_isCold)]
def fX12_readRoom (N : Nat) (v_size : Int32) (v_at : Int32) (v_sort : Int32) (v_place : Int32) (v_sign : Int32) (v_number : Int32) (v_fault : Int32) (v_wrongAt : Int32) (v_word : Int64) (v_read_rooms : Int32) (v_read_names : Int32) (v_tape : Nat → Int32) (v_read_name : Nat → Int64) (v_read_nameSort : Nat → Int32) (v_read_nameNumber : Nat → Int32) (v_read_creak : Nat → Int32) (v_read_isCold : Nat → Int32) : Option (Int32 × Int32 × Int32 × Int32 × Int32 × Int32 × Int32 × Int64 × Int32 × Int32 × (Nat → Int64) × (Nat → Int32) × (Nat → Int32) × (Nat → Int32) × (Nat → Int32)) := (fX12_begins N v_read_rooms 8 v_size v_at v_sort v_place v_sign v_number v_fault v_wrongAt v_word v_tape).bind (un8 fun (v_at_10 : Int32) (v_sort_10 : Int32) (v_place_10 : Int32) (v_sign_10 : Int32) (v_number_10 : Int32) (v_fault_10 : Int32) (v_wrongAt_10 : Int32) (v_word_10 : Int64) => (fX12_readFresh N 0 v_read_rooms v_size v_at_10 v_sort_10 v_place_10 v_sign_10 v_number_10 v_fault_10 v_wrongAt_10 v_word_10 v_read_names v_read_name v_read_nameSort v_read_nameNumber v_tape).bind (un12 fun (v_at_22 : Int32) (v_sort_22 : Int32) (v_place_22 : Int32) (v_sign_22 : Int32) (v_number_22 : Int32) (v_fault_22 : Int32) (v_wrongAt_22 : Int32) (v_word_22 : Int64) (v_read_names_22 : Int32) (v_read_name_22 : Nat → Int64) (v_read_nameSort_22 : Nat → Int32) (v_read_nameNumber_22 : Nat → Int32) => (fX12_readPart N 20 0 9 v_size v_at_22 v_sort_22 v_place_22 v_sign_22 v_number_22 v_fault_22 v_wrongAt_22 v_word_22 v_tape).bind (un9 fun (r_32 : Int32) (v_at_32 : Int32) (v_sort_32 : Int32) (v_place_32 : Int32) (v_sign_32 : Int32) (v_number_32 : Int32) (v_fault_32 : Int32) (v_wrongAt_32 : Int32) (v_word_32 : Int64) => (fX12_eatsWord N 7 v_size v_at_32 v_sort_32 v_place_32 v_sign_32 v_number_32 v_word_32 v_tape).bind (un7 fun (r_39 : Int32) (v_at_39 : Int32) (v_sort_39 : Int32) (v_place_39 : Int32) (v_sign_39 : Int32) (v_number_39 : Int32) (v_word_39 : Int64) => if v_sort_39 = 5 then (some (v_at_39, v_sort_39, v_place_39, v_sign_39, v_number_39, v_fault_32, v_wrongAt_32, v_word_39, v_read_rooms, v_read_names_22, v_read_name_22, v_read_nameSort_22, v_read_nameNumber_22, v_read_creak, v_read_isCold)) else (gd v_read_rooms 8 (gd v_read_rooms 8 (zg r_39 (some (v_at_39, v_sort_39, v_place_39, v_sign_39, v_number_39, v_fault_32, v_wrongAt_32, v_word_39, v_read_rooms + 1, v_read_names_22, v_read_name_22, v_read_nameSort_22, v_read_nameNumber_22, upd v_read_creak v_read_rooms.toNatClampNeg r_32, upd v_read_isCold v_read_rooms.toNatClampNeg r_39)))))))))
set_option maxHeartbeats 4000000 in
set_option maxRecDepth 100000 in
theorem ctX12_readRoom (l : Launch) (E : EN) (h h_read h_tape h_far h_from h_real h_other h_kept h_set h_w h_book h_noteSort h_whose h_what h_noteIs h_fitting h_dawn h_likes h_walked h_came h_read_creak h_read_doorA h_read_doorB h_read_how h_read_lies h_read_isCold h_read_falls h_read_isFull h_read_isTold h_read_act h_read_what h_read_then h_read_met h_read_bed h_read_dream h_read_listens h_read_name h_read_nameSort h_read_nameNumber : Nat) (v_thrown : Int32) (v_trouble : Int32) (v_where : Int32) (v_inn : Option Nat) (v_taped : Int32) (v_size : Int32) (v_at : Int32) (v_sort : Int32) (v_place : Int32) (v_sign : Int32) (v_number : Int32) (v_fault : Int32) (v_wrongAt : Int32) (v_word : Int64) (v_marks : Int32) (v_notes : Int32) (v_read_minutes : Int32) (v_read_rooms : Int32) (v_read_doors : Int32) (v_read_things : Int32) (v_read_dreams : Int32) (v_read_sleepers : Int32) (v_read_listeners : Int32) (v_read_names : Int32) (v_tape : Nat → Int32) (v_read_name : Nat → Int64) (v_read_nameSort : Nat → Int32) (v_read_nameNumber : Nat → Int32) (v_read_creak : Nat → Int32) (v_read_isCold : Nat → Int32) (N : Nat) (z : Int32 × Int32 × Int32 × Int32 × Int32 × Int32 × Int32 × Int64 × Int32 × Int32 × (Nat → Int64) × (Nat → Int32) × (Nat → Int32) × (Nat → Int32) × (Nat → Int32)) (hf : fX12_readRoom N v_size v_at v_sort v_place v_sign v_number v_fault v_wrongAt v_word v_read_rooms v_read_names v_tape v_read_name v_read_nameSort v_read_nameNumber v_read_creak v_read_isCold = some z) : CTv l E yX12_readRoom cX12_readRoom 3 8 173 [.ref h] (wX12_readRoom E h h_read h_tape h_far h_from h_real h_other h_kept h_set h_w h_book h_noteSort h_whose h_what h_noteIs h_fitting h_dawn h_likes h_walked h_came h_read_creak h_read_doorA h_read_doorB h_read_how h_read_lies h_read_isCold h_read_falls h_read_isFull h_read_isTold h_read_act h_read_what h_read_then h_read_met h_read_bed h_read_dream h_read_listens h_read_name h_read_nameSort h_read_nameNumber v_thrown v_trouble v_where v_inn v_taped v_size v_at v_sort v_place v_sign v_number v_fault v_wrongAt v_word v_marks v_notes v_read_minutes v_read_rooms v_read_doors v_read_things v_read_dreams v_read_sleepers v_read_listeners v_read_names v_tape v_read_name v_read_nameSort v_read_nameNumber v_read_creak v_read_isCold) (wX12_readRoom E h h_read h_tape h_far h_from h_real h_other h_kept h_set h_w h_book h_noteSort h_whose h_what h_noteIs h_fitting h_dawn h_likes h_walked h_came h_read_creak h_read_doorA h_read_doorB h_read_how h_read_lies h_read_isCold h_read_falls h_read_isFull h_read_isTold h_read_act h_read_what h_read_then h_read_met h_read_bed h_read_dream h_read_listens h_read_name h_read_nameSort h_read_nameNumber v_thrown v_trouble v_where v_inn v_taped v_size z.1 z.2.1 z.2.2.1 z.2.2.2.1 z.2.2.2.2.1 z.2.2.2.2.2.1 z.2.2.2.2.2.2.1 z.2.2.2.2.2.2.2.1 v_marks v_notes v_read_minutes z.2.2.2.2.2.2.2.2.1 v_read_doors v_read_things v_read_dreams v_read_sleepers v_read_listeners z.2.2.2.2.2.2.2.2.2.1 v_tape z.2.2.2.2.2.2.2.2.2.2.1 z.2.2.2.2.2.2.2.2.2.2.2.1 z.2.2.2.2.2.2.2.2.2.2.2.2.1 z.2.2.2.2.2.2.2.2.2.2.2.2.2.1 z.2.2.2.2.2.2.2.2.2.2.2.2.2.2) := by
  intro sz
  refine ct_body (by decide) (Nat.le_of_ble_eq_true rfl) ?_
  intro p e s m args below meth c A ls hAe C hr hin hP hD hS hl
  have C : CX p s m args meth c cX12_readRoom RX12 3 E A := C
  have hl : lv_has ls 3 [(0, .ref h)] := hl
  have hx := C.1
  have hb := C.2.1
  rw [hAe]
  clear hAe
  obtain ⟨Q, hQ⟩ : ∃ Q, Q = MQ below (Qv E A (wX12_readRoom E h h_read h_tape h_far h_from h_real h_other h_kept h_set h_w h_book h_noteSort h_whose h_what h_noteIs h_fitting h_dawn h_likes h_walked h_came h_read_creak h_read_doorA h_read_doorB h_read_how h_read_lies h_read_isCold h_read_falls h_read_isFull h_read_isTold h_read_act h_read_what h_read_then h_read_met h_read_bed h_read_dream h_read_listens h_read_name h_read_nameSort h_read_nameNumber v_thrown v_trouble v_where v_inn v_taped v_size z.1 z.2.1 z.2.2.1 z.2.2.2.1 z.2.2.2.2.1 z.2.2.2.2.2.1 z.2.2.2.2.2.2.1 z.2.2.2.2.2.2.2.1 v_marks v_notes v_read_minutes z.2.2.2.2.2.2.2.2.1 v_read_doors v_read_things v_read_dreams v_read_sleepers v_read_listeners z.2.2.2.2.2.2.2.2.2.1 v_tape z.2.2.2.2.2.2.2.2.2.2.1 z.2.2.2.2.2.2.2.2.2.2.2.1 z.2.2.2.2.2.2.2.2.2.2.2.2.1 z.2.2.2.2.2.2.2.2.2.2.2.2.2.1 z.2.2.2.2.2.2.2.2.2.2.2.2.2.2)) args s 0 0 A := ⟨_, rfl⟩
  rw [← hQ]
  unfold fX12_readRoom at hf
  refine lv_aload_n (pc := 0) hx hb dX12_readRoom_0 rfl (lv_at hl 0 rfl) ?_
  refine lv_aload_n (pc := 1) hx hb dX12_readRoom_1 rfl (lv_at hl 0 rfl) ?_
  refine r_get (pc := 2) C hP 0 rfl fl_X12_202 rfl dX12_readRoom_2 ?_
  refine r_get (pc := 5) C hP 1 rfl fl_X12_244 rfl dX12_readRoom_5 ?_
  refine lv_bipush (pc := 8) (v := 8) hx hb dX12_readRoom_8 (by decide) ?_
  obtain ⟨v_at_10, v_sort_10, v_place_10, v_sign_10, v_number_10, v_fault_10, v_wrongAt_10, v_word_10, hc_10, hf⟩ := bd8 hf
  refine r_dalVv (pc := 10) (ws' := (wX12_readRoom E h h_read h_tape h_far h_from h_real h_other h_kept h_set h_w h_book h_noteSort h_whose h_what h_noteIs h_fitting h_dawn h_likes h_walked h_came h_read_creak h_read_doorA h_read_doorB h_read_how h_read_lies h_read_isCold h_read_falls h_read_isFull h_read_isTold h_read_act h_read_what h_read_then h_read_met h_read_bed h_read_dream h_read_listens h_read_name h_read_nameSort h_read_nameNumber v_thrown v_trouble v_where v_inn v_taped v_size v_at_10 v_sort_10 v_place_10 v_sign_10 v_number_10 v_fault_10 v_wrongAt_10 v_word_10 v_marks v_notes v_read_minutes v_read_rooms v_read_doors v_read_things v_read_dreams v_read_sleepers v_read_listeners v_read_names v_tape v_read_name v_read_nameSort v_read_nameNumber v_read_creak v_read_isCold)) (As := [.int v_read_rooms, .int 8]) (rest := []) C (ctX12_begins l E h h_tape h_far h_from h_real h_other h_kept h_set h_w h_book h_noteSort h_whose h_what h_noteIs h_fitting h_dawn h_likes h_walked h_came v_thrown v_trouble v_where v_inn (some h_read) v_taped v_size v_at v_sort v_place v_sign v_number v_fault v_wrongAt v_word v_marks v_notes v_tape N v_read_rooms 8 (v_at_10, v_sort_10, v_place_10, v_sign_10, v_number_10, v_fault_10, v_wrongAt_10, v_word_10) hc_10) ml_X12_276 ⟨Nat.le_of_ble_eq_true rfl, Nat.le_of_ble_eq_true rfl⟩ hP hD hS 0 rfl rfl rfl [0, 2] [8, 1, 9, 3, 4, 5, 6, 7] 8 rfl rfl rfl rfl rfl rfl rfl hl.1 rfl (Nat.le_of_ble_eq_true rfl) ⟨Nat.zero_le _, Nat.zero_le _⟩ dX12_readRoom_10 ?_
  clear hP hD hS; intro H locs hP hD hS
  refine lv_aload_n (pc := 13) hx hb dX12_readRoom_13 rfl (lv_at hl 0 rfl) ?_
  refine lv_iconst (pc := 14) (v := 0) hx hb dX12_readRoom_14 (by decide) ?_
  refine lv_aload_n (pc := 15) hx hb dX12_readRoom_15 rfl (lv_at hl 0 rfl) ?_
  refine r_get (pc := 16) C hP 0 rfl fl_X12_202 rfl dX12_readRoom_16 ?_
  refine r_get (pc := 19) C hP 1 rfl fl_X12_244 rfl dX12_readRoom_19 ?_
  obtain ⟨v_at_22, v_sort_22, v_place_22, v_sign_22, v_number_22, v_fault_22, v_wrongAt_22, v_word_22, v_read_names_22, v_read_name_22, v_read_nameSort_22, v_read_nameNumber_22, hc_22, hf⟩ := bd12 hf
  refine r_dalVv (pc := 22) (ws' := (wX12_readRoom E h h_read h_tape h_far h_from h_real h_other h_kept h_set h_w h_book h_noteSort h_whose h_what h_noteIs h_fitting h_dawn h_likes h_walked h_came h_read_creak h_read_doorA h_read_doorB h_read_how h_read_lies h_read_isCold h_read_falls h_read_isFull h_read_isTold h_read_act h_read_what h_read_then h_read_met h_read_bed h_read_dream h_read_listens h_read_name h_read_nameSort h_read_nameNumber v_thrown v_trouble v_where v_inn v_taped v_size v_at_22 v_sort_22 v_place_22 v_sign_22 v_number_22 v_fault_22 v_wrongAt_22 v_word_22 v_marks v_notes v_read_minutes v_read_rooms v_read_doors v_read_things v_read_dreams v_read_sleepers v_read_listeners v_read_names_22 v_tape v_read_name_22 v_read_nameSort_22 v_read_nameNumber_22 v_read_creak v_read_isCold)) (As := [.int 0, .int v_read_rooms]) (rest := []) C (ctX12_readFresh l E h h_read h_tape h_far h_from h_real h_other h_kept h_set h_w h_book h_noteSort h_whose h_what h_noteIs h_fitting h_dawn h_likes h_walked h_came h_read_creak h_read_doorA h_read_doorB h_read_how h_read_lies h_read_isCold h_read_falls h_read_isFull h_read_isTold h_read_act h_read_what h_read_then h_read_met h_read_bed h_read_dream h_read_listens h_read_name h_read_nameSort h_read_nameNumber v_thrown v_trouble v_where v_inn v_taped v_size v_at_10 v_sort_10 v_place_10 v_sign_10 v_number_10 v_fault_10 v_wrongAt_10 v_word_10 v_marks v_notes v_read_minutes v_read_rooms v_read_doors v_read_things v_read_dreams v_read_sleepers v_read_listeners v_read_names v_read_name v_read_nameSort v_read_nameNumber v_tape N 0 v_read_rooms (v_at_22, v_sort_22, v_place_22, v_sign_22, v_number_22, v_fault_22, v_wrongAt_22, v_word_22, v_read_names_22, v_read_name_22, v_read_nameSort_22, v_read_nameNumber_22) hc_22) ml_X12_279 ⟨Nat.le_of_ble_eq_true rfl, Nat.le_of_ble_eq_true rfl⟩ hP hD hS 0 rfl rfl rfl [0, 1, 3, 4, 5, 2] [8, 9, 13, 10, 11, 12, 6, 7] 8 rfl rfl rfl rfl rfl rfl rfl hl.1 rfl (Nat.le_of_ble_eq_true rfl) ⟨Nat.zero_le _, Nat.zero_le _⟩ dX12_readRoom_22 ?_
  clear hP hD hS; intro H locs hP hD hS
  refine lv_aload_n (pc := 25) hx hb dX12_readRoom_25 rfl (lv_at hl 0 rfl) ?_
  refine r_ldcSw (pc := 26) C (C.kx.2.2.2.2.2 20 (by decide)).2.2.2.2 dX12_readRoom_26 ?_
  refine lv_iconst (pc := 29) (v := 0) hx hb dX12_readRoom_29 (by decide) ?_
  refine lv_bipush (pc := 30) (v := 9) hx hb dX12_readRoom_30 (by decide) ?_
  obtain ⟨r_32, v_at_32, v_sort_32, v_place_32, v_sign_32, v_number_32, v_fault_32, v_wrongAt_32, v_word_32, hc_32, hf⟩ := bd9 hf
  refine r_dalVi (pc := 32) (ws' := (wX12_readRoom E h h_read h_tape h_far h_from h_real h_other h_kept h_set h_w h_book h_noteSort h_whose h_what h_noteIs h_fitting h_dawn h_likes h_walked h_came h_read_creak h_read_doorA h_read_doorB h_read_how h_read_lies h_read_isCold h_read_falls h_read_isFull h_read_isTold h_read_act h_read_what h_read_then h_read_met h_read_bed h_read_dream h_read_listens h_read_name h_read_nameSort h_read_nameNumber v_thrown v_trouble v_where v_inn v_taped v_size v_at_32 v_sort_32 v_place_32 v_sign_32 v_number_32 v_fault_32 v_wrongAt_32 v_word_32 v_marks v_notes v_read_minutes v_read_rooms v_read_doors v_read_things v_read_dreams v_read_sleepers v_read_listeners v_read_names_22 v_tape v_read_name_22 v_read_nameSort_22 v_read_nameNumber_22 v_read_creak v_read_isCold)) (As := [.ref (E.2.2.2.2.1 20), .int 0, .int 9]) (rest := []) C (ctX12_readPart l E h h_tape h_far h_from h_real h_other h_kept h_set h_w h_book h_noteSort h_whose h_what h_noteIs h_fitting h_dawn h_likes h_walked h_came v_thrown v_trouble v_where v_inn (some h_read) v_taped v_size v_at_22 v_sort_22 v_place_22 v_sign_22 v_number_22 v_fault_22 v_wrongAt_22 v_word_22 v_marks v_notes v_tape 20 (by decide) N 0 9 (r_32, v_at_32, v_sort_32, v_place_32, v_sign_32, v_number_32, v_fault_32, v_wrongAt_32, v_word_32) hc_32) ml_X12_272 ⟨Nat.le_of_ble_eq_true rfl, Nat.le_of_ble_eq_true rfl⟩ hP hD hS 0 rfl rfl rfl [0, 2] [8, 1, 9, 3, 4, 5, 6, 7] 8 rfl rfl rfl rfl rfl rfl rfl hl.1 rfl (Nat.le_of_ble_eq_true rfl) ⟨Nat.zero_le _, Nat.zero_le _⟩ dX12_readRoom_32 ?_
  clear hP hD hS; intro H locs hP hD hS
  refine lv_istore_n (pc := 35) (lv' := [(1, .int r_32), (0, .ref h)]) hx hb dX12_readRoom_35 rfl hl (by decide) rfl (fun ls hl => ?_)
  refine lv_aload_n (pc := 36) hx hb dX12_readRoom_36 rfl (lv_at hl 1 rfl) ?_
  refine r_ldcS (pc := 37) C (C.kx.2.2.2.2.2 7 (by decide)).2.2.2.2 dX12_readRoom_37 ?_
  obtain ⟨r_39, v_at_39, v_sort_39, v_place_39, v_sign_39, v_number_39, v_word_39, hc_39, hf⟩ := bd7 hf
  refine r_dalVi (pc := 39) (ws' := (wX12_readRoom E h h_read h_tape h_far h_from h_real h_other h_kept h_set h_w h_book h_noteSort h_whose h_what h_noteIs h_fitting h_dawn h_likes h_walked h_came h_read_creak h_read_doorA h_read_doorB h_read_how h_read_lies h_read_isCold h_read_falls h_read_isFull h_read_isTold h_read_act h_read_what h_read_then h_read_met h_read_bed h_read_dream h_read_listens h_read_name h_read_nameSort h_read_nameNumber v_thrown v_trouble v_where v_inn v_taped v_size v_at_39 v_sort_39 v_place_39 v_sign_39 v_number_39 v_fault_32 v_wrongAt_32 v_word_39 v_marks v_notes v_read_minutes v_read_rooms v_read_doors v_read_things v_read_dreams v_read_sleepers v_read_listeners v_read_names_22 v_tape v_read_name_22 v_read_nameSort_22 v_read_nameNumber_22 v_read_creak v_read_isCold)) (As := [.ref (E.2.2.2.2.1 7)]) (rest := []) C (ctX12_eatsWord l E h h_tape h_far h_from h_real h_other h_kept h_set h_w h_book h_noteSort h_whose h_what h_noteIs h_fitting h_dawn h_likes h_walked h_came v_thrown v_trouble v_where v_inn (some h_read) v_taped v_size v_at_32 v_sort_32 v_place_32 v_sign_32 v_number_32 v_fault_32 v_wrongAt_32 v_word_32 v_marks v_notes v_tape 7 (by decide) N (r_39, v_at_39, v_sort_39, v_place_39, v_sign_39, v_number_39, v_word_39) hc_39) ml_X12_284 ⟨Nat.le_of_ble_eq_true rfl, Nat.le_of_ble_eq_true rfl⟩ hP hD hS 0 rfl rfl rfl [0, 2] [8, 1, 9, 3, 4, 5, 6, 7] 8 rfl rfl rfl rfl rfl rfl rfl hl.1 rfl (Nat.le_of_ble_eq_true rfl) ⟨Nat.zero_le _, Nat.zero_le _⟩ dX12_readRoom_39 ?_
  clear hP hD hS; intro H locs hP hD hS
  refine lv_istore_n (pc := 42) (lv' := [(2, .int r_39), (1, .int r_32), (0, .ref h)]) hx hb dX12_readRoom_42 rfl hl (by decide) rfl (fun ls hl => ?_)
  refine lv_aload_n (pc := 43) hx hb dX12_readRoom_43 rfl (lv_at hl 2 rfl) ?_
  refine r_get (pc := 44) C hP 0 rfl fl_X12_99 rfl dX12_readRoom_44 ?_
  refine lv_iconst (pc := 47) (v := 5) hx hb dX12_readRoom_47 (by decide) ?_
  refine lv_icmp_ne (pc := 48) (tgt := 52) hx hb dX12_readRoom_48 (by decide) (fun c_48 => ?_) (fun c_48 => ?_)
  · replace hf := it_f c_48 hf
    refine lv_aload_n (pc := 52) hx hb dX12_readRoom_52 rfl (lv_at hl 2 rfl) ?_
    refine r_get (pc := 53) C hP 0 rfl fl_X12_202 rfl dX12_readRoom_53 ?_
    refine r_get (pc := 56) C hP 1 rfl fl_X12_287 rfl dX12_readRoom_56 ?_
    refine lv_aload_n (pc := 59) hx hb dX12_readRoom_59 rfl (lv_at hl 2 rfl) ?_
    refine r_get (pc := 60) C hP 0 rfl fl_X12_202 rfl dX12_readRoom_60 ?_
    refine r_get (pc := 63) C hP 1 rfl fl_X12_244 rfl dX12_readRoom_63 ?_
    refine lv_iload_n (pc := 66) hx hb dX12_readRoom_66 rfl (lv_at hl 1 rfl) ?_
    obtain ⟨hi_67, hf⟩ := gd_s hf
    refine r_iast (pc := 67) (ws' := (wX12_readRoom E h h_read h_tape h_far h_from h_real h_other h_kept h_set h_w h_book h_noteSort h_whose h_what h_noteIs h_fitting h_dawn h_likes h_walked h_came h_read_creak h_read_doorA h_read_doorB h_read_how h_read_lies h_read_isCold h_read_falls h_read_isFull h_read_isTold h_read_act h_read_what h_read_then h_read_met h_read_bed h_read_dream h_read_listens h_read_name h_read_nameSort h_read_nameNumber v_thrown v_trouble v_where v_inn v_taped v_size v_at_39 v_sort_39 v_place_39 v_sign_39 v_number_39 v_fault_32 v_wrongAt_32 v_word_39 v_marks v_notes v_read_minutes v_read_rooms v_read_doors v_read_things v_read_dreams v_read_sleepers v_read_listeners v_read_names_22 v_tape v_read_name_22 v_read_nameSort_22 v_read_nameNumber_22 (upd v_read_creak v_read_rooms.toNatClampNeg r_32) v_read_isCold)) C hP hD hS 6 rfl hi_67 rfl dX12_readRoom_67 ?_
    clear hP hD hS; intro H locs hP hD hS
    refine lv_aload_n (pc := 68) hx hb dX12_readRoom_68 rfl (lv_at hl 2 rfl) ?_
    refine r_get (pc := 69) C hP 0 rfl fl_X12_202 rfl dX12_readRoom_69 ?_
    refine r_get (pc := 72) C hP 1 rfl fl_X12_289 rfl dX12_readRoom_72 ?_
    refine lv_aload_n (pc := 75) hx hb dX12_readRoom_75 rfl (lv_at hl 2 rfl) ?_
    refine r_get (pc := 76) C hP 0 rfl fl_X12_202 rfl dX12_readRoom_76 ?_
    refine r_get (pc := 79) C hP 1 rfl fl_X12_244 rfl dX12_readRoom_79 ?_
    refine lv_iload_n (pc := 82) hx hb dX12_readRoom_82 rfl (lv_at hl 0 rfl) ?_
    obtain ⟨hi_83, hf⟩ := gd_s hf
    obtain ⟨hz_83, hf⟩ := zg_s hf
    refine r_zast (pc := 83) (ws' := (wX12_readRoom E h h_read h_tape h_far h_from h_real h_other h_kept h_set h_w h_book h_noteSort h_whose h_what h_noteIs h_fitting h_dawn h_likes h_walked h_came h_read_creak h_read_doorA h_read_doorB h_read_how h_read_lies h_read_isCold h_read_falls h_read_isFull h_read_isTold h_read_act h_read_what h_read_then h_read_met h_read_bed h_read_dream h_read_listens h_read_name h_read_nameSort h_read_nameNumber v_thrown v_trouble v_where v_inn v_taped v_size v_at_39 v_sort_39 v_place_39 v_sign_39 v_number_39 v_fault_32 v_wrongAt_32 v_word_39 v_marks v_notes v_read_minutes v_read_rooms v_read_doors v_read_things v_read_dreams v_read_sleepers v_read_listeners v_read_names_22 v_tape v_read_name_22 v_read_nameSort_22 v_read_nameNumber_22 (upd v_read_creak v_read_rooms.toNatClampNeg r_32) (upd v_read_isCold v_read_rooms.toNatClampNeg r_39))) C hP hD hS 7 rfl hi_83 hz_83 rfl dX12_readRoom_83 ?_
    clear hP hD hS; intro H locs hP hD hS
    refine lv_aload_n (pc := 84) hx hb dX12_readRoom_84 rfl (lv_at hl 2 rfl) ?_
    refine r_get (pc := 85) C hP 0 rfl fl_X12_202 rfl dX12_readRoom_85 ?_
    refine lv_dup (pc := 88) hx hb dX12_readRoom_88 rfl ?_
    refine r_get (pc := 89) C hP 1 rfl fl_X12_244 rfl dX12_readRoom_89 ?_
    refine lv_iconst (pc := 92) (v := 1) hx hb dX12_readRoom_92 (by decide) ?_
    refine lv_iadd (pc := 93) hx hb dX12_readRoom_93 ?_
    refine r_put (pc := 94) (ws' := (wX12_readRoom E h h_read h_tape h_far h_from h_real h_other h_kept h_set h_w h_book h_noteSort h_whose h_what h_noteIs h_fitting h_dawn h_likes h_walked h_came h_read_creak h_read_doorA h_read_doorB h_read_how h_read_lies h_read_isCold h_read_falls h_read_isFull h_read_isTold h_read_act h_read_what h_read_then h_read_met h_read_bed h_read_dream h_read_listens h_read_name h_read_nameSort h_read_nameNumber v_thrown v_trouble v_where v_inn v_taped v_size v_at_39 v_sort_39 v_place_39 v_sign_39 v_number_39 v_fault_32 v_wrongAt_32 v_word_39 v_marks v_notes v_read_minutes (v_read_rooms + 1) v_read_doors v_read_things v_read_dreams v_read_sleepers v_read_listeners v_read_names_22 v_tape v_read_name_22 v_read_nameSort_22 v_read_nameNumber_22 (upd v_read_creak v_read_rooms.toNatClampNeg r_32) (upd v_read_isCold v_read_rooms.toNatClampNeg r_39))) C hP hD hS 1 rfl fl_X12_244 rfl rfl (Nat.le_of_ble_eq_true rfl) rfl dX12_readRoom_94 ?_
    clear hP hD hS; intro H locs hP hD hS
    cases hf
    rw [hQ]
    exact r_vret C hr hP hD hS dX12_readRoom_97
  · replace hf := it_t c_48 hf
    cases hf
    rw [hQ]
    exact r_vret C hr hP hD hS dX12_readRoom_51
def wX11_between (E : EN) (h h_creak h_doorA h_doorB h_how h_lies h_isCold h_falls h_isFull h_isTold h_act h_what h_then h_met h_bed h_dream h_listens h_name h_nameSort h_nameNumber : Nat) (v_minutes : Int32) (v_rooms : Int32) (v_doors : Int32) (v_things : Int32) (v_dreams : Int32) (v_sleepers : Int32) (v_listeners : Int32) (v_names : Int32) (v_doorA : Nat → Int32) (v_doorB : Nat → Int32) : va_W := [(h, .inr (10, [.int v_minutes, .int v_rooms, .int v_doors, .int v_things, .int v_dreams, .int v_sleepers, .int v_listeners, .int v_names, .ref h_creak, .ref h_doorA, .ref h_doorB, .ref h_how, .ref h_lies, .ref h_isCold, .ref h_falls, .ref h_isFull, .ref h_isTold, .ref h_act, .ref h_what, .ref h_then, .ref h_met, .ref h_bed, .ref h_dream, .ref h_listens, .ref h_name, .ref h_nameSort, .ref h_nameNumber])), (h_doorA, aI E 10 v_doorA), (h_doorB, aI E 10 v_doorB)]
def BX11_between_2 (v_doors : Int32) (v_doorA : Nat → Int32) (p1 : Int32) (v_doorB : Nat → Int32) (p0 : Int32) (rec2 : (Int32) → Option Int32) : (Int32) → Option Int32 := un1 fun (x2_3 : Int32) => if v_doors ≤ x2_3 then (some (-1)) else (gd x2_3 10 (jn (un0 (gd x2_3 10 (jn (un0 (rec2 (x2_3 + 1))) (fun j52 => if (v_doorA x2_3.toNatClampNeg) = p1 then (gd x2_3 10 (if (v_doorB x2_3.toNatClampNeg) = p0 then (some x2_3) else (j52 ()))) else (j52 ()))))) (fun j30 => if (v_doorA x2_3.toNatClampNeg) = p0 then (gd x2_3 10 (if (v_doorB x2_3.toNatClampNeg) = p1 then (some x2_3) else (j30 ()))) else (j30 ()))))
def fX11_between (N : Nat) (p0 : Int32) (p1 : Int32) (v_doors : Int32) (v_doorA : Nat → Int32) (v_doorB : Nat → Int32) : Option Int32 := lp (BX11_between_2 v_doors v_doorA p1 v_doorB p0) N 0
set_option maxHeartbeats 4000000 in
set_option maxRecDepth 100000 in
theorem ctX11_between (l : Launch) (E : EN) (h h_creak h_doorA h_doorB h_how h_lies h_isCold h_falls h_isFull h_isTold h_act h_what h_then h_met h_bed h_dream h_listens h_name h_nameSort h_nameNumber : Nat) (v_minutes : Int32) (v_rooms : Int32) (v_doors : Int32) (v_things : Int32) (v_dreams : Int32) (v_sleepers : Int32) (v_listeners : Int32) (v_names : Int32) (v_doorA : Nat → Int32) (v_doorB : Nat → Int32) (N : Nat) (p0 : Int32) (p1 : Int32) (z : Int32) (hf : fX11_between N p0 p1 v_doors v_doorA v_doorB = some z) : CTi l E yX11_between cX11_between 4 .int 0 0 [.ref h, .int p0, .int p1] (wX11_between E h h_creak h_doorA h_doorB h_how h_lies h_isCold h_falls h_isFull h_isTold h_act h_what h_then h_met h_bed h_dream h_listens h_name h_nameSort h_nameNumber v_minutes v_rooms v_doors v_things v_dreams v_sleepers v_listeners v_names v_doorA v_doorB) (z) (wX11_between E h h_creak h_doorA h_doorB h_how h_lies h_isCold h_falls h_isFull h_isTold h_act h_what h_then h_met h_bed h_dream h_listens h_name h_nameSort h_nameNumber v_minutes v_rooms v_doors v_things v_dreams v_sleepers v_listeners v_names v_doorA v_doorB) := by
  intro sz
  refine ct_body (by decide) (Nat.le_of_ble_eq_true rfl) ?_
  intro p e s m args below meth c A ls hAe C hr hin hP hD hS hl
  have C : CX p s m args meth c cX11_between RX11 4 E A := C
  have hl : lv_has ls 4 [(0, .ref h), (1, .int p0), (2, .int p1)] := hl
  have hx := C.1
  have hb := C.2.1
  rw [hAe]
  clear hAe
  obtain ⟨Q, hQ⟩ : ∃ Q, Q = MQ below (Qi E A (z) (wX11_between E h h_creak h_doorA h_doorB h_how h_lies h_isCold h_falls h_isFull h_isTold h_act h_what h_then h_met h_bed h_dream h_listens h_name h_nameSort h_nameNumber v_minutes v_rooms v_doors v_things v_dreams v_sleepers v_listeners v_names v_doorA v_doorB)) args s 0 0 A := ⟨_, rfl⟩
  rw [← hQ]
  unfold fX11_between at hf
  refine lv_iconst (pc := 0) (v := 0) hx hb dX11_between_0 (by decide) ?_
  refine lv_istore_n (pc := 1) (lv' := [(3, .int 0), (0, .ref h), (1, .int p0), (2, .int p1)]) hx hb dX11_between_1 rfl hl (by decide) rfl (fun ls hl => ?_)
  have key2 : ∀ (n : Nat) (x2_3 : Int32) , lp (BX11_between_2 v_doors v_doorA p1 v_doorB p0) n x2_3 = some z → AT p l e (rmOf 0 0) s m args below meth c E A Q 0 0 4 [(0, .ref h), (1, .int p0), (2, .int p1), (3, .int x2_3)] (wX11_between E h h_creak h_doorA h_doorB h_how h_lies h_isCold h_falls h_isFull h_isTold h_act h_what h_then h_met h_bed h_dream h_listens h_name h_nameSort h_nameNumber v_minutes v_rooms v_doors v_things v_dreams v_sleepers v_listeners v_names v_doorA v_doorB) 2 [] := by
    intro n
    induction n with
    | zero => intro x2_3 hf; exact (lp_0 hf).elim
    | succ n ih2 =>
      intro x2_3 hf H locs ls hl hP hD hS
      replace hf := lp_s hf
      generalize lp (BX11_between_2 v_doors v_doorA p1 v_doorB p0) n = rec2 at ih2 hf
      unfold BX11_between_2 at hf
      replace hf := un1_s hf
      refine lv_iload_n (pc := 2) hx hb dX11_between_2 rfl (lv_at hl 3 rfl) ?_
      refine lv_aload_n (pc := 3) hx hb dX11_between_3 rfl (lv_at hl 0 rfl) ?_
      refine r_get (pc := 4) C hP 0 rfl fl_X11_75 rfl dX11_between_4 ?_
      refine lv_icmp_ge (pc := 7) (tgt := 58) hx hb dX11_between_7 (by decide) (fun c_7 => ?_) (fun c_7 => ?_)
      · replace hf := it_t c_7 hf
        refine lv_iconst (pc := 58) (v := (-1)) hx hb dX11_between_58 (by decide) ?_
        cases hf
        rw [hQ]
        exact r_iret C hr hP hD hS rfl dX11_between_59
      · replace hf := it_f c_7 hf
        refine lv_aload_n (pc := 10) hx hb dX11_between_10 rfl (lv_at hl 0 rfl) ?_
        refine r_get (pc := 11) C hP 0 rfl fl_X11_15 rfl dX11_between_11 ?_
        refine lv_iload_n (pc := 14) hx hb dX11_between_14 rfl (lv_at hl 3 rfl) ?_
        obtain ⟨hi_15, hf⟩ := gd_s hf
        refine r_iald (pc := 15) C hP 1 rfl hi_15 dX11_between_15 ?_
        refine lv_iload_n (pc := 16) hx hb dX11_between_16 rfl (lv_at hl 1 rfl) ?_
        refine jnK hf (fun j30 ej30 hf => ?_)
        have hj30 : j30 () = some z → AT p l e (rmOf 0 0) s m args below meth c E A Q 0 0 4 [(0, .ref h), (1, .int p0), (2, .int p1), (3, .int x2_3)] (wX11_between E h h_creak h_doorA h_doorB h_how h_lies h_isCold h_falls h_isFull h_isTold h_act h_what h_then h_met h_bed h_dream h_listens h_name h_nameSort h_nameNumber v_minutes v_rooms v_doors v_things v_dreams v_sleepers v_listeners v_names v_doorA v_doorB) 30 [] := by
          intro  hf H locs ls hl hP hD hS
          rw [ej30] at hf
          replace hf := un0_s hf
          refine lv_aload_n (pc := 30) hx hb dX11_between_30 rfl (lv_at hl 0 rfl) ?_
          refine r_get (pc := 31) C hP 0 rfl fl_X11_15 rfl dX11_between_31 ?_
          refine lv_iload_n (pc := 34) hx hb dX11_between_34 rfl (lv_at hl 3 rfl) ?_
          obtain ⟨hi_35, hf⟩ := gd_s hf
          refine r_iald (pc := 35) C hP 1 rfl hi_35 dX11_between_35 ?_
          refine lv_iload_n (pc := 36) hx hb dX11_between_36 rfl (lv_at hl 2 rfl) ?_
          refine jnK hf (fun j52 ej52 hf => ?_)
          have hj52 : j52 () = some z → AT p l e (rmOf 0 0) s m args below meth c E A Q 0 0 4 [(0, .ref h), (1, .int p0), (2, .int p1), (3, .int x2_3)] (wX11_between E h h_creak h_doorA h_doorB h_how h_lies h_isCold h_falls h_isFull h_isTold h_act h_what h_then h_met h_bed h_dream h_listens h_name h_nameSort h_nameNumber v_minutes v_rooms v_doors v_things v_dreams v_sleepers v_listeners v_names v_doorA v_doorB) 52 [] := by
            intro  hf H locs ls hl hP hD hS
            rw [ej52] at hf
            replace hf := un0_s hf
            refine lv_iinc (pc := 52) (v := x2_3 + 1) (lv' := [(3, .int (x2_3 + 1)), (0, .ref h), (1, .int p0), (2, .int p1)]) hx hb dX11_between_52 hl (k := 3) rfl rfl (by decide) rfl (fun ls hl => ?_)
            refine lv_goto (pc := 55) (tgt := 2) hx hb dX11_between_55 (by decide) ?_
            exact ih2 (x2_3 + 1) hf _ _ _ (lv_sub hl [1, 2, 3, 0] rfl) hP hD hS
          clear ej52
          refine lv_icmp_ne (pc := 37) (tgt := 52) hx hb dX11_between_37 (by decide) (fun c_37 => ?_) (fun c_37 => ?_)
          · replace hf := it_f c_37 hf
            exact hj52  hf _ _ _ (lv_sub hl [0, 1, 2, 3] rfl) hP hD hS
          · replace hf := it_t c_37 hf
            refine lv_aload_n (pc := 40) hx hb dX11_between_40 rfl (lv_at hl 0 rfl) ?_
            refine r_get (pc := 41) C hP 0 rfl fl_X11_18 rfl dX11_between_41 ?_
            refine lv_iload_n (pc := 44) hx hb dX11_between_44 rfl (lv_at hl 3 rfl) ?_
            obtain ⟨hi_45, hf⟩ := gd_s hf
            refine r_iald (pc := 45) C hP 2 rfl hi_45 dX11_between_45 ?_
            refine lv_iload_n (pc := 46) hx hb dX11_between_46 rfl (lv_at hl 1 rfl) ?_
            refine lv_icmp_ne (pc := 47) (tgt := 52) hx hb dX11_between_47 (by decide) (fun c_47 => ?_) (fun c_47 => ?_)
            · replace hf := it_f c_47 hf
              exact hj52  hf _ _ _ (lv_sub hl [0, 1, 2, 3] rfl) hP hD hS
            · replace hf := it_t c_47 hf
              refine lv_iload_n (pc := 50) hx hb dX11_between_50 rfl (lv_at hl 3 rfl) ?_
              cases hf
              rw [hQ]
              exact r_iret C hr hP hD hS rfl dX11_between_51
        clear ej30
        refine lv_icmp_ne (pc := 17) (tgt := 30) hx hb dX11_between_17 (by decide) (fun c_17 => ?_) (fun c_17 => ?_)
        · replace hf := it_f c_17 hf
          exact hj30  hf _ _ _ (lv_sub hl [0, 1, 2, 3] rfl) hP hD hS
        · replace hf := it_t c_17 hf
          refine lv_aload_n (pc := 20) hx hb dX11_between_20 rfl (lv_at hl 0 rfl) ?_
          refine r_get (pc := 21) C hP 0 rfl fl_X11_18 rfl dX11_between_21 ?_
          refine lv_iload_n (pc := 24) hx hb dX11_between_24 rfl (lv_at hl 3 rfl) ?_
          obtain ⟨hi_25, hf⟩ := gd_s hf
          refine r_iald (pc := 25) C hP 2 rfl hi_25 dX11_between_25 ?_
          refine lv_iload_n (pc := 26) hx hb dX11_between_26 rfl (lv_at hl 2 rfl) ?_
          refine lv_icmp_eq (pc := 27) (tgt := 50) hx hb dX11_between_27 (by decide) (fun c_27 => ?_) (fun c_27 => ?_)
          · replace hf := it_t c_27 hf
            refine lv_iload_n (pc := 50) hx hb dX11_between_50 rfl (lv_at hl 3 rfl) ?_
            cases hf
            rw [hQ]
            exact r_iret C hr hP hD hS rfl dX11_between_51
          · replace hf := it_f c_27 hf
            exact hj30  hf _ _ _ (lv_sub hl [0, 1, 2, 3] rfl) hP hD hS
  exact key2 _ 0 hf _ _ _ (lv_sub hl [1, 2, 3, 0] rfl) hP hD hS
def wX12_readDoor (E : EN) (h h_read h_tape h_far h_from h_real h_other h_kept h_set h_w h_book h_noteSort h_whose h_what h_noteIs h_fitting h_dawn h_likes h_walked h_came h_read_creak h_read_doorA h_read_doorB h_read_how h_read_lies h_read_isCold h_read_falls h_read_isFull h_read_isTold h_read_act h_read_what h_read_then h_read_met h_read_bed h_read_dream h_read_listens h_read_name h_read_nameSort h_read_nameNumber : Nat) (v_thrown : Int32) (v_trouble : Int32) (v_where : Int32) (v_inn : Option Nat) (v_taped : Int32) (v_size : Int32) (v_at : Int32) (v_sort : Int32) (v_place : Int32) (v_sign : Int32) (v_number : Int32) (v_fault : Int32) (v_wrongAt : Int32) (v_word : Int64) (v_marks : Int32) (v_notes : Int32) (v_read_minutes : Int32) (v_read_rooms : Int32) (v_read_doors : Int32) (v_read_things : Int32) (v_read_dreams : Int32) (v_read_sleepers : Int32) (v_read_listeners : Int32) (v_read_names : Int32) (v_tape : Nat → Int32) (v_read_name : Nat → Int64) (v_read_nameNumber : Nat → Int32) (v_read_nameSort : Nat → Int32) (v_read_doorA : Nat → Int32) (v_read_doorB : Nat → Int32) (v_read_how : Nat → Int32) (v_read_falls : Nat → Int32) : va_W := [(h, .inr (11, [.int v_thrown, .int v_trouble, .int v_where, va_rf v_inn, .ref h_read, .ref h_tape, .int v_taped, .int v_size, .int v_at, .int v_sort, .int v_place, .int v_sign, .int v_number, .int v_fault, .int v_wrongAt, .long v_word, .ref h_far, .ref h_from, .ref h_real, .ref h_other, .ref h_kept, .ref h_set, .ref h_w, .int v_marks, .int v_notes, .ref h_book, .ref h_noteSort, .ref h_whose, .ref h_what, .ref h_noteIs, .ref h_fitting, .ref h_dawn, .ref h_likes, .ref h_walked, .ref h_came])), (h_read, .inr (10, [.int v_read_minutes, .int v_read_rooms, .int v_read_doors, .int v_read_things, .int v_read_dreams, .int v_read_sleepers, .int v_read_listeners, .int v_read_names, .ref h_read_creak, .ref h_read_doorA, .ref h_read_doorB, .ref h_read_how, .ref h_read_lies, .ref h_read_isCold, .ref h_read_falls, .ref h_read_isFull, .ref h_read_isTold, .ref h_read_act, .ref h_read_what, .ref h_read_then, .ref h_read_met, .ref h_read_bed, .ref h_read_dream, .ref h_read_listens, .ref h_read_name, .ref h_read_nameSort, .ref h_read_nameNumber])), (h_tape, aB E 900 v_tape), (h_read_name, aJ E 19 v_read_name), (h_read_nameNumber, aI E 19 v_read_nameNumber), (h_read_nameSort, aI E 19 v_read_nameSort), (h_read_doorA, aI E 10 v_read_doorA), (h_read_doorB, aI E 10 v_read_doorB), (h_read_how, aI E 10 v_read_how), (h_read_falls, aZ E 10 v_read_falls)]
def fX12_readDoor (N : Nat) (v_size : Int32) (v_at : Int32) (v_sort : Int32) (v_place : Int32) (v_sign : Int32) (v_number : Int32) (v_fault : Int32) (v_wrongAt : Int32) (v_word : Int64) (v_read_doors : Int32) (v_read_names : Int32) (v_tape : Nat → Int32) (v_read_name : Nat → Int64) (v_read_nameNumber : Nat → Int32) (v_read_nameSort : Nat → Int32) (v_read_doorA : Nat → Int32) (v_read_doorB : Nat → Int32) (v_read_how : Nat → Int32) (v_read_falls : Nat → Int32) : Option (Int32 × Int32 × Int32 × Int32 × Int32 × Int32 × Int32 × Int64 × Int32 × (Nat → Int32) × (Nat → Int32) × (Nat → Int32) × (Nat → Int32)) := (fX12_begins N v_read_doors 10 v_size v_at v_sort v_place v_sign v_number v_fault v_wrongAt v_word v_tape).bind (un8 fun (v_at_10 : Int32) (v_sort_10 : Int32) (v_place_10 : Int32) (v_sign_10 : Int32) (v_number_10 : Int32) (v_fault_10 : Int32) (v_wrongAt_10 : Int32) (v_word_10 : Int64) => (fX12_readKnown N 0 v_size v_at_10 v_sort_10 v_place_10 v_sign_10 v_number_10 v_fault_10 v_wrongAt_10 v_word_10 v_read_names v_read_name v_read_nameNumber v_read_nameSort v_tape).bind (un9 fun (r_15 : Int32) (v_at_15 : Int32) (v_sort_15 : Int32) (v_place_15 : Int32) (v_sign_15 : Int32) (v_number_15 : Int32) (v_fault_15 : Int32) (v_wrongAt_15 : Int32) (v_word_15 : Int64) => (fX12_needsSign N 44 v_size v_at_15 v_sort_15 v_place_15 v_sign_15 v_number_15 v_fault_15 v_wrongAt_15 v_word_15 v_tape).bind (un8 fun (v_at_22 : Int32) (v_sort_22 : Int32) (v_place_22 : Int32) (v_sign_22 : Int32) (v_number_22 : Int32) (v_fault_22 : Int32) (v_wrongAt_22 : Int32) (v_word_22 : Int64) => (fX12_known N 0 v_sort_22 v_place_22 v_fault_22 v_wrongAt_22 v_word_22 v_read_names v_read_name v_read_nameNumber v_read_nameSort).bind (un4 fun (r_27 : Int32) (v_sort_27 : Int32) (v_fault_27 : Int32) (v_wrongAt_27 : Int32) => jn (un3 fun (x54_sort : Int32) (x54_fault : Int32) (x54_wrongAt : Int32) => (fX12_goesOn N v_size v_at_22 x54_sort v_place_22 v_sign_22 v_number_22 v_word_22 v_tape).bind (un6 fun (v_at_55 : Int32) (v_sort_55 : Int32) (v_place_55 : Int32) (v_sign_55 : Int32) (v_number_55 : Int32) (v_word_55 : Int64) => (fX12_eatsWord N 8 v_size v_at_55 v_sort_55 v_place_55 v_sign_55 v_number_55 v_word_55 v_tape).bind (un7 fun (r_61 : Int32) (v_at_61 : Int32) (v_sort_61 : Int32) (v_place_61 : Int32) (v_sign_61 : Int32) (v_number_61 : Int32) (v_word_61 : Int64) => jn (un7 fun (x85_s0 : Int32) (x85_at : Int32) (x85_sort : Int32) (x85_place : Int32) (x85_sign : Int32) (x85_number : Int32) (x85_word : Int64) => (fX12_eatsWord N 10 v_size x85_at x85_sort x85_place x85_sign x85_number x85_word v_tape).bind (un7 fun (r_89 : Int32) (v_at_89 : Int32) (v_sort_89 : Int32) (v_place_89 : Int32) (v_sign_89 : Int32) (v_number_89 : Int32) (v_word_89 : Int64) => if v_sort_89 = 5 then (some (v_at_89, v_sort_89, v_place_89, v_sign_89, v_number_89, x54_fault, x54_wrongAt, v_word_89, v_read_doors, v_read_doorA, v_read_doorB, v_read_how, v_read_falls)) else (gd v_read_doors 10 (gd v_read_doors 10 (gd v_read_doors 10 (gd v_read_doors 10 (zg r_89 (some (v_at_89, v_sort_89, v_place_89, v_sign_89, v_number_89, x54_fault, x54_wrongAt, v_word_89, v_read_doors + 1, upd v_read_doorA v_read_doors.toNatClampNeg r_15, upd v_read_doorB v_read_doors.toNatClampNeg r_27, upd v_read_how v_read_doors.toNatClampNeg x85_s0, upd v_read_falls v_read_doors.toNatClampNeg r_89))))))))) (fun j85 => if r_61 = 0 then ((fX12_eatsWord N 9 v_size v_at_61 v_sort_61 v_place_61 v_sign_61 v_number_61 v_word_61 v_tape).bind (un7 fun (r_74 : Int32) (v_at_74 : Int32) (v_sort_74 : Int32) (v_place_74 : Int32) (v_sign_74 : Int32) (v_number_74 : Int32) (v_word_74 : Int64) => if r_74 = 0 then (j85 (0, v_at_74, v_sort_74, v_place_74, v_sign_74, v_number_74, v_word_74)) else (j85 (2, v_at_74, v_sort_74, v_place_74, v_sign_74, v_number_74, v_word_74)))) else (j85 (1, v_at_61, v_sort_61, v_place_61, v_sign_61, v_number_61, v_word_61)))))) (fun j54 => jn (un0 ((fX12_wrong N 3 v_sort_27 v_place_22 v_fault_27 v_wrongAt_27).bind (un3 fun (v_sort_51 : Int32) (v_fault_51 : Int32) (v_wrongAt_51 : Int32) => j54 (v_sort_51, v_fault_51, v_wrongAt_51)))) (fun j49 => if r_15 = r_27 then (j49 ()) else ((fX11_between N r_15 r_27 v_read_doors v_read_doorA v_read_doorB).bind (un1 fun (r_42 : Int32) => if r_42 = (-1) then (j54 (v_sort_27, v_fault_27, v_wrongAt_27)) else (j49 ())))))))))
set_option maxHeartbeats 4000000 in
set_option maxRecDepth 100000 in
theorem ctX12_readDoor (l : Launch) (E : EN) (h h_read h_tape h_far h_from h_real h_other h_kept h_set h_w h_book h_noteSort h_whose h_what h_noteIs h_fitting h_dawn h_likes h_walked h_came h_read_creak h_read_doorA h_read_doorB h_read_how h_read_lies h_read_isCold h_read_falls h_read_isFull h_read_isTold h_read_act h_read_what h_read_then h_read_met h_read_bed h_read_dream h_read_listens h_read_name h_read_nameSort h_read_nameNumber : Nat) (v_thrown : Int32) (v_trouble : Int32) (v_where : Int32) (v_inn : Option Nat) (v_taped : Int32) (v_size : Int32) (v_at : Int32) (v_sort : Int32) (v_place : Int32) (v_sign : Int32) (v_number : Int32) (v_fault : Int32) (v_wrongAt : Int32) (v_word : Int64) (v_marks : Int32) (v_notes : Int32) (v_read_minutes : Int32) (v_read_rooms : Int32) (v_read_doors : Int32) (v_read_things : Int32) (v_read_dreams : Int32) (v_read_sleepers : Int32) (v_read_listeners : Int32) (v_read_names : Int32) (v_tape : Nat → Int32) (v_read_name : Nat → Int64) (v_read_nameNumber : Nat → Int32) (v_read_nameSort : Nat → Int32) (v_read_doorA : Nat → Int32) (v_read_doorB : Nat → Int32) (v_read_how : Nat → Int32) (v_read_falls : Nat → Int32) (N : Nat) (z : Int32 × Int32 × Int32 × Int32 × Int32 × Int32 × Int32 × Int64 × Int32 × (Nat → Int32) × (Nat → Int32) × (Nat → Int32) × (Nat → Int32)) (hf : fX12_readDoor N v_size v_at v_sort v_place v_sign v_number v_fault v_wrongAt v_word v_read_doors v_read_names v_tape v_read_name v_read_nameNumber v_read_nameSort v_read_doorA v_read_doorB v_read_how v_read_falls = some z) : CTv l E yX12_readDoor cX12_readDoor 5 9 193 [.ref h] (wX12_readDoor E h h_read h_tape h_far h_from h_real h_other h_kept h_set h_w h_book h_noteSort h_whose h_what h_noteIs h_fitting h_dawn h_likes h_walked h_came h_read_creak h_read_doorA h_read_doorB h_read_how h_read_lies h_read_isCold h_read_falls h_read_isFull h_read_isTold h_read_act h_read_what h_read_then h_read_met h_read_bed h_read_dream h_read_listens h_read_name h_read_nameSort h_read_nameNumber v_thrown v_trouble v_where v_inn v_taped v_size v_at v_sort v_place v_sign v_number v_fault v_wrongAt v_word v_marks v_notes v_read_minutes v_read_rooms v_read_doors v_read_things v_read_dreams v_read_sleepers v_read_listeners v_read_names v_tape v_read_name v_read_nameNumber v_read_nameSort v_read_doorA v_read_doorB v_read_how v_read_falls) (wX12_readDoor E h h_read h_tape h_far h_from h_real h_other h_kept h_set h_w h_book h_noteSort h_whose h_what h_noteIs h_fitting h_dawn h_likes h_walked h_came h_read_creak h_read_doorA h_read_doorB h_read_how h_read_lies h_read_isCold h_read_falls h_read_isFull h_read_isTold h_read_act h_read_what h_read_then h_read_met h_read_bed h_read_dream h_read_listens h_read_name h_read_nameSort h_read_nameNumber v_thrown v_trouble v_where v_inn v_taped v_size z.1 z.2.1 z.2.2.1 z.2.2.2.1 z.2.2.2.2.1 z.2.2.2.2.2.1 z.2.2.2.2.2.2.1 z.2.2.2.2.2.2.2.1 v_marks v_notes v_read_minutes v_read_rooms z.2.2.2.2.2.2.2.2.1 v_read_things v_read_dreams v_read_sleepers v_read_listeners v_read_names v_tape v_read_name v_read_nameNumber v_read_nameSort z.2.2.2.2.2.2.2.2.2.1 z.2.2.2.2.2.2.2.2.2.2.1 z.2.2.2.2.2.2.2.2.2.2.2.1 z.2.2.2.2.2.2.2.2.2.2.2.2) := by
  intro sz
  refine ct_body (by decide) (Nat.le_of_ble_eq_true rfl) ?_
  intro p e s m args below meth c A ls hAe C hr hin hP hD hS hl
  have C : CX p s m args meth c cX12_readDoor RX12 5 E A := C
  have hl : lv_has ls 5 [(0, .ref h)] := hl
  have hx := C.1
  have hb := C.2.1
  rw [hAe]
  clear hAe
  obtain ⟨Q, hQ⟩ : ∃ Q, Q = MQ below (Qv E A (wX12_readDoor E h h_read h_tape h_far h_from h_real h_other h_kept h_set h_w h_book h_noteSort h_whose h_what h_noteIs h_fitting h_dawn h_likes h_walked h_came h_read_creak h_read_doorA h_read_doorB h_read_how h_read_lies h_read_isCold h_read_falls h_read_isFull h_read_isTold h_read_act h_read_what h_read_then h_read_met h_read_bed h_read_dream h_read_listens h_read_name h_read_nameSort h_read_nameNumber v_thrown v_trouble v_where v_inn v_taped v_size z.1 z.2.1 z.2.2.1 z.2.2.2.1 z.2.2.2.2.1 z.2.2.2.2.2.1 z.2.2.2.2.2.2.1 z.2.2.2.2.2.2.2.1 v_marks v_notes v_read_minutes v_read_rooms z.2.2.2.2.2.2.2.2.1 v_read_things v_read_dreams v_read_sleepers v_read_listeners v_read_names v_tape v_read_name v_read_nameNumber v_read_nameSort z.2.2.2.2.2.2.2.2.2.1 z.2.2.2.2.2.2.2.2.2.2.1 z.2.2.2.2.2.2.2.2.2.2.2.1 z.2.2.2.2.2.2.2.2.2.2.2.2)) args s 0 0 A := ⟨_, rfl⟩
  rw [← hQ]
  unfold fX12_readDoor at hf
  refine lv_aload_n (pc := 0) hx hb dX12_readDoor_0 rfl (lv_at hl 0 rfl) ?_
  refine lv_aload_n (pc := 1) hx hb dX12_readDoor_1 rfl (lv_at hl 0 rfl) ?_
  refine r_get (pc := 2) C hP 0 rfl fl_X12_202 rfl dX12_readDoor_2 ?_
  refine r_get (pc := 5) C hP 1 rfl fl_X12_292 rfl dX12_readDoor_5 ?_
  refine lv_bipush (pc := 8) (v := 10) hx hb dX12_readDoor_8 (by decide) ?_
  obtain ⟨v_at_10, v_sort_10, v_place_10, v_sign_10, v_number_10, v_fault_10, v_wrongAt_10, v_word_10, hc_10, hf⟩ := bd8 hf
  refine r_dalVv (pc := 10) (ws' := (wX12_readDoor E h h_read h_tape h_far h_from h_real h_other h_kept h_set h_w h_book h_noteSort h_whose h_what h_noteIs h_fitting h_dawn h_likes h_walked h_came h_read_creak h_read_doorA h_read_doorB h_read_how h_read_lies h_read_isCold h_read_falls h_read_isFull h_read_isTold h_read_act h_read_what h_read_then h_read_met h_read_bed h_read_dream h_read_listens h_read_name h_read_nameSort h_read_nameNumber v_thrown v_trouble v_where v_inn v_taped v_size v_at_10 v_sort_10 v_place_10 v_sign_10 v_number_10 v_fault_10 v_wrongAt_10 v_word_10 v_marks v_notes v_read_minutes v_read_rooms v_read_doors v_read_things v_read_dreams v_read_sleepers v_read_listeners v_read_names v_tape v_read_name v_read_nameNumber v_read_nameSort v_read_doorA v_read_doorB v_read_how v_read_falls)) (As := [.int v_read_doors, .int 10]) (rest := []) C (ctX12_begins l E h h_tape h_far h_from h_real h_other h_kept h_set h_w h_book h_noteSort h_whose h_what h_noteIs h_fitting h_dawn h_likes h_walked h_came v_thrown v_trouble v_where v_inn (some h_read) v_taped v_size v_at v_sort v_place v_sign v_number v_fault v_wrongAt v_word v_marks v_notes v_tape N v_read_doors 10 (v_at_10, v_sort_10, v_place_10, v_sign_10, v_number_10, v_fault_10, v_wrongAt_10, v_word_10) hc_10) ml_X12_276 ⟨Nat.le_of_ble_eq_true rfl, Nat.le_of_ble_eq_true rfl⟩ hP hD hS 0 rfl rfl rfl [0, 2] [10, 1, 11, 3, 4, 5, 6, 7, 8, 9] 10 rfl rfl rfl rfl rfl rfl rfl hl.1 rfl (Nat.le_of_ble_eq_true rfl) ⟨Nat.zero_le _, Nat.zero_le _⟩ dX12_readDoor_10 ?_
  clear hP hD hS; intro H locs hP hD hS
  refine lv_aload_n (pc := 13) hx hb dX12_readDoor_13 rfl (lv_at hl 0 rfl) ?_
  refine lv_iconst (pc := 14) (v := 0) hx hb dX12_readDoor_14 (by decide) ?_
  obtain ⟨r_15, v_at_15, v_sort_15, v_place_15, v_sign_15, v_number_15, v_fault_15, v_wrongAt_15, v_word_15, hc_15, hf⟩ := bd9 hf
  refine r_dalVi (pc := 15) (ws' := (wX12_readDoor E h h_read h_tape h_far h_from h_real h_other h_kept h_set h_w h_book h_noteSort h_whose h_what h_noteIs h_fitting h_dawn h_likes h_walked h_came h_read_creak h_read_doorA h_read_doorB h_read_how h_read_lies h_read_isCold h_read_falls h_read_isFull h_read_isTold h_read_act h_read_what h_read_then h_read_met h_read_bed h_read_dream h_read_listens h_read_name h_read_nameSort h_read_nameNumber v_thrown v_trouble v_where v_inn v_taped v_size v_at_15 v_sort_15 v_place_15 v_sign_15 v_number_15 v_fault_15 v_wrongAt_15 v_word_15 v_marks v_notes v_read_minutes v_read_rooms v_read_doors v_read_things v_read_dreams v_read_sleepers v_read_listeners v_read_names v_tape v_read_name v_read_nameNumber v_read_nameSort v_read_doorA v_read_doorB v_read_how v_read_falls)) (As := [.int 0]) (rest := []) C (ctX12_readKnown l E h h_read h_tape h_far h_from h_real h_other h_kept h_set h_w h_book h_noteSort h_whose h_what h_noteIs h_fitting h_dawn h_likes h_walked h_came h_read_creak h_read_doorA h_read_doorB h_read_how h_read_lies h_read_isCold h_read_falls h_read_isFull h_read_isTold h_read_act h_read_what h_read_then h_read_met h_read_bed h_read_dream h_read_listens h_read_name h_read_nameSort h_read_nameNumber v_thrown v_trouble v_where v_inn v_taped v_size v_at_10 v_sort_10 v_place_10 v_sign_10 v_number_10 v_fault_10 v_wrongAt_10 v_word_10 v_marks v_notes v_read_minutes v_read_rooms v_read_doors v_read_things v_read_dreams v_read_sleepers v_read_listeners v_read_names v_read_name v_read_nameNumber v_read_nameSort v_tape N 0 (r_15, v_at_15, v_sort_15, v_place_15, v_sign_15, v_number_15, v_fault_15, v_wrongAt_15, v_word_15) hc_15) ml_X12_295 ⟨Nat.le_of_ble_eq_true rfl, Nat.le_of_ble_eq_true rfl⟩ hP hD hS 0 rfl rfl rfl [0, 1, 3, 4, 5, 2] [10, 11, 15, 12, 13, 14, 6, 7, 8, 9] 10 rfl rfl rfl rfl rfl rfl rfl hl.1 rfl (Nat.le_of_ble_eq_true rfl) ⟨Nat.zero_le _, Nat.zero_le _⟩ dX12_readDoor_15 ?_
  clear hP hD hS; intro H locs hP hD hS
  refine lv_istore_n (pc := 18) (lv' := [(1, .int r_15), (0, .ref h)]) hx hb dX12_readDoor_18 rfl hl (by decide) rfl (fun ls hl => ?_)
  refine lv_aload_n (pc := 19) hx hb dX12_readDoor_19 rfl (lv_at hl 1 rfl) ?_
  refine lv_bipush (pc := 20) (v := 44) hx hb dX12_readDoor_20 (by decide) ?_
  obtain ⟨v_at_22, v_sort_22, v_place_22, v_sign_22, v_number_22, v_fault_22, v_wrongAt_22, v_word_22, hc_22, hf⟩ := bd8 hf
  refine r_dalVv (pc := 22) (ws' := (wX12_readDoor E h h_read h_tape h_far h_from h_real h_other h_kept h_set h_w h_book h_noteSort h_whose h_what h_noteIs h_fitting h_dawn h_likes h_walked h_came h_read_creak h_read_doorA h_read_doorB h_read_how h_read_lies h_read_isCold h_read_falls h_read_isFull h_read_isTold h_read_act h_read_what h_read_then h_read_met h_read_bed h_read_dream h_read_listens h_read_name h_read_nameSort h_read_nameNumber v_thrown v_trouble v_where v_inn v_taped v_size v_at_22 v_sort_22 v_place_22 v_sign_22 v_number_22 v_fault_22 v_wrongAt_22 v_word_22 v_marks v_notes v_read_minutes v_read_rooms v_read_doors v_read_things v_read_dreams v_read_sleepers v_read_listeners v_read_names v_tape v_read_name v_read_nameNumber v_read_nameSort v_read_doorA v_read_doorB v_read_how v_read_falls)) (As := [.int 44]) (rest := []) C (ctX12_needsSign l E h h_tape h_far h_from h_real h_other h_kept h_set h_w h_book h_noteSort h_whose h_what h_noteIs h_fitting h_dawn h_likes h_walked h_came v_thrown v_trouble v_where v_inn (some h_read) v_taped v_size v_at_15 v_sort_15 v_place_15 v_sign_15 v_number_15 v_fault_15 v_wrongAt_15 v_word_15 v_marks v_notes v_tape N 44 (v_at_22, v_sort_22, v_place_22, v_sign_22, v_number_22, v_fault_22, v_wrongAt_22, v_word_22) hc_22) ml_X12_298 ⟨Nat.le_of_ble_eq_true rfl, Nat.le_of_ble_eq_true rfl⟩ hP hD hS 0 rfl rfl rfl [0, 2] [10, 1, 11, 3, 4, 5, 6, 7, 8, 9] 10 rfl rfl rfl rfl rfl rfl rfl hl.1 rfl (Nat.le_of_ble_eq_true rfl) ⟨Nat.zero_le _, Nat.zero_le _⟩ dX12_readDoor_22 ?_
  clear hP hD hS; intro H locs hP hD hS
  refine lv_aload_n (pc := 25) hx hb dX12_readDoor_25 rfl (lv_at hl 1 rfl) ?_
  refine lv_iconst (pc := 26) (v := 0) hx hb dX12_readDoor_26 (by decide) ?_
  obtain ⟨r_27, v_sort_27, v_fault_27, v_wrongAt_27, hc_27, hf⟩ := bd4 hf
  refine r_dalVi (pc := 27) (ws' := (wX12_readDoor E h h_read h_tape h_far h_from h_real h_other h_kept h_set h_w h_book h_noteSort h_whose h_what h_noteIs h_fitting h_dawn h_likes h_walked h_came h_read_creak h_read_doorA h_read_doorB h_read_how h_read_lies h_read_isCold h_read_falls h_read_isFull h_read_isTold h_read_act h_read_what h_read_then h_read_met h_read_bed h_read_dream h_read_listens h_read_name h_read_nameSort h_read_nameNumber v_thrown v_trouble v_where v_inn v_taped v_size v_at_22 v_sort_27 v_place_22 v_sign_22 v_number_22 v_fault_27 v_wrongAt_27 v_word_22 v_marks v_notes v_read_minutes v_read_rooms v_read_doors v_read_things v_read_dreams v_read_sleepers v_read_listeners v_read_names v_tape v_read_name v_read_nameNumber v_read_nameSort v_read_doorA v_read_doorB v_read_how v_read_falls)) (As := [.int 0]) (rest := []) C (ctX12_known l E h h_read h_tape h_far h_from h_real h_other h_kept h_set h_w h_book h_noteSort h_whose h_what h_noteIs h_fitting h_dawn h_likes h_walked h_came h_read_creak h_read_doorA h_read_doorB h_read_how h_read_lies h_read_isCold h_read_falls h_read_isFull h_read_isTold h_read_act h_read_what h_read_then h_read_met h_read_bed h_read_dream h_read_listens h_read_name h_read_nameSort h_read_nameNumber v_thrown v_trouble v_where v_inn v_taped v_size v_at_22 v_sort_22 v_place_22 v_sign_22 v_number_22 v_fault_22 v_wrongAt_22 v_word_22 v_marks v_notes v_read_minutes v_read_rooms v_read_doors v_read_things v_read_dreams v_read_sleepers v_read_listeners v_read_names v_read_name v_read_nameNumber v_read_nameSort N 0 (r_27, v_sort_27, v_fault_27, v_wrongAt_27) hc_27) ml_X12_232 ⟨Nat.le_of_ble_eq_true rfl, Nat.le_of_ble_eq_true rfl⟩ hP hD hS 0 rfl rfl rfl [0, 1, 3, 4, 5] [10, 11, 2, 12, 13, 14, 6, 7, 8, 9] 10 rfl rfl rfl rfl rfl rfl rfl hl.1 rfl (Nat.le_of_ble_eq_true rfl) ⟨Nat.zero_le _, Nat.zero_le _⟩ dX12_readDoor_27 ?_
  clear hP hD hS; intro H locs hP hD hS
  refine lv_istore_n (pc := 30) (lv' := [(2, .int r_27), (1, .int r_15), (0, .ref h)]) hx hb dX12_readDoor_30 rfl hl (by decide) rfl (fun ls hl => ?_)
  refine lv_iload_n (pc := 31) hx hb dX12_readDoor_31 rfl (lv_at hl 1 rfl) ?_
  refine lv_iload_n (pc := 32) hx hb dX12_readDoor_32 rfl (lv_at hl 0 rfl) ?_
  refine jnK hf (fun j54 ej54 hf => ?_)
  have hj54 : ∀ (x54_sort : Int32) (x54_fault : Int32) (x54_wrongAt : Int32) , j54 (x54_sort, x54_fault, x54_wrongAt) = some z → AT p l e (rmOf 9 193) s m args below meth c E A Q 0 0 5 [(0, .ref h), (1, .int r_15), (2, .int r_27)] (wX12_readDoor E h h_read h_tape h_far h_from h_real h_other h_kept h_set h_w h_book h_noteSort h_whose h_what h_noteIs h_fitting h_dawn h_likes h_walked h_came h_read_creak h_read_doorA h_read_doorB h_read_how h_read_lies h_read_isCold h_read_falls h_read_isFull h_read_isTold h_read_act h_read_what h_read_then h_read_met h_read_bed h_read_dream h_read_listens h_read_name h_read_nameSort h_read_nameNumber v_thrown v_trouble v_where v_inn v_taped v_size v_at_22 x54_sort v_place_22 v_sign_22 v_number_22 x54_fault x54_wrongAt v_word_22 v_marks v_notes v_read_minutes v_read_rooms v_read_doors v_read_things v_read_dreams v_read_sleepers v_read_listeners v_read_names v_tape v_read_name v_read_nameNumber v_read_nameSort v_read_doorA v_read_doorB v_read_how v_read_falls) 54 [] := by
    intro x54_sort x54_fault x54_wrongAt hf H locs ls hl hP hD hS
    rw [ej54] at hf
    replace hf := un3_s hf
    refine lv_aload_n (pc := 54) hx hb dX12_readDoor_54 rfl (lv_at hl 0 rfl) ?_
    obtain ⟨v_at_55, v_sort_55, v_place_55, v_sign_55, v_number_55, v_word_55, hc_55, hf⟩ := bd6 hf
    refine r_dalVv (pc := 55) (ws' := (wX12_readDoor E h h_read h_tape h_far h_from h_real h_other h_kept h_set h_w h_book h_noteSort h_whose h_what h_noteIs h_fitting h_dawn h_likes h_walked h_came h_read_creak h_read_doorA h_read_doorB h_read_how h_read_lies h_read_isCold h_read_falls h_read_isFull h_read_isTold h_read_act h_read_what h_read_then h_read_met h_read_bed h_read_dream h_read_listens h_read_name h_read_nameSort h_read_nameNumber v_thrown v_trouble v_where v_inn v_taped v_size v_at_55 v_sort_55 v_place_55 v_sign_55 v_number_55 x54_fault x54_wrongAt v_word_55 v_marks v_notes v_read_minutes v_read_rooms v_read_doors v_read_things v_read_dreams v_read_sleepers v_read_listeners v_read_names v_tape v_read_name v_read_nameNumber v_read_nameSort v_read_doorA v_read_doorB v_read_how v_read_falls)) (As := []) (rest := []) C (ctX12_goesOn l E h h_tape h_far h_from h_real h_other h_kept h_set h_w h_book h_noteSort h_whose h_what h_noteIs h_fitting h_dawn h_likes h_walked h_came v_thrown v_trouble v_where v_inn (some h_read) v_taped v_size v_at_22 x54_sort v_place_22 v_sign_22 v_number_22 x54_fault x54_wrongAt v_word_22 v_marks v_notes v_tape N (v_at_55, v_sort_55, v_place_55, v_sign_55, v_number_55, v_word_55) hc_55) ml_X12_142 ⟨Nat.le_of_ble_eq_true rfl, Nat.le_of_ble_eq_true rfl⟩ hP hD hS 0 rfl rfl rfl [0, 2] [10, 1, 11, 3, 4, 5, 6, 7, 8, 9] 10 rfl rfl rfl rfl rfl rfl rfl hl.1 rfl (Nat.le_of_ble_eq_true rfl) ⟨Nat.zero_le _, Nat.zero_le _⟩ dX12_readDoor_55 ?_
    clear hP hD hS; intro H locs hP hD hS
    refine lv_aload_n (pc := 58) hx hb dX12_readDoor_58 rfl (lv_at hl 0 rfl) ?_
    refine r_ldcS (pc := 59) C (C.kx.2.2.2.2.2 8 (by decide)).2.2.2.2 dX12_readDoor_59 ?_
    obtain ⟨r_61, v_at_61, v_sort_61, v_place_61, v_sign_61, v_number_61, v_word_61, hc_61, hf⟩ := bd7 hf
    refine r_dalVi (pc := 61) (ws' := (wX12_readDoor E h h_read h_tape h_far h_from h_real h_other h_kept h_set h_w h_book h_noteSort h_whose h_what h_noteIs h_fitting h_dawn h_likes h_walked h_came h_read_creak h_read_doorA h_read_doorB h_read_how h_read_lies h_read_isCold h_read_falls h_read_isFull h_read_isTold h_read_act h_read_what h_read_then h_read_met h_read_bed h_read_dream h_read_listens h_read_name h_read_nameSort h_read_nameNumber v_thrown v_trouble v_where v_inn v_taped v_size v_at_61 v_sort_61 v_place_61 v_sign_61 v_number_61 x54_fault x54_wrongAt v_word_61 v_marks v_notes v_read_minutes v_read_rooms v_read_doors v_read_things v_read_dreams v_read_sleepers v_read_listeners v_read_names v_tape v_read_name v_read_nameNumber v_read_nameSort v_read_doorA v_read_doorB v_read_how v_read_falls)) (As := [.ref (E.2.2.2.2.1 8)]) (rest := []) C (ctX12_eatsWord l E h h_tape h_far h_from h_real h_other h_kept h_set h_w h_book h_noteSort h_whose h_what h_noteIs h_fitting h_dawn h_likes h_walked h_came v_thrown v_trouble v_where v_inn (some h_read) v_taped v_size v_at_55 v_sort_55 v_place_55 v_sign_55 v_number_55 x54_fault x54_wrongAt v_word_55 v_marks v_notes v_tape 8 (by decide) N (r_61, v_at_61, v_sort_61, v_place_61, v_sign_61, v_number_61, v_word_61) hc_61) ml_X12_284 ⟨Nat.le_of_ble_eq_true rfl, Nat.le_of_ble_eq_true rfl⟩ hP hD hS 0 rfl rfl rfl [0, 2] [10, 1, 11, 3, 4, 5, 6, 7, 8, 9] 10 rfl rfl rfl rfl rfl rfl rfl hl.1 rfl (Nat.le_of_ble_eq_true rfl) ⟨Nat.zero_le _, Nat.zero_le _⟩ dX12_readDoor_61 ?_
    clear hP hD hS; intro H locs hP hD hS
    refine jnK hf (fun j85 ej85 hf => ?_)
    have hj85 : ∀ (x85_s0 : Int32) (x85_at : Int32) (x85_sort : Int32) (x85_place : Int32) (x85_sign : Int32) (x85_number : Int32) (x85_word : Int64) , j85 (x85_s0, x85_at, x85_sort, x85_place, x85_sign, x85_number, x85_word) = some z → AT p l e (rmOf 9 193) s m args below meth c E A Q 0 0 5 [(0, .ref h), (1, .int r_15), (2, .int r_27)] (wX12_readDoor E h h_read h_tape h_far h_from h_real h_other h_kept h_set h_w h_book h_noteSort h_whose h_what h_noteIs h_fitting h_dawn h_likes h_walked h_came h_read_creak h_read_doorA h_read_doorB h_read_how h_read_lies h_read_isCold h_read_falls h_read_isFull h_read_isTold h_read_act h_read_what h_read_then h_read_met h_read_bed h_read_dream h_read_listens h_read_name h_read_nameSort h_read_nameNumber v_thrown v_trouble v_where v_inn v_taped v_size x85_at x85_sort x85_place x85_sign x85_number x54_fault x54_wrongAt x85_word v_marks v_notes v_read_minutes v_read_rooms v_read_doors v_read_things v_read_dreams v_read_sleepers v_read_listeners v_read_names v_tape v_read_name v_read_nameNumber v_read_nameSort v_read_doorA v_read_doorB v_read_how v_read_falls) 85 [.int x85_s0] := by
      intro x85_s0 x85_at x85_sort x85_place x85_sign x85_number x85_word hf H locs ls hl hP hD hS
      rw [ej85] at hf
      replace hf := un7_s hf
      refine lv_istore_n (pc := 85) (lv' := [(3, .int x85_s0), (0, .ref h), (1, .int r_15), (2, .int r_27)]) hx hb dX12_readDoor_85 rfl hl (by decide) rfl (fun ls hl => ?_)
      refine lv_aload_n (pc := 86) hx hb dX12_readDoor_86 rfl (lv_at hl 1 rfl) ?_
      refine r_ldcS (pc := 87) C (C.kx.2.2.2.2.2 10 (by decide)).2.2.2.2 dX12_readDoor_87 ?_
      obtain ⟨r_89, v_at_89, v_sort_89, v_place_89, v_sign_89, v_number_89, v_word_89, hc_89, hf⟩ := bd7 hf
      refine r_dalVi (pc := 89) (ws' := (wX12_readDoor E h h_read h_tape h_far h_from h_real h_other h_kept h_set h_w h_book h_noteSort h_whose h_what h_noteIs h_fitting h_dawn h_likes h_walked h_came h_read_creak h_read_doorA h_read_doorB h_read_how h_read_lies h_read_isCold h_read_falls h_read_isFull h_read_isTold h_read_act h_read_what h_read_then h_read_met h_read_bed h_read_dream h_read_listens h_read_name h_read_nameSort h_read_nameNumber v_thrown v_trouble v_where v_inn v_taped v_size v_at_89 v_sort_89 v_place_89 v_sign_89 v_number_89 x54_fault x54_wrongAt v_word_89 v_marks v_notes v_read_minutes v_read_rooms v_read_doors v_read_things v_read_dreams v_read_sleepers v_read_listeners v_read_names v_tape v_read_name v_read_nameNumber v_read_nameSort v_read_doorA v_read_doorB v_read_how v_read_falls)) (As := [.ref (E.2.2.2.2.1 10)]) (rest := []) C (ctX12_eatsWord l E h h_tape h_far h_from h_real h_other h_kept h_set h_w h_book h_noteSort h_whose h_what h_noteIs h_fitting h_dawn h_likes h_walked h_came v_thrown v_trouble v_where v_inn (some h_read) v_taped v_size x85_at x85_sort x85_place x85_sign x85_number x54_fault x54_wrongAt x85_word v_marks v_notes v_tape 10 (by decide) N (r_89, v_at_89, v_sort_89, v_place_89, v_sign_89, v_number_89, v_word_89) hc_89) ml_X12_284 ⟨Nat.le_of_ble_eq_true rfl, Nat.le_of_ble_eq_true rfl⟩ hP hD hS 0 rfl rfl rfl [0, 2] [10, 1, 11, 3, 4, 5, 6, 7, 8, 9] 10 rfl rfl rfl rfl rfl rfl rfl hl.1 rfl (Nat.le_of_ble_eq_true rfl) ⟨Nat.zero_le _, Nat.zero_le _⟩ dX12_readDoor_89 ?_
      clear hP hD hS; intro H locs hP hD hS
      refine lv_istore (pc := 92) (lv' := [(4, .int r_89), (3, .int x85_s0), (0, .ref h), (1, .int r_15), (2, .int r_27)]) hx hb dX12_readDoor_92 hl (by decide) rfl (fun ls hl => ?_)
      refine lv_aload_n (pc := 94) hx hb dX12_readDoor_94 rfl (lv_at hl 2 rfl) ?_
      refine r_get (pc := 95) C hP 0 rfl fl_X12_99 rfl dX12_readDoor_95 ?_
      refine lv_iconst (pc := 98) (v := 5) hx hb dX12_readDoor_98 (by decide) ?_
      refine lv_icmp_ne (pc := 99) (tgt := 103) hx hb dX12_readDoor_99 (by decide) (fun c_99 => ?_) (fun c_99 => ?_)
      · replace hf := it_f c_99 hf
        refine lv_aload_n (pc := 103) hx hb dX12_readDoor_103 rfl (lv_at hl 2 rfl) ?_
        refine r_get (pc := 104) C hP 0 rfl fl_X12_202 rfl dX12_readDoor_104 ?_
        refine r_get (pc := 107) C hP 1 rfl fl_X12_304 rfl dX12_readDoor_107 ?_
        refine lv_aload_n (pc := 110) hx hb dX12_readDoor_110 rfl (lv_at hl 2 rfl) ?_
        refine r_get (pc := 111) C hP 0 rfl fl_X12_202 rfl dX12_readDoor_111 ?_
        refine r_get (pc := 114) C hP 1 rfl fl_X12_292 rfl dX12_readDoor_114 ?_
        refine lv_iload_n (pc := 117) hx hb dX12_readDoor_117 rfl (lv_at hl 3 rfl) ?_
        obtain ⟨hi_118, hf⟩ := gd_s hf
        refine r_iast (pc := 118) (ws' := (wX12_readDoor E h h_read h_tape h_far h_from h_real h_other h_kept h_set h_w h_book h_noteSort h_whose h_what h_noteIs h_fitting h_dawn h_likes h_walked h_came h_read_creak h_read_doorA h_read_doorB h_read_how h_read_lies h_read_isCold h_read_falls h_read_isFull h_read_isTold h_read_act h_read_what h_read_then h_read_met h_read_bed h_read_dream h_read_listens h_read_name h_read_nameSort h_read_nameNumber v_thrown v_trouble v_where v_inn v_taped v_size v_at_89 v_sort_89 v_place_89 v_sign_89 v_number_89 x54_fault x54_wrongAt v_word_89 v_marks v_notes v_read_minutes v_read_rooms v_read_doors v_read_things v_read_dreams v_read_sleepers v_read_listeners v_read_names v_tape v_read_name v_read_nameNumber v_read_nameSort (upd v_read_doorA v_read_doors.toNatClampNeg r_15) v_read_doorB v_read_how v_read_falls)) C hP hD hS 6 rfl hi_118 rfl dX12_readDoor_118 ?_
        clear hP hD hS; intro H locs hP hD hS
        refine lv_aload_n (pc := 119) hx hb dX12_readDoor_119 rfl (lv_at hl 2 rfl) ?_
        refine r_get (pc := 120) C hP 0 rfl fl_X12_202 rfl dX12_readDoor_120 ?_
        refine r_get (pc := 123) C hP 1 rfl fl_X12_307 rfl dX12_readDoor_123 ?_
        refine lv_aload_n (pc := 126) hx hb dX12_readDoor_126 rfl (lv_at hl 2 rfl) ?_
        refine r_get (pc := 127) C hP 0 rfl fl_X12_202 rfl dX12_readDoor_127 ?_
        refine r_get (pc := 130) C hP 1 rfl fl_X12_292 rfl dX12_readDoor_130 ?_
        refine lv_iload_n (pc := 133) hx hb dX12_readDoor_133 rfl (lv_at hl 4 rfl) ?_
        obtain ⟨hi_134, hf⟩ := gd_s hf
        refine r_iast (pc := 134) (ws' := (wX12_readDoor E h h_read h_tape h_far h_from h_real h_other h_kept h_set h_w h_book h_noteSort h_whose h_what h_noteIs h_fitting h_dawn h_likes h_walked h_came h_read_creak h_read_doorA h_read_doorB h_read_how h_read_lies h_read_isCold h_read_falls h_read_isFull h_read_isTold h_read_act h_read_what h_read_then h_read_met h_read_bed h_read_dream h_read_listens h_read_name h_read_nameSort h_read_nameNumber v_thrown v_trouble v_where v_inn v_taped v_size v_at_89 v_sort_89 v_place_89 v_sign_89 v_number_89 x54_fault x54_wrongAt v_word_89 v_marks v_notes v_read_minutes v_read_rooms v_read_doors v_read_things v_read_dreams v_read_sleepers v_read_listeners v_read_names v_tape v_read_name v_read_nameNumber v_read_nameSort (upd v_read_doorA v_read_doors.toNatClampNeg r_15) (upd v_read_doorB v_read_doors.toNatClampNeg r_27) v_read_how v_read_falls)) C hP hD hS 7 rfl hi_134 rfl dX12_readDoor_134 ?_
        clear hP hD hS; intro H locs hP hD hS
        refine lv_aload_n (pc := 135) hx hb dX12_readDoor_135 rfl (lv_at hl 2 rfl) ?_
        refine r_get (pc := 136) C hP 0 rfl fl_X12_202 rfl dX12_readDoor_136 ?_
        refine r_get (pc := 139) C hP 1 rfl fl_X12_310 rfl dX12_readDoor_139 ?_
        refine lv_aload_n (pc := 142) hx hb dX12_readDoor_142 rfl (lv_at hl 2 rfl) ?_
        refine r_get (pc := 143) C hP 0 rfl fl_X12_202 rfl dX12_readDoor_143 ?_
        refine r_get (pc := 146) C hP 1 rfl fl_X12_292 rfl dX12_readDoor_146 ?_
        refine lv_iload_n (pc := 149) hx hb dX12_readDoor_149 rfl (lv_at hl 1 rfl) ?_
        obtain ⟨hi_150, hf⟩ := gd_s hf
        refine r_iast (pc := 150) (ws' := (wX12_readDoor E h h_read h_tape h_far h_from h_real h_other h_kept h_set h_w h_book h_noteSort h_whose h_what h_noteIs h_fitting h_dawn h_likes h_walked h_came h_read_creak h_read_doorA h_read_doorB h_read_how h_read_lies h_read_isCold h_read_falls h_read_isFull h_read_isTold h_read_act h_read_what h_read_then h_read_met h_read_bed h_read_dream h_read_listens h_read_name h_read_nameSort h_read_nameNumber v_thrown v_trouble v_where v_inn v_taped v_size v_at_89 v_sort_89 v_place_89 v_sign_89 v_number_89 x54_fault x54_wrongAt v_word_89 v_marks v_notes v_read_minutes v_read_rooms v_read_doors v_read_things v_read_dreams v_read_sleepers v_read_listeners v_read_names v_tape v_read_name v_read_nameNumber v_read_nameSort (upd v_read_doorA v_read_doors.toNatClampNeg r_15) (upd v_read_doorB v_read_doors.toNatClampNeg r_27) (upd v_read_how v_read_doors.toNatClampNeg x85_s0) v_read_falls)) C hP hD hS 8 rfl hi_150 rfl dX12_readDoor_150 ?_
        clear hP hD hS; intro H locs hP hD hS
        refine lv_aload_n (pc := 151) hx hb dX12_readDoor_151 rfl (lv_at hl 2 rfl) ?_
        refine r_get (pc := 152) C hP 0 rfl fl_X12_202 rfl dX12_readDoor_152 ?_
        refine r_get (pc := 155) C hP 1 rfl fl_X12_313 rfl dX12_readDoor_155 ?_
        refine lv_aload_n (pc := 158) hx hb dX12_readDoor_158 rfl (lv_at hl 2 rfl) ?_
        refine r_get (pc := 159) C hP 0 rfl fl_X12_202 rfl dX12_readDoor_159 ?_
        refine r_get (pc := 162) C hP 1 rfl fl_X12_292 rfl dX12_readDoor_162 ?_
        refine lv_iload (pc := 165) hx hb dX12_readDoor_165 (lv_at hl 0 rfl) ?_
        obtain ⟨hi_167, hf⟩ := gd_s hf
        obtain ⟨hz_167, hf⟩ := zg_s hf
        refine r_zast (pc := 167) (ws' := (wX12_readDoor E h h_read h_tape h_far h_from h_real h_other h_kept h_set h_w h_book h_noteSort h_whose h_what h_noteIs h_fitting h_dawn h_likes h_walked h_came h_read_creak h_read_doorA h_read_doorB h_read_how h_read_lies h_read_isCold h_read_falls h_read_isFull h_read_isTold h_read_act h_read_what h_read_then h_read_met h_read_bed h_read_dream h_read_listens h_read_name h_read_nameSort h_read_nameNumber v_thrown v_trouble v_where v_inn v_taped v_size v_at_89 v_sort_89 v_place_89 v_sign_89 v_number_89 x54_fault x54_wrongAt v_word_89 v_marks v_notes v_read_minutes v_read_rooms v_read_doors v_read_things v_read_dreams v_read_sleepers v_read_listeners v_read_names v_tape v_read_name v_read_nameNumber v_read_nameSort (upd v_read_doorA v_read_doors.toNatClampNeg r_15) (upd v_read_doorB v_read_doors.toNatClampNeg r_27) (upd v_read_how v_read_doors.toNatClampNeg x85_s0) (upd v_read_falls v_read_doors.toNatClampNeg r_89))) C hP hD hS 9 rfl hi_167 hz_167 rfl dX12_readDoor_167 ?_
        clear hP hD hS; intro H locs hP hD hS
        refine lv_aload_n (pc := 168) hx hb dX12_readDoor_168 rfl (lv_at hl 2 rfl) ?_
        refine r_get (pc := 169) C hP 0 rfl fl_X12_202 rfl dX12_readDoor_169 ?_
        refine lv_dup (pc := 172) hx hb dX12_readDoor_172 rfl ?_
        refine r_get (pc := 173) C hP 1 rfl fl_X12_292 rfl dX12_readDoor_173 ?_
        refine lv_iconst (pc := 176) (v := 1) hx hb dX12_readDoor_176 (by decide) ?_
        refine lv_iadd (pc := 177) hx hb dX12_readDoor_177 ?_
        refine r_put (pc := 178) (ws' := (wX12_readDoor E h h_read h_tape h_far h_from h_real h_other h_kept h_set h_w h_book h_noteSort h_whose h_what h_noteIs h_fitting h_dawn h_likes h_walked h_came h_read_creak h_read_doorA h_read_doorB h_read_how h_read_lies h_read_isCold h_read_falls h_read_isFull h_read_isTold h_read_act h_read_what h_read_then h_read_met h_read_bed h_read_dream h_read_listens h_read_name h_read_nameSort h_read_nameNumber v_thrown v_trouble v_where v_inn v_taped v_size v_at_89 v_sort_89 v_place_89 v_sign_89 v_number_89 x54_fault x54_wrongAt v_word_89 v_marks v_notes v_read_minutes v_read_rooms (v_read_doors + 1) v_read_things v_read_dreams v_read_sleepers v_read_listeners v_read_names v_tape v_read_name v_read_nameNumber v_read_nameSort (upd v_read_doorA v_read_doors.toNatClampNeg r_15) (upd v_read_doorB v_read_doors.toNatClampNeg r_27) (upd v_read_how v_read_doors.toNatClampNeg x85_s0) (upd v_read_falls v_read_doors.toNatClampNeg r_89))) C hP hD hS 1 rfl fl_X12_292 rfl rfl (Nat.le_of_ble_eq_true rfl) rfl dX12_readDoor_178 ?_
        clear hP hD hS; intro H locs hP hD hS
        cases hf
        rw [hQ]
        exact r_vret C hr hP hD hS dX12_readDoor_181
      · replace hf := it_t c_99 hf
        cases hf
        rw [hQ]
        exact r_vret C hr hP hD hS dX12_readDoor_102
    clear ej85
    refine lv_if_eq (pc := 64) (tgt := 71) hx hb dX12_readDoor_64 (by decide) (fun c_64 => ?_) (fun c_64 => ?_)
    · replace hf := it_t c_64 hf
      refine lv_aload_n (pc := 71) hx hb dX12_readDoor_71 rfl (lv_at hl 0 rfl) ?_
      refine r_ldcS (pc := 72) C (C.kx.2.2.2.2.2 9 (by decide)).2.2.2.2 dX12_readDoor_72 ?_
      obtain ⟨r_74, v_at_74, v_sort_74, v_place_74, v_sign_74, v_number_74, v_word_74, hc_74, hf⟩ := bd7 hf
      refine r_dalVi (pc := 74) (ws' := (wX12_readDoor E h h_read h_tape h_far h_from h_real h_other h_kept h_set h_w h_book h_noteSort h_whose h_what h_noteIs h_fitting h_dawn h_likes h_walked h_came h_read_creak h_read_doorA h_read_doorB h_read_how h_read_lies h_read_isCold h_read_falls h_read_isFull h_read_isTold h_read_act h_read_what h_read_then h_read_met h_read_bed h_read_dream h_read_listens h_read_name h_read_nameSort h_read_nameNumber v_thrown v_trouble v_where v_inn v_taped v_size v_at_74 v_sort_74 v_place_74 v_sign_74 v_number_74 x54_fault x54_wrongAt v_word_74 v_marks v_notes v_read_minutes v_read_rooms v_read_doors v_read_things v_read_dreams v_read_sleepers v_read_listeners v_read_names v_tape v_read_name v_read_nameNumber v_read_nameSort v_read_doorA v_read_doorB v_read_how v_read_falls)) (As := [.ref (E.2.2.2.2.1 9)]) (rest := []) C (ctX12_eatsWord l E h h_tape h_far h_from h_real h_other h_kept h_set h_w h_book h_noteSort h_whose h_what h_noteIs h_fitting h_dawn h_likes h_walked h_came v_thrown v_trouble v_where v_inn (some h_read) v_taped v_size v_at_61 v_sort_61 v_place_61 v_sign_61 v_number_61 x54_fault x54_wrongAt v_word_61 v_marks v_notes v_tape 9 (by decide) N (r_74, v_at_74, v_sort_74, v_place_74, v_sign_74, v_number_74, v_word_74) hc_74) ml_X12_284 ⟨Nat.le_of_ble_eq_true rfl, Nat.le_of_ble_eq_true rfl⟩ hP hD hS 0 rfl rfl rfl [0, 2] [10, 1, 11, 3, 4, 5, 6, 7, 8, 9] 10 rfl rfl rfl rfl rfl rfl rfl hl.1 rfl (Nat.le_of_ble_eq_true rfl) ⟨Nat.zero_le _, Nat.zero_le _⟩ dX12_readDoor_74 ?_
      clear hP hD hS; intro H locs hP hD hS
      refine lv_if_eq (pc := 77) (tgt := 84) hx hb dX12_readDoor_77 (by decide) (fun c_77 => ?_) (fun c_77 => ?_)
      · replace hf := it_t c_77 hf
        refine lv_iconst (pc := 84) (v := 0) hx hb dX12_readDoor_84 (by decide) ?_
        exact hj85 0 v_at_74 v_sort_74 v_place_74 v_sign_74 v_number_74 v_word_74 hf _ _ _ (lv_sub hl [0, 1, 2] rfl) hP hD hS
      · replace hf := it_f c_77 hf
        refine lv_iconst (pc := 80) (v := 2) hx hb dX12_readDoor_80 (by decide) ?_
        refine lv_goto (pc := 81) (tgt := 85) hx hb dX12_readDoor_81 (by decide) ?_
        exact hj85 2 v_at_74 v_sort_74 v_place_74 v_sign_74 v_number_74 v_word_74 hf _ _ _ (lv_sub hl [0, 1, 2] rfl) hP hD hS
    · replace hf := it_f c_64 hf
      refine lv_iconst (pc := 67) (v := 1) hx hb dX12_readDoor_67 (by decide) ?_
      refine lv_goto (pc := 68) (tgt := 85) hx hb dX12_readDoor_68 (by decide) ?_
      exact hj85 1 v_at_61 v_sort_61 v_place_61 v_sign_61 v_number_61 v_word_61 hf _ _ _ (lv_sub hl [0, 1, 2] rfl) hP hD hS
  clear ej54
  refine jnK hf (fun j49 ej49 hf => ?_)
  have hj49 : j49 () = some z → AT p l e (rmOf 9 193) s m args below meth c E A Q 0 0 5 [(0, .ref h), (1, .int r_15), (2, .int r_27)] (wX12_readDoor E h h_read h_tape h_far h_from h_real h_other h_kept h_set h_w h_book h_noteSort h_whose h_what h_noteIs h_fitting h_dawn h_likes h_walked h_came h_read_creak h_read_doorA h_read_doorB h_read_how h_read_lies h_read_isCold h_read_falls h_read_isFull h_read_isTold h_read_act h_read_what h_read_then h_read_met h_read_bed h_read_dream h_read_listens h_read_name h_read_nameSort h_read_nameNumber v_thrown v_trouble v_where v_inn v_taped v_size v_at_22 v_sort_27 v_place_22 v_sign_22 v_number_22 v_fault_27 v_wrongAt_27 v_word_22 v_marks v_notes v_read_minutes v_read_rooms v_read_doors v_read_things v_read_dreams v_read_sleepers v_read_listeners v_read_names v_tape v_read_name v_read_nameNumber v_read_nameSort v_read_doorA v_read_doorB v_read_how v_read_falls) 49 [] := by
    intro  hf H locs ls hl hP hD hS
    rw [ej49] at hf
    replace hf := un0_s hf
    refine lv_aload_n (pc := 49) hx hb dX12_readDoor_49 rfl (lv_at hl 0 rfl) ?_
    refine lv_iconst (pc := 50) (v := 3) hx hb dX12_readDoor_50 (by decide) ?_
    obtain ⟨v_sort_51, v_fault_51, v_wrongAt_51, hc_51, hf⟩ := bd3 hf
    refine r_dalVv (pc := 51) (ws' := (wX12_readDoor E h h_read h_tape h_far h_from h_real h_other h_kept h_set h_w h_book h_noteSort h_whose h_what h_noteIs h_fitting h_dawn h_likes h_walked h_came h_read_creak h_read_doorA h_read_doorB h_read_how h_read_lies h_read_isCold h_read_falls h_read_isFull h_read_isTold h_read_act h_read_what h_read_then h_read_met h_read_bed h_read_dream h_read_listens h_read_name h_read_nameSort h_read_nameNumber v_thrown v_trouble v_where v_inn v_taped v_size v_at_22 v_sort_51 v_place_22 v_sign_22 v_number_22 v_fault_51 v_wrongAt_51 v_word_22 v_marks v_notes v_read_minutes v_read_rooms v_read_doors v_read_things v_read_dreams v_read_sleepers v_read_listeners v_read_names v_tape v_read_name v_read_nameNumber v_read_nameSort v_read_doorA v_read_doorB v_read_how v_read_falls)) (As := [.int 3]) (rest := []) C (ctX12_wrong l E h h_tape h_far h_from h_real h_other h_kept h_set h_w h_book h_noteSort h_whose h_what h_noteIs h_fitting h_dawn h_likes h_walked h_came v_thrown v_trouble v_where v_inn (some h_read) v_taped v_size v_at_22 v_sort_27 v_place_22 v_sign_22 v_number_22 v_fault_27 v_wrongAt_27 v_word_22 v_marks v_notes N 3 (v_sort_51, v_fault_51, v_wrongAt_51) hc_51) ml_X12_145 ⟨Nat.le_of_ble_eq_true rfl, Nat.le_of_ble_eq_true rfl⟩ hP hD hS 0 rfl rfl rfl [0] [10, 1, 2, 3, 4, 5, 6, 7, 8, 9] 10 rfl rfl rfl rfl rfl rfl rfl hl.1 rfl (Nat.le_of_ble_eq_true rfl) ⟨Nat.zero_le _, Nat.zero_le _⟩ dX12_readDoor_51 ?_
    clear hP hD hS; intro H locs hP hD hS
    exact hj54 v_sort_51 v_fault_51 v_wrongAt_51 hf _ _ _ (lv_sub hl [0, 1, 2] rfl) hP hD hS
  clear ej49
  refine lv_icmp_eq (pc := 33) (tgt := 49) hx hb dX12_readDoor_33 (by decide) (fun c_33 => ?_) (fun c_33 => ?_)
  · replace hf := it_t c_33 hf
    exact hj49  hf _ _ _ (lv_sub hl [2, 1, 0] rfl) hP hD hS
  · replace hf := it_f c_33 hf
    refine lv_aload_n (pc := 36) hx hb dX12_readDoor_36 rfl (lv_at hl 2 rfl) ?_
    refine r_get (pc := 37) C hP 0 rfl fl_X12_202 rfl dX12_readDoor_37 ?_
    refine lv_iload_n (pc := 40) hx hb dX12_readDoor_40 rfl (lv_at hl 1 rfl) ?_
    refine lv_iload_n (pc := 41) hx hb dX12_readDoor_41 rfl (lv_at hl 0 rfl) ?_
    obtain ⟨r_42, hc_42, hf⟩ := bd1 hf
    refine r_dalVi (pc := 42) (ws' := (wX12_readDoor E h h_read h_tape h_far h_from h_real h_other h_kept h_set h_w h_book h_noteSort h_whose h_what h_noteIs h_fitting h_dawn h_likes h_walked h_came h_read_creak h_read_doorA h_read_doorB h_read_how h_read_lies h_read_isCold h_read_falls h_read_isFull h_read_isTold h_read_act h_read_what h_read_then h_read_met h_read_bed h_read_dream h_read_listens h_read_name h_read_nameSort h_read_nameNumber v_thrown v_trouble v_where v_inn v_taped v_size v_at_22 v_sort_27 v_place_22 v_sign_22 v_number_22 v_fault_27 v_wrongAt_27 v_word_22 v_marks v_notes v_read_minutes v_read_rooms v_read_doors v_read_things v_read_dreams v_read_sleepers v_read_listeners v_read_names v_tape v_read_name v_read_nameNumber v_read_nameSort v_read_doorA v_read_doorB v_read_how v_read_falls)) (As := [.int r_15, .int r_27]) (rest := []) C (ctX11_between l E h_read h_read_creak h_read_doorA h_read_doorB h_read_how h_read_lies h_read_isCold h_read_falls h_read_isFull h_read_isTold h_read_act h_read_what h_read_then h_read_met h_read_bed h_read_dream h_read_listens h_read_name h_read_nameSort h_read_nameNumber v_read_minutes v_read_rooms v_read_doors v_read_things v_read_dreams v_read_sleepers v_read_listeners v_read_names v_read_doorA v_read_doorB N r_15 r_27 r_42 hc_42) ml_X12_301 ⟨Nat.le_of_ble_eq_true rfl, Nat.le_of_ble_eq_true rfl⟩ hP hD hS 1 rfl rfl rfl [1, 6, 7] [0, 10, 2, 3, 4, 5, 11, 12, 8, 9] 10 rfl rfl rfl rfl rfl rfl rfl hl.1 rfl (Nat.le_of_ble_eq_true rfl) ⟨Nat.zero_le _, Nat.zero_le _⟩ dX12_readDoor_42 ?_
    clear hP hD hS; intro H locs hP hD hS
    refine lv_iconst (pc := 45) (v := (-1)) hx hb dX12_readDoor_45 (by decide) ?_
    refine lv_icmp_eq (pc := 46) (tgt := 54) hx hb dX12_readDoor_46 (by decide) (fun c_46 => ?_) (fun c_46 => ?_)
    · replace hf := it_t c_46 hf
      exact hj54 v_sort_27 v_fault_27 v_wrongAt_27 hf _ _ _ (lv_sub hl [2, 1, 0] rfl) hP hD hS
    · replace hf := it_f c_46 hf
      exact hj49  hf _ _ _ (lv_sub hl [2, 1, 0] rfl) hP hD hS
